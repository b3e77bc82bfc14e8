theorem dX6_reset_0 : decode cX6_reset 0 = .ok (.aload_n 0, 1) := by decide +kernel
theorem dX6_reset_1 : decode cX6_reset 1 = .ok (.iconst 0, 1) := by decide +kernel
theorem dX6_reset_2 : decode cX6_reset 2 = .ok (.putfield 9, 3) := by decide +kernel
theorem dX6_reset_5 : decode cX6_reset 5 = .ok (.aload_n 0, 1) := by decide +kernel
theorem dX6_reset_6 : decode cX6_reset 6 = .ok (.iconst 0, 1) := by decide +kernel
theorem dX6_reset_7 : decode cX6_reset 7 = .ok (.putfield 15, 3) := by decide +kernel
theorem dX6_reset_10 : decode cX6_reset 10 = .ok (.return_, 1) := by decide +kernel
abbrev m_X6_reset : MD := (yX6_reset, cX6_reset, 1, none)
theorem inX6s : ∀ w ∈ u_ws RX6 TX6 13, w ∈ TS := by
  show ∀ w ∈ [u_lay RX6 TX6 0, u_lay RX6 TX6 1, u_lay RX6 TX6 2, u_lay RX6 TX6 3, u_lay RX6 TX6 4, u_lay RX6 TX6 5, u_lay RX6 TX6 6, u_lay RX6 TX6 7, u_lay RX6 TX6 8, u_lay RX6 TX6 9, u_lay RX6 TX6 10, u_lay RX6 TX6 11, u_lay RX6 TX6 12], w ∈ TS
  exact List.forall_mem_cons.mpr ⟨ts_t 238 (by decide +kernel) (by decide +kernel), List.forall_mem_cons.mpr ⟨ts_t 240 (by decide +kernel) (by decide +kernel), List.forall_mem_cons.mpr ⟨ts_t 242 (by decide +kernel) (by decide +kernel), List.forall_mem_cons.mpr ⟨ts_t 244 (by decide +kernel) (by decide +kernel), List.forall_mem_cons.mpr ⟨ts_t 246 (by decide +kernel) (by decide +kernel), List.forall_mem_cons.mpr ⟨ts_t 248 (by decide +kernel) (by decide +kernel), List.forall_mem_cons.mpr ⟨ts_t 250 (by decide +kernel) (by decide +kernel), List.forall_mem_cons.mpr ⟨ts_t 252 (by decide +kernel) (by decide +kernel), List.forall_mem_cons.mpr ⟨ts_t 254 (by decide +kernel) (by decide +kernel), List.forall_mem_cons.mpr ⟨ts_t 256 (by decide +kernel) (by decide +kernel), List.forall_mem_cons.mpr ⟨ts_t 258 (by decide +kernel) (by decide +kernel), List.forall_mem_cons.mpr ⟨ts_t 260 (by decide +kernel) (by decide +kernel), List.forall_mem_cons.mpr ⟨ts_t 262 (by decide +kernel) (by decide +kernel), fun _ h => absurd h List.not_mem_nil⟩⟩⟩⟩⟩⟩⟩⟩⟩⟩⟩⟩⟩
theorem p_X6_9 {p : Program} {l : Launch} {e : Env} {R : Room} {s : State} {m : MethodId} {args : Array Value} {below : List Frame} {meth : Method} {c : Code} {H : Heap} {locs : List Loc} {cells slots : Nat} {Q : State → Prop} {d : MD} {g : GT} {A : Nat → Prop} {ws : va_W} {pc : Nat} {ls : Array Slot} {rest : List Value} (C : Cx p s m args meth c RX6 d g A) (w : Wd g A ws s.heap H locs) (q0 : Nat) {a : Nat} {fs : List Value} {x : Int32} (he : ws[q0]? = some (a, .inr (6, fs))) (hlt : 0 < fs.length) {ws2 : va_W} (h2 : ws.set q0 (a, .inr (6, fs.set 0 (.int x))) = ws2) (hd : decode d.2.1 pc = .ok (.putfield 9, 3)) (kk : ∀ (H1 : Heap) (locs1 : List Loc), Wd g A ws2 s.heap H1 locs1 → W p l e R s m args below meth c H1 locs1 cells slots Q (F0 m (pc + 3) ls rest)) : W p l e R s m args below meth c H locs cells slots Q (F0 m pc ls (.int x :: .ref a :: rest)) := fp C w inX6s tyX6_ok nmX6 (ref := RX6) rfl 0 (by decide) (ts_t (w := Cond.fieldLink RX6 9 RX6 (TX6 0).2.1 (TX6 0).2.2.1) 211 (by decide +kernel) (by decide +kernel)) rfl rfl q0 he rfl rfl hlt h2 hd kk
theorem p_X6_15 {p : Program} {l : Launch} {e : Env} {R : Room} {s : State} {m : MethodId} {args : Array Value} {below : List Frame} {meth : Method} {c : Code} {H : Heap} {locs : List Loc} {cells slots : Nat} {Q : State → Prop} {d : MD} {g : GT} {A : Nat → Prop} {ws : va_W} {pc : Nat} {ls : Array Slot} {rest : List Value} (C : Cx p s m args meth c RX6 d g A) (w : Wd g A ws s.heap H locs) (q0 : Nat) {a : Nat} {fs : List Value} {x : Int32} (he : ws[q0]? = some (a, .inr (6, fs))) (hlt : 1 < fs.length) {ws2 : va_W} (h2 : ws.set q0 (a, .inr (6, fs.set 1 (.int x))) = ws2) (hd : decode d.2.1 pc = .ok (.putfield 15, 3)) (kk : ∀ (H1 : Heap) (locs1 : List Loc), Wd g A ws2 s.heap H1 locs1 → W p l e R s m args below meth c H1 locs1 cells slots Q (F0 m (pc + 3) ls rest)) : W p l e R s m args below meth c H locs cells slots Q (F0 m pc ls (.int x :: .ref a :: rest)) := fp C w inX6s tyX6_ok nmX6 (ref := RX6) rfl 1 (by decide) (ts_t (w := Cond.fieldLink RX6 15 RX6 (TX6 1).2.1 (TX6 1).2.2.1) 214 (by decide +kernel) (by decide +kernel)) rfl rfl q0 he rfl rfl hlt h2 hd kk
abbrev w_X6_reset (g : GT) (h0 : Nat) (v0_2 v0_3 v0_4 v0_5 v0_6 v0_7 v0_8 v0_9 v0_10 v0_11 v0_12 : Value) (count0 latestTime0 : Int32) : va_W := [(h0, .inr (6, [.int count0, .int latestTime0, v0_2, v0_3, v0_4, v0_5, v0_6, v0_7, v0_8, v0_9, v0_10, v0_11, v0_12]))]
def f_X6_reset (F : Nat) (count0 latestTime0 : Int32) : Option (Int32 × Int32) :=
  some (0, 0)
set_option maxHeartbeats 4000000 in
set_option maxRecDepth 100000 in
theorem c_X6_reset (l : Launch) (g : GT) (F : Nat) (h0 : Nat) (v0_2 v0_3 v0_4 v0_5 v0_6 v0_7 v0_8 v0_9 v0_10 v0_11 v0_12 : Value) (count0 latestTime0 : Int32) (o_count0 o_latestTime0 : Int32) (sz : Nat) (hf : f_X6_reset F count0 latestTime0 = some (o_count0, o_latestTime0)) : CV l m_X6_reset (rml 0 0 0) g (w_X6_reset g h0 v0_2 v0_3 v0_4 v0_5 v0_6 v0_7 v0_8 v0_9 v0_10 v0_11 v0_12 count0 latestTime0) (fun _ => w_X6_reset g h0 v0_2 v0_3 v0_4 v0_5 v0_6 v0_7 v0_8 v0_9 v0_10 v0_11 v0_12 o_count0 o_latestTime0) sz [.ref h0] := by
  refine en_v (by decide) (Nat.le_of_ble_eq_true rfl) (fun p e s m args below meth c A ls C w hl => ?_)
  have C : Cx p s m args meth c RX6 m_X6_reset g A := C
  have hx := C.1
  have hb : c.code = cX6_reset := C.2.1
  have hl : lv_has ls 1 [(0, .ref h0)] := hl
  obtain ⟨Q, hQ⟩ : ∃ Q, Q = QV below args s g A (fun _ => w_X6_reset g h0 v0_2 v0_3 v0_4 v0_5 v0_6 v0_7 v0_8 v0_9 v0_10 v0_11 v0_12 o_count0 o_latestTime0) 0 0 := ⟨_, rfl⟩
  suffices hW : W p l e (rml 0 0 0) s m args below meth c s.heap [] 0 0 Q (F0 m 0 ls []) from (by rw [hQ] at hW; exact hW)
  unfold f_X6_reset at hf
  refine lv_aload_n hx hb dX6_reset_0 rfl (lv_at hl 0 rfl) ?_
  refine lv_iconst (v := 0) hx hb dX6_reset_1 (by decide) ?_
  refine p_X6_9 C w 0 rfl (Nat.le_of_ble_eq_true rfl) (ws2 := w_X6_reset g h0 v0_2 v0_3 v0_4 v0_5 v0_6 v0_7 v0_8 v0_9 v0_10 v0_11 v0_12 0 latestTime0) rfl dX6_reset_2 (fun H locs w => ?_)
  refine lv_aload_n hx hb dX6_reset_5 rfl (lv_at hl 0 rfl) ?_
  refine lv_iconst (v := 0) hx hb dX6_reset_6 (by decide) ?_
  refine p_X6_15 C w 0 rfl (Nat.le_of_ble_eq_true rfl) (ws2 := w_X6_reset g h0 v0_2 v0_3 v0_4 v0_5 v0_6 v0_7 v0_8 v0_9 v0_10 v0_11 v0_12 0 0) rfl dX6_reset_7 (fun H locs w => ?_)
  obtain ⟨e1, e2⟩ := tp2 hf
  rw [hQ]
  exact rt_v C w rfl (fun _ => 0) (by rw [← e1, ← e2]) dX6_reset_10

theorem dX6_copyFrom_0 : decode cX6_copyFrom 0 = .ok (.aload_n 0, 1) := by decide +kernel
theorem dX6_copyFrom_1 : decode cX6_copyFrom 1 = .ok (.aload_n 1, 1) := by decide +kernel
theorem dX6_copyFrom_2 : decode cX6_copyFrom 2 = .ok (.getfield 9, 3) := by decide +kernel
theorem dX6_copyFrom_5 : decode cX6_copyFrom 5 = .ok (.putfield 9, 3) := by decide +kernel
theorem dX6_copyFrom_8 : decode cX6_copyFrom 8 = .ok (.aload_n 0, 1) := by decide +kernel
theorem dX6_copyFrom_9 : decode cX6_copyFrom 9 = .ok (.aload_n 1, 1) := by decide +kernel
theorem dX6_copyFrom_10 : decode cX6_copyFrom 10 = .ok (.getfield 15, 3) := by decide +kernel
theorem dX6_copyFrom_13 : decode cX6_copyFrom 13 = .ok (.putfield 15, 3) := by decide +kernel
theorem dX6_copyFrom_16 : decode cX6_copyFrom 16 = .ok (.aload_n 1, 1) := by decide +kernel
theorem dX6_copyFrom_17 : decode cX6_copyFrom 17 = .ok (.getfield 18, 3) := by decide +kernel
theorem dX6_copyFrom_20 : decode cX6_copyFrom 20 = .ok (.iconst 0, 1) := by decide +kernel
theorem dX6_copyFrom_21 : decode cX6_copyFrom 21 = .ok (.aload_n 0, 1) := by decide +kernel
theorem dX6_copyFrom_22 : decode cX6_copyFrom 22 = .ok (.getfield 18, 3) := by decide +kernel
theorem dX6_copyFrom_25 : decode cX6_copyFrom 25 = .ok (.iconst 0, 1) := by decide +kernel
theorem dX6_copyFrom_26 : decode cX6_copyFrom 26 = .ok (.bipush 80, 2) := by decide +kernel
theorem dX6_copyFrom_28 : decode cX6_copyFrom 28 = .ok (.invokestatic 52, 3) := by decide +kernel
theorem dX6_copyFrom_31 : decode cX6_copyFrom 31 = .ok (.aload_n 1, 1) := by decide +kernel
theorem dX6_copyFrom_32 : decode cX6_copyFrom 32 = .ok (.getfield 22, 3) := by decide +kernel
theorem dX6_copyFrom_35 : decode cX6_copyFrom 35 = .ok (.iconst 0, 1) := by decide +kernel
theorem dX6_copyFrom_36 : decode cX6_copyFrom 36 = .ok (.aload_n 0, 1) := by decide +kernel
theorem dX6_copyFrom_37 : decode cX6_copyFrom 37 = .ok (.getfield 22, 3) := by decide +kernel
theorem dX6_copyFrom_40 : decode cX6_copyFrom 40 = .ok (.iconst 0, 1) := by decide +kernel
theorem dX6_copyFrom_41 : decode cX6_copyFrom 41 = .ok (.bipush 80, 2) := by decide +kernel
theorem dX6_copyFrom_43 : decode cX6_copyFrom 43 = .ok (.invokestatic 52, 3) := by decide +kernel
theorem dX6_copyFrom_46 : decode cX6_copyFrom 46 = .ok (.aload_n 1, 1) := by decide +kernel
theorem dX6_copyFrom_47 : decode cX6_copyFrom 47 = .ok (.getfield 25, 3) := by decide +kernel
theorem dX6_copyFrom_50 : decode cX6_copyFrom 50 = .ok (.iconst 0, 1) := by decide +kernel
theorem dX6_copyFrom_51 : decode cX6_copyFrom 51 = .ok (.aload_n 0, 1) := by decide +kernel
theorem dX6_copyFrom_52 : decode cX6_copyFrom 52 = .ok (.getfield 25, 3) := by decide +kernel
theorem dX6_copyFrom_55 : decode cX6_copyFrom 55 = .ok (.iconst 0, 1) := by decide +kernel
theorem dX6_copyFrom_56 : decode cX6_copyFrom 56 = .ok (.bipush 80, 2) := by decide +kernel
theorem dX6_copyFrom_58 : decode cX6_copyFrom 58 = .ok (.invokestatic 52, 3) := by decide +kernel
theorem dX6_copyFrom_61 : decode cX6_copyFrom 61 = .ok (.aload_n 1, 1) := by decide +kernel
theorem dX6_copyFrom_62 : decode cX6_copyFrom 62 = .ok (.getfield 28, 3) := by decide +kernel
theorem dX6_copyFrom_65 : decode cX6_copyFrom 65 = .ok (.iconst 0, 1) := by decide +kernel
theorem dX6_copyFrom_66 : decode cX6_copyFrom 66 = .ok (.aload_n 0, 1) := by decide +kernel
theorem dX6_copyFrom_67 : decode cX6_copyFrom 67 = .ok (.getfield 28, 3) := by decide +kernel
theorem dX6_copyFrom_70 : decode cX6_copyFrom 70 = .ok (.iconst 0, 1) := by decide +kernel
theorem dX6_copyFrom_71 : decode cX6_copyFrom 71 = .ok (.bipush 80, 2) := by decide +kernel
theorem dX6_copyFrom_73 : decode cX6_copyFrom 73 = .ok (.invokestatic 52, 3) := by decide +kernel
theorem dX6_copyFrom_76 : decode cX6_copyFrom 76 = .ok (.aload_n 1, 1) := by decide +kernel
theorem dX6_copyFrom_77 : decode cX6_copyFrom 77 = .ok (.getfield 31, 3) := by decide +kernel
theorem dX6_copyFrom_80 : decode cX6_copyFrom 80 = .ok (.iconst 0, 1) := by decide +kernel
theorem dX6_copyFrom_81 : decode cX6_copyFrom 81 = .ok (.aload_n 0, 1) := by decide +kernel
theorem dX6_copyFrom_82 : decode cX6_copyFrom 82 = .ok (.getfield 31, 3) := by decide +kernel
theorem dX6_copyFrom_85 : decode cX6_copyFrom 85 = .ok (.iconst 0, 1) := by decide +kernel
theorem dX6_copyFrom_86 : decode cX6_copyFrom 86 = .ok (.bipush 80, 2) := by decide +kernel
theorem dX6_copyFrom_88 : decode cX6_copyFrom 88 = .ok (.invokestatic 52, 3) := by decide +kernel
theorem dX6_copyFrom_91 : decode cX6_copyFrom 91 = .ok (.aload_n 1, 1) := by decide +kernel
theorem dX6_copyFrom_92 : decode cX6_copyFrom 92 = .ok (.getfield 34, 3) := by decide +kernel
theorem dX6_copyFrom_95 : decode cX6_copyFrom 95 = .ok (.iconst 0, 1) := by decide +kernel
theorem dX6_copyFrom_96 : decode cX6_copyFrom 96 = .ok (.aload_n 0, 1) := by decide +kernel
theorem dX6_copyFrom_97 : decode cX6_copyFrom 97 = .ok (.getfield 34, 3) := by decide +kernel
theorem dX6_copyFrom_100 : decode cX6_copyFrom 100 = .ok (.iconst 0, 1) := by decide +kernel
theorem dX6_copyFrom_101 : decode cX6_copyFrom 101 = .ok (.bipush 80, 2) := by decide +kernel
theorem dX6_copyFrom_103 : decode cX6_copyFrom 103 = .ok (.invokestatic 52, 3) := by decide +kernel
theorem dX6_copyFrom_106 : decode cX6_copyFrom 106 = .ok (.aload_n 1, 1) := by decide +kernel
theorem dX6_copyFrom_107 : decode cX6_copyFrom 107 = .ok (.getfield 37, 3) := by decide +kernel
theorem dX6_copyFrom_110 : decode cX6_copyFrom 110 = .ok (.iconst 0, 1) := by decide +kernel
theorem dX6_copyFrom_111 : decode cX6_copyFrom 111 = .ok (.aload_n 0, 1) := by decide +kernel
theorem dX6_copyFrom_112 : decode cX6_copyFrom 112 = .ok (.getfield 37, 3) := by decide +kernel
theorem dX6_copyFrom_115 : decode cX6_copyFrom 115 = .ok (.iconst 0, 1) := by decide +kernel
theorem dX6_copyFrom_116 : decode cX6_copyFrom 116 = .ok (.bipush 80, 2) := by decide +kernel
theorem dX6_copyFrom_118 : decode cX6_copyFrom 118 = .ok (.invokestatic 52, 3) := by decide +kernel
theorem dX6_copyFrom_121 : decode cX6_copyFrom 121 = .ok (.aload_n 1, 1) := by decide +kernel
theorem dX6_copyFrom_122 : decode cX6_copyFrom 122 = .ok (.getfield 40, 3) := by decide +kernel
theorem dX6_copyFrom_125 : decode cX6_copyFrom 125 = .ok (.iconst 0, 1) := by decide +kernel
theorem dX6_copyFrom_126 : decode cX6_copyFrom 126 = .ok (.aload_n 0, 1) := by decide +kernel
theorem dX6_copyFrom_127 : decode cX6_copyFrom 127 = .ok (.getfield 40, 3) := by decide +kernel
theorem dX6_copyFrom_130 : decode cX6_copyFrom 130 = .ok (.iconst 0, 1) := by decide +kernel
theorem dX6_copyFrom_131 : decode cX6_copyFrom 131 = .ok (.bipush 80, 2) := by decide +kernel
theorem dX6_copyFrom_133 : decode cX6_copyFrom 133 = .ok (.invokestatic 52, 3) := by decide +kernel
theorem dX6_copyFrom_136 : decode cX6_copyFrom 136 = .ok (.aload_n 1, 1) := by decide +kernel
theorem dX6_copyFrom_137 : decode cX6_copyFrom 137 = .ok (.getfield 43, 3) := by decide +kernel
theorem dX6_copyFrom_140 : decode cX6_copyFrom 140 = .ok (.iconst 0, 1) := by decide +kernel
theorem dX6_copyFrom_141 : decode cX6_copyFrom 141 = .ok (.aload_n 0, 1) := by decide +kernel
theorem dX6_copyFrom_142 : decode cX6_copyFrom 142 = .ok (.getfield 43, 3) := by decide +kernel
theorem dX6_copyFrom_145 : decode cX6_copyFrom 145 = .ok (.iconst 0, 1) := by decide +kernel
theorem dX6_copyFrom_146 : decode cX6_copyFrom 146 = .ok (.sipush 320, 3) := by decide +kernel
theorem dX6_copyFrom_149 : decode cX6_copyFrom 149 = .ok (.invokestatic 52, 3) := by decide +kernel
theorem dX6_copyFrom_152 : decode cX6_copyFrom 152 = .ok (.aload_n 1, 1) := by decide +kernel
theorem dX6_copyFrom_153 : decode cX6_copyFrom 153 = .ok (.getfield 46, 3) := by decide +kernel
theorem dX6_copyFrom_156 : decode cX6_copyFrom 156 = .ok (.iconst 0, 1) := by decide +kernel
theorem dX6_copyFrom_157 : decode cX6_copyFrom 157 = .ok (.aload_n 0, 1) := by decide +kernel
theorem dX6_copyFrom_158 : decode cX6_copyFrom 158 = .ok (.getfield 46, 3) := by decide +kernel
theorem dX6_copyFrom_161 : decode cX6_copyFrom 161 = .ok (.iconst 0, 1) := by decide +kernel
theorem dX6_copyFrom_162 : decode cX6_copyFrom 162 = .ok (.sipush 320, 3) := by decide +kernel
theorem dX6_copyFrom_165 : decode cX6_copyFrom 165 = .ok (.invokestatic 52, 3) := by decide +kernel
theorem dX6_copyFrom_168 : decode cX6_copyFrom 168 = .ok (.aload_n 1, 1) := by decide +kernel
theorem dX6_copyFrom_169 : decode cX6_copyFrom 169 = .ok (.getfield 49, 3) := by decide +kernel
theorem dX6_copyFrom_172 : decode cX6_copyFrom 172 = .ok (.iconst 0, 1) := by decide +kernel
theorem dX6_copyFrom_173 : decode cX6_copyFrom 173 = .ok (.aload_n 0, 1) := by decide +kernel
theorem dX6_copyFrom_174 : decode cX6_copyFrom 174 = .ok (.getfield 49, 3) := by decide +kernel
theorem dX6_copyFrom_177 : decode cX6_copyFrom 177 = .ok (.iconst 0, 1) := by decide +kernel
theorem dX6_copyFrom_178 : decode cX6_copyFrom 178 = .ok (.sipush 640, 3) := by decide +kernel
theorem dX6_copyFrom_181 : decode cX6_copyFrom 181 = .ok (.invokestatic 52, 3) := by decide +kernel
theorem dX6_copyFrom_184 : decode cX6_copyFrom 184 = .ok (.return_, 1) := by decide +kernel
abbrev m_X6_copyFrom : MD := (yX6_copyFrom, cX6_copyFrom, 2, none)
theorem q_492 : Cond.methodLink RX6 52 arraycopyName ∈ TS := ts_t 492 (by decide +kernel) (by decide +kernel)
theorem q_494 : Cond.native arraycopyName ∈ TS := ts_t 494 (by decide +kernel) (by decide +kernel)
theorem q_493 : Cond.static arraycopyName ∈ TS := ts_t 493 (by decide +kernel) (by decide +kernel)
theorem q_24 : Cond.initialized "java/lang/System" ∈ TS := ts_t 24 (by decide +kernel) (by decide +kernel)
theorem g_X6_9 {p : Program} {l : Launch} {e : Env} {R : Room} {s : State} {m : MethodId} {args : Array Value} {below : List Frame} {meth : Method} {c : Code} {H : Heap} {locs : List Loc} {cells slots : Nat} {Q : State → Prop} {d : MD} {g : GT} {A : Nat → Prop} {ws : va_W} {pc : Nat} {ls : Array Slot} {rest : List Value} (C : Cx p s m args meth c RX6 d g A) (w : Wd g A ws s.heap H locs) (q0 : Nat) {a : Nat} {fs : List Value} {v : Value} (he : ws[q0]? = some (a, .inr (6, fs))) (hv : fs[0]? = some v) (hd : decode d.2.1 pc = .ok (.getfield 9, 3)) (kk : W p l e R s m args below meth c H locs cells slots Q (F0 m (pc + 3) ls (v :: rest))) : W p l e R s m args below meth c H locs cells slots Q (F0 m pc ls (.ref a :: rest)) := fg C w inX6s (ref := RX6) rfl 0 (by decide) (ts_t (w := Cond.fieldLink RX6 9 RX6 (TX6 0).2.1 (TX6 0).2.2.1) 211 (by decide +kernel) (by decide +kernel)) rfl q0 he hv hd kk
theorem g_X6_15 {p : Program} {l : Launch} {e : Env} {R : Room} {s : State} {m : MethodId} {args : Array Value} {below : List Frame} {meth : Method} {c : Code} {H : Heap} {locs : List Loc} {cells slots : Nat} {Q : State → Prop} {d : MD} {g : GT} {A : Nat → Prop} {ws : va_W} {pc : Nat} {ls : Array Slot} {rest : List Value} (C : Cx p s m args meth c RX6 d g A) (w : Wd g A ws s.heap H locs) (q0 : Nat) {a : Nat} {fs : List Value} {v : Value} (he : ws[q0]? = some (a, .inr (6, fs))) (hv : fs[1]? = some v) (hd : decode d.2.1 pc = .ok (.getfield 15, 3)) (kk : W p l e R s m args below meth c H locs cells slots Q (F0 m (pc + 3) ls (v :: rest))) : W p l e R s m args below meth c H locs cells slots Q (F0 m pc ls (.ref a :: rest)) := fg C w inX6s (ref := RX6) rfl 1 (by decide) (ts_t (w := Cond.fieldLink RX6 15 RX6 (TX6 1).2.1 (TX6 1).2.2.1) 214 (by decide +kernel) (by decide +kernel)) rfl q0 he hv hd kk
theorem g_X6_18 {p : Program} {l : Launch} {e : Env} {R : Room} {s : State} {m : MethodId} {args : Array Value} {below : List Frame} {meth : Method} {c : Code} {H : Heap} {locs : List Loc} {cells slots : Nat} {Q : State → Prop} {d : MD} {g : GT} {A : Nat → Prop} {ws : va_W} {pc : Nat} {ls : Array Slot} {rest : List Value} (C : Cx p s m args meth c RX6 d g A) (w : Wd g A ws s.heap H locs) (q0 : Nat) {a : Nat} {fs : List Value} {v : Value} (he : ws[q0]? = some (a, .inr (6, fs))) (hv : fs[2]? = some v) (hd : decode d.2.1 pc = .ok (.getfield 18, 3)) (kk : W p l e R s m args below meth c H locs cells slots Q (F0 m (pc + 3) ls (v :: rest))) : W p l e R s m args below meth c H locs cells slots Q (F0 m pc ls (.ref a :: rest)) := fg C w inX6s (ref := RX6) rfl 2 (by decide) (ts_t (w := Cond.fieldLink RX6 18 RX6 (TX6 2).2.1 (TX6 2).2.2.1) 216 (by decide +kernel) (by decide +kernel)) rfl q0 he hv hd kk
theorem g_X6_22 {p : Program} {l : Launch} {e : Env} {R : Room} {s : State} {m : MethodId} {args : Array Value} {below : List Frame} {meth : Method} {c : Code} {H : Heap} {locs : List Loc} {cells slots : Nat} {Q : State → Prop} {d : MD} {g : GT} {A : Nat → Prop} {ws : va_W} {pc : Nat} {ls : Array Slot} {rest : List Value} (C : Cx p s m args meth c RX6 d g A) (w : Wd g A ws s.heap H locs) (q0 : Nat) {a : Nat} {fs : List Value} {v : Value} (he : ws[q0]? = some (a, .inr (6, fs))) (hv : fs[3]? = some v) (hd : decode d.2.1 pc = .ok (.getfield 22, 3)) (kk : W p l e R s m args below meth c H locs cells slots Q (F0 m (pc + 3) ls (v :: rest))) : W p l e R s m args below meth c H locs cells slots Q (F0 m pc ls (.ref a :: rest)) := fg C w inX6s (ref := RX6) rfl 3 (by decide) (ts_t (w := Cond.fieldLink RX6 22 RX6 (TX6 3).2.1 (TX6 3).2.2.1) 219 (by decide +kernel) (by decide +kernel)) rfl q0 he hv hd kk
theorem g_X6_25 {p : Program} {l : Launch} {e : Env} {R : Room} {s : State} {m : MethodId} {args : Array Value} {below : List Frame} {meth : Method} {c : Code} {H : Heap} {locs : List Loc} {cells slots : Nat} {Q : State → Prop} {d : MD} {g : GT} {A : Nat → Prop} {ws : va_W} {pc : Nat} {ls : Array Slot} {rest : List Value} (C : Cx p s m args meth c RX6 d g A) (w : Wd g A ws s.heap H locs) (q0 : Nat) {a : Nat} {fs : List Value} {v : Value} (he : ws[q0]? = some (a, .inr (6, fs))) (hv : fs[4]? = some v) (hd : decode d.2.1 pc = .ok (.getfield 25, 3)) (kk : W p l e R s m args below meth c H locs cells slots Q (F0 m (pc + 3) ls (v :: rest))) : W p l e R s m args below meth c H locs cells slots Q (F0 m pc ls (.ref a :: rest)) := fg C w inX6s (ref := RX6) rfl 4 (by decide) (ts_t (w := Cond.fieldLink RX6 25 RX6 (TX6 4).2.1 (TX6 4).2.2.1) 220 (by decide +kernel) (by decide +kernel)) rfl q0 he hv hd kk
theorem g_X6_28 {p : Program} {l : Launch} {e : Env} {R : Room} {s : State} {m : MethodId} {args : Array Value} {below : List Frame} {meth : Method} {c : Code} {H : Heap} {locs : List Loc} {cells slots : Nat} {Q : State → Prop} {d : MD} {g : GT} {A : Nat → Prop} {ws : va_W} {pc : Nat} {ls : Array Slot} {rest : List Value} (C : Cx p s m args meth c RX6 d g A) (w : Wd g A ws s.heap H locs) (q0 : Nat) {a : Nat} {fs : List Value} {v : Value} (he : ws[q0]? = some (a, .inr (6, fs))) (hv : fs[5]? = some v) (hd : decode d.2.1 pc = .ok (.getfield 28, 3)) (kk : W p l e R s m args below meth c H locs cells slots Q (F0 m (pc + 3) ls (v :: rest))) : W p l e R s m args below meth c H locs cells slots Q (F0 m pc ls (.ref a :: rest)) := fg C w inX6s (ref := RX6) rfl 5 (by decide) (ts_t (w := Cond.fieldLink RX6 28 RX6 (TX6 5).2.1 (TX6 5).2.2.1) 223 (by decide +kernel) (by decide +kernel)) rfl q0 he hv hd kk
theorem g_X6_31 {p : Program} {l : Launch} {e : Env} {R : Room} {s : State} {m : MethodId} {args : Array Value} {below : List Frame} {meth : Method} {c : Code} {H : Heap} {locs : List Loc} {cells slots : Nat} {Q : State → Prop} {d : MD} {g : GT} {A : Nat → Prop} {ws : va_W} {pc : Nat} {ls : Array Slot} {rest : List Value} (C : Cx p s m args meth c RX6 d g A) (w : Wd g A ws s.heap H locs) (q0 : Nat) {a : Nat} {fs : List Value} {v : Value} (he : ws[q0]? = some (a, .inr (6, fs))) (hv : fs[6]? = some v) (hd : decode d.2.1 pc = .ok (.getfield 31, 3)) (kk : W p l e R s m args below meth c H locs cells slots Q (F0 m (pc + 3) ls (v :: rest))) : W p l e R s m args below meth c H locs cells slots Q (F0 m pc ls (.ref a :: rest)) := fg C w inX6s (ref := RX6) rfl 6 (by decide) (ts_t (w := Cond.fieldLink RX6 31 RX6 (TX6 6).2.1 (TX6 6).2.2.1) 225 (by decide +kernel) (by decide +kernel)) rfl q0 he hv hd kk
theorem g_X6_34 {p : Program} {l : Launch} {e : Env} {R : Room} {s : State} {m : MethodId} {args : Array Value} {below : List Frame} {meth : Method} {c : Code} {H : Heap} {locs : List Loc} {cells slots : Nat} {Q : State → Prop} {d : MD} {g : GT} {A : Nat → Prop} {ws : va_W} {pc : Nat} {ls : Array Slot} {rest : List Value} (C : Cx p s m args meth c RX6 d g A) (w : Wd g A ws s.heap H locs) (q0 : Nat) {a : Nat} {fs : List Value} {v : Value} (he : ws[q0]? = some (a, .inr (6, fs))) (hv : fs[7]? = some v) (hd : decode d.2.1 pc = .ok (.getfield 34, 3)) (kk : W p l e R s m args below meth c H locs cells slots Q (F0 m (pc + 3) ls (v :: rest))) : W p l e R s m args below meth c H locs cells slots Q (F0 m pc ls (.ref a :: rest)) := fg C w inX6s (ref := RX6) rfl 7 (by decide) (ts_t (w := Cond.fieldLink RX6 34 RX6 (TX6 7).2.1 (TX6 7).2.2.1) 227 (by decide +kernel) (by decide +kernel)) rfl q0 he hv hd kk
theorem g_X6_37 {p : Program} {l : Launch} {e : Env} {R : Room} {s : State} {m : MethodId} {args : Array Value} {below : List Frame} {meth : Method} {c : Code} {H : Heap} {locs : List Loc} {cells slots : Nat} {Q : State → Prop} {d : MD} {g : GT} {A : Nat → Prop} {ws : va_W} {pc : Nat} {ls : Array Slot} {rest : List Value} (C : Cx p s m args meth c RX6 d g A) (w : Wd g A ws s.heap H locs) (q0 : Nat) {a : Nat} {fs : List Value} {v : Value} (he : ws[q0]? = some (a, .inr (6, fs))) (hv : fs[8]? = some v) (hd : decode d.2.1 pc = .ok (.getfield 37, 3)) (kk : W p l e R s m args below meth c H locs cells slots Q (F0 m (pc + 3) ls (v :: rest))) : W p l e R s m args below meth c H locs cells slots Q (F0 m pc ls (.ref a :: rest)) := fg C w inX6s (ref := RX6) rfl 8 (by decide) (ts_t (w := Cond.fieldLink RX6 37 RX6 (TX6 8).2.1 (TX6 8).2.2.1) 229 (by decide +kernel) (by decide +kernel)) rfl q0 he hv hd kk
theorem g_X6_40 {p : Program} {l : Launch} {e : Env} {R : Room} {s : State} {m : MethodId} {args : Array Value} {below : List Frame} {meth : Method} {c : Code} {H : Heap} {locs : List Loc} {cells slots : Nat} {Q : State → Prop} {d : MD} {g : GT} {A : Nat → Prop} {ws : va_W} {pc : Nat} {ls : Array Slot} {rest : List Value} (C : Cx p s m args meth c RX6 d g A) (w : Wd g A ws s.heap H locs) (q0 : Nat) {a : Nat} {fs : List Value} {v : Value} (he : ws[q0]? = some (a, .inr (6, fs))) (hv : fs[9]? = some v) (hd : decode d.2.1 pc = .ok (.getfield 40, 3)) (kk : W p l e R s m args below meth c H locs cells slots Q (F0 m (pc + 3) ls (v :: rest))) : W p l e R s m args below meth c H locs cells slots Q (F0 m pc ls (.ref a :: rest)) := fg C w inX6s (ref := RX6) rfl 9 (by decide) (ts_t (w := Cond.fieldLink RX6 40 RX6 (TX6 9).2.1 (TX6 9).2.2.1) 232 (by decide +kernel) (by decide +kernel)) rfl q0 he hv hd kk
theorem g_X6_43 {p : Program} {l : Launch} {e : Env} {R : Room} {s : State} {m : MethodId} {args : Array Value} {below : List Frame} {meth : Method} {c : Code} {H : Heap} {locs : List Loc} {cells slots : Nat} {Q : State → Prop} {d : MD} {g : GT} {A : Nat → Prop} {ws : va_W} {pc : Nat} {ls : Array Slot} {rest : List Value} (C : Cx p s m args meth c RX6 d g A) (w : Wd g A ws s.heap H locs) (q0 : Nat) {a : Nat} {fs : List Value} {v : Value} (he : ws[q0]? = some (a, .inr (6, fs))) (hv : fs[10]? = some v) (hd : decode d.2.1 pc = .ok (.getfield 43, 3)) (kk : W p l e R s m args below meth c H locs cells slots Q (F0 m (pc + 3) ls (v :: rest))) : W p l e R s m args below meth c H locs cells slots Q (F0 m pc ls (.ref a :: rest)) := fg C w inX6s (ref := RX6) rfl 10 (by decide) (ts_t (w := Cond.fieldLink RX6 43 RX6 (TX6 10).2.1 (TX6 10).2.2.1) 235 (by decide +kernel) (by decide +kernel)) rfl q0 he hv hd kk
theorem g_X6_46 {p : Program} {l : Launch} {e : Env} {R : Room} {s : State} {m : MethodId} {args : Array Value} {below : List Frame} {meth : Method} {c : Code} {H : Heap} {locs : List Loc} {cells slots : Nat} {Q : State → Prop} {d : MD} {g : GT} {A : Nat → Prop} {ws : va_W} {pc : Nat} {ls : Array Slot} {rest : List Value} (C : Cx p s m args meth c RX6 d g A) (w : Wd g A ws s.heap H locs) (q0 : Nat) {a : Nat} {fs : List Value} {v : Value} (he : ws[q0]? = some (a, .inr (6, fs))) (hv : fs[11]? = some v) (hd : decode d.2.1 pc = .ok (.getfield 46, 3)) (kk : W p l e R s m args below meth c H locs cells slots Q (F0 m (pc + 3) ls (v :: rest))) : W p l e R s m args below meth c H locs cells slots Q (F0 m pc ls (.ref a :: rest)) := fg C w inX6s (ref := RX6) rfl 11 (by decide) (ts_t (w := Cond.fieldLink RX6 46 RX6 (TX6 11).2.1 (TX6 11).2.2.1) 236 (by decide +kernel) (by decide +kernel)) rfl q0 he hv hd kk
theorem g_X6_49 {p : Program} {l : Launch} {e : Env} {R : Room} {s : State} {m : MethodId} {args : Array Value} {below : List Frame} {meth : Method} {c : Code} {H : Heap} {locs : List Loc} {cells slots : Nat} {Q : State → Prop} {d : MD} {g : GT} {A : Nat → Prop} {ws : va_W} {pc : Nat} {ls : Array Slot} {rest : List Value} (C : Cx p s m args meth c RX6 d g A) (w : Wd g A ws s.heap H locs) (q0 : Nat) {a : Nat} {fs : List Value} {v : Value} (he : ws[q0]? = some (a, .inr (6, fs))) (hv : fs[12]? = some v) (hd : decode d.2.1 pc = .ok (.getfield 49, 3)) (kk : W p l e R s m args below meth c H locs cells slots Q (F0 m (pc + 3) ls (v :: rest))) : W p l e R s m args below meth c H locs cells slots Q (F0 m pc ls (.ref a :: rest)) := fg C w inX6s (ref := RX6) rfl 12 (by decide) (ts_t (w := Cond.fieldLink RX6 49 RX6 (TX6 12).2.1 (TX6 12).2.2.1) 237 (by decide +kernel) (by decide +kernel)) rfl q0 he hv hd kk
abbrev w_X6_copyFrom (g : GT) (h0 h1 h2 h3 h4 h5 h6 h7 h8 h9 h10 h11 h12 h13 h14 h15 h16 h17 h18 h19 h20 h21 h22 h23 : Nat) (count0 latestTime0 : Int32) (axleReadings1 gantry2 handAxles3 handPlate4 lane5 plateSums6 readPlates7 state8 tag9 time10 trip11 : Nat → Int32) (count12 latestTime12 : Int32) (axleReadings13 gantry14 handAxles15 handPlate16 lane17 plateSums18 readPlates19 state20 tag21 time22 trip23 : Nat → Int32) : va_W := [(h0, .inr (6, [.int count0, .int latestTime0, .ref h2, .ref h5, .ref h10, .ref h9, .ref h4, .ref h3, .ref h8, .ref h11, .ref h7, .ref h6, .ref h1])), (h1, aI g 640 axleReadings1), (h2, aI g 80 gantry2), (h3, aI g 80 handAxles3), (h4, aI g 80 handPlate4), (h5, aI g 80 lane5), (h6, aI g 320 plateSums6), (h7, aI g 320 readPlates7), (h8, aI g 80 state8), (h9, aI g 80 tag9), (h10, aI g 80 time10), (h11, aI g 80 trip11), (h12, .inr (6, [.int count12, .int latestTime12, .ref h14, .ref h17, .ref h22, .ref h21, .ref h16, .ref h15, .ref h20, .ref h23, .ref h19, .ref h18, .ref h13])), (h13, aI g 640 axleReadings13), (h14, aI g 80 gantry14), (h15, aI g 80 handAxles15), (h16, aI g 80 handPlate16), (h17, aI g 80 lane17), (h18, aI g 320 plateSums18), (h19, aI g 320 readPlates19), (h20, aI g 80 state20), (h21, aI g 80 tag21), (h22, aI g 80 time22), (h23, aI g 80 trip23)]
def f_X6_copyFrom (F : Nat) (count0 latestTime0 : Int32) (axleReadings1 gantry2 handAxles3 handPlate4 lane5 plateSums6 readPlates7 state8 tag9 time10 trip11 : Nat → Int32) (count12 latestTime12 : Int32) (axleReadings13 gantry14 handAxles15 handPlate16 lane17 plateSums18 readPlates19 state20 tag21 time22 trip23 : Nat → Int32) : Option (Int32 × Int32 × (Nat → Int32) × (Nat → Int32) × (Nat → Int32) × (Nat → Int32) × (Nat → Int32) × (Nat → Int32) × (Nat → Int32) × (Nat → Int32) × (Nat → Int32) × (Nat → Int32) × (Nat → Int32)) :=
  some (count12, latestTime12, (va_cpy axleReadings13 axleReadings1 0 0 640), (va_cpy gantry14 gantry2 0 0 80), (va_cpy handAxles15 handAxles3 0 0 80), (va_cpy handPlate16 handPlate4 0 0 80), (va_cpy lane17 lane5 0 0 80), (va_cpy plateSums18 plateSums6 0 0 320), (va_cpy readPlates19 readPlates7 0 0 320), (va_cpy state20 state8 0 0 80), (va_cpy tag21 tag9 0 0 80), (va_cpy time22 time10 0 0 80), (va_cpy trip23 trip11 0 0 80))
set_option maxHeartbeats 4000000 in
set_option maxRecDepth 100000 in
theorem c_X6_copyFrom (l : Launch) (g : GT) (F : Nat) (h0 h1 h2 h3 h4 h5 h6 h7 h8 h9 h10 h11 h12 h13 h14 h15 h16 h17 h18 h19 h20 h21 h22 h23 : Nat) (count0 latestTime0 : Int32) (axleReadings1 gantry2 handAxles3 handPlate4 lane5 plateSums6 readPlates7 state8 tag9 time10 trip11 : Nat → Int32) (count12 latestTime12 : Int32) (axleReadings13 gantry14 handAxles15 handPlate16 lane17 plateSums18 readPlates19 state20 tag21 time22 trip23 : Nat → Int32) (o_count0 o_latestTime0 : Int32) (o_axleReadings1 o_gantry2 o_handAxles3 o_handPlate4 o_lane5 o_plateSums6 o_readPlates7 o_state8 o_tag9 o_time10 o_trip11 : Nat → Int32) (sz : Nat) (hf : f_X6_copyFrom F count0 latestTime0 axleReadings1 gantry2 handAxles3 handPlate4 lane5 plateSums6 readPlates7 state8 tag9 time10 trip11 count12 latestTime12 axleReadings13 gantry14 handAxles15 handPlate16 lane17 plateSums18 readPlates19 state20 tag21 time22 trip23 = some (o_count0, o_latestTime0, o_axleReadings1, o_gantry2, o_handAxles3, o_handPlate4, o_lane5, o_plateSums6, o_readPlates7, o_state8, o_tag9, o_time10, o_trip11)) : CV l m_X6_copyFrom (rml 1 0 0) g (w_X6_copyFrom g h0 h1 h2 h3 h4 h5 h6 h7 h8 h9 h10 h11 h12 h13 h14 h15 h16 h17 h18 h19 h20 h21 h22 h23 count0 latestTime0 axleReadings1 gantry2 handAxles3 handPlate4 lane5 plateSums6 readPlates7 state8 tag9 time10 trip11 count12 latestTime12 axleReadings13 gantry14 handAxles15 handPlate16 lane17 plateSums18 readPlates19 state20 tag21 time22 trip23) (fun _ => w_X6_copyFrom g h0 h1 h2 h3 h4 h5 h6 h7 h8 h9 h10 h11 h12 h13 h14 h15 h16 h17 h18 h19 h20 h21 h22 h23 o_count0 o_latestTime0 o_axleReadings1 o_gantry2 o_handAxles3 o_handPlate4 o_lane5 o_plateSums6 o_readPlates7 o_state8 o_tag9 o_time10 o_trip11 count12 latestTime12 axleReadings13 gantry14 handAxles15 handPlate16 lane17 plateSums18 readPlates19 state20 tag21 time22 trip23) sz [.ref h0, .ref h12] := by
  refine en_v (by decide) (Nat.le_of_ble_eq_true rfl) (fun p e s m args below meth c A ls C w hl => ?_)
  have C : Cx p s m args meth c RX6 m_X6_copyFrom g A := C
  have hx := C.1
  have hb : c.code = cX6_copyFrom := C.2.1
  have hl : lv_has ls 2 [(0, .ref h0), (1, .ref h12)] := hl
  obtain ⟨Q, hQ⟩ : ∃ Q, Q = QV below args s g A (fun _ => w_X6_copyFrom g h0 h1 h2 h3 h4 h5 h6 h7 h8 h9 h10 h11 h12 h13 h14 h15 h16 h17 h18 h19 h20 h21 h22 h23 o_count0 o_latestTime0 o_axleReadings1 o_gantry2 o_handAxles3 o_handPlate4 o_lane5 o_plateSums6 o_readPlates7 o_state8 o_tag9 o_time10 o_trip11 count12 latestTime12 axleReadings13 gantry14 handAxles15 handPlate16 lane17 plateSums18 readPlates19 state20 tag21 time22 trip23) 0 0 := ⟨_, rfl⟩
  suffices hW : W p l e (rml 1 0 0) s m args below meth c s.heap [] 0 0 Q (F0 m 0 ls []) from (by rw [hQ] at hW; exact hW)
  unfold f_X6_copyFrom at hf
  refine lv_aload_n hx hb dX6_copyFrom_0 rfl (lv_at hl 0 rfl) ?_
  refine lv_aload_n hx hb dX6_copyFrom_1 rfl (lv_at hl 1 rfl) ?_
  refine g_X6_9 C w 12 rfl rfl dX6_copyFrom_2 ?_
  refine p_X6_9 C w 0 rfl (Nat.le_of_ble_eq_true rfl) (ws2 := w_X6_copyFrom g h0 h1 h2 h3 h4 h5 h6 h7 h8 h9 h10 h11 h12 h13 h14 h15 h16 h17 h18 h19 h20 h21 h22 h23 count12 latestTime0 axleReadings1 gantry2 handAxles3 handPlate4 lane5 plateSums6 readPlates7 state8 tag9 time10 trip11 count12 latestTime12 axleReadings13 gantry14 handAxles15 handPlate16 lane17 plateSums18 readPlates19 state20 tag21 time22 trip23) rfl dX6_copyFrom_5 (fun H locs w => ?_)
  refine lv_aload_n hx hb dX6_copyFrom_8 rfl (lv_at hl 0 rfl) ?_
  refine lv_aload_n hx hb dX6_copyFrom_9 rfl (lv_at hl 1 rfl) ?_
  refine g_X6_15 C w 12 rfl rfl dX6_copyFrom_10 ?_
  refine p_X6_15 C w 0 rfl (Nat.le_of_ble_eq_true rfl) (ws2 := w_X6_copyFrom g h0 h1 h2 h3 h4 h5 h6 h7 h8 h9 h10 h11 h12 h13 h14 h15 h16 h17 h18 h19 h20 h21 h22 h23 count12 latestTime12 axleReadings1 gantry2 handAxles3 handPlate4 lane5 plateSums6 readPlates7 state8 tag9 time10 trip11 count12 latestTime12 axleReadings13 gantry14 handAxles15 handPlate16 lane17 plateSums18 readPlates19 state20 tag21 time22 trip23) rfl dX6_copyFrom_13 (fun H locs w => ?_)
  refine lv_aload_n hx hb dX6_copyFrom_16 rfl (lv_at hl 1 rfl) ?_
  refine g_X6_18 C w 12 rfl rfl dX6_copyFrom_17 ?_
  refine lv_iconst (v := 0) hx hb dX6_copyFrom_20 (by decide) ?_
  refine lv_aload_n hx hb dX6_copyFrom_21 rfl (lv_at hl 0 rfl) ?_
  refine g_X6_18 C w 0 rfl rfl dX6_copyFrom_22 ?_
  refine lv_iconst (v := 0) hx hb dX6_copyFrom_25 (by decide) ?_
  refine lv_bipush (v := 80) hx hb dX6_copyFrom_26 (by decide) ?_
  refine icp C w hl.1 q_492 q_494 q_493 q_24 14 2 rfl rfl (by decide) (by decide) (by decide) (f2 := va_cpy gantry14 gantry2 0 0 80) (by rfl) (ws2 := w_X6_copyFrom g h0 h1 h2 h3 h4 h5 h6 h7 h8 h9 h10 h11 h12 h13 h14 h15 h16 h17 h18 h19 h20 h21 h22 h23 count12 latestTime12 axleReadings1 (va_cpy gantry14 gantry2 0 0 80) handAxles3 handPlate4 lane5 plateSums6 readPlates7 state8 tag9 time10 trip11 count12 latestTime12 axleReadings13 gantry14 handAxles15 handPlate16 lane17 plateSums18 readPlates19 state20 tag21 time22 trip23) rfl (Nat.le_of_ble_eq_true rfl) (Nat.le_of_ble_eq_true rfl) dX6_copyFrom_28 (fun H locs w => ?_)
  refine lv_aload_n hx hb dX6_copyFrom_31 rfl (lv_at hl 1 rfl) ?_
  refine g_X6_22 C w 12 rfl rfl dX6_copyFrom_32 ?_
  refine lv_iconst (v := 0) hx hb dX6_copyFrom_35 (by decide) ?_
  refine lv_aload_n hx hb dX6_copyFrom_36 rfl (lv_at hl 0 rfl) ?_
  refine g_X6_22 C w 0 rfl rfl dX6_copyFrom_37 ?_
  refine lv_iconst (v := 0) hx hb dX6_copyFrom_40 (by decide) ?_
  refine lv_bipush (v := 80) hx hb dX6_copyFrom_41 (by decide) ?_
  refine icp C w hl.1 q_492 q_494 q_493 q_24 17 5 rfl rfl (by decide) (by decide) (by decide) (f2 := va_cpy lane17 lane5 0 0 80) (by rfl) (ws2 := w_X6_copyFrom g h0 h1 h2 h3 h4 h5 h6 h7 h8 h9 h10 h11 h12 h13 h14 h15 h16 h17 h18 h19 h20 h21 h22 h23 count12 latestTime12 axleReadings1 (va_cpy gantry14 gantry2 0 0 80) handAxles3 handPlate4 (va_cpy lane17 lane5 0 0 80) plateSums6 readPlates7 state8 tag9 time10 trip11 count12 latestTime12 axleReadings13 gantry14 handAxles15 handPlate16 lane17 plateSums18 readPlates19 state20 tag21 time22 trip23) rfl (Nat.le_of_ble_eq_true rfl) (Nat.le_of_ble_eq_true rfl) dX6_copyFrom_43 (fun H locs w => ?_)
  refine lv_aload_n hx hb dX6_copyFrom_46 rfl (lv_at hl 1 rfl) ?_
  refine g_X6_25 C w 12 rfl rfl dX6_copyFrom_47 ?_
  refine lv_iconst (v := 0) hx hb dX6_copyFrom_50 (by decide) ?_
  refine lv_aload_n hx hb dX6_copyFrom_51 rfl (lv_at hl 0 rfl) ?_
  refine g_X6_25 C w 0 rfl rfl dX6_copyFrom_52 ?_
  refine lv_iconst (v := 0) hx hb dX6_copyFrom_55 (by decide) ?_
  refine lv_bipush (v := 80) hx hb dX6_copyFrom_56 (by decide) ?_
  refine icp C w hl.1 q_492 q_494 q_493 q_24 22 10 rfl rfl (by decide) (by decide) (by decide) (f2 := va_cpy time22 time10 0 0 80) (by rfl) (ws2 := w_X6_copyFrom g h0 h1 h2 h3 h4 h5 h6 h7 h8 h9 h10 h11 h12 h13 h14 h15 h16 h17 h18 h19 h20 h21 h22 h23 count12 latestTime12 axleReadings1 (va_cpy gantry14 gantry2 0 0 80) handAxles3 handPlate4 (va_cpy lane17 lane5 0 0 80) plateSums6 readPlates7 state8 tag9 (va_cpy time22 time10 0 0 80) trip11 count12 latestTime12 axleReadings13 gantry14 handAxles15 handPlate16 lane17 plateSums18 readPlates19 state20 tag21 time22 trip23) rfl (Nat.le_of_ble_eq_true rfl) (Nat.le_of_ble_eq_true rfl) dX6_copyFrom_58 (fun H locs w => ?_)
  refine lv_aload_n hx hb dX6_copyFrom_61 rfl (lv_at hl 1 rfl) ?_
  refine g_X6_28 C w 12 rfl rfl dX6_copyFrom_62 ?_
  refine lv_iconst (v := 0) hx hb dX6_copyFrom_65 (by decide) ?_
  refine lv_aload_n hx hb dX6_copyFrom_66 rfl (lv_at hl 0 rfl) ?_
  refine g_X6_28 C w 0 rfl rfl dX6_copyFrom_67 ?_
  refine lv_iconst (v := 0) hx hb dX6_copyFrom_70 (by decide) ?_
  refine lv_bipush (v := 80) hx hb dX6_copyFrom_71 (by decide) ?_
  refine icp C w hl.1 q_492 q_494 q_493 q_24 21 9 rfl rfl (by decide) (by decide) (by decide) (f2 := va_cpy tag21 tag9 0 0 80) (by rfl) (ws2 := w_X6_copyFrom g h0 h1 h2 h3 h4 h5 h6 h7 h8 h9 h10 h11 h12 h13 h14 h15 h16 h17 h18 h19 h20 h21 h22 h23 count12 latestTime12 axleReadings1 (va_cpy gantry14 gantry2 0 0 80) handAxles3 handPlate4 (va_cpy lane17 lane5 0 0 80) plateSums6 readPlates7 state8 (va_cpy tag21 tag9 0 0 80) (va_cpy time22 time10 0 0 80) trip11 count12 latestTime12 axleReadings13 gantry14 handAxles15 handPlate16 lane17 plateSums18 readPlates19 state20 tag21 time22 trip23) rfl (Nat.le_of_ble_eq_true rfl) (Nat.le_of_ble_eq_true rfl) dX6_copyFrom_73 (fun H locs w => ?_)
  refine lv_aload_n hx hb dX6_copyFrom_76 rfl (lv_at hl 1 rfl) ?_
  refine g_X6_31 C w 12 rfl rfl dX6_copyFrom_77 ?_
  refine lv_iconst (v := 0) hx hb dX6_copyFrom_80 (by decide) ?_
  refine lv_aload_n hx hb dX6_copyFrom_81 rfl (lv_at hl 0 rfl) ?_
  refine g_X6_31 C w 0 rfl rfl dX6_copyFrom_82 ?_
  refine lv_iconst (v := 0) hx hb dX6_copyFrom_85 (by decide) ?_
  refine lv_bipush (v := 80) hx hb dX6_copyFrom_86 (by decide) ?_
  refine icp C w hl.1 q_492 q_494 q_493 q_24 16 4 rfl rfl (by decide) (by decide) (by decide) (f2 := va_cpy handPlate16 handPlate4 0 0 80) (by rfl) (ws2 := w_X6_copyFrom g h0 h1 h2 h3 h4 h5 h6 h7 h8 h9 h10 h11 h12 h13 h14 h15 h16 h17 h18 h19 h20 h21 h22 h23 count12 latestTime12 axleReadings1 (va_cpy gantry14 gantry2 0 0 80) handAxles3 (va_cpy handPlate16 handPlate4 0 0 80) (va_cpy lane17 lane5 0 0 80) plateSums6 readPlates7 state8 (va_cpy tag21 tag9 0 0 80) (va_cpy time22 time10 0 0 80) trip11 count12 latestTime12 axleReadings13 gantry14 handAxles15 handPlate16 lane17 plateSums18 readPlates19 state20 tag21 time22 trip23) rfl (Nat.le_of_ble_eq_true rfl) (Nat.le_of_ble_eq_true rfl) dX6_copyFrom_88 (fun H locs w => ?_)
  refine lv_aload_n hx hb dX6_copyFrom_91 rfl (lv_at hl 1 rfl) ?_
  refine g_X6_34 C w 12 rfl rfl dX6_copyFrom_92 ?_
  refine lv_iconst (v := 0) hx hb dX6_copyFrom_95 (by decide) ?_
  refine lv_aload_n hx hb dX6_copyFrom_96 rfl (lv_at hl 0 rfl) ?_
  refine g_X6_34 C w 0 rfl rfl dX6_copyFrom_97 ?_
  refine lv_iconst (v := 0) hx hb dX6_copyFrom_100 (by decide) ?_
  refine lv_bipush (v := 80) hx hb dX6_copyFrom_101 (by decide) ?_
  refine icp C w hl.1 q_492 q_494 q_493 q_24 15 3 rfl rfl (by decide) (by decide) (by decide) (f2 := va_cpy handAxles15 handAxles3 0 0 80) (by rfl) (ws2 := w_X6_copyFrom g h0 h1 h2 h3 h4 h5 h6 h7 h8 h9 h10 h11 h12 h13 h14 h15 h16 h17 h18 h19 h20 h21 h22 h23 count12 latestTime12 axleReadings1 (va_cpy gantry14 gantry2 0 0 80) (va_cpy handAxles15 handAxles3 0 0 80) (va_cpy handPlate16 handPlate4 0 0 80) (va_cpy lane17 lane5 0 0 80) plateSums6 readPlates7 state8 (va_cpy tag21 tag9 0 0 80) (va_cpy time22 time10 0 0 80) trip11 count12 latestTime12 axleReadings13 gantry14 handAxles15 handPlate16 lane17 plateSums18 readPlates19 state20 tag21 time22 trip23) rfl (Nat.le_of_ble_eq_true rfl) (Nat.le_of_ble_eq_true rfl) dX6_copyFrom_103 (fun H locs w => ?_)
  refine lv_aload_n hx hb dX6_copyFrom_106 rfl (lv_at hl 1 rfl) ?_
  refine g_X6_37 C w 12 rfl rfl dX6_copyFrom_107 ?_
  refine lv_iconst (v := 0) hx hb dX6_copyFrom_110 (by decide) ?_
  refine lv_aload_n hx hb dX6_copyFrom_111 rfl (lv_at hl 0 rfl) ?_
  refine g_X6_37 C w 0 rfl rfl dX6_copyFrom_112 ?_
  refine lv_iconst (v := 0) hx hb dX6_copyFrom_115 (by decide) ?_
  refine lv_bipush (v := 80) hx hb dX6_copyFrom_116 (by decide) ?_
  refine icp C w hl.1 q_492 q_494 q_493 q_24 20 8 rfl rfl (by decide) (by decide) (by decide) (f2 := va_cpy state20 state8 0 0 80) (by rfl) (ws2 := w_X6_copyFrom g h0 h1 h2 h3 h4 h5 h6 h7 h8 h9 h10 h11 h12 h13 h14 h15 h16 h17 h18 h19 h20 h21 h22 h23 count12 latestTime12 axleReadings1 (va_cpy gantry14 gantry2 0 0 80) (va_cpy handAxles15 handAxles3 0 0 80) (va_cpy handPlate16 handPlate4 0 0 80) (va_cpy lane17 lane5 0 0 80) plateSums6 readPlates7 (va_cpy state20 state8 0 0 80) (va_cpy tag21 tag9 0 0 80) (va_cpy time22 time10 0 0 80) trip11 count12 latestTime12 axleReadings13 gantry14 handAxles15 handPlate16 lane17 plateSums18 readPlates19 state20 tag21 time22 trip23) rfl (Nat.le_of_ble_eq_true rfl) (Nat.le_of_ble_eq_true rfl) dX6_copyFrom_118 (fun H locs w => ?_)
  refine lv_aload_n hx hb dX6_copyFrom_121 rfl (lv_at hl 1 rfl) ?_
  refine g_X6_40 C w 12 rfl rfl dX6_copyFrom_122 ?_
  refine lv_iconst (v := 0) hx hb dX6_copyFrom_125 (by decide) ?_
  refine lv_aload_n hx hb dX6_copyFrom_126 rfl (lv_at hl 0 rfl) ?_
  refine g_X6_40 C w 0 rfl rfl dX6_copyFrom_127 ?_
  refine lv_iconst (v := 0) hx hb dX6_copyFrom_130 (by decide) ?_
  refine lv_bipush (v := 80) hx hb dX6_copyFrom_131 (by decide) ?_
  refine icp C w hl.1 q_492 q_494 q_493 q_24 23 11 rfl rfl (by decide) (by decide) (by decide) (f2 := va_cpy trip23 trip11 0 0 80) (by rfl) (ws2 := w_X6_copyFrom g h0 h1 h2 h3 h4 h5 h6 h7 h8 h9 h10 h11 h12 h13 h14 h15 h16 h17 h18 h19 h20 h21 h22 h23 count12 latestTime12 axleReadings1 (va_cpy gantry14 gantry2 0 0 80) (va_cpy handAxles15 handAxles3 0 0 80) (va_cpy handPlate16 handPlate4 0 0 80) (va_cpy lane17 lane5 0 0 80) plateSums6 readPlates7 (va_cpy state20 state8 0 0 80) (va_cpy tag21 tag9 0 0 80) (va_cpy time22 time10 0 0 80) (va_cpy trip23 trip11 0 0 80) count12 latestTime12 axleReadings13 gantry14 handAxles15 handPlate16 lane17 plateSums18 readPlates19 state20 tag21 time22 trip23) rfl (Nat.le_of_ble_eq_true rfl) (Nat.le_of_ble_eq_true rfl) dX6_copyFrom_133 (fun H locs w => ?_)
  refine lv_aload_n hx hb dX6_copyFrom_136 rfl (lv_at hl 1 rfl) ?_
  refine g_X6_43 C w 12 rfl rfl dX6_copyFrom_137 ?_
  refine lv_iconst (v := 0) hx hb dX6_copyFrom_140 (by decide) ?_
  refine lv_aload_n hx hb dX6_copyFrom_141 rfl (lv_at hl 0 rfl) ?_
  refine g_X6_43 C w 0 rfl rfl dX6_copyFrom_142 ?_
  refine lv_iconst (v := 0) hx hb dX6_copyFrom_145 (by decide) ?_
  refine lv_sipush (v := 320) hx hb dX6_copyFrom_146 (by decide) ?_
  refine icp C w hl.1 q_492 q_494 q_493 q_24 19 7 rfl rfl (by decide) (by decide) (by decide) (f2 := va_cpy readPlates19 readPlates7 0 0 320) (by rfl) (ws2 := w_X6_copyFrom g h0 h1 h2 h3 h4 h5 h6 h7 h8 h9 h10 h11 h12 h13 h14 h15 h16 h17 h18 h19 h20 h21 h22 h23 count12 latestTime12 axleReadings1 (va_cpy gantry14 gantry2 0 0 80) (va_cpy handAxles15 handAxles3 0 0 80) (va_cpy handPlate16 handPlate4 0 0 80) (va_cpy lane17 lane5 0 0 80) plateSums6 (va_cpy readPlates19 readPlates7 0 0 320) (va_cpy state20 state8 0 0 80) (va_cpy tag21 tag9 0 0 80) (va_cpy time22 time10 0 0 80) (va_cpy trip23 trip11 0 0 80) count12 latestTime12 axleReadings13 gantry14 handAxles15 handPlate16 lane17 plateSums18 readPlates19 state20 tag21 time22 trip23) rfl (Nat.le_of_ble_eq_true rfl) (Nat.le_of_ble_eq_true rfl) dX6_copyFrom_149 (fun H locs w => ?_)
  refine lv_aload_n hx hb dX6_copyFrom_152 rfl (lv_at hl 1 rfl) ?_
  refine g_X6_46 C w 12 rfl rfl dX6_copyFrom_153 ?_
  refine lv_iconst (v := 0) hx hb dX6_copyFrom_156 (by decide) ?_
  refine lv_aload_n hx hb dX6_copyFrom_157 rfl (lv_at hl 0 rfl) ?_
  refine g_X6_46 C w 0 rfl rfl dX6_copyFrom_158 ?_
  refine lv_iconst (v := 0) hx hb dX6_copyFrom_161 (by decide) ?_
  refine lv_sipush (v := 320) hx hb dX6_copyFrom_162 (by decide) ?_
  refine icp C w hl.1 q_492 q_494 q_493 q_24 18 6 rfl rfl (by decide) (by decide) (by decide) (f2 := va_cpy plateSums18 plateSums6 0 0 320) (by rfl) (ws2 := w_X6_copyFrom g h0 h1 h2 h3 h4 h5 h6 h7 h8 h9 h10 h11 h12 h13 h14 h15 h16 h17 h18 h19 h20 h21 h22 h23 count12 latestTime12 axleReadings1 (va_cpy gantry14 gantry2 0 0 80) (va_cpy handAxles15 handAxles3 0 0 80) (va_cpy handPlate16 handPlate4 0 0 80) (va_cpy lane17 lane5 0 0 80) (va_cpy plateSums18 plateSums6 0 0 320) (va_cpy readPlates19 readPlates7 0 0 320) (va_cpy state20 state8 0 0 80) (va_cpy tag21 tag9 0 0 80) (va_cpy time22 time10 0 0 80) (va_cpy trip23 trip11 0 0 80) count12 latestTime12 axleReadings13 gantry14 handAxles15 handPlate16 lane17 plateSums18 readPlates19 state20 tag21 time22 trip23) rfl (Nat.le_of_ble_eq_true rfl) (Nat.le_of_ble_eq_true rfl) dX6_copyFrom_165 (fun H locs w => ?_)
  refine lv_aload_n hx hb dX6_copyFrom_168 rfl (lv_at hl 1 rfl) ?_
  refine g_X6_49 C w 12 rfl rfl dX6_copyFrom_169 ?_
  refine lv_iconst (v := 0) hx hb dX6_copyFrom_172 (by decide) ?_
  refine lv_aload_n hx hb dX6_copyFrom_173 rfl (lv_at hl 0 rfl) ?_
  refine g_X6_49 C w 0 rfl rfl dX6_copyFrom_174 ?_
  refine lv_iconst (v := 0) hx hb dX6_copyFrom_177 (by decide) ?_
  refine lv_sipush (v := 640) hx hb dX6_copyFrom_178 (by decide) ?_
  refine icp C w hl.1 q_492 q_494 q_493 q_24 13 1 rfl rfl (by decide) (by decide) (by decide) (f2 := va_cpy axleReadings13 axleReadings1 0 0 640) (by rfl) (ws2 := w_X6_copyFrom g h0 h1 h2 h3 h4 h5 h6 h7 h8 h9 h10 h11 h12 h13 h14 h15 h16 h17 h18 h19 h20 h21 h22 h23 count12 latestTime12 (va_cpy axleReadings13 axleReadings1 0 0 640) (va_cpy gantry14 gantry2 0 0 80) (va_cpy handAxles15 handAxles3 0 0 80) (va_cpy handPlate16 handPlate4 0 0 80) (va_cpy lane17 lane5 0 0 80) (va_cpy plateSums18 plateSums6 0 0 320) (va_cpy readPlates19 readPlates7 0 0 320) (va_cpy state20 state8 0 0 80) (va_cpy tag21 tag9 0 0 80) (va_cpy time22 time10 0 0 80) (va_cpy trip23 trip11 0 0 80) count12 latestTime12 axleReadings13 gantry14 handAxles15 handPlate16 lane17 plateSums18 readPlates19 state20 tag21 time22 trip23) rfl (Nat.le_of_ble_eq_true rfl) (Nat.le_of_ble_eq_true rfl) dX6_copyFrom_181 (fun H locs w => ?_)
  obtain ⟨e1, e2, e3, e4, e5, e6, e7, e8, e9, e10, e11, e12, e13⟩ := tp13 hf
  rw [hQ]
  exact rt_v C w rfl (fun _ => 0) (by rw [← e1, ← e2, ← e3, ← e4, ← e5, ← e6, ← e7, ← e8, ← e9, ← e10, ← e11, ← e12, ← e13]) dX6_copyFrom_184

theorem dX6_toJoin_0 : decode cX6_toJoin 0 = .ok (.aload_n 0, 1) := by decide +kernel
theorem dX6_toJoin_1 : decode cX6_toJoin 1 = .ok (.getfield 9, 3) := by decide +kernel
theorem dX6_toJoin_4 : decode cX6_toJoin 4 = .ok (.iconst 1, 1) := by decide +kernel
theorem dX6_toJoin_5 : decode cX6_toJoin 5 = .ok (.isub, 1) := by decide +kernel
theorem dX6_toJoin_6 : decode cX6_toJoin 6 = .ok (.istore 5, 2) := by decide +kernel
theorem dX6_toJoin_8 : decode cX6_toJoin 8 = .ok (.iload 5, 2) := by decide +kernel
theorem dX6_toJoin_10 : decode cX6_toJoin 10 = .ok (.ifCond .lt 100, 3) := by decide +kernel
theorem dX6_toJoin_13 : decode cX6_toJoin 13 = .ok (.aload_n 0, 1) := by decide +kernel
theorem dX6_toJoin_14 : decode cX6_toJoin 14 = .ok (.getfield 18, 3) := by decide +kernel
theorem dX6_toJoin_17 : decode cX6_toJoin 17 = .ok (.iload 5, 2) := by decide +kernel
theorem dX6_toJoin_19 : decode cX6_toJoin 19 = .ok (.iaload, 1) := by decide +kernel
theorem dX6_toJoin_20 : decode cX6_toJoin 20 = .ok (.iload_n 1, 1) := by decide +kernel
theorem dX6_toJoin_21 : decode cX6_toJoin 21 = .ok (.if_icmp .ne 83, 3) := by decide +kernel
theorem dX6_toJoin_24 : decode cX6_toJoin 24 = .ok (.aload_n 0, 1) := by decide +kernel
theorem dX6_toJoin_25 : decode cX6_toJoin 25 = .ok (.getfield 22, 3) := by decide +kernel
theorem dX6_toJoin_28 : decode cX6_toJoin 28 = .ok (.iload 5, 2) := by decide +kernel
theorem dX6_toJoin_30 : decode cX6_toJoin 30 = .ok (.iaload, 1) := by decide +kernel
theorem dX6_toJoin_31 : decode cX6_toJoin 31 = .ok (.iload_n 2, 1) := by decide +kernel
theorem dX6_toJoin_32 : decode cX6_toJoin 32 = .ok (.if_icmp .ne 72, 3) := by decide +kernel
theorem dX6_toJoin_35 : decode cX6_toJoin 35 = .ok (.iload 4, 2) := by decide +kernel
theorem dX6_toJoin_37 : decode cX6_toJoin 37 = .ok (.iconst (-1), 1) := by decide +kernel
theorem dX6_toJoin_38 : decode cX6_toJoin 38 = .ok (.if_icmp .eq 30, 3) := by decide +kernel
theorem dX6_toJoin_41 : decode cX6_toJoin 41 = .ok (.aload_n 0, 1) := by decide +kernel
theorem dX6_toJoin_42 : decode cX6_toJoin 42 = .ok (.getfield 28, 3) := by decide +kernel
theorem dX6_toJoin_45 : decode cX6_toJoin 45 = .ok (.iload 5, 2) := by decide +kernel
theorem dX6_toJoin_47 : decode cX6_toJoin 47 = .ok (.iaload, 1) := by decide +kernel
theorem dX6_toJoin_48 : decode cX6_toJoin 48 = .ok (.iconst (-1), 1) := by decide +kernel
theorem dX6_toJoin_49 : decode cX6_toJoin 49 = .ok (.if_icmp .eq 19, 3) := by decide +kernel
theorem dX6_toJoin_52 : decode cX6_toJoin 52 = .ok (.aload_n 0, 1) := by decide +kernel
theorem dX6_toJoin_53 : decode cX6_toJoin 53 = .ok (.getfield 28, 3) := by decide +kernel
theorem dX6_toJoin_56 : decode cX6_toJoin 56 = .ok (.iload 5, 2) := by decide +kernel
theorem dX6_toJoin_58 : decode cX6_toJoin 58 = .ok (.iaload, 1) := by decide +kernel
theorem dX6_toJoin_59 : decode cX6_toJoin 59 = .ok (.iload 4, 2) := by decide +kernel
theorem dX6_toJoin_61 : decode cX6_toJoin 61 = .ok (.if_icmp .eq 7, 3) := by decide +kernel
theorem dX6_toJoin_64 : decode cX6_toJoin 64 = .ok (.iconst 1, 1) := by decide +kernel
theorem dX6_toJoin_65 : decode cX6_toJoin 65 = .ok (.goto 4, 3) := by decide +kernel
theorem dX6_toJoin_68 : decode cX6_toJoin 68 = .ok (.iconst 0, 1) := by decide +kernel
theorem dX6_toJoin_69 : decode cX6_toJoin 69 = .ok (.istore 6, 2) := by decide +kernel
theorem dX6_toJoin_71 : decode cX6_toJoin 71 = .ok (.aload_n 0, 1) := by decide +kernel
theorem dX6_toJoin_72 : decode cX6_toJoin 72 = .ok (.getfield 37, 3) := by decide +kernel
theorem dX6_toJoin_75 : decode cX6_toJoin 75 = .ok (.iload 5, 2) := by decide +kernel
theorem dX6_toJoin_77 : decode cX6_toJoin 77 = .ok (.iaload, 1) := by decide +kernel
theorem dX6_toJoin_78 : decode cX6_toJoin 78 = .ok (.ifCond .ne 24, 3) := by decide +kernel
theorem dX6_toJoin_81 : decode cX6_toJoin 81 = .ok (.aload_n 0, 1) := by decide +kernel
theorem dX6_toJoin_82 : decode cX6_toJoin 82 = .ok (.getfield 25, 3) := by decide +kernel
theorem dX6_toJoin_85 : decode cX6_toJoin 85 = .ok (.iload 5, 2) := by decide +kernel
theorem dX6_toJoin_87 : decode cX6_toJoin 87 = .ok (.iaload, 1) := by decide +kernel
theorem dX6_toJoin_88 : decode cX6_toJoin 88 = .ok (.iload_n 3, 1) := by decide +kernel
theorem dX6_toJoin_89 : decode cX6_toJoin 89 = .ok (.if_icmp .lt 13, 3) := by decide +kernel
theorem dX6_toJoin_92 : decode cX6_toJoin 92 = .ok (.iload 6, 2) := by decide +kernel
theorem dX6_toJoin_94 : decode cX6_toJoin 94 = .ok (.ifCond .ne 8, 3) := by decide +kernel
theorem dX6_toJoin_97 : decode cX6_toJoin 97 = .ok (.iload 5, 2) := by decide +kernel
theorem dX6_toJoin_99 : decode cX6_toJoin 99 = .ok (.goto 4, 3) := by decide +kernel
theorem dX6_toJoin_102 : decode cX6_toJoin 102 = .ok (.iconst (-1), 1) := by decide +kernel
theorem dX6_toJoin_103 : decode cX6_toJoin 103 = .ok (.ireturn, 1) := by decide +kernel
theorem dX6_toJoin_104 : decode cX6_toJoin 104 = .ok (.iinc 5 (-1), 3) := by decide +kernel
theorem dX6_toJoin_107 : decode cX6_toJoin 107 = .ok (.goto (-99), 3) := by decide +kernel
theorem dX6_toJoin_110 : decode cX6_toJoin 110 = .ok (.iconst (-1), 1) := by decide +kernel
theorem dX6_toJoin_111 : decode cX6_toJoin 111 = .ok (.ireturn, 1) := by decide +kernel
abbrev m_X6_toJoin : MD := (yX6_toJoin, cX6_toJoin, 7, (some .int))

abbrev w_X6_toJoin (g : GT) (h0 h1 h2 h3 h4 h5 : Nat) (v0_1 v0_6 v0_7 v0_9 v0_10 v0_11 v0_12 : Value) (count0 : Int32) (gantry1 lane2 state3 tag4 time5 : Nat → Int32) : va_W := [(h0, .inr (6, [.int count0, v0_1, .ref h1, .ref h2, .ref h5, .ref h4, v0_6, v0_7, .ref h3, v0_9, v0_10, v0_11, v0_12])), (h1, aI g 80 gantry1), (h2, aI g 80 lane2), (h3, aI g 80 state3), (h4, aI g 80 tag4), (h5, aI g 80 time5)]
def f_X6_toJoin_b104 (F : Nat) (k8 : (Int32 × Int32 × Int32 × Int32 × Int32) → Option (Int32)) (count0 : Int32) (gantry1 lane2 state3 tag4 time5 : Nat → Int32) (x1 x2 x3 x4 x5 : Int32) : Option (Int32) :=
  k8 (x1, x2, x3, x4, x5 + (-1))
def f_X6_toJoin_b103 (F : Nat) (k8 : (Int32 × Int32 × Int32 × Int32 × Int32) → Option (Int32)) (count0 : Int32) (gantry1 lane2 state3 tag4 time5 : Nat → Int32) (s0 : Int32) : Option (Int32) :=
  some s0
def f_X6_toJoin_b102 (F : Nat) (k8 : (Int32 × Int32 × Int32 × Int32 × Int32) → Option (Int32)) (count0 : Int32) (gantry1 lane2 state3 tag4 time5 : Nat → Int32) : Option (Int32) :=
  f_X6_toJoin_b103 F k8 count0 gantry1 lane2 state3 tag4 time5 (-1)
def f_X6_toJoin_b69 (F : Nat) (k8 : (Int32 × Int32 × Int32 × Int32 × Int32) → Option (Int32)) (count0 : Int32) (gantry1 lane2 state3 tag4 time5 : Nat → Int32) (x3 x5 s0 : Int32) : Option (Int32) :=
  rd state3 80 x5 fun a1 =>
  if a1 = 0 then
    rd time5 80 x5 fun a3 =>
    if a3 < x3 then
      f_X6_toJoin_b102 F k8 count0 gantry1 lane2 state3 tag4 time5
    else
      if s0 = 0 then
        f_X6_toJoin_b103 F k8 count0 gantry1 lane2 state3 tag4 time5 x5
      else
        f_X6_toJoin_b102 F k8 count0 gantry1 lane2 state3 tag4 time5
  else
    f_X6_toJoin_b102 F k8 count0 gantry1 lane2 state3 tag4 time5
def f_X6_toJoin_b68 (F : Nat) (k8 : (Int32 × Int32 × Int32 × Int32 × Int32) → Option (Int32)) (count0 : Int32) (gantry1 lane2 state3 tag4 time5 : Nat → Int32) (x3 x5 : Int32) : Option (Int32) :=
  f_X6_toJoin_b69 F k8 count0 gantry1 lane2 state3 tag4 time5 x3 x5 0
def f_X6_toJoin_h8 (F : Nat) (count0 : Int32) (gantry1 lane2 state3 tag4 time5 : Nat → Int32) (k8 : (Int32 × Int32 × Int32 × Int32 × Int32) → Option (Int32)) (x1 x2 x3 x4 x5 : Int32) : Option (Int32) :=
  if x5 < 0 then
    some (-1)
  else
    rd gantry1 80 x5 fun a7 =>
    if a7 = x1 then
      rd lane2 80 x5 fun a9 =>
      if a9 = x2 then
        if x4 = (-1) then
          f_X6_toJoin_b68 F k8 count0 gantry1 lane2 state3 tag4 time5 x3 x5
        else
          rd tag4 80 x5 fun a12 =>
          if a12 = (-1) then
            f_X6_toJoin_b68 F k8 count0 gantry1 lane2 state3 tag4 time5 x3 x5
          else
            rd tag4 80 x5 fun a14 =>
            if a14 = x4 then
              f_X6_toJoin_b68 F k8 count0 gantry1 lane2 state3 tag4 time5 x3 x5
            else
              f_X6_toJoin_b69 F k8 count0 gantry1 lane2 state3 tag4 time5 x3 x5 1
      else
        f_X6_toJoin_b104 F k8 count0 gantry1 lane2 state3 tag4 time5 x1 x2 x3 x4 x5
    else
      f_X6_toJoin_b104 F k8 count0 gantry1 lane2 state3 tag4 time5 x1 x2 x3 x4 x5
def f_X6_toJoin_L8 (F : Nat) (count0 : Int32) (gantry1 lane2 state3 tag4 time5 : Nat → Int32) (z : Int32 × Int32 × Int32 × Int32 × Int32) : Option (Int32) := lp (fun k z => f_X6_toJoin_h8 F count0 gantry1 lane2 state3 tag4 time5 k z.1 z.2.1 z.2.2.1 z.2.2.2.1 z.2.2.2.2) F z
def f_X6_toJoin (F : Nat) (p1 p2 p3 p4 count0 : Int32) (gantry1 lane2 state3 tag4 time5 : Nat → Int32) : Option (Int32) :=
  f_X6_toJoin_L8 F count0 gantry1 lane2 state3 tag4 time5 (p1, p2, p3, p4, count0 - 1)
set_option maxHeartbeats 4000000 in
set_option maxRecDepth 100000 in
theorem c_X6_toJoin (l : Launch) (g : GT) (F : Nat) (h0 h1 h2 h3 h4 h5 : Nat) (v0_1 v0_6 v0_7 v0_9 v0_10 v0_11 v0_12 : Value) (p1 p2 p3 p4 count0 : Int32) (gantry1 lane2 state3 tag4 time5 : Nat → Int32) (r : Int32) (sz : Nat) (hf : f_X6_toJoin F p1 p2 p3 p4 count0 gantry1 lane2 state3 tag4 time5 = some r) : CI l m_X6_toJoin (rml 0 0 0) g (w_X6_toJoin g h0 h1 h2 h3 h4 h5 v0_1 v0_6 v0_7 v0_9 v0_10 v0_11 v0_12 count0 gantry1 lane2 state3 tag4 time5) (fun _ => w_X6_toJoin g h0 h1 h2 h3 h4 h5 v0_1 v0_6 v0_7 v0_9 v0_10 v0_11 v0_12 count0 gantry1 lane2 state3 tag4 time5) sz [.ref h0, .int p1, .int p2, .int p3, .int p4] r := by
  refine en_i (by decide) (Nat.le_of_ble_eq_true rfl) (fun p e s m args below meth c A ls C w hl => ?_)
  have C : Cx p s m args meth c RX6 m_X6_toJoin g A := C
  have hx := C.1
  have hb : c.code = cX6_toJoin := C.2.1
  have hl : lv_has ls 7 [(0, .ref h0), (1, .int p1), (2, .int p2), (3, .int p3), (4, .int p4)] := hl
  obtain ⟨Q, hQ⟩ : ∃ Q, Q = QI below args s g A (fun _ => w_X6_toJoin g h0 h1 h2 h3 h4 h5 v0_1 v0_6 v0_7 v0_9 v0_10 v0_11 v0_12 count0 gantry1 lane2 state3 tag4 time5) r 0 0 := ⟨_, rfl⟩
  suffices hW : W p l e (rml 0 0 0) s m args below meth c s.heap [] 0 0 Q (F0 m 0 ls []) from (by rw [hQ] at hW; exact hW)
  unfold f_X6_toJoin at hf
  have L8 : ∀ (z : Int32 × Int32 × Int32 × Int32 × Int32), f_X6_toJoin_L8 F count0 gantry1 lane2 state3 tag4 time5 z = some r → ∀ (H : Heap) (locs : List Loc) (ls : Array Slot), Wd g A (w_X6_toJoin g h0 h1 h2 h3 h4 h5 v0_1 v0_6 v0_7 v0_9 v0_10 v0_11 v0_12 count0 gantry1 lane2 state3 tag4 time5) s.heap H locs → lv_has ls 7 [(0, .ref h0), (1, .int z.1), (2, .int z.2.1), (3, .int z.2.2.1), (4, .int z.2.2.2.1), (5, .int z.2.2.2.2)] → W p l e (rml 0 0 0) s m args below meth c H locs 0 0 Q (F0 m 8 ls []) := by
    intro z hf
    refine lp_W (r := r) (fun (z : Int32 × Int32 × Int32 × Int32 × Int32) => ∀ (H : Heap) (locs : List Loc) (ls : Array Slot), Wd g A (w_X6_toJoin g h0 h1 h2 h3 h4 h5 v0_1 v0_6 v0_7 v0_9 v0_10 v0_11 v0_12 count0 gantry1 lane2 state3 tag4 time5) s.heap H locs → lv_has ls 7 [(0, .ref h0), (1, .int z.1), (2, .int z.2.1), (3, .int z.2.2.1), (4, .int z.2.2.2.1), (5, .int z.2.2.2.2)] → W p l e (rml 0 0 0) s m args below meth c H locs 0 0 Q (F0 m 8 ls [])) (fun k8 z ih8 hf => ?_) F z hf
    obtain ⟨x1, x2, x3, x4, x5⟩ := z
    intro H locs ls w hl
    try dsimp only at hf w hl ⊢
    unfold f_X6_toJoin_h8 at hf
    have b104 : ∀ (x1 x2 x3 x4 x5 : Int32) (H : Heap) (locs : List Loc) (ls : Array Slot), f_X6_toJoin_b104 F k8 count0 gantry1 lane2 state3 tag4 time5 x1 x2 x3 x4 x5 = some r → Wd g A (w_X6_toJoin g h0 h1 h2 h3 h4 h5 v0_1 v0_6 v0_7 v0_9 v0_10 v0_11 v0_12 count0 gantry1 lane2 state3 tag4 time5) s.heap H locs → lv_has ls 7 [(0, .ref h0), (1, .int x1), (2, .int x2), (3, .int x3), (4, .int x4), (5, .int x5)] → W p l e (rml 0 0 0) s m args below meth c H locs 0 0 Q (F0 m 104 ls []) := by
      intro x1 x2 x3 x4 x5 H locs ls hf w hl
      unfold f_X6_toJoin_b104 at hf
      refine lv_iinc (v := x5 + (-1)) (lv' := [(5, .int (x5 + (-1))), (0, .ref h0), (1, .int x1), (2, .int x2), (3, .int x3), (4, .int x4)]) hx hb dX6_toJoin_104 hl (k := 5) rfl rfl (by decide) rfl (fun ls hl => ?_)
      refine lv_goto (tgt := 8) hx hb dX6_toJoin_107 (by decide) ?_
      exact ih8 (x1, x2, x3, x4, x5 + (-1)) hf _ _ _ w (lv_sub hl [1, 2, 3, 4, 5, 0] rfl)
    have b103 : ∀ (s0 : Int32) (H : Heap) (locs : List Loc) (ls : Array Slot), f_X6_toJoin_b103 F k8 count0 gantry1 lane2 state3 tag4 time5 s0 = some r → Wd g A (w_X6_toJoin g h0 h1 h2 h3 h4 h5 v0_1 v0_6 v0_7 v0_9 v0_10 v0_11 v0_12 count0 gantry1 lane2 state3 tag4 time5) s.heap H locs → lv_has ls 7 [] → W p l e (rml 0 0 0) s m args below meth c H locs 0 0 Q (F0 m 103 ls [.int s0]) := by
      intro s0 H locs ls hf w hl
      unfold f_X6_toJoin_b103 at hf
      obtain e1 := tp1 hf
      rw [hQ]
      exact rt_i C w rfl (fun _ => 0) rfl e1 dX6_toJoin_103
    have b102 : ∀ (H : Heap) (locs : List Loc) (ls : Array Slot), f_X6_toJoin_b102 F k8 count0 gantry1 lane2 state3 tag4 time5 = some r → Wd g A (w_X6_toJoin g h0 h1 h2 h3 h4 h5 v0_1 v0_6 v0_7 v0_9 v0_10 v0_11 v0_12 count0 gantry1 lane2 state3 tag4 time5) s.heap H locs → lv_has ls 7 [] → W p l e (rml 0 0 0) s m args below meth c H locs 0 0 Q (F0 m 102 ls []) := by
      intro  H locs ls hf w hl
      unfold f_X6_toJoin_b102 at hf
      refine lv_iconst (v := -1) hx hb dX6_toJoin_102 (by decide) ?_
      exact b103 (-1) _ _ _ hf w (lv_sub hl [] rfl)
    have b69 : ∀ (x3 x5 s0 : Int32) (H : Heap) (locs : List Loc) (ls : Array Slot), f_X6_toJoin_b69 F k8 count0 gantry1 lane2 state3 tag4 time5 x3 x5 s0 = some r → Wd g A (w_X6_toJoin g h0 h1 h2 h3 h4 h5 v0_1 v0_6 v0_7 v0_9 v0_10 v0_11 v0_12 count0 gantry1 lane2 state3 tag4 time5) s.heap H locs → lv_has ls 7 [(0, .ref h0), (3, .int x3), (5, .int x5)] → W p l e (rml 0 0 0) s m args below meth c H locs 0 0 Q (F0 m 69 ls [.int s0]) := by
      intro x3 x5 s0 H locs ls hf w hl
      unfold f_X6_toJoin_b69 at hf
      refine lv_istore (lv' := [(6, .int s0), (0, .ref h0), (3, .int x3), (5, .int x5)]) hx hb dX6_toJoin_69 hl (by decide) rfl (fun ls hl => ?_)
      refine lv_aload_n hx hb dX6_toJoin_71 rfl (lv_at hl 1 rfl) ?_
      refine g_X6_37 C w 0 rfl rfl dX6_toJoin_72 ?_
      refine lv_iload hx hb dX6_toJoin_75 (lv_at hl 3 rfl) ?_
      obtain ⟨a1, hia1, haa1, hf⟩ := rd_some hf
      refine ial C w 3 rfl hia1 haa1 dX6_toJoin_77 ?_
      refine lv_if_ne (tgt := 102) hx hb dX6_toJoin_78 (by decide) (fun c2 => ?_) (fun c2 => ?_)
      · replace hf := it_f c2 hf
        exact b102  _ _ _ hf w (lv_sub hl [] rfl)
      · replace hf := it_t c2 hf
        refine lv_aload_n hx hb dX6_toJoin_81 rfl (lv_at hl 1 rfl) ?_
        refine g_X6_25 C w 0 rfl rfl dX6_toJoin_82 ?_
        refine lv_iload hx hb dX6_toJoin_85 (lv_at hl 3 rfl) ?_
        obtain ⟨a3, hia3, haa3, hf⟩ := rd_some hf
        refine ial C w 5 rfl hia3 haa3 dX6_toJoin_87 ?_
        refine lv_iload_n hx hb dX6_toJoin_88 rfl (lv_at hl 2 rfl) ?_
        refine lv_icmp_lt (tgt := 102) hx hb dX6_toJoin_89 (by decide) (fun c4 => ?_) (fun c4 => ?_)
        · replace hf := it_t c4 hf
          exact b102  _ _ _ hf w (lv_sub hl [] rfl)
        · replace hf := it_f c4 hf
          refine lv_iload hx hb dX6_toJoin_92 (lv_at hl 0 rfl) ?_
          refine lv_if_ne (tgt := 102) hx hb dX6_toJoin_94 (by decide) (fun c5 => ?_) (fun c5 => ?_)
          · replace hf := it_f c5 hf
            exact b102  _ _ _ hf w (lv_sub hl [] rfl)
          · replace hf := it_t c5 hf
            refine lv_iload hx hb dX6_toJoin_97 (lv_at hl 3 rfl) ?_
            refine lv_goto (tgt := 103) hx hb dX6_toJoin_99 (by decide) ?_
            exact b103 x5 _ _ _ hf w (lv_sub hl [] rfl)
    have b68 : ∀ (x3 x5 : Int32) (H : Heap) (locs : List Loc) (ls : Array Slot), f_X6_toJoin_b68 F k8 count0 gantry1 lane2 state3 tag4 time5 x3 x5 = some r → Wd g A (w_X6_toJoin g h0 h1 h2 h3 h4 h5 v0_1 v0_6 v0_7 v0_9 v0_10 v0_11 v0_12 count0 gantry1 lane2 state3 tag4 time5) s.heap H locs → lv_has ls 7 [(0, .ref h0), (3, .int x3), (5, .int x5)] → W p l e (rml 0 0 0) s m args below meth c H locs 0 0 Q (F0 m 68 ls []) := by
      intro x3 x5 H locs ls hf w hl
      unfold f_X6_toJoin_b68 at hf
      refine lv_iconst (v := 0) hx hb dX6_toJoin_68 (by decide) ?_
      exact b69 x3 x5 0 _ _ _ hf w (lv_sub hl [0, 1, 2] rfl)
    refine lv_iload hx hb dX6_toJoin_8 (lv_at hl 5 rfl) ?_
    refine lv_if_lt (tgt := 110) hx hb dX6_toJoin_10 (by decide) (fun c6 => ?_) (fun c6 => ?_)
    · replace hf := it_t c6 hf
      refine lv_iconst (v := -1) hx hb dX6_toJoin_110 (by decide) ?_
      obtain e1 := tp1 hf
      rw [hQ]
      exact rt_i C w rfl (fun _ => 0) rfl e1 dX6_toJoin_111
    · replace hf := it_f c6 hf
      refine lv_aload_n hx hb dX6_toJoin_13 rfl (lv_at hl 0 rfl) ?_
      refine g_X6_18 C w 0 rfl rfl dX6_toJoin_14 ?_
      refine lv_iload hx hb dX6_toJoin_17 (lv_at hl 5 rfl) ?_
      obtain ⟨a7, hia7, haa7, hf⟩ := rd_some hf
      refine ial C w 1 rfl hia7 haa7 dX6_toJoin_19 ?_
      refine lv_iload_n hx hb dX6_toJoin_20 rfl (lv_at hl 1 rfl) ?_
      refine lv_icmp_ne (tgt := 104) hx hb dX6_toJoin_21 (by decide) (fun c8 => ?_) (fun c8 => ?_)
      · replace hf := it_f c8 hf
        exact b104 x1 x2 x3 x4 x5 _ _ _ hf w (lv_sub hl [0, 1, 2, 3, 4, 5] rfl)
      · replace hf := it_t c8 hf
        refine lv_aload_n hx hb dX6_toJoin_24 rfl (lv_at hl 0 rfl) ?_
        refine g_X6_22 C w 0 rfl rfl dX6_toJoin_25 ?_
        refine lv_iload hx hb dX6_toJoin_28 (lv_at hl 5 rfl) ?_
        obtain ⟨a9, hia9, haa9, hf⟩ := rd_some hf
        refine ial C w 2 rfl hia9 haa9 dX6_toJoin_30 ?_
        refine lv_iload_n hx hb dX6_toJoin_31 rfl (lv_at hl 2 rfl) ?_
        refine lv_icmp_ne (tgt := 104) hx hb dX6_toJoin_32 (by decide) (fun c10 => ?_) (fun c10 => ?_)
        · replace hf := it_f c10 hf
          exact b104 x1 x2 x3 x4 x5 _ _ _ hf w (lv_sub hl [0, 1, 2, 3, 4, 5] rfl)
        · replace hf := it_t c10 hf
          refine lv_iload hx hb dX6_toJoin_35 (lv_at hl 4 rfl) ?_
          refine lv_iconst (v := -1) hx hb dX6_toJoin_37 (by decide) ?_
          refine lv_icmp_eq (tgt := 68) hx hb dX6_toJoin_38 (by decide) (fun c11 => ?_) (fun c11 => ?_)
          · replace hf := it_t c11 hf
            exact b68 x3 x5 _ _ _ hf w (lv_sub hl [0, 3, 5] rfl)
          · replace hf := it_f c11 hf
            refine lv_aload_n hx hb dX6_toJoin_41 rfl (lv_at hl 0 rfl) ?_
            refine g_X6_28 C w 0 rfl rfl dX6_toJoin_42 ?_
            refine lv_iload hx hb dX6_toJoin_45 (lv_at hl 5 rfl) ?_
            obtain ⟨a12, hia12, haa12, hf⟩ := rd_some hf
            refine ial C w 4 rfl hia12 haa12 dX6_toJoin_47 ?_
            refine lv_iconst (v := -1) hx hb dX6_toJoin_48 (by decide) ?_
            refine lv_icmp_eq (tgt := 68) hx hb dX6_toJoin_49 (by decide) (fun c13 => ?_) (fun c13 => ?_)
            · replace hf := it_t c13 hf
              exact b68 x3 x5 _ _ _ hf w (lv_sub hl [0, 3, 5] rfl)
            · replace hf := it_f c13 hf
              refine lv_aload_n hx hb dX6_toJoin_52 rfl (lv_at hl 0 rfl) ?_
              refine g_X6_28 C w 0 rfl rfl dX6_toJoin_53 ?_
              refine lv_iload hx hb dX6_toJoin_56 (lv_at hl 5 rfl) ?_
              obtain ⟨a14, hia14, haa14, hf⟩ := rd_some hf
              refine ial C w 4 rfl hia14 haa14 dX6_toJoin_58 ?_
              refine lv_iload hx hb dX6_toJoin_59 (lv_at hl 4 rfl) ?_
              refine lv_icmp_eq (tgt := 68) hx hb dX6_toJoin_61 (by decide) (fun c15 => ?_) (fun c15 => ?_)
              · replace hf := it_t c15 hf
                exact b68 x3 x5 _ _ _ hf w (lv_sub hl [0, 3, 5] rfl)
              · replace hf := it_f c15 hf
                refine lv_iconst (v := 1) hx hb dX6_toJoin_64 (by decide) ?_
                refine lv_goto (tgt := 69) hx hb dX6_toJoin_65 (by decide) ?_
                exact b69 x3 x5 1 _ _ _ hf w (lv_sub hl [0, 3, 5] rfl)
  refine lv_aload_n hx hb dX6_toJoin_0 rfl (lv_at hl 0 rfl) ?_
  refine g_X6_9 C w 0 rfl rfl dX6_toJoin_1 ?_
  refine lv_iconst (v := 1) hx hb dX6_toJoin_4 (by decide) ?_
  refine lv_isub hx hb dX6_toJoin_5 ?_
  refine lv_istore (lv' := [(5, .int (count0 - 1)), (0, .ref h0), (1, .int p1), (2, .int p2), (3, .int p3), (4, .int p4)]) hx hb dX6_toJoin_6 hl (by decide) rfl (fun ls hl => ?_)
  exact L8 (p1, p2, p3, p4, count0 - 1) hf _ _ _ w (lv_sub hl [1, 2, 3, 4, 5, 0] rfl)

theorem dX6_begin_0 : decode cX6_begin 0 = .ok (.aload_n 0, 1) := by decide +kernel
theorem dX6_begin_1 : decode cX6_begin 1 = .ok (.getfield 9, 3) := by decide +kernel
theorem dX6_begin_4 : decode cX6_begin 4 = .ok (.bipush 79, 2) := by decide +kernel
theorem dX6_begin_6 : decode cX6_begin 6 = .ok (.invokestatic 58, 3) := by decide +kernel
theorem dX6_begin_9 : decode cX6_begin 9 = .ok (.istore 4, 2) := by decide +kernel
theorem dX6_begin_11 : decode cX6_begin 11 = .ok (.aload_n 0, 1) := by decide +kernel
theorem dX6_begin_12 : decode cX6_begin 12 = .ok (.getfield 18, 3) := by decide +kernel
theorem dX6_begin_15 : decode cX6_begin 15 = .ok (.iload 4, 2) := by decide +kernel
theorem dX6_begin_17 : decode cX6_begin 17 = .ok (.iload_n 1, 1) := by decide +kernel
theorem dX6_begin_18 : decode cX6_begin 18 = .ok (.iastore, 1) := by decide +kernel
theorem dX6_begin_19 : decode cX6_begin 19 = .ok (.aload_n 0, 1) := by decide +kernel
theorem dX6_begin_20 : decode cX6_begin 20 = .ok (.getfield 22, 3) := by decide +kernel
theorem dX6_begin_23 : decode cX6_begin 23 = .ok (.iload 4, 2) := by decide +kernel
theorem dX6_begin_25 : decode cX6_begin 25 = .ok (.iload_n 2, 1) := by decide +kernel
theorem dX6_begin_26 : decode cX6_begin 26 = .ok (.iastore, 1) := by decide +kernel
theorem dX6_begin_27 : decode cX6_begin 27 = .ok (.aload_n 0, 1) := by decide +kernel
theorem dX6_begin_28 : decode cX6_begin 28 = .ok (.getfield 25, 3) := by decide +kernel
theorem dX6_begin_31 : decode cX6_begin 31 = .ok (.iload 4, 2) := by decide +kernel
theorem dX6_begin_33 : decode cX6_begin 33 = .ok (.iload_n 3, 1) := by decide +kernel
theorem dX6_begin_34 : decode cX6_begin 34 = .ok (.iastore, 1) := by decide +kernel
theorem dX6_begin_35 : decode cX6_begin 35 = .ok (.aload_n 0, 1) := by decide +kernel
theorem dX6_begin_36 : decode cX6_begin 36 = .ok (.getfield 28, 3) := by decide +kernel
theorem dX6_begin_39 : decode cX6_begin 39 = .ok (.iload 4, 2) := by decide +kernel
theorem dX6_begin_41 : decode cX6_begin 41 = .ok (.iconst (-1), 1) := by decide +kernel
theorem dX6_begin_42 : decode cX6_begin 42 = .ok (.iastore, 1) := by decide +kernel
theorem dX6_begin_43 : decode cX6_begin 43 = .ok (.aload_n 0, 1) := by decide +kernel
theorem dX6_begin_44 : decode cX6_begin 44 = .ok (.getfield 31, 3) := by decide +kernel
theorem dX6_begin_47 : decode cX6_begin 47 = .ok (.iload 4, 2) := by decide +kernel
theorem dX6_begin_49 : decode cX6_begin 49 = .ok (.iconst (-1), 1) := by decide +kernel
theorem dX6_begin_50 : decode cX6_begin 50 = .ok (.iastore, 1) := by decide +kernel
theorem dX6_begin_51 : decode cX6_begin 51 = .ok (.aload_n 0, 1) := by decide +kernel
theorem dX6_begin_52 : decode cX6_begin 52 = .ok (.getfield 34, 3) := by decide +kernel
theorem dX6_begin_55 : decode cX6_begin 55 = .ok (.iload 4, 2) := by decide +kernel
theorem dX6_begin_57 : decode cX6_begin 57 = .ok (.iconst (-1), 1) := by decide +kernel
theorem dX6_begin_58 : decode cX6_begin 58 = .ok (.iastore, 1) := by decide +kernel
theorem dX6_begin_59 : decode cX6_begin 59 = .ok (.aload_n 0, 1) := by decide +kernel
theorem dX6_begin_60 : decode cX6_begin 60 = .ok (.getfield 37, 3) := by decide +kernel
theorem dX6_begin_63 : decode cX6_begin 63 = .ok (.iload 4, 2) := by decide +kernel
theorem dX6_begin_65 : decode cX6_begin 65 = .ok (.iconst 0, 1) := by decide +kernel
theorem dX6_begin_66 : decode cX6_begin 66 = .ok (.iastore, 1) := by decide +kernel
theorem dX6_begin_67 : decode cX6_begin 67 = .ok (.aload_n 0, 1) := by decide +kernel
theorem dX6_begin_68 : decode cX6_begin 68 = .ok (.getfield 40, 3) := by decide +kernel
theorem dX6_begin_71 : decode cX6_begin 71 = .ok (.iload 4, 2) := by decide +kernel
theorem dX6_begin_73 : decode cX6_begin 73 = .ok (.iconst (-1), 1) := by decide +kernel
theorem dX6_begin_74 : decode cX6_begin 74 = .ok (.iastore, 1) := by decide +kernel
theorem dX6_begin_75 : decode cX6_begin 75 = .ok (.iload 4, 2) := by decide +kernel
theorem dX6_begin_77 : decode cX6_begin 77 = .ok (.iconst 4, 1) := by decide +kernel
theorem dX6_begin_78 : decode cX6_begin 78 = .ok (.imul, 1) := by decide +kernel
theorem dX6_begin_79 : decode cX6_begin 79 = .ok (.istore 5, 2) := by decide +kernel
theorem dX6_begin_81 : decode cX6_begin 81 = .ok (.iload 5, 2) := by decide +kernel
theorem dX6_begin_83 : decode cX6_begin 83 = .ok (.iload 4, 2) := by decide +kernel
theorem dX6_begin_85 : decode cX6_begin 85 = .ok (.iconst 1, 1) := by decide +kernel
theorem dX6_begin_86 : decode cX6_begin 86 = .ok (.iadd, 1) := by decide +kernel
theorem dX6_begin_87 : decode cX6_begin 87 = .ok (.iconst 4, 1) := by decide +kernel
theorem dX6_begin_88 : decode cX6_begin 88 = .ok (.imul, 1) := by decide +kernel
theorem dX6_begin_89 : decode cX6_begin 89 = .ok (.if_icmp .ge 25, 3) := by decide +kernel
theorem dX6_begin_92 : decode cX6_begin 92 = .ok (.aload_n 0, 1) := by decide +kernel
theorem dX6_begin_93 : decode cX6_begin 93 = .ok (.getfield 43, 3) := by decide +kernel
theorem dX6_begin_96 : decode cX6_begin 96 = .ok (.iload 5, 2) := by decide +kernel
theorem dX6_begin_98 : decode cX6_begin 98 = .ok (.iconst 0, 1) := by decide +kernel
theorem dX6_begin_99 : decode cX6_begin 99 = .ok (.iastore, 1) := by decide +kernel
theorem dX6_begin_100 : decode cX6_begin 100 = .ok (.aload_n 0, 1) := by decide +kernel
theorem dX6_begin_101 : decode cX6_begin 101 = .ok (.getfield 46, 3) := by decide +kernel
theorem dX6_begin_104 : decode cX6_begin 104 = .ok (.iload 5, 2) := by decide +kernel
theorem dX6_begin_106 : decode cX6_begin 106 = .ok (.iconst 0, 1) := by decide +kernel
theorem dX6_begin_107 : decode cX6_begin 107 = .ok (.iastore, 1) := by decide +kernel
theorem dX6_begin_108 : decode cX6_begin 108 = .ok (.iinc 5 1, 3) := by decide +kernel
theorem dX6_begin_111 : decode cX6_begin 111 = .ok (.goto (-30), 3) := by decide +kernel
theorem dX6_begin_114 : decode cX6_begin 114 = .ok (.iload 4, 2) := by decide +kernel
theorem dX6_begin_116 : decode cX6_begin 116 = .ok (.bipush 8, 2) := by decide +kernel
theorem dX6_begin_118 : decode cX6_begin 118 = .ok (.imul, 1) := by decide +kernel
theorem dX6_begin_119 : decode cX6_begin 119 = .ok (.istore 5, 2) := by decide +kernel
theorem dX6_begin_121 : decode cX6_begin 121 = .ok (.iload 5, 2) := by decide +kernel
theorem dX6_begin_123 : decode cX6_begin 123 = .ok (.iload 4, 2) := by decide +kernel
theorem dX6_begin_125 : decode cX6_begin 125 = .ok (.iconst 1, 1) := by decide +kernel
theorem dX6_begin_126 : decode cX6_begin 126 = .ok (.iadd, 1) := by decide +kernel
theorem dX6_begin_127 : decode cX6_begin 127 = .ok (.bipush 8, 2) := by decide +kernel
theorem dX6_begin_129 : decode cX6_begin 129 = .ok (.imul, 1) := by decide +kernel
theorem dX6_begin_130 : decode cX6_begin 130 = .ok (.if_icmp .ge 17, 3) := by decide +kernel
theorem dX6_begin_133 : decode cX6_begin 133 = .ok (.aload_n 0, 1) := by decide +kernel
theorem dX6_begin_134 : decode cX6_begin 134 = .ok (.getfield 49, 3) := by decide +kernel
theorem dX6_begin_137 : decode cX6_begin 137 = .ok (.iload 5, 2) := by decide +kernel
theorem dX6_begin_139 : decode cX6_begin 139 = .ok (.iconst 0, 1) := by decide +kernel
theorem dX6_begin_140 : decode cX6_begin 140 = .ok (.iastore, 1) := by decide +kernel
theorem dX6_begin_141 : decode cX6_begin 141 = .ok (.iinc 5 1, 3) := by decide +kernel
theorem dX6_begin_144 : decode cX6_begin 144 = .ok (.goto (-23), 3) := by decide +kernel
theorem dX6_begin_147 : decode cX6_begin 147 = .ok (.aload_n 0, 1) := by decide +kernel
theorem dX6_begin_148 : decode cX6_begin 148 = .ok (.iload 4, 2) := by decide +kernel
theorem dX6_begin_150 : decode cX6_begin 150 = .ok (.iconst 1, 1) := by decide +kernel
theorem dX6_begin_151 : decode cX6_begin 151 = .ok (.iadd, 1) := by decide +kernel
theorem dX6_begin_152 : decode cX6_begin 152 = .ok (.putfield 9, 3) := by decide +kernel
theorem dX6_begin_155 : decode cX6_begin 155 = .ok (.iload 4, 2) := by decide +kernel
theorem dX6_begin_157 : decode cX6_begin 157 = .ok (.ireturn, 1) := by decide +kernel
abbrev m_X6_begin : MD := (yX6_begin, cX6_begin, 6, (some .int))
theorem q_1108 : Cond.methodLink RX6 58 Lib.Math.min.name ∈ TS := ts_t 1108 (by decide +kernel) (by decide +kernel)
theorem q_603 : Cond.static Lib.Math.min.name ∈ TS := ts_t 603 (by decide +kernel) (by decide +kernel)
theorem q_16 : Cond.initialized "java/lang/Math" ∈ TS := ts_t 16 (by decide +kernel) (by decide +kernel)
theorem q_604 : Cond.code Lib.Math.min.name Lib.Math.min.code 2 (some .int) ∈ TS := ts_t 604 (by decide +kernel) (by decide +kernel)
abbrev w_X6_begin (g : GT) (h0 h1 h2 h3 h4 h5 h6 h7 h8 h9 h10 h11 : Nat) (v0_1 : Value) (count0 : Int32) (axleReadings1 gantry2 handAxles3 handPlate4 lane5 plateSums6 readPlates7 state8 tag9 time10 trip11 : Nat → Int32) : va_W := [(h0, .inr (6, [.int count0, v0_1, .ref h2, .ref h5, .ref h10, .ref h9, .ref h4, .ref h3, .ref h8, .ref h11, .ref h7, .ref h6, .ref h1])), (h1, aI g 640 axleReadings1), (h2, aI g 80 gantry2), (h3, aI g 80 handAxles3), (h4, aI g 80 handPlate4), (h5, aI g 80 lane5), (h6, aI g 320 plateSums6), (h7, aI g 320 readPlates7), (h8, aI g 80 state8), (h9, aI g 80 tag9), (h10, aI g 80 time10), (h11, aI g 80 trip11)]
def f_X6_begin_h121 (F : Nat) (k121 : (Int32 × Int32 × Int32 × (Nat → Int32) × (Nat → Int32) × (Nat → Int32) × (Nat → Int32) × (Nat → Int32) × (Nat → Int32) × (Nat → Int32) × (Nat → Int32) × (Nat → Int32) × (Nat → Int32) × (Nat → Int32)) → Option (Int32 × Int32 × (Nat → Int32) × (Nat → Int32) × (Nat → Int32) × (Nat → Int32) × (Nat → Int32) × (Nat → Int32) × (Nat → Int32) × (Nat → Int32) × (Nat → Int32) × (Nat → Int32) × (Nat → Int32))) (x4 x5 count0 : Int32) (axleReadings1 gantry2 handAxles3 handPlate4 lane5 plateSums6 readPlates7 state8 tag9 time10 trip11 : Nat → Int32) : Option (Int32 × Int32 × (Nat → Int32) × (Nat → Int32) × (Nat → Int32) × (Nat → Int32) × (Nat → Int32) × (Nat → Int32) × (Nat → Int32) × (Nat → Int32) × (Nat → Int32) × (Nat → Int32) × (Nat → Int32)) :=
  if ((x4 + 1) * 8) ≤ x5 then
    some (x4, x4 + 1, axleReadings1, gantry2, handAxles3, handPlate4, lane5, plateSums6, readPlates7, state8, tag9, time10, trip11)
  else
    wr axleReadings1 640 x5 0 fun f2 =>
    k121 (x4, x5 + 1, count0, f2, gantry2, handAxles3, handPlate4, lane5, plateSums6, readPlates7, state8, tag9, time10, trip11)
def f_X6_begin_L121 (F : Nat) (z : Int32 × Int32 × Int32 × (Nat → Int32) × (Nat → Int32) × (Nat → Int32) × (Nat → Int32) × (Nat → Int32) × (Nat → Int32) × (Nat → Int32) × (Nat → Int32) × (Nat → Int32) × (Nat → Int32) × (Nat → Int32)) : Option (Int32 × Int32 × (Nat → Int32) × (Nat → Int32) × (Nat → Int32) × (Nat → Int32) × (Nat → Int32) × (Nat → Int32) × (Nat → Int32) × (Nat → Int32) × (Nat → Int32) × (Nat → Int32) × (Nat → Int32)) := lp (fun k z => f_X6_begin_h121 F k z.1 z.2.1 z.2.2.1 z.2.2.2.1 z.2.2.2.2.1 z.2.2.2.2.2.1 z.2.2.2.2.2.2.1 z.2.2.2.2.2.2.2.1 z.2.2.2.2.2.2.2.2.1 z.2.2.2.2.2.2.2.2.2.1 z.2.2.2.2.2.2.2.2.2.2.1 z.2.2.2.2.2.2.2.2.2.2.2.1 z.2.2.2.2.2.2.2.2.2.2.2.2.1 z.2.2.2.2.2.2.2.2.2.2.2.2.2) F z
def f_X6_begin_h81 (F : Nat) (k81 : (Int32 × Int32 × Int32 × (Nat → Int32) × (Nat → Int32) × (Nat → Int32) × (Nat → Int32) × (Nat → Int32) × (Nat → Int32) × (Nat → Int32) × (Nat → Int32) × (Nat → Int32) × (Nat → Int32) × (Nat → Int32)) → Option (Int32 × Int32 × (Nat → Int32) × (Nat → Int32) × (Nat → Int32) × (Nat → Int32) × (Nat → Int32) × (Nat → Int32) × (Nat → Int32) × (Nat → Int32) × (Nat → Int32) × (Nat → Int32) × (Nat → Int32))) (x4 x5 count0 : Int32) (axleReadings1 gantry2 handAxles3 handPlate4 lane5 plateSums6 readPlates7 state8 tag9 time10 trip11 : Nat → Int32) : Option (Int32 × Int32 × (Nat → Int32) × (Nat → Int32) × (Nat → Int32) × (Nat → Int32) × (Nat → Int32) × (Nat → Int32) × (Nat → Int32) × (Nat → Int32) × (Nat → Int32) × (Nat → Int32) × (Nat → Int32)) :=
  if ((x4 + 1) * 4) ≤ x5 then
    f_X6_begin_L121 F (x4, x4 * 8, count0, axleReadings1, gantry2, handAxles3, handPlate4, lane5, plateSums6, readPlates7, state8, tag9, time10, trip11)
  else
    wr readPlates7 320 x5 0 fun f4 =>
    wr plateSums6 320 x5 0 fun f5 =>
    k81 (x4, x5 + 1, count0, axleReadings1, gantry2, handAxles3, handPlate4, lane5, f5, f4, state8, tag9, time10, trip11)
def f_X6_begin_L81 (F : Nat) (z : Int32 × Int32 × Int32 × (Nat → Int32) × (Nat → Int32) × (Nat → Int32) × (Nat → Int32) × (Nat → Int32) × (Nat → Int32) × (Nat → Int32) × (Nat → Int32) × (Nat → Int32) × (Nat → Int32) × (Nat → Int32)) : Option (Int32 × Int32 × (Nat → Int32) × (Nat → Int32) × (Nat → Int32) × (Nat → Int32) × (Nat → Int32) × (Nat → Int32) × (Nat → Int32) × (Nat → Int32) × (Nat → Int32) × (Nat → Int32) × (Nat → Int32)) := lp (fun k z => f_X6_begin_h81 F k z.1 z.2.1 z.2.2.1 z.2.2.2.1 z.2.2.2.2.1 z.2.2.2.2.2.1 z.2.2.2.2.2.2.1 z.2.2.2.2.2.2.2.1 z.2.2.2.2.2.2.2.2.1 z.2.2.2.2.2.2.2.2.2.1 z.2.2.2.2.2.2.2.2.2.2.1 z.2.2.2.2.2.2.2.2.2.2.2.1 z.2.2.2.2.2.2.2.2.2.2.2.2.1 z.2.2.2.2.2.2.2.2.2.2.2.2.2) F z
def f_X6_begin (F : Nat) (p1 p2 p3 count0 : Int32) (axleReadings1 gantry2 handAxles3 handPlate4 lane5 plateSums6 readPlates7 state8 tag9 time10 trip11 : Nat → Int32) : Option (Int32 × Int32 × (Nat → Int32) × (Nat → Int32) × (Nat → Int32) × (Nat → Int32) × (Nat → Int32) × (Nat → Int32) × (Nat → Int32) × (Nat → Int32) × (Nat → Int32) × (Nat → Int32) × (Nat → Int32)) :=
  wr gantry2 80 (if 79 < count0 then 79 else count0) p1 fun f6 =>
  wr lane5 80 (if 79 < count0 then 79 else count0) p2 fun f7 =>
  wr time10 80 (if 79 < count0 then 79 else count0) p3 fun f8 =>
  wr tag9 80 (if 79 < count0 then 79 else count0) (-1) fun f9 =>
  wr handPlate4 80 (if 79 < count0 then 79 else count0) (-1) fun f10 =>
  wr handAxles3 80 (if 79 < count0 then 79 else count0) (-1) fun f11 =>
  wr state8 80 (if 79 < count0 then 79 else count0) 0 fun f12 =>
  wr trip11 80 (if 79 < count0 then 79 else count0) (-1) fun f13 =>
  f_X6_begin_L81 F ((if 79 < count0 then 79 else count0), (if 79 < count0 then 79 else count0) * 4, count0, axleReadings1, f6, f11, f10, f7, plateSums6, readPlates7, f12, f9, f8, f13)
set_option maxHeartbeats 4000000 in
set_option maxRecDepth 100000 in
theorem c_X6_begin (l : Launch) (g : GT) (F : Nat) (h0 h1 h2 h3 h4 h5 h6 h7 h8 h9 h10 h11 : Nat) (v0_1 : Value) (p1 p2 p3 count0 : Int32) (axleReadings1 gantry2 handAxles3 handPlate4 lane5 plateSums6 readPlates7 state8 tag9 time10 trip11 : Nat → Int32) (r o_count0 : Int32) (o_axleReadings1 o_gantry2 o_handAxles3 o_handPlate4 o_lane5 o_plateSums6 o_readPlates7 o_state8 o_tag9 o_time10 o_trip11 : Nat → Int32) (sz : Nat) (hf : f_X6_begin F p1 p2 p3 count0 axleReadings1 gantry2 handAxles3 handPlate4 lane5 plateSums6 readPlates7 state8 tag9 time10 trip11 = some (r, o_count0, o_axleReadings1, o_gantry2, o_handAxles3, o_handPlate4, o_lane5, o_plateSums6, o_readPlates7, o_state8, o_tag9, o_time10, o_trip11)) : CI l m_X6_begin (rml 1 0 0) g (w_X6_begin g h0 h1 h2 h3 h4 h5 h6 h7 h8 h9 h10 h11 v0_1 count0 axleReadings1 gantry2 handAxles3 handPlate4 lane5 plateSums6 readPlates7 state8 tag9 time10 trip11) (fun _ => w_X6_begin g h0 h1 h2 h3 h4 h5 h6 h7 h8 h9 h10 h11 v0_1 o_count0 o_axleReadings1 o_gantry2 o_handAxles3 o_handPlate4 o_lane5 o_plateSums6 o_readPlates7 o_state8 o_tag9 o_time10 o_trip11) sz [.ref h0, .int p1, .int p2, .int p3] r := by
  refine en_i (by decide) (Nat.le_of_ble_eq_true rfl) (fun p e s m args below meth c A ls C w hl => ?_)
  have C : Cx p s m args meth c RX6 m_X6_begin g A := C
  have hx := C.1
  have hb : c.code = cX6_begin := C.2.1
  have hl : lv_has ls 6 [(0, .ref h0), (1, .int p1), (2, .int p2), (3, .int p3)] := hl
  obtain ⟨Q, hQ⟩ : ∃ Q, Q = QI below args s g A (fun _ => w_X6_begin g h0 h1 h2 h3 h4 h5 h6 h7 h8 h9 h10 h11 v0_1 o_count0 o_axleReadings1 o_gantry2 o_handAxles3 o_handPlate4 o_lane5 o_plateSums6 o_readPlates7 o_state8 o_tag9 o_time10 o_trip11) r 0 0 := ⟨_, rfl⟩
  suffices hW : W p l e (rml 1 0 0) s m args below meth c s.heap [] 0 0 Q (F0 m 0 ls []) from (by rw [hQ] at hW; exact hW)
  unfold f_X6_begin at hf
  have L121 : ∀ (z : Int32 × Int32 × Int32 × (Nat → Int32) × (Nat → Int32) × (Nat → Int32) × (Nat → Int32) × (Nat → Int32) × (Nat → Int32) × (Nat → Int32) × (Nat → Int32) × (Nat → Int32) × (Nat → Int32) × (Nat → Int32)), f_X6_begin_L121 F z = some (r, o_count0, o_axleReadings1, o_gantry2, o_handAxles3, o_handPlate4, o_lane5, o_plateSums6, o_readPlates7, o_state8, o_tag9, o_time10, o_trip11) → ∀ (H : Heap) (locs : List Loc) (ls : Array Slot), Wd g A (w_X6_begin g h0 h1 h2 h3 h4 h5 h6 h7 h8 h9 h10 h11 v0_1 z.2.2.1 z.2.2.2.1 z.2.2.2.2.1 z.2.2.2.2.2.1 z.2.2.2.2.2.2.1 z.2.2.2.2.2.2.2.1 z.2.2.2.2.2.2.2.2.1 z.2.2.2.2.2.2.2.2.2.1 z.2.2.2.2.2.2.2.2.2.2.1 z.2.2.2.2.2.2.2.2.2.2.2.1 z.2.2.2.2.2.2.2.2.2.2.2.2.1 z.2.2.2.2.2.2.2.2.2.2.2.2.2) s.heap H locs → lv_has ls 6 [(0, .ref h0), (4, .int z.1), (5, .int z.2.1)] → W p l e (rml 1 0 0) s m args below meth c H locs 0 0 Q (F0 m 121 ls []) := by
    intro z hf
    refine lp_W (r := (r, o_count0, o_axleReadings1, o_gantry2, o_handAxles3, o_handPlate4, o_lane5, o_plateSums6, o_readPlates7, o_state8, o_tag9, o_time10, o_trip11)) (fun (z : Int32 × Int32 × Int32 × (Nat → Int32) × (Nat → Int32) × (Nat → Int32) × (Nat → Int32) × (Nat → Int32) × (Nat → Int32) × (Nat → Int32) × (Nat → Int32) × (Nat → Int32) × (Nat → Int32) × (Nat → Int32)) => ∀ (H : Heap) (locs : List Loc) (ls : Array Slot), Wd g A (w_X6_begin g h0 h1 h2 h3 h4 h5 h6 h7 h8 h9 h10 h11 v0_1 z.2.2.1 z.2.2.2.1 z.2.2.2.2.1 z.2.2.2.2.2.1 z.2.2.2.2.2.2.1 z.2.2.2.2.2.2.2.1 z.2.2.2.2.2.2.2.2.1 z.2.2.2.2.2.2.2.2.2.1 z.2.2.2.2.2.2.2.2.2.2.1 z.2.2.2.2.2.2.2.2.2.2.2.1 z.2.2.2.2.2.2.2.2.2.2.2.2.1 z.2.2.2.2.2.2.2.2.2.2.2.2.2) s.heap H locs → lv_has ls 6 [(0, .ref h0), (4, .int z.1), (5, .int z.2.1)] → W p l e (rml 1 0 0) s m args below meth c H locs 0 0 Q (F0 m 121 ls [])) (fun k121 z ih121 hf => ?_) F z hf
    obtain ⟨x4, x5, count0, axleReadings1, gantry2, handAxles3, handPlate4, lane5, plateSums6, readPlates7, state8, tag9, time10, trip11⟩ := z
    intro H locs ls w hl
    try dsimp only at hf w hl ⊢
    unfold f_X6_begin_h121 at hf
    refine lv_iload hx hb dX6_begin_121 (lv_at hl 2 rfl) ?_
    refine lv_iload hx hb dX6_begin_123 (lv_at hl 1 rfl) ?_
    refine lv_iconst (v := 1) hx hb dX6_begin_125 (by decide) ?_
    refine lv_iadd hx hb dX6_begin_126 ?_
    refine lv_bipush (v := 8) hx hb dX6_begin_127 (by decide) ?_
    refine lv_imul hx hb dX6_begin_129 ?_
    refine lv_icmp_ge (tgt := 147) hx hb dX6_begin_130 (by decide) (fun c1 => ?_) (fun c1 => ?_)
    · replace hf := it_t c1 hf
      refine lv_aload_n hx hb dX6_begin_147 rfl (lv_at hl 0 rfl) ?_
      refine lv_iload hx hb dX6_begin_148 (lv_at hl 1 rfl) ?_
      refine lv_iconst (v := 1) hx hb dX6_begin_150 (by decide) ?_
      refine lv_iadd hx hb dX6_begin_151 ?_
      refine p_X6_9 C w 0 rfl (Nat.le_of_ble_eq_true rfl) (ws2 := w_X6_begin g h0 h1 h2 h3 h4 h5 h6 h7 h8 h9 h10 h11 v0_1 (x4 + 1) axleReadings1 gantry2 handAxles3 handPlate4 lane5 plateSums6 readPlates7 state8 tag9 time10 trip11) rfl dX6_begin_152 (fun H locs w => ?_)
      refine lv_iload hx hb dX6_begin_155 (lv_at hl 1 rfl) ?_
      obtain ⟨e1, e2, e3, e4, e5, e6, e7, e8, e9, e10, e11, e12, e13⟩ := tp13 hf
      rw [hQ]
      exact rt_i C w rfl (fun _ => 0) (by rw [← e2, ← e3, ← e4, ← e5, ← e6, ← e7, ← e8, ← e9, ← e10, ← e11, ← e12, ← e13]) e1 dX6_begin_157
    · replace hf := it_f c1 hf
      refine lv_aload_n hx hb dX6_begin_133 rfl (lv_at hl 0 rfl) ?_
      refine g_X6_49 C w 0 rfl rfl dX6_begin_134 ?_
      refine lv_iload hx hb dX6_begin_137 (lv_at hl 2 rfl) ?_
      refine lv_iconst (v := 0) hx hb dX6_begin_139 (by decide) ?_
      obtain ⟨f2, hif2, haf2, hf⟩ := wr_some hf
      refine ias C w 1 rfl hif2 haf2 (ws2 := w_X6_begin g h0 h1 h2 h3 h4 h5 h6 h7 h8 h9 h10 h11 v0_1 count0 f2 gantry2 handAxles3 handPlate4 lane5 plateSums6 readPlates7 state8 tag9 time10 trip11) rfl dX6_begin_140 (fun H locs w => ?_)
      refine lv_iinc (v := x5 + 1) (lv' := [(5, .int (x5 + 1)), (0, .ref h0), (4, .int x4)]) hx hb dX6_begin_141 hl (k := 2) rfl rfl (by decide) rfl (fun ls hl => ?_)
      refine lv_goto (tgt := 121) hx hb dX6_begin_144 (by decide) ?_
      exact ih121 (x4, x5 + 1, count0, f2, gantry2, handAxles3, handPlate4, lane5, plateSums6, readPlates7, state8, tag9, time10, trip11) hf _ _ _ w (lv_sub hl [1, 2, 0] rfl)
  have L81 : ∀ (z : Int32 × Int32 × Int32 × (Nat → Int32) × (Nat → Int32) × (Nat → Int32) × (Nat → Int32) × (Nat → Int32) × (Nat → Int32) × (Nat → Int32) × (Nat → Int32) × (Nat → Int32) × (Nat → Int32) × (Nat → Int32)), f_X6_begin_L81 F z = some (r, o_count0, o_axleReadings1, o_gantry2, o_handAxles3, o_handPlate4, o_lane5, o_plateSums6, o_readPlates7, o_state8, o_tag9, o_time10, o_trip11) → ∀ (H : Heap) (locs : List Loc) (ls : Array Slot), Wd g A (w_X6_begin g h0 h1 h2 h3 h4 h5 h6 h7 h8 h9 h10 h11 v0_1 z.2.2.1 z.2.2.2.1 z.2.2.2.2.1 z.2.2.2.2.2.1 z.2.2.2.2.2.2.1 z.2.2.2.2.2.2.2.1 z.2.2.2.2.2.2.2.2.1 z.2.2.2.2.2.2.2.2.2.1 z.2.2.2.2.2.2.2.2.2.2.1 z.2.2.2.2.2.2.2.2.2.2.2.1 z.2.2.2.2.2.2.2.2.2.2.2.2.1 z.2.2.2.2.2.2.2.2.2.2.2.2.2) s.heap H locs → lv_has ls 6 [(0, .ref h0), (4, .int z.1), (5, .int z.2.1)] → W p l e (rml 1 0 0) s m args below meth c H locs 0 0 Q (F0 m 81 ls []) := by
    intro z hf
    refine lp_W (r := (r, o_count0, o_axleReadings1, o_gantry2, o_handAxles3, o_handPlate4, o_lane5, o_plateSums6, o_readPlates7, o_state8, o_tag9, o_time10, o_trip11)) (fun (z : Int32 × Int32 × Int32 × (Nat → Int32) × (Nat → Int32) × (Nat → Int32) × (Nat → Int32) × (Nat → Int32) × (Nat → Int32) × (Nat → Int32) × (Nat → Int32) × (Nat → Int32) × (Nat → Int32) × (Nat → Int32)) => ∀ (H : Heap) (locs : List Loc) (ls : Array Slot), Wd g A (w_X6_begin g h0 h1 h2 h3 h4 h5 h6 h7 h8 h9 h10 h11 v0_1 z.2.2.1 z.2.2.2.1 z.2.2.2.2.1 z.2.2.2.2.2.1 z.2.2.2.2.2.2.1 z.2.2.2.2.2.2.2.1 z.2.2.2.2.2.2.2.2.1 z.2.2.2.2.2.2.2.2.2.1 z.2.2.2.2.2.2.2.2.2.2.1 z.2.2.2.2.2.2.2.2.2.2.2.1 z.2.2.2.2.2.2.2.2.2.2.2.2.1 z.2.2.2.2.2.2.2.2.2.2.2.2.2) s.heap H locs → lv_has ls 6 [(0, .ref h0), (4, .int z.1), (5, .int z.2.1)] → W p l e (rml 1 0 0) s m args below meth c H locs 0 0 Q (F0 m 81 ls [])) (fun k81 z ih81 hf => ?_) F z hf
    obtain ⟨x4, x5, count0, axleReadings1, gantry2, handAxles3, handPlate4, lane5, plateSums6, readPlates7, state8, tag9, time10, trip11⟩ := z
    intro H locs ls w hl
    try dsimp only at hf w hl ⊢
    unfold f_X6_begin_h81 at hf
    refine lv_iload hx hb dX6_begin_81 (lv_at hl 2 rfl) ?_
    refine lv_iload hx hb dX6_begin_83 (lv_at hl 1 rfl) ?_
    refine lv_iconst (v := 1) hx hb dX6_begin_85 (by decide) ?_
    refine lv_iadd hx hb dX6_begin_86 ?_
    refine lv_iconst (v := 4) hx hb dX6_begin_87 (by decide) ?_
    refine lv_imul hx hb dX6_begin_88 ?_
    refine lv_icmp_ge (tgt := 114) hx hb dX6_begin_89 (by decide) (fun c3 => ?_) (fun c3 => ?_)
    · replace hf := it_t c3 hf
      refine lv_iload hx hb dX6_begin_114 (lv_at hl 1 rfl) ?_
      refine lv_bipush (v := 8) hx hb dX6_begin_116 (by decide) ?_
      refine lv_imul hx hb dX6_begin_118 ?_
      refine lv_istore (lv' := [(5, .int (x4 * 8)), (0, .ref h0), (4, .int x4)]) hx hb dX6_begin_119 hl (by decide) rfl (fun ls hl => ?_)
      exact L121 (x4, x4 * 8, count0, axleReadings1, gantry2, handAxles3, handPlate4, lane5, plateSums6, readPlates7, state8, tag9, time10, trip11) hf _ _ _ w (lv_sub hl [1, 2, 0] rfl)
    · replace hf := it_f c3 hf
      refine lv_aload_n hx hb dX6_begin_92 rfl (lv_at hl 0 rfl) ?_
      refine g_X6_43 C w 0 rfl rfl dX6_begin_93 ?_
      refine lv_iload hx hb dX6_begin_96 (lv_at hl 2 rfl) ?_
      refine lv_iconst (v := 0) hx hb dX6_begin_98 (by decide) ?_
      obtain ⟨f4, hif4, haf4, hf⟩ := wr_some hf
      refine ias C w 7 rfl hif4 haf4 (ws2 := w_X6_begin g h0 h1 h2 h3 h4 h5 h6 h7 h8 h9 h10 h11 v0_1 count0 axleReadings1 gantry2 handAxles3 handPlate4 lane5 plateSums6 f4 state8 tag9 time10 trip11) rfl dX6_begin_99 (fun H locs w => ?_)
      refine lv_aload_n hx hb dX6_begin_100 rfl (lv_at hl 0 rfl) ?_
      refine g_X6_46 C w 0 rfl rfl dX6_begin_101 ?_
      refine lv_iload hx hb dX6_begin_104 (lv_at hl 2 rfl) ?_
      refine lv_iconst (v := 0) hx hb dX6_begin_106 (by decide) ?_
      obtain ⟨f5, hif5, haf5, hf⟩ := wr_some hf
      refine ias C w 6 rfl hif5 haf5 (ws2 := w_X6_begin g h0 h1 h2 h3 h4 h5 h6 h7 h8 h9 h10 h11 v0_1 count0 axleReadings1 gantry2 handAxles3 handPlate4 lane5 f5 f4 state8 tag9 time10 trip11) rfl dX6_begin_107 (fun H locs w => ?_)
      refine lv_iinc (v := x5 + 1) (lv' := [(5, .int (x5 + 1)), (0, .ref h0), (4, .int x4)]) hx hb dX6_begin_108 hl (k := 2) rfl rfl (by decide) rfl (fun ls hl => ?_)
      refine lv_goto (tgt := 81) hx hb dX6_begin_111 (by decide) ?_
      exact ih81 (x4, x5 + 1, count0, axleReadings1, gantry2, handAxles3, handPlate4, lane5, f5, f4, state8, tag9, time10, trip11) hf _ _ _ w (lv_sub hl [1, 2, 0] rfl)
  refine lv_aload_n hx hb dX6_begin_0 rfl (lv_at hl 0 rfl) ?_
  refine g_X6_9 C w 0 rfl rfl dX6_begin_1 ?_
  refine lv_bipush (v := 79) hx hb dX6_begin_4 (by decide) ?_
  refine mmn C hl.1 q_1108 q_603 q_16 q_604 (Nat.le_of_ble_eq_true rfl) (Nat.le_of_ble_eq_true rfl) (Nat.le_of_ble_eq_true rfl) (Nat.le_of_ble_eq_true rfl) dX6_begin_6 ?_
  refine lv_istore (lv' := [(4, .int (if 79 < count0 then 79 else count0)), (0, .ref h0), (1, .int p1), (2, .int p2), (3, .int p3)]) hx hb dX6_begin_9 hl (by decide) rfl (fun ls hl => ?_)
  refine lv_aload_n hx hb dX6_begin_11 rfl (lv_at hl 1 rfl) ?_
  refine g_X6_18 C w 0 rfl rfl dX6_begin_12 ?_
  refine lv_iload hx hb dX6_begin_15 (lv_at hl 0 rfl) ?_
  refine lv_iload_n hx hb dX6_begin_17 rfl (lv_at hl 2 rfl) ?_
  obtain ⟨f6, hif6, haf6, hf⟩ := wr_some hf
  refine ias C w 2 rfl hif6 haf6 (ws2 := w_X6_begin g h0 h1 h2 h3 h4 h5 h6 h7 h8 h9 h10 h11 v0_1 count0 axleReadings1 f6 handAxles3 handPlate4 lane5 plateSums6 readPlates7 state8 tag9 time10 trip11) rfl dX6_begin_18 (fun H locs w => ?_)
  refine lv_aload_n hx hb dX6_begin_19 rfl (lv_at hl 1 rfl) ?_
  refine g_X6_22 C w 0 rfl rfl dX6_begin_20 ?_
  refine lv_iload hx hb dX6_begin_23 (lv_at hl 0 rfl) ?_
  refine lv_iload_n hx hb dX6_begin_25 rfl (lv_at hl 3 rfl) ?_
  obtain ⟨f7, hif7, haf7, hf⟩ := wr_some hf
  refine ias C w 5 rfl hif7 haf7 (ws2 := w_X6_begin g h0 h1 h2 h3 h4 h5 h6 h7 h8 h9 h10 h11 v0_1 count0 axleReadings1 f6 handAxles3 handPlate4 f7 plateSums6 readPlates7 state8 tag9 time10 trip11) rfl dX6_begin_26 (fun H locs w => ?_)
  refine lv_aload_n hx hb dX6_begin_27 rfl (lv_at hl 1 rfl) ?_
  refine g_X6_25 C w 0 rfl rfl dX6_begin_28 ?_
  refine lv_iload hx hb dX6_begin_31 (lv_at hl 0 rfl) ?_
  refine lv_iload_n hx hb dX6_begin_33 rfl (lv_at hl 4 rfl) ?_
  obtain ⟨f8, hif8, haf8, hf⟩ := wr_some hf
  refine ias C w 10 rfl hif8 haf8 (ws2 := w_X6_begin g h0 h1 h2 h3 h4 h5 h6 h7 h8 h9 h10 h11 v0_1 count0 axleReadings1 f6 handAxles3 handPlate4 f7 plateSums6 readPlates7 state8 tag9 f8 trip11) rfl dX6_begin_34 (fun H locs w => ?_)
  refine lv_aload_n hx hb dX6_begin_35 rfl (lv_at hl 1 rfl) ?_
  refine g_X6_28 C w 0 rfl rfl dX6_begin_36 ?_
  refine lv_iload hx hb dX6_begin_39 (lv_at hl 0 rfl) ?_
  refine lv_iconst (v := -1) hx hb dX6_begin_41 (by decide) ?_
  obtain ⟨f9, hif9, haf9, hf⟩ := wr_some hf
  refine ias C w 9 rfl hif9 haf9 (ws2 := w_X6_begin g h0 h1 h2 h3 h4 h5 h6 h7 h8 h9 h10 h11 v0_1 count0 axleReadings1 f6 handAxles3 handPlate4 f7 plateSums6 readPlates7 state8 f9 f8 trip11) rfl dX6_begin_42 (fun H locs w => ?_)
  refine lv_aload_n hx hb dX6_begin_43 rfl (lv_at hl 1 rfl) ?_
  refine g_X6_31 C w 0 rfl rfl dX6_begin_44 ?_
  refine lv_iload hx hb dX6_begin_47 (lv_at hl 0 rfl) ?_
  refine lv_iconst (v := -1) hx hb dX6_begin_49 (by decide) ?_
  obtain ⟨f10, hif10, haf10, hf⟩ := wr_some hf
  refine ias C w 4 rfl hif10 haf10 (ws2 := w_X6_begin g h0 h1 h2 h3 h4 h5 h6 h7 h8 h9 h10 h11 v0_1 count0 axleReadings1 f6 handAxles3 f10 f7 plateSums6 readPlates7 state8 f9 f8 trip11) rfl dX6_begin_50 (fun H locs w => ?_)
  refine lv_aload_n hx hb dX6_begin_51 rfl (lv_at hl 1 rfl) ?_
  refine g_X6_34 C w 0 rfl rfl dX6_begin_52 ?_
  refine lv_iload hx hb dX6_begin_55 (lv_at hl 0 rfl) ?_
  refine lv_iconst (v := -1) hx hb dX6_begin_57 (by decide) ?_
  obtain ⟨f11, hif11, haf11, hf⟩ := wr_some hf
  refine ias C w 3 rfl hif11 haf11 (ws2 := w_X6_begin g h0 h1 h2 h3 h4 h5 h6 h7 h8 h9 h10 h11 v0_1 count0 axleReadings1 f6 f11 f10 f7 plateSums6 readPlates7 state8 f9 f8 trip11) rfl dX6_begin_58 (fun H locs w => ?_)
  refine lv_aload_n hx hb dX6_begin_59 rfl (lv_at hl 1 rfl) ?_
  refine g_X6_37 C w 0 rfl rfl dX6_begin_60 ?_
  refine lv_iload hx hb dX6_begin_63 (lv_at hl 0 rfl) ?_
  refine lv_iconst (v := 0) hx hb dX6_begin_65 (by decide) ?_
  obtain ⟨f12, hif12, haf12, hf⟩ := wr_some hf
  refine ias C w 8 rfl hif12 haf12 (ws2 := w_X6_begin g h0 h1 h2 h3 h4 h5 h6 h7 h8 h9 h10 h11 v0_1 count0 axleReadings1 f6 f11 f10 f7 plateSums6 readPlates7 f12 f9 f8 trip11) rfl dX6_begin_66 (fun H locs w => ?_)
  refine lv_aload_n hx hb dX6_begin_67 rfl (lv_at hl 1 rfl) ?_
  refine g_X6_40 C w 0 rfl rfl dX6_begin_68 ?_
  refine lv_iload hx hb dX6_begin_71 (lv_at hl 0 rfl) ?_
  refine lv_iconst (v := -1) hx hb dX6_begin_73 (by decide) ?_
  obtain ⟨f13, hif13, haf13, hf⟩ := wr_some hf
  refine ias C w 11 rfl hif13 haf13 (ws2 := w_X6_begin g h0 h1 h2 h3 h4 h5 h6 h7 h8 h9 h10 h11 v0_1 count0 axleReadings1 f6 f11 f10 f7 plateSums6 readPlates7 f12 f9 f8 f13) rfl dX6_begin_74 (fun H locs w => ?_)
  refine lv_iload hx hb dX6_begin_75 (lv_at hl 0 rfl) ?_
  refine lv_iconst (v := 4) hx hb dX6_begin_77 (by decide) ?_
  refine lv_imul hx hb dX6_begin_78 ?_
  refine lv_istore (lv' := [(5, .int ((if 79 < count0 then 79 else count0) * 4)), (4, .int (if 79 < count0 then 79 else count0)), (0, .ref h0), (1, .int p1), (2, .int p2), (3, .int p3)]) hx hb dX6_begin_79 hl (by decide) rfl (fun ls hl => ?_)
  exact L81 ((if 79 < count0 then 79 else count0), (if 79 < count0 then 79 else count0) * 4, count0, axleReadings1, f6, f11, f10, f7, plateSums6, readPlates7, f12, f9, f8, f13) hf _ _ _ w (lv_sub hl [2, 1, 0] rfl)

theorem dX6_addVote_0 : decode cX6_addVote 0 = .ok (.iload_n 1, 1) := by decide +kernel
theorem dX6_addVote_1 : decode cX6_addVote 1 = .ok (.iconst 4, 1) := by decide +kernel
theorem dX6_addVote_2 : decode cX6_addVote 2 = .ok (.imul, 1) := by decide +kernel
theorem dX6_addVote_3 : decode cX6_addVote 3 = .ok (.istore 4, 2) := by decide +kernel
theorem dX6_addVote_5 : decode cX6_addVote 5 = .ok (.iload 4, 2) := by decide +kernel
theorem dX6_addVote_7 : decode cX6_addVote 7 = .ok (.iload_n 1, 1) := by decide +kernel
theorem dX6_addVote_8 : decode cX6_addVote 8 = .ok (.iconst 1, 1) := by decide +kernel
theorem dX6_addVote_9 : decode cX6_addVote 9 = .ok (.iadd, 1) := by decide +kernel
theorem dX6_addVote_10 : decode cX6_addVote 10 = .ok (.iconst 4, 1) := by decide +kernel
theorem dX6_addVote_11 : decode cX6_addVote 11 = .ok (.imul, 1) := by decide +kernel
theorem dX6_addVote_12 : decode cX6_addVote 12 = .ok (.if_icmp .ge 50, 3) := by decide +kernel
theorem dX6_addVote_15 : decode cX6_addVote 15 = .ok (.aload_n 0, 1) := by decide +kernel
theorem dX6_addVote_16 : decode cX6_addVote 16 = .ok (.getfield 43, 3) := by decide +kernel
theorem dX6_addVote_19 : decode cX6_addVote 19 = .ok (.iload 4, 2) := by decide +kernel
theorem dX6_addVote_21 : decode cX6_addVote 21 = .ok (.iaload, 1) := by decide +kernel
theorem dX6_addVote_22 : decode cX6_addVote 22 = .ok (.iload_n 2, 1) := by decide +kernel
theorem dX6_addVote_23 : decode cX6_addVote 23 = .ok (.if_icmp .eq 13, 3) := by decide +kernel
theorem dX6_addVote_26 : decode cX6_addVote 26 = .ok (.aload_n 0, 1) := by decide +kernel
theorem dX6_addVote_27 : decode cX6_addVote 27 = .ok (.getfield 43, 3) := by decide +kernel
theorem dX6_addVote_30 : decode cX6_addVote 30 = .ok (.iload 4, 2) := by decide +kernel
theorem dX6_addVote_32 : decode cX6_addVote 32 = .ok (.iaload, 1) := by decide +kernel
theorem dX6_addVote_33 : decode cX6_addVote 33 = .ok (.ifCond .ne 23, 3) := by decide +kernel
theorem dX6_addVote_36 : decode cX6_addVote 36 = .ok (.aload_n 0, 1) := by decide +kernel
theorem dX6_addVote_37 : decode cX6_addVote 37 = .ok (.getfield 43, 3) := by decide +kernel
theorem dX6_addVote_40 : decode cX6_addVote 40 = .ok (.iload 4, 2) := by decide +kernel
theorem dX6_addVote_42 : decode cX6_addVote 42 = .ok (.iload_n 2, 1) := by decide +kernel
theorem dX6_addVote_43 : decode cX6_addVote 43 = .ok (.iastore, 1) := by decide +kernel
theorem dX6_addVote_44 : decode cX6_addVote 44 = .ok (.aload_n 0, 1) := by decide +kernel
theorem dX6_addVote_45 : decode cX6_addVote 45 = .ok (.getfield 46, 3) := by decide +kernel
theorem dX6_addVote_48 : decode cX6_addVote 48 = .ok (.iload 4, 2) := by decide +kernel
theorem dX6_addVote_50 : decode cX6_addVote 50 = .ok (.dup2, 1) := by decide +kernel
theorem dX6_addVote_51 : decode cX6_addVote 51 = .ok (.iaload, 1) := by decide +kernel
theorem dX6_addVote_52 : decode cX6_addVote 52 = .ok (.iload_n 3, 1) := by decide +kernel
theorem dX6_addVote_53 : decode cX6_addVote 53 = .ok (.iadd, 1) := by decide +kernel
theorem dX6_addVote_54 : decode cX6_addVote 54 = .ok (.iastore, 1) := by decide +kernel
theorem dX6_addVote_55 : decode cX6_addVote 55 = .ok (.return_, 1) := by decide +kernel
theorem dX6_addVote_56 : decode cX6_addVote 56 = .ok (.iinc 4 1, 3) := by decide +kernel
theorem dX6_addVote_59 : decode cX6_addVote 59 = .ok (.goto (-54), 3) := by decide +kernel
theorem dX6_addVote_62 : decode cX6_addVote 62 = .ok (.return_, 1) := by decide +kernel
abbrev m_X6_addVote : MD := (yX6_addVote, cX6_addVote, 5, none)

abbrev w_X6_addVote (g : GT) (h0 h1 h2 : Nat) (v0_0 v0_1 v0_2 v0_3 v0_4 v0_5 v0_6 v0_7 v0_8 v0_9 v0_12 : Value) (plateSums1 readPlates2 : Nat → Int32) : va_W := [(h0, .inr (6, [v0_0, v0_1, v0_2, v0_3, v0_4, v0_5, v0_6, v0_7, v0_8, v0_9, .ref h2, .ref h1, v0_12])), (h1, aI g 320 plateSums1), (h2, aI g 320 readPlates2)]
def f_X6_addVote_b36 (F : Nat) (k5 : (Int32 × Int32 × Int32 × Int32 × (Nat → Int32) × (Nat → Int32)) → Option ((Nat → Int32) × (Nat → Int32))) (x2 x3 x4 : Int32) (plateSums1 readPlates2 : Nat → Int32) : Option ((Nat → Int32) × (Nat → Int32)) :=
  wr readPlates2 320 x4 x2 fun f1 =>
  rd plateSums1 320 x4 fun a2 =>
  wr plateSums1 320 x4 (a2 + x3) fun f3 =>
  some (f3, f1)
def f_X6_addVote_h5 (F : Nat) (k5 : (Int32 × Int32 × Int32 × Int32 × (Nat → Int32) × (Nat → Int32)) → Option ((Nat → Int32) × (Nat → Int32))) (x1 x2 x3 x4 : Int32) (plateSums1 readPlates2 : Nat → Int32) : Option ((Nat → Int32) × (Nat → Int32)) :=
  if ((x1 + 1) * 4) ≤ x4 then
    some (plateSums1, readPlates2)
  else
    rd readPlates2 320 x4 fun a5 =>
    if a5 = x2 then
      f_X6_addVote_b36 F k5 x2 x3 x4 plateSums1 readPlates2
    else
      rd readPlates2 320 x4 fun a7 =>
      if a7 = 0 then
        f_X6_addVote_b36 F k5 x2 x3 x4 plateSums1 readPlates2
      else
        k5 (x1, x2, x3, x4 + 1, plateSums1, readPlates2)
def f_X6_addVote_L5 (F : Nat) (z : Int32 × Int32 × Int32 × Int32 × (Nat → Int32) × (Nat → Int32)) : Option ((Nat → Int32) × (Nat → Int32)) := lp (fun k z => f_X6_addVote_h5 F k z.1 z.2.1 z.2.2.1 z.2.2.2.1 z.2.2.2.2.1 z.2.2.2.2.2) F z
def f_X6_addVote (F : Nat) (p1 p2 p3 : Int32) (plateSums1 readPlates2 : Nat → Int32) : Option ((Nat → Int32) × (Nat → Int32)) :=
  f_X6_addVote_L5 F (p1, p2, p3, p1 * 4, plateSums1, readPlates2)
set_option maxHeartbeats 4000000 in
set_option maxRecDepth 100000 in
theorem c_X6_addVote (l : Launch) (g : GT) (F : Nat) (h0 h1 h2 : Nat) (v0_0 v0_1 v0_2 v0_3 v0_4 v0_5 v0_6 v0_7 v0_8 v0_9 v0_12 : Value) (p1 p2 p3 : Int32) (plateSums1 readPlates2 : Nat → Int32) (o_plateSums1 o_readPlates2 : Nat → Int32) (sz : Nat) (hf : f_X6_addVote F p1 p2 p3 plateSums1 readPlates2 = some (o_plateSums1, o_readPlates2)) : CV l m_X6_addVote (rml 0 0 0) g (w_X6_addVote g h0 h1 h2 v0_0 v0_1 v0_2 v0_3 v0_4 v0_5 v0_6 v0_7 v0_8 v0_9 v0_12 plateSums1 readPlates2) (fun _ => w_X6_addVote g h0 h1 h2 v0_0 v0_1 v0_2 v0_3 v0_4 v0_5 v0_6 v0_7 v0_8 v0_9 v0_12 o_plateSums1 o_readPlates2) sz [.ref h0, .int p1, .int p2, .int p3] := by
  refine en_v (by decide) (Nat.le_of_ble_eq_true rfl) (fun p e s m args below meth c A ls C w hl => ?_)
  have C : Cx p s m args meth c RX6 m_X6_addVote g A := C
  have hx := C.1
  have hb : c.code = cX6_addVote := C.2.1
  have hl : lv_has ls 5 [(0, .ref h0), (1, .int p1), (2, .int p2), (3, .int p3)] := hl
  obtain ⟨Q, hQ⟩ : ∃ Q, Q = QV below args s g A (fun _ => w_X6_addVote g h0 h1 h2 v0_0 v0_1 v0_2 v0_3 v0_4 v0_5 v0_6 v0_7 v0_8 v0_9 v0_12 o_plateSums1 o_readPlates2) 0 0 := ⟨_, rfl⟩
  suffices hW : W p l e (rml 0 0 0) s m args below meth c s.heap [] 0 0 Q (F0 m 0 ls []) from (by rw [hQ] at hW; exact hW)
  unfold f_X6_addVote at hf
  have L5 : ∀ (z : Int32 × Int32 × Int32 × Int32 × (Nat → Int32) × (Nat → Int32)), f_X6_addVote_L5 F z = some (o_plateSums1, o_readPlates2) → ∀ (H : Heap) (locs : List Loc) (ls : Array Slot), Wd g A (w_X6_addVote g h0 h1 h2 v0_0 v0_1 v0_2 v0_3 v0_4 v0_5 v0_6 v0_7 v0_8 v0_9 v0_12 z.2.2.2.2.1 z.2.2.2.2.2) s.heap H locs → lv_has ls 5 [(0, .ref h0), (1, .int z.1), (2, .int z.2.1), (3, .int z.2.2.1), (4, .int z.2.2.2.1)] → W p l e (rml 0 0 0) s m args below meth c H locs 0 0 Q (F0 m 5 ls []) := by
    intro z hf
    refine lp_W (r := (o_plateSums1, o_readPlates2)) (fun (z : Int32 × Int32 × Int32 × Int32 × (Nat → Int32) × (Nat → Int32)) => ∀ (H : Heap) (locs : List Loc) (ls : Array Slot), Wd g A (w_X6_addVote g h0 h1 h2 v0_0 v0_1 v0_2 v0_3 v0_4 v0_5 v0_6 v0_7 v0_8 v0_9 v0_12 z.2.2.2.2.1 z.2.2.2.2.2) s.heap H locs → lv_has ls 5 [(0, .ref h0), (1, .int z.1), (2, .int z.2.1), (3, .int z.2.2.1), (4, .int z.2.2.2.1)] → W p l e (rml 0 0 0) s m args below meth c H locs 0 0 Q (F0 m 5 ls [])) (fun k5 z ih5 hf => ?_) F z hf
    obtain ⟨x1, x2, x3, x4, plateSums1, readPlates2⟩ := z
    intro H locs ls w hl
    try dsimp only at hf w hl ⊢
    unfold f_X6_addVote_h5 at hf
    have b36 : ∀ (x2 x3 x4 : Int32) (plateSums1 readPlates2 : Nat → Int32) (H : Heap) (locs : List Loc) (ls : Array Slot), f_X6_addVote_b36 F k5 x2 x3 x4 plateSums1 readPlates2 = some (o_plateSums1, o_readPlates2) → Wd g A (w_X6_addVote g h0 h1 h2 v0_0 v0_1 v0_2 v0_3 v0_4 v0_5 v0_6 v0_7 v0_8 v0_9 v0_12 plateSums1 readPlates2) s.heap H locs → lv_has ls 5 [(0, .ref h0), (2, .int x2), (3, .int x3), (4, .int x4)] → W p l e (rml 0 0 0) s m args below meth c H locs 0 0 Q (F0 m 36 ls []) := by
      intro x2 x3 x4 plateSums1 readPlates2 H locs ls hf w hl
      unfold f_X6_addVote_b36 at hf
      refine lv_aload_n hx hb dX6_addVote_36 rfl (lv_at hl 0 rfl) ?_
      refine g_X6_43 C w 0 rfl rfl dX6_addVote_37 ?_
      refine lv_iload hx hb dX6_addVote_40 (lv_at hl 3 rfl) ?_
      refine lv_iload_n hx hb dX6_addVote_42 rfl (lv_at hl 1 rfl) ?_
      obtain ⟨f1, hif1, haf1, hf⟩ := wr_some hf
      refine ias C w 2 rfl hif1 haf1 (ws2 := w_X6_addVote g h0 h1 h2 v0_0 v0_1 v0_2 v0_3 v0_4 v0_5 v0_6 v0_7 v0_8 v0_9 v0_12 plateSums1 f1) rfl dX6_addVote_43 (fun H locs w => ?_)
      refine lv_aload_n hx hb dX6_addVote_44 rfl (lv_at hl 0 rfl) ?_
      refine g_X6_46 C w 0 rfl rfl dX6_addVote_45 ?_
      refine lv_iload hx hb dX6_addVote_48 (lv_at hl 3 rfl) ?_
      refine lv_dup2_11 hx hb dX6_addVote_50 rfl rfl ?_
      obtain ⟨a2, hia2, haa2, hf⟩ := rd_some hf
      refine ial C w 1 rfl hia2 haa2 dX6_addVote_51 ?_
      refine lv_iload_n hx hb dX6_addVote_52 rfl (lv_at hl 2 rfl) ?_
      refine lv_iadd hx hb dX6_addVote_53 ?_
      obtain ⟨f3, hif3, haf3, hf⟩ := wr_some hf
      refine ias C w 1 rfl hif3 haf3 (ws2 := w_X6_addVote g h0 h1 h2 v0_0 v0_1 v0_2 v0_3 v0_4 v0_5 v0_6 v0_7 v0_8 v0_9 v0_12 f3 f1) rfl dX6_addVote_54 (fun H locs w => ?_)
      obtain ⟨e1, e2⟩ := tp2 hf
      rw [hQ]
      exact rt_v C w rfl (fun _ => 0) (by rw [← e1, ← e2]) dX6_addVote_55
    refine lv_iload hx hb dX6_addVote_5 (lv_at hl 4 rfl) ?_
    refine lv_iload_n hx hb dX6_addVote_7 rfl (lv_at hl 1 rfl) ?_
    refine lv_iconst (v := 1) hx hb dX6_addVote_8 (by decide) ?_
    refine lv_iadd hx hb dX6_addVote_9 ?_
    refine lv_iconst (v := 4) hx hb dX6_addVote_10 (by decide) ?_
    refine lv_imul hx hb dX6_addVote_11 ?_
    refine lv_icmp_ge (tgt := 62) hx hb dX6_addVote_12 (by decide) (fun c4 => ?_) (fun c4 => ?_)
    · replace hf := it_t c4 hf
      obtain ⟨e1, e2⟩ := tp2 hf
      rw [hQ]
      exact rt_v C w rfl (fun _ => 0) (by rw [← e1, ← e2]) dX6_addVote_62
    · replace hf := it_f c4 hf
      refine lv_aload_n hx hb dX6_addVote_15 rfl (lv_at hl 0 rfl) ?_
      refine g_X6_43 C w 0 rfl rfl dX6_addVote_16 ?_
      refine lv_iload hx hb dX6_addVote_19 (lv_at hl 4 rfl) ?_
      obtain ⟨a5, hia5, haa5, hf⟩ := rd_some hf
      refine ial C w 2 rfl hia5 haa5 dX6_addVote_21 ?_
      refine lv_iload_n hx hb dX6_addVote_22 rfl (lv_at hl 2 rfl) ?_
      refine lv_icmp_eq (tgt := 36) hx hb dX6_addVote_23 (by decide) (fun c6 => ?_) (fun c6 => ?_)
      · replace hf := it_t c6 hf
        exact b36 x2 x3 x4 plateSums1 readPlates2 _ _ _ hf w (lv_sub hl [0, 2, 3, 4] rfl)
      · replace hf := it_f c6 hf
        refine lv_aload_n hx hb dX6_addVote_26 rfl (lv_at hl 0 rfl) ?_
        refine g_X6_43 C w 0 rfl rfl dX6_addVote_27 ?_
        refine lv_iload hx hb dX6_addVote_30 (lv_at hl 4 rfl) ?_
        obtain ⟨a7, hia7, haa7, hf⟩ := rd_some hf
        refine ial C w 2 rfl hia7 haa7 dX6_addVote_32 ?_
        refine lv_if_ne (tgt := 56) hx hb dX6_addVote_33 (by decide) (fun c8 => ?_) (fun c8 => ?_)
        · replace hf := it_f c8 hf
          refine lv_iinc (v := x4 + 1) (lv' := [(4, .int (x4 + 1)), (0, .ref h0), (1, .int x1), (2, .int x2), (3, .int x3)]) hx hb dX6_addVote_56 hl (k := 4) rfl rfl (by decide) rfl (fun ls hl => ?_)
          refine lv_goto (tgt := 5) hx hb dX6_addVote_59 (by decide) ?_
          exact ih5 (x1, x2, x3, x4 + 1, plateSums1, readPlates2) hf _ _ _ w (lv_sub hl [1, 2, 3, 4, 0] rfl)
        · replace hf := it_t c8 hf
          exact b36 x2 x3 x4 plateSums1 readPlates2 _ _ _ hf w (lv_sub hl [0, 2, 3, 4] rfl)
  refine lv_iload_n hx hb dX6_addVote_0 rfl (lv_at hl 1 rfl) ?_
  refine lv_iconst (v := 4) hx hb dX6_addVote_1 (by decide) ?_
  refine lv_imul hx hb dX6_addVote_2 ?_
  refine lv_istore (lv' := [(4, .int (p1 * 4)), (0, .ref h0), (1, .int p1), (2, .int p2), (3, .int p3)]) hx hb dX6_addVote_3 hl (by decide) rfl (fun ls hl => ?_)
  exact L5 (p1, p2, p3, p1 * 4, plateSums1, readPlates2) hf _ _ _ w (lv_sub hl [1, 2, 3, 4, 0] rfl)

theorem dX6_addAxles_0 : decode cX6_addAxles 0 = .ok (.iload_n 2, 1) := by decide +kernel
theorem dX6_addAxles_1 : decode cX6_addAxles 1 = .ok (.iconst 2, 1) := by decide +kernel
theorem dX6_addAxles_2 : decode cX6_addAxles 2 = .ok (.if_icmp .lt 26, 3) := by decide +kernel
theorem dX6_addAxles_5 : decode cX6_addAxles 5 = .ok (.iload_n 2, 1) := by decide +kernel
theorem dX6_addAxles_6 : decode cX6_addAxles 6 = .ok (.bipush 9, 2) := by decide +kernel
theorem dX6_addAxles_8 : decode cX6_addAxles 8 = .ok (.if_icmp .gt 20, 3) := by decide +kernel
theorem dX6_addAxles_11 : decode cX6_addAxles 11 = .ok (.aload_n 0, 1) := by decide +kernel
theorem dX6_addAxles_12 : decode cX6_addAxles 12 = .ok (.getfield 49, 3) := by decide +kernel
theorem dX6_addAxles_15 : decode cX6_addAxles 15 = .ok (.iload_n 1, 1) := by decide +kernel
theorem dX6_addAxles_16 : decode cX6_addAxles 16 = .ok (.bipush 8, 2) := by decide +kernel
theorem dX6_addAxles_18 : decode cX6_addAxles 18 = .ok (.imul, 1) := by decide +kernel
theorem dX6_addAxles_19 : decode cX6_addAxles 19 = .ok (.iload_n 2, 1) := by decide +kernel
theorem dX6_addAxles_20 : decode cX6_addAxles 20 = .ok (.iadd, 1) := by decide +kernel
theorem dX6_addAxles_21 : decode cX6_addAxles 21 = .ok (.iconst 2, 1) := by decide +kernel
theorem dX6_addAxles_22 : decode cX6_addAxles 22 = .ok (.isub, 1) := by decide +kernel
theorem dX6_addAxles_23 : decode cX6_addAxles 23 = .ok (.dup2, 1) := by decide +kernel
theorem dX6_addAxles_24 : decode cX6_addAxles 24 = .ok (.iaload, 1) := by decide +kernel
theorem dX6_addAxles_25 : decode cX6_addAxles 25 = .ok (.iconst 1, 1) := by decide +kernel
theorem dX6_addAxles_26 : decode cX6_addAxles 26 = .ok (.iadd, 1) := by decide +kernel
theorem dX6_addAxles_27 : decode cX6_addAxles 27 = .ok (.iastore, 1) := by decide +kernel
theorem dX6_addAxles_28 : decode cX6_addAxles 28 = .ok (.return_, 1) := by decide +kernel
abbrev m_X6_addAxles : MD := (yX6_addAxles, cX6_addAxles, 3, none)

abbrev w_X6_addAxles (g : GT) (h0 h1 : Nat) (v0_0 v0_1 v0_2 v0_3 v0_4 v0_5 v0_6 v0_7 v0_8 v0_9 v0_10 v0_11 : Value) (axleReadings1 : Nat → Int32) : va_W := [(h0, .inr (6, [v0_0, v0_1, v0_2, v0_3, v0_4, v0_5, v0_6, v0_7, v0_8, v0_9, v0_10, v0_11, .ref h1])), (h1, aI g 640 axleReadings1)]
def f_X6_addAxles_b28 (F : Nat) (axleReadings1 : Nat → Int32) : Option ((Nat → Int32)) :=
  some axleReadings1
def f_X6_addAxles (F : Nat) (p1 p2 : Int32) (axleReadings1 : Nat → Int32) : Option ((Nat → Int32)) :=
  if p2 < 2 then
    f_X6_addAxles_b28 F axleReadings1
  else
    if 9 < p2 then
      f_X6_addAxles_b28 F axleReadings1
    else
      rd axleReadings1 640 (((p1 * 8) + p2) - 2) fun a3 =>
      wr axleReadings1 640 (((p1 * 8) + p2) - 2) (a3 + 1) fun f4 =>
      f_X6_addAxles_b28 F f4
set_option maxHeartbeats 4000000 in
set_option maxRecDepth 100000 in
theorem c_X6_addAxles (l : Launch) (g : GT) (F : Nat) (h0 h1 : Nat) (v0_0 v0_1 v0_2 v0_3 v0_4 v0_5 v0_6 v0_7 v0_8 v0_9 v0_10 v0_11 : Value) (p1 p2 : Int32) (axleReadings1 : Nat → Int32) (o_axleReadings1 : Nat → Int32) (sz : Nat) (hf : f_X6_addAxles F p1 p2 axleReadings1 = some o_axleReadings1) : CV l m_X6_addAxles (rml 0 0 0) g (w_X6_addAxles g h0 h1 v0_0 v0_1 v0_2 v0_3 v0_4 v0_5 v0_6 v0_7 v0_8 v0_9 v0_10 v0_11 axleReadings1) (fun _ => w_X6_addAxles g h0 h1 v0_0 v0_1 v0_2 v0_3 v0_4 v0_5 v0_6 v0_7 v0_8 v0_9 v0_10 v0_11 o_axleReadings1) sz [.ref h0, .int p1, .int p2] := by
  refine en_v (by decide) (Nat.le_of_ble_eq_true rfl) (fun p e s m args below meth c A ls C w hl => ?_)
  have C : Cx p s m args meth c RX6 m_X6_addAxles g A := C
  have hx := C.1
  have hb : c.code = cX6_addAxles := C.2.1
  have hl : lv_has ls 3 [(0, .ref h0), (1, .int p1), (2, .int p2)] := hl
  obtain ⟨Q, hQ⟩ : ∃ Q, Q = QV below args s g A (fun _ => w_X6_addAxles g h0 h1 v0_0 v0_1 v0_2 v0_3 v0_4 v0_5 v0_6 v0_7 v0_8 v0_9 v0_10 v0_11 o_axleReadings1) 0 0 := ⟨_, rfl⟩
  suffices hW : W p l e (rml 0 0 0) s m args below meth c s.heap [] 0 0 Q (F0 m 0 ls []) from (by rw [hQ] at hW; exact hW)
  unfold f_X6_addAxles at hf
  have b28 : ∀ (axleReadings1 : Nat → Int32) (H : Heap) (locs : List Loc) (ls : Array Slot), f_X6_addAxles_b28 F axleReadings1 = some o_axleReadings1 → Wd g A (w_X6_addAxles g h0 h1 v0_0 v0_1 v0_2 v0_3 v0_4 v0_5 v0_6 v0_7 v0_8 v0_9 v0_10 v0_11 axleReadings1) s.heap H locs → lv_has ls 3 [] → W p l e (rml 0 0 0) s m args below meth c H locs 0 0 Q (F0 m 28 ls []) := by
    intro axleReadings1 H locs ls hf w hl
    unfold f_X6_addAxles_b28 at hf
    obtain e1 := tp1 hf
    rw [hQ]
    exact rt_v C w rfl (fun _ => 0) (by rw [← e1]) dX6_addAxles_28
  refine lv_iload_n hx hb dX6_addAxles_0 rfl (lv_at hl 2 rfl) ?_
  refine lv_iconst (v := 2) hx hb dX6_addAxles_1 (by decide) ?_
  refine lv_icmp_lt (tgt := 28) hx hb dX6_addAxles_2 (by decide) (fun c1 => ?_) (fun c1 => ?_)
  · replace hf := it_t c1 hf
    exact b28 axleReadings1 _ _ _ hf w (lv_sub hl [] rfl)
  · replace hf := it_f c1 hf
    refine lv_iload_n hx hb dX6_addAxles_5 rfl (lv_at hl 2 rfl) ?_
    refine lv_bipush (v := 9) hx hb dX6_addAxles_6 (by decide) ?_
    refine lv_icmp_gt (tgt := 28) hx hb dX6_addAxles_8 (by decide) (fun c2 => ?_) (fun c2 => ?_)
    · replace hf := it_t c2 hf
      exact b28 axleReadings1 _ _ _ hf w (lv_sub hl [] rfl)
    · replace hf := it_f c2 hf
      refine lv_aload_n hx hb dX6_addAxles_11 rfl (lv_at hl 0 rfl) ?_
      refine g_X6_49 C w 0 rfl rfl dX6_addAxles_12 ?_
      refine lv_iload_n hx hb dX6_addAxles_15 rfl (lv_at hl 1 rfl) ?_
      refine lv_bipush (v := 8) hx hb dX6_addAxles_16 (by decide) ?_
      refine lv_imul hx hb dX6_addAxles_18 ?_
      refine lv_iload_n hx hb dX6_addAxles_19 rfl (lv_at hl 2 rfl) ?_
      refine lv_iadd hx hb dX6_addAxles_20 ?_
      refine lv_iconst (v := 2) hx hb dX6_addAxles_21 (by decide) ?_
      refine lv_isub hx hb dX6_addAxles_22 ?_
      refine lv_dup2_11 hx hb dX6_addAxles_23 rfl rfl ?_
      obtain ⟨a3, hia3, haa3, hf⟩ := rd_some hf
      refine ial C w 1 rfl hia3 haa3 dX6_addAxles_24 ?_
      refine lv_iconst (v := 1) hx hb dX6_addAxles_25 (by decide) ?_
      refine lv_iadd hx hb dX6_addAxles_26 ?_
      obtain ⟨f4, hif4, haf4, hf⟩ := wr_some hf
      refine ias C w 1 rfl hif4 haf4 (ws2 := w_X6_addAxles g h0 h1 v0_0 v0_1 v0_2 v0_3 v0_4 v0_5 v0_6 v0_7 v0_8 v0_9 v0_10 v0_11 f4) rfl dX6_addAxles_27 (fun H locs w => ?_)
      exact b28 f4 _ _ _ hf w (lv_sub hl [] rfl)

theorem dX6_sumFor_0 : decode cX6_sumFor 0 = .ok (.iload_n 1, 1) := by decide +kernel
theorem dX6_sumFor_1 : decode cX6_sumFor 1 = .ok (.iconst 4, 1) := by decide +kernel
theorem dX6_sumFor_2 : decode cX6_sumFor 2 = .ok (.imul, 1) := by decide +kernel
theorem dX6_sumFor_3 : decode cX6_sumFor 3 = .ok (.istore_n 3, 1) := by decide +kernel
theorem dX6_sumFor_4 : decode cX6_sumFor 4 = .ok (.iload_n 3, 1) := by decide +kernel
theorem dX6_sumFor_5 : decode cX6_sumFor 5 = .ok (.iload_n 1, 1) := by decide +kernel
theorem dX6_sumFor_6 : decode cX6_sumFor 6 = .ok (.iconst 1, 1) := by decide +kernel
theorem dX6_sumFor_7 : decode cX6_sumFor 7 = .ok (.iadd, 1) := by decide +kernel
theorem dX6_sumFor_8 : decode cX6_sumFor 8 = .ok (.iconst 4, 1) := by decide +kernel
theorem dX6_sumFor_9 : decode cX6_sumFor 9 = .ok (.imul, 1) := by decide +kernel
theorem dX6_sumFor_10 : decode cX6_sumFor 10 = .ok (.if_icmp .ge 26, 3) := by decide +kernel
theorem dX6_sumFor_13 : decode cX6_sumFor 13 = .ok (.aload_n 0, 1) := by decide +kernel
theorem dX6_sumFor_14 : decode cX6_sumFor 14 = .ok (.getfield 43, 3) := by decide +kernel
theorem dX6_sumFor_17 : decode cX6_sumFor 17 = .ok (.iload_n 3, 1) := by decide +kernel
theorem dX6_sumFor_18 : decode cX6_sumFor 18 = .ok (.iaload, 1) := by decide +kernel
theorem dX6_sumFor_19 : decode cX6_sumFor 19 = .ok (.iload_n 2, 1) := by decide +kernel
theorem dX6_sumFor_20 : decode cX6_sumFor 20 = .ok (.if_icmp .ne 10, 3) := by decide +kernel
theorem dX6_sumFor_23 : decode cX6_sumFor 23 = .ok (.aload_n 0, 1) := by decide +kernel
theorem dX6_sumFor_24 : decode cX6_sumFor 24 = .ok (.getfield 46, 3) := by decide +kernel
theorem dX6_sumFor_27 : decode cX6_sumFor 27 = .ok (.iload_n 3, 1) := by decide +kernel
theorem dX6_sumFor_28 : decode cX6_sumFor 28 = .ok (.iaload, 1) := by decide +kernel
theorem dX6_sumFor_29 : decode cX6_sumFor 29 = .ok (.ireturn, 1) := by decide +kernel
theorem dX6_sumFor_30 : decode cX6_sumFor 30 = .ok (.iinc 3 1, 3) := by decide +kernel
theorem dX6_sumFor_33 : decode cX6_sumFor 33 = .ok (.goto (-29), 3) := by decide +kernel
theorem dX6_sumFor_36 : decode cX6_sumFor 36 = .ok (.iconst 0, 1) := by decide +kernel
theorem dX6_sumFor_37 : decode cX6_sumFor 37 = .ok (.ireturn, 1) := by decide +kernel
abbrev m_X6_sumFor : MD := (yX6_sumFor, cX6_sumFor, 4, (some .int))

abbrev w_X6_sumFor (g : GT) (h0 h1 h2 : Nat) (v0_0 v0_1 v0_2 v0_3 v0_4 v0_5 v0_6 v0_7 v0_8 v0_9 v0_12 : Value) (plateSums1 readPlates2 : Nat → Int32) : va_W := [(h0, .inr (6, [v0_0, v0_1, v0_2, v0_3, v0_4, v0_5, v0_6, v0_7, v0_8, v0_9, .ref h2, .ref h1, v0_12])), (h1, aI g 320 plateSums1), (h2, aI g 320 readPlates2)]
def f_X6_sumFor_h4 (F : Nat) (plateSums1 readPlates2 : Nat → Int32) (k4 : (Int32 × Int32 × Int32) → Option (Int32)) (x1 x2 x3 : Int32) : Option (Int32) :=
  if ((x1 + 1) * 4) ≤ x3 then
    some 0
  else
    rd readPlates2 320 x3 fun a2 =>
    if a2 = x2 then
      rd plateSums1 320 x3 fun a4 =>
      some a4
    else
      k4 (x1, x2, x3 + 1)
def f_X6_sumFor_L4 (F : Nat) (plateSums1 readPlates2 : Nat → Int32) (z : Int32 × Int32 × Int32) : Option (Int32) := lp (fun k z => f_X6_sumFor_h4 F plateSums1 readPlates2 k z.1 z.2.1 z.2.2) F z
def f_X6_sumFor (F : Nat) (p1 p2 : Int32) (plateSums1 readPlates2 : Nat → Int32) : Option (Int32) :=
  f_X6_sumFor_L4 F plateSums1 readPlates2 (p1, p2, p1 * 4)
set_option maxHeartbeats 4000000 in
set_option maxRecDepth 100000 in
theorem c_X6_sumFor (l : Launch) (g : GT) (F : Nat) (h0 h1 h2 : Nat) (v0_0 v0_1 v0_2 v0_3 v0_4 v0_5 v0_6 v0_7 v0_8 v0_9 v0_12 : Value) (p1 p2 : Int32) (plateSums1 readPlates2 : Nat → Int32) (r : Int32) (sz : Nat) (hf : f_X6_sumFor F p1 p2 plateSums1 readPlates2 = some r) : CI l m_X6_sumFor (rml 0 0 0) g (w_X6_sumFor g h0 h1 h2 v0_0 v0_1 v0_2 v0_3 v0_4 v0_5 v0_6 v0_7 v0_8 v0_9 v0_12 plateSums1 readPlates2) (fun _ => w_X6_sumFor g h0 h1 h2 v0_0 v0_1 v0_2 v0_3 v0_4 v0_5 v0_6 v0_7 v0_8 v0_9 v0_12 plateSums1 readPlates2) sz [.ref h0, .int p1, .int p2] r := by
  refine en_i (by decide) (Nat.le_of_ble_eq_true rfl) (fun p e s m args below meth c A ls C w hl => ?_)
  have C : Cx p s m args meth c RX6 m_X6_sumFor g A := C
  have hx := C.1
  have hb : c.code = cX6_sumFor := C.2.1
  have hl : lv_has ls 4 [(0, .ref h0), (1, .int p1), (2, .int p2)] := hl
  obtain ⟨Q, hQ⟩ : ∃ Q, Q = QI below args s g A (fun _ => w_X6_sumFor g h0 h1 h2 v0_0 v0_1 v0_2 v0_3 v0_4 v0_5 v0_6 v0_7 v0_8 v0_9 v0_12 plateSums1 readPlates2) r 0 0 := ⟨_, rfl⟩
  suffices hW : W p l e (rml 0 0 0) s m args below meth c s.heap [] 0 0 Q (F0 m 0 ls []) from (by rw [hQ] at hW; exact hW)
  unfold f_X6_sumFor at hf
  have L4 : ∀ (z : Int32 × Int32 × Int32), f_X6_sumFor_L4 F plateSums1 readPlates2 z = some r → ∀ (H : Heap) (locs : List Loc) (ls : Array Slot), Wd g A (w_X6_sumFor g h0 h1 h2 v0_0 v0_1 v0_2 v0_3 v0_4 v0_5 v0_6 v0_7 v0_8 v0_9 v0_12 plateSums1 readPlates2) s.heap H locs → lv_has ls 4 [(0, .ref h0), (1, .int z.1), (2, .int z.2.1), (3, .int z.2.2)] → W p l e (rml 0 0 0) s m args below meth c H locs 0 0 Q (F0 m 4 ls []) := by
    intro z hf
    refine lp_W (r := r) (fun (z : Int32 × Int32 × Int32) => ∀ (H : Heap) (locs : List Loc) (ls : Array Slot), Wd g A (w_X6_sumFor g h0 h1 h2 v0_0 v0_1 v0_2 v0_3 v0_4 v0_5 v0_6 v0_7 v0_8 v0_9 v0_12 plateSums1 readPlates2) s.heap H locs → lv_has ls 4 [(0, .ref h0), (1, .int z.1), (2, .int z.2.1), (3, .int z.2.2)] → W p l e (rml 0 0 0) s m args below meth c H locs 0 0 Q (F0 m 4 ls [])) (fun k4 z ih4 hf => ?_) F z hf
    obtain ⟨x1, x2, x3⟩ := z
    intro H locs ls w hl
    try dsimp only at hf w hl ⊢
    unfold f_X6_sumFor_h4 at hf
    refine lv_iload_n hx hb dX6_sumFor_4 rfl (lv_at hl 3 rfl) ?_
    refine lv_iload_n hx hb dX6_sumFor_5 rfl (lv_at hl 1 rfl) ?_
    refine lv_iconst (v := 1) hx hb dX6_sumFor_6 (by decide) ?_
    refine lv_iadd hx hb dX6_sumFor_7 ?_
    refine lv_iconst (v := 4) hx hb dX6_sumFor_8 (by decide) ?_
    refine lv_imul hx hb dX6_sumFor_9 ?_
    refine lv_icmp_ge (tgt := 36) hx hb dX6_sumFor_10 (by decide) (fun c1 => ?_) (fun c1 => ?_)
    · replace hf := it_t c1 hf
      refine lv_iconst (v := 0) hx hb dX6_sumFor_36 (by decide) ?_
      obtain e1 := tp1 hf
      rw [hQ]
      exact rt_i C w rfl (fun _ => 0) rfl e1 dX6_sumFor_37
    · replace hf := it_f c1 hf
      refine lv_aload_n hx hb dX6_sumFor_13 rfl (lv_at hl 0 rfl) ?_
      refine g_X6_43 C w 0 rfl rfl dX6_sumFor_14 ?_
      refine lv_iload_n hx hb dX6_sumFor_17 rfl (lv_at hl 3 rfl) ?_
      obtain ⟨a2, hia2, haa2, hf⟩ := rd_some hf
      refine ial C w 2 rfl hia2 haa2 dX6_sumFor_18 ?_
      refine lv_iload_n hx hb dX6_sumFor_19 rfl (lv_at hl 2 rfl) ?_
      refine lv_icmp_ne (tgt := 30) hx hb dX6_sumFor_20 (by decide) (fun c3 => ?_) (fun c3 => ?_)
      · replace hf := it_f c3 hf
        refine lv_iinc (v := x3 + 1) (lv' := [(3, .int (x3 + 1)), (0, .ref h0), (1, .int x1), (2, .int x2)]) hx hb dX6_sumFor_30 hl (k := 3) rfl rfl (by decide) rfl (fun ls hl => ?_)
        refine lv_goto (tgt := 4) hx hb dX6_sumFor_33 (by decide) ?_
        exact ih4 (x1, x2, x3 + 1) hf _ _ _ w (lv_sub hl [1, 2, 3, 0] rfl)
      · replace hf := it_t c3 hf
        refine lv_aload_n hx hb dX6_sumFor_23 rfl (lv_at hl 0 rfl) ?_
        refine g_X6_46 C w 0 rfl rfl dX6_sumFor_24 ?_
        refine lv_iload_n hx hb dX6_sumFor_27 rfl (lv_at hl 3 rfl) ?_
        obtain ⟨a4, hia4, haa4, hf⟩ := rd_some hf
        refine ial C w 1 rfl hia4 haa4 dX6_sumFor_28 ?_
        obtain e1 := tp1 hf
        rw [hQ]
        exact rt_i C w rfl (fun _ => 0) rfl e1 dX6_sumFor_29
  refine lv_iload_n hx hb dX6_sumFor_0 rfl (lv_at hl 1 rfl) ?_
  refine lv_iconst (v := 4) hx hb dX6_sumFor_1 (by decide) ?_
  refine lv_imul hx hb dX6_sumFor_2 ?_
  refine lv_istore_n (lv' := [(3, .int (p1 * 4)), (0, .ref h0), (1, .int p1), (2, .int p2)]) hx hb dX6_sumFor_3 rfl hl (by decide) rfl (fun ls hl => ?_)
  exact L4 (p1, p2, p1 * 4) hf _ _ _ w (lv_sub hl [1, 2, 3, 0] rfl)

theorem dX6_plateOf_0 : decode cX6_plateOf 0 = .ok (.aload_n 0, 1) := by decide +kernel
theorem dX6_plateOf_1 : decode cX6_plateOf 1 = .ok (.getfield 31, 3) := by decide +kernel
theorem dX6_plateOf_4 : decode cX6_plateOf 4 = .ok (.iload_n 1, 1) := by decide +kernel
theorem dX6_plateOf_5 : decode cX6_plateOf 5 = .ok (.iaload, 1) := by decide +kernel
theorem dX6_plateOf_6 : decode cX6_plateOf 6 = .ok (.iconst (-1), 1) := by decide +kernel
theorem dX6_plateOf_7 : decode cX6_plateOf 7 = .ok (.if_icmp .eq 10, 3) := by decide +kernel
theorem dX6_plateOf_10 : decode cX6_plateOf 10 = .ok (.aload_n 0, 1) := by decide +kernel
theorem dX6_plateOf_11 : decode cX6_plateOf 11 = .ok (.getfield 31, 3) := by decide +kernel
theorem dX6_plateOf_14 : decode cX6_plateOf 14 = .ok (.iload_n 1, 1) := by decide +kernel
theorem dX6_plateOf_15 : decode cX6_plateOf 15 = .ok (.iaload, 1) := by decide +kernel
theorem dX6_plateOf_16 : decode cX6_plateOf 16 = .ok (.ireturn, 1) := by decide +kernel
theorem dX6_plateOf_17 : decode cX6_plateOf 17 = .ok (.iload_n 1, 1) := by decide +kernel
theorem dX6_plateOf_18 : decode cX6_plateOf 18 = .ok (.iconst 4, 1) := by decide +kernel
theorem dX6_plateOf_19 : decode cX6_plateOf 19 = .ok (.imul, 1) := by decide +kernel
theorem dX6_plateOf_20 : decode cX6_plateOf 20 = .ok (.istore_n 3, 1) := by decide +kernel
theorem dX6_plateOf_21 : decode cX6_plateOf 21 = .ok (.iload_n 3, 1) := by decide +kernel
theorem dX6_plateOf_22 : decode cX6_plateOf 22 = .ok (.iconst 1, 1) := by decide +kernel
theorem dX6_plateOf_23 : decode cX6_plateOf 23 = .ok (.iadd, 1) := by decide +kernel
theorem dX6_plateOf_24 : decode cX6_plateOf 24 = .ok (.istore 4, 2) := by decide +kernel
theorem dX6_plateOf_26 : decode cX6_plateOf 26 = .ok (.iload 4, 2) := by decide +kernel
theorem dX6_plateOf_28 : decode cX6_plateOf 28 = .ok (.iload_n 1, 1) := by decide +kernel
theorem dX6_plateOf_29 : decode cX6_plateOf 29 = .ok (.iconst 1, 1) := by decide +kernel
theorem dX6_plateOf_30 : decode cX6_plateOf 30 = .ok (.iadd, 1) := by decide +kernel
theorem dX6_plateOf_31 : decode cX6_plateOf 31 = .ok (.iconst 4, 1) := by decide +kernel
theorem dX6_plateOf_32 : decode cX6_plateOf 32 = .ok (.imul, 1) := by decide +kernel
theorem dX6_plateOf_33 : decode cX6_plateOf 33 = .ok (.if_icmp .ge 28, 3) := by decide +kernel
theorem dX6_plateOf_36 : decode cX6_plateOf 36 = .ok (.aload_n 0, 1) := by decide +kernel
theorem dX6_plateOf_37 : decode cX6_plateOf 37 = .ok (.getfield 46, 3) := by decide +kernel
theorem dX6_plateOf_40 : decode cX6_plateOf 40 = .ok (.iload 4, 2) := by decide +kernel
theorem dX6_plateOf_42 : decode cX6_plateOf 42 = .ok (.iaload, 1) := by decide +kernel
theorem dX6_plateOf_43 : decode cX6_plateOf 43 = .ok (.aload_n 0, 1) := by decide +kernel
theorem dX6_plateOf_44 : decode cX6_plateOf 44 = .ok (.getfield 46, 3) := by decide +kernel
theorem dX6_plateOf_47 : decode cX6_plateOf 47 = .ok (.iload_n 3, 1) := by decide +kernel
theorem dX6_plateOf_48 : decode cX6_plateOf 48 = .ok (.iaload, 1) := by decide +kernel
theorem dX6_plateOf_49 : decode cX6_plateOf 49 = .ok (.if_icmp .le 6, 3) := by decide +kernel
theorem dX6_plateOf_52 : decode cX6_plateOf 52 = .ok (.iload 4, 2) := by decide +kernel
theorem dX6_plateOf_54 : decode cX6_plateOf 54 = .ok (.istore_n 3, 1) := by decide +kernel
theorem dX6_plateOf_55 : decode cX6_plateOf 55 = .ok (.iinc 4 1, 3) := by decide +kernel
theorem dX6_plateOf_58 : decode cX6_plateOf 58 = .ok (.goto (-32), 3) := by decide +kernel
theorem dX6_plateOf_61 : decode cX6_plateOf 61 = .ok (.aload_n 0, 1) := by decide +kernel
theorem dX6_plateOf_62 : decode cX6_plateOf 62 = .ok (.getfield 46, 3) := by decide +kernel
theorem dX6_plateOf_65 : decode cX6_plateOf 65 = .ok (.iload_n 3, 1) := by decide +kernel
theorem dX6_plateOf_66 : decode cX6_plateOf 66 = .ok (.iaload, 1) := by decide +kernel
theorem dX6_plateOf_67 : decode cX6_plateOf 67 = .ok (.aload_n 2, 1) := by decide +kernel
theorem dX6_plateOf_68 : decode cX6_plateOf 68 = .ok (.getfield 64, 3) := by decide +kernel
theorem dX6_plateOf_71 : decode cX6_plateOf 71 = .ok (.if_icmp .lt 12, 3) := by decide +kernel
theorem dX6_plateOf_74 : decode cX6_plateOf 74 = .ok (.aload_n 0, 1) := by decide +kernel
theorem dX6_plateOf_75 : decode cX6_plateOf 75 = .ok (.getfield 43, 3) := by decide +kernel
theorem dX6_plateOf_78 : decode cX6_plateOf 78 = .ok (.iload_n 3, 1) := by decide +kernel
theorem dX6_plateOf_79 : decode cX6_plateOf 79 = .ok (.iaload, 1) := by decide +kernel
theorem dX6_plateOf_80 : decode cX6_plateOf 80 = .ok (.goto 4, 3) := by decide +kernel
theorem dX6_plateOf_83 : decode cX6_plateOf 83 = .ok (.iconst (-1), 1) := by decide +kernel
theorem dX6_plateOf_84 : decode cX6_plateOf 84 = .ok (.ireturn, 1) := by decide +kernel
abbrev m_X6_plateOf : MD := (yX6_plateOf, cX6_plateOf, 5, (some .int))
theorem g_X6_64 {p : Program} {l : Launch} {e : Env} {R : Room} {s : State} {m : MethodId} {args : Array Value} {below : List Frame} {meth : Method} {c : Code} {H : Heap} {locs : List Loc} {cells slots : Nat} {Q : State → Prop} {d : MD} {g : GT} {A : Nat → Prop} {ws : va_W} {pc : Nat} {ls : Array Slot} {rest : List Value} (C : Cx p s m args meth c RX6 d g A) (w : Wd g A ws s.heap H locs) (q0 : Nat) {a : Nat} {fs : List Value} {v : Value} (he : ws[q0]? = some (a, .inr (4, fs))) (hv : fs[5]? = some v) (hd : decode d.2.1 pc = .ok (.getfield 64, 3)) (kk : W p l e R s m args below meth c H locs cells slots Q (F0 m (pc + 3) ls (v :: rest))) : W p l e R s m args below meth c H locs cells slots Q (F0 m pc ls (.ref a :: rest)) := fgN C w inX4s (ref := RX4) rfl 5 (by decide) (nw_t (w := Cond.fieldLinkNest RX6 64 RX4 (TX4 5).2.1 (TX4 5).2.2.1 "FreeFlowToll") 55 (by decide +kernel) rfl) rfl q0 he hv hd kk
abbrev w_X6_plateOf (g : GT) (h0 h1 h2 h3 h4 : Nat) (v0_0 v0_1 v0_2 v0_3 v0_4 v0_5 v0_7 v0_8 v0_9 v0_12 v4_0 v4_1 v4_2 v4_3 v4_4 v4_6 v4_7 v4_8 v4_9 v4_10 v4_11 v4_12 : Value) (handPlate1 plateSums2 readPlates3 : Nat → Int32) (confidence4 : Int32) : va_W := [(h0, .inr (6, [v0_0, v0_1, v0_2, v0_3, v0_4, v0_5, .ref h1, v0_7, v0_8, v0_9, .ref h3, .ref h2, v0_12])), (h1, aI g 80 handPlate1), (h2, aI g 320 plateSums2), (h3, aI g 320 readPlates3), (h4, .inr (4, [v4_0, v4_1, v4_2, v4_3, v4_4, .int confidence4, v4_6, v4_7, v4_8, v4_9, v4_10, v4_11, v4_12]))]
def f_X6_plateOf_b84 (F : Nat) (handPlate1 plateSums2 readPlates3 : Nat → Int32) (confidence4 s0 : Int32) : Option (Int32) :=
  some s0
def f_X6_plateOf_b55 (F : Nat) (k26 : (Int32 × Int32 × Int32) → Option (Int32)) (handPlate1 plateSums2 readPlates3 : Nat → Int32) (confidence4 x1 x3 x4 : Int32) : Option (Int32) :=
  k26 (x1, x3, x4 + 1)
def f_X6_plateOf_h26 (F : Nat) (handPlate1 plateSums2 readPlates3 : Nat → Int32) (confidence4 : Int32) (k26 : (Int32 × Int32 × Int32) → Option (Int32)) (x1 x3 x4 : Int32) : Option (Int32) :=
  if ((x1 + 1) * 4) ≤ x4 then
    rd plateSums2 320 x3 fun a2 =>
    if a2 < confidence4 then
      f_X6_plateOf_b84 F handPlate1 plateSums2 readPlates3 confidence4 (-1)
    else
      rd readPlates3 320 x3 fun a4 =>
      f_X6_plateOf_b84 F handPlate1 plateSums2 readPlates3 confidence4 a4
  else
    rd plateSums2 320 x4 fun a5 =>
    rd plateSums2 320 x3 fun a6 =>
    if a5 ≤ a6 then
      f_X6_plateOf_b55 F k26 handPlate1 plateSums2 readPlates3 confidence4 x1 x3 x4
    else
      f_X6_plateOf_b55 F k26 handPlate1 plateSums2 readPlates3 confidence4 x1 x4 x4
def f_X6_plateOf_L26 (F : Nat) (handPlate1 plateSums2 readPlates3 : Nat → Int32) (confidence4 : Int32) (z : Int32 × Int32 × Int32) : Option (Int32) := lp (fun k z => f_X6_plateOf_h26 F handPlate1 plateSums2 readPlates3 confidence4 k z.1 z.2.1 z.2.2) F z
def f_X6_plateOf (F : Nat) (p1 : Int32) (handPlate1 plateSums2 readPlates3 : Nat → Int32) (confidence4 : Int32) : Option (Int32) :=
  rd handPlate1 80 p1 fun a8 =>
  if a8 = (-1) then
    f_X6_plateOf_L26 F handPlate1 plateSums2 readPlates3 confidence4 (p1, p1 * 4, (p1 * 4) + 1)
  else
    rd handPlate1 80 p1 fun a10 =>
    some a10
set_option maxHeartbeats 4000000 in
set_option maxRecDepth 100000 in
theorem c_X6_plateOf (l : Launch) (g : GT) (F : Nat) (h0 h1 h2 h3 h4 : Nat) (v0_0 v0_1 v0_2 v0_3 v0_4 v0_5 v0_7 v0_8 v0_9 v0_12 v4_0 v4_1 v4_2 v4_3 v4_4 v4_6 v4_7 v4_8 v4_9 v4_10 v4_11 v4_12 : Value) (p1 : Int32) (handPlate1 plateSums2 readPlates3 : Nat → Int32) (confidence4 : Int32) (r : Int32) (sz : Nat) (hf : f_X6_plateOf F p1 handPlate1 plateSums2 readPlates3 confidence4 = some r) : CI l m_X6_plateOf (rml 0 0 0) g (w_X6_plateOf g h0 h1 h2 h3 h4 v0_0 v0_1 v0_2 v0_3 v0_4 v0_5 v0_7 v0_8 v0_9 v0_12 v4_0 v4_1 v4_2 v4_3 v4_4 v4_6 v4_7 v4_8 v4_9 v4_10 v4_11 v4_12 handPlate1 plateSums2 readPlates3 confidence4) (fun _ => w_X6_plateOf g h0 h1 h2 h3 h4 v0_0 v0_1 v0_2 v0_3 v0_4 v0_5 v0_7 v0_8 v0_9 v0_12 v4_0 v4_1 v4_2 v4_3 v4_4 v4_6 v4_7 v4_8 v4_9 v4_10 v4_11 v4_12 handPlate1 plateSums2 readPlates3 confidence4) sz [.ref h0, .int p1, .ref h4] r := by
  refine en_i (by decide) (Nat.le_of_ble_eq_true rfl) (fun p e s m args below meth c A ls C w hl => ?_)
  have C : Cx p s m args meth c RX6 m_X6_plateOf g A := C
  have hx := C.1
  have hb : c.code = cX6_plateOf := C.2.1
  have hl : lv_has ls 5 [(0, .ref h0), (1, .int p1), (2, .ref h4)] := hl
  obtain ⟨Q, hQ⟩ : ∃ Q, Q = QI below args s g A (fun _ => w_X6_plateOf g h0 h1 h2 h3 h4 v0_0 v0_1 v0_2 v0_3 v0_4 v0_5 v0_7 v0_8 v0_9 v0_12 v4_0 v4_1 v4_2 v4_3 v4_4 v4_6 v4_7 v4_8 v4_9 v4_10 v4_11 v4_12 handPlate1 plateSums2 readPlates3 confidence4) r 0 0 := ⟨_, rfl⟩
  suffices hW : W p l e (rml 0 0 0) s m args below meth c s.heap [] 0 0 Q (F0 m 0 ls []) from (by rw [hQ] at hW; exact hW)
  unfold f_X6_plateOf at hf
  have b84 : ∀ (s0 : Int32) (H : Heap) (locs : List Loc) (ls : Array Slot), f_X6_plateOf_b84 F handPlate1 plateSums2 readPlates3 confidence4 s0 = some r → Wd g A (w_X6_plateOf g h0 h1 h2 h3 h4 v0_0 v0_1 v0_2 v0_3 v0_4 v0_5 v0_7 v0_8 v0_9 v0_12 v4_0 v4_1 v4_2 v4_3 v4_4 v4_6 v4_7 v4_8 v4_9 v4_10 v4_11 v4_12 handPlate1 plateSums2 readPlates3 confidence4) s.heap H locs → lv_has ls 5 [] → W p l e (rml 0 0 0) s m args below meth c H locs 0 0 Q (F0 m 84 ls [.int s0]) := by
    intro s0 H locs ls hf w hl
    unfold f_X6_plateOf_b84 at hf
    obtain e1 := tp1 hf
    rw [hQ]
    exact rt_i C w rfl (fun _ => 0) rfl e1 dX6_plateOf_84
  have L26 : ∀ (z : Int32 × Int32 × Int32), f_X6_plateOf_L26 F handPlate1 plateSums2 readPlates3 confidence4 z = some r → ∀ (H : Heap) (locs : List Loc) (ls : Array Slot), Wd g A (w_X6_plateOf g h0 h1 h2 h3 h4 v0_0 v0_1 v0_2 v0_3 v0_4 v0_5 v0_7 v0_8 v0_9 v0_12 v4_0 v4_1 v4_2 v4_3 v4_4 v4_6 v4_7 v4_8 v4_9 v4_10 v4_11 v4_12 handPlate1 plateSums2 readPlates3 confidence4) s.heap H locs → lv_has ls 5 [(0, .ref h0), (1, .int z.1), (2, .ref h4), (3, .int z.2.1), (4, .int z.2.2)] → W p l e (rml 0 0 0) s m args below meth c H locs 0 0 Q (F0 m 26 ls []) := by
    intro z hf
    refine lp_W (r := r) (fun (z : Int32 × Int32 × Int32) => ∀ (H : Heap) (locs : List Loc) (ls : Array Slot), Wd g A (w_X6_plateOf g h0 h1 h2 h3 h4 v0_0 v0_1 v0_2 v0_3 v0_4 v0_5 v0_7 v0_8 v0_9 v0_12 v4_0 v4_1 v4_2 v4_3 v4_4 v4_6 v4_7 v4_8 v4_9 v4_10 v4_11 v4_12 handPlate1 plateSums2 readPlates3 confidence4) s.heap H locs → lv_has ls 5 [(0, .ref h0), (1, .int z.1), (2, .ref h4), (3, .int z.2.1), (4, .int z.2.2)] → W p l e (rml 0 0 0) s m args below meth c H locs 0 0 Q (F0 m 26 ls [])) (fun k26 z ih26 hf => ?_) F z hf
    obtain ⟨x1, x3, x4⟩ := z
    intro H locs ls w hl
    try dsimp only at hf w hl ⊢
    unfold f_X6_plateOf_h26 at hf
    have b55 : ∀ (x1 x3 x4 : Int32) (H : Heap) (locs : List Loc) (ls : Array Slot), f_X6_plateOf_b55 F k26 handPlate1 plateSums2 readPlates3 confidence4 x1 x3 x4 = some r → Wd g A (w_X6_plateOf g h0 h1 h2 h3 h4 v0_0 v0_1 v0_2 v0_3 v0_4 v0_5 v0_7 v0_8 v0_9 v0_12 v4_0 v4_1 v4_2 v4_3 v4_4 v4_6 v4_7 v4_8 v4_9 v4_10 v4_11 v4_12 handPlate1 plateSums2 readPlates3 confidence4) s.heap H locs → lv_has ls 5 [(0, .ref h0), (1, .int x1), (2, .ref h4), (3, .int x3), (4, .int x4)] → W p l e (rml 0 0 0) s m args below meth c H locs 0 0 Q (F0 m 55 ls []) := by
      intro x1 x3 x4 H locs ls hf w hl
      unfold f_X6_plateOf_b55 at hf
      refine lv_iinc (v := x4 + 1) (lv' := [(4, .int (x4 + 1)), (0, .ref h0), (1, .int x1), (2, .ref h4), (3, .int x3)]) hx hb dX6_plateOf_55 hl (k := 4) rfl rfl (by decide) rfl (fun ls hl => ?_)
      refine lv_goto (tgt := 26) hx hb dX6_plateOf_58 (by decide) ?_
      exact ih26 (x1, x3, x4 + 1) hf _ _ _ w (lv_sub hl [1, 2, 3, 4, 0] rfl)
    refine lv_iload hx hb dX6_plateOf_26 (lv_at hl 4 rfl) ?_
    refine lv_iload_n hx hb dX6_plateOf_28 rfl (lv_at hl 1 rfl) ?_
    refine lv_iconst (v := 1) hx hb dX6_plateOf_29 (by decide) ?_
    refine lv_iadd hx hb dX6_plateOf_30 ?_
    refine lv_iconst (v := 4) hx hb dX6_plateOf_31 (by decide) ?_
    refine lv_imul hx hb dX6_plateOf_32 ?_
    refine lv_icmp_ge (tgt := 61) hx hb dX6_plateOf_33 (by decide) (fun c1 => ?_) (fun c1 => ?_)
    · replace hf := it_t c1 hf
      refine lv_aload_n hx hb dX6_plateOf_61 rfl (lv_at hl 0 rfl) ?_
      refine g_X6_46 C w 0 rfl rfl dX6_plateOf_62 ?_
      refine lv_iload_n hx hb dX6_plateOf_65 rfl (lv_at hl 3 rfl) ?_
      obtain ⟨a2, hia2, haa2, hf⟩ := rd_some hf
      refine ial C w 2 rfl hia2 haa2 dX6_plateOf_66 ?_
      refine lv_aload_n hx hb dX6_plateOf_67 rfl (lv_at hl 2 rfl) ?_
      refine g_X6_64 C w 4 rfl rfl dX6_plateOf_68 ?_
      refine lv_icmp_lt (tgt := 83) hx hb dX6_plateOf_71 (by decide) (fun c3 => ?_) (fun c3 => ?_)
      · replace hf := it_t c3 hf
        refine lv_iconst (v := -1) hx hb dX6_plateOf_83 (by decide) ?_
        exact b84 (-1) _ _ _ hf w (lv_sub hl [] rfl)
      · replace hf := it_f c3 hf
        refine lv_aload_n hx hb dX6_plateOf_74 rfl (lv_at hl 0 rfl) ?_
        refine g_X6_43 C w 0 rfl rfl dX6_plateOf_75 ?_
        refine lv_iload_n hx hb dX6_plateOf_78 rfl (lv_at hl 3 rfl) ?_
        obtain ⟨a4, hia4, haa4, hf⟩ := rd_some hf
        refine ial C w 3 rfl hia4 haa4 dX6_plateOf_79 ?_
        refine lv_goto (tgt := 84) hx hb dX6_plateOf_80 (by decide) ?_
        exact b84 a4 _ _ _ hf w (lv_sub hl [] rfl)
    · replace hf := it_f c1 hf
      refine lv_aload_n hx hb dX6_plateOf_36 rfl (lv_at hl 0 rfl) ?_
      refine g_X6_46 C w 0 rfl rfl dX6_plateOf_37 ?_
      refine lv_iload hx hb dX6_plateOf_40 (lv_at hl 4 rfl) ?_
      obtain ⟨a5, hia5, haa5, hf⟩ := rd_some hf
      refine ial C w 2 rfl hia5 haa5 dX6_plateOf_42 ?_
      refine lv_aload_n hx hb dX6_plateOf_43 rfl (lv_at hl 0 rfl) ?_
      refine g_X6_46 C w 0 rfl rfl dX6_plateOf_44 ?_
      refine lv_iload_n hx hb dX6_plateOf_47 rfl (lv_at hl 3 rfl) ?_
      obtain ⟨a6, hia6, haa6, hf⟩ := rd_some hf
      refine ial C w 2 rfl hia6 haa6 dX6_plateOf_48 ?_
      refine lv_icmp_le (tgt := 55) hx hb dX6_plateOf_49 (by decide) (fun c7 => ?_) (fun c7 => ?_)
      · replace hf := it_t c7 hf
        exact b55 x1 x3 x4 _ _ _ hf w (lv_sub hl [0, 1, 2, 3, 4] rfl)
      · replace hf := it_f c7 hf
        refine lv_iload hx hb dX6_plateOf_52 (lv_at hl 4 rfl) ?_
        refine lv_istore_n (lv' := [(3, .int x4), (0, .ref h0), (1, .int x1), (2, .ref h4), (4, .int x4)]) hx hb dX6_plateOf_54 rfl hl (by decide) rfl (fun ls hl => ?_)
        exact b55 x1 x4 x4 _ _ _ hf w (lv_sub hl [1, 2, 3, 0, 4] rfl)
  refine lv_aload_n hx hb dX6_plateOf_0 rfl (lv_at hl 0 rfl) ?_
  refine g_X6_31 C w 0 rfl rfl dX6_plateOf_1 ?_
  refine lv_iload_n hx hb dX6_plateOf_4 rfl (lv_at hl 1 rfl) ?_
  obtain ⟨a8, hia8, haa8, hf⟩ := rd_some hf
  refine ial C w 1 rfl hia8 haa8 dX6_plateOf_5 ?_
  refine lv_iconst (v := -1) hx hb dX6_plateOf_6 (by decide) ?_
  refine lv_icmp_eq (tgt := 17) hx hb dX6_plateOf_7 (by decide) (fun c9 => ?_) (fun c9 => ?_)
  · replace hf := it_t c9 hf
    refine lv_iload_n hx hb dX6_plateOf_17 rfl (lv_at hl 1 rfl) ?_
    refine lv_iconst (v := 4) hx hb dX6_plateOf_18 (by decide) ?_
    refine lv_imul hx hb dX6_plateOf_19 ?_
    refine lv_istore_n (lv' := [(3, .int (p1 * 4)), (0, .ref h0), (1, .int p1), (2, .ref h4)]) hx hb dX6_plateOf_20 rfl hl (by decide) rfl (fun ls hl => ?_)
    refine lv_iload_n hx hb dX6_plateOf_21 rfl (lv_at hl 0 rfl) ?_
    refine lv_iconst (v := 1) hx hb dX6_plateOf_22 (by decide) ?_
    refine lv_iadd hx hb dX6_plateOf_23 ?_
    refine lv_istore (lv' := [(4, .int ((p1 * 4) + 1)), (3, .int (p1 * 4)), (0, .ref h0), (1, .int p1), (2, .ref h4)]) hx hb dX6_plateOf_24 hl (by decide) rfl (fun ls hl => ?_)
    exact L26 (p1, p1 * 4, (p1 * 4) + 1) hf _ _ _ w (lv_sub hl [2, 3, 4, 1, 0] rfl)
  · replace hf := it_f c9 hf
    refine lv_aload_n hx hb dX6_plateOf_10 rfl (lv_at hl 0 rfl) ?_
    refine g_X6_31 C w 0 rfl rfl dX6_plateOf_11 ?_
    refine lv_iload_n hx hb dX6_plateOf_14 rfl (lv_at hl 1 rfl) ?_
    obtain ⟨a10, hia10, haa10, hf⟩ := rd_some hf
    refine ial C w 1 rfl hia10 haa10 dX6_plateOf_15 ?_
    obtain e1 := tp1 hf
    rw [hQ]
    exact rt_i C w rfl (fun _ => 0) rfl e1 dX6_plateOf_16

theorem dX6_axlesOf_0 : decode cX6_axlesOf 0 = .ok (.aload_n 0, 1) := by decide +kernel
theorem dX6_axlesOf_1 : decode cX6_axlesOf 1 = .ok (.getfield 34, 3) := by decide +kernel
theorem dX6_axlesOf_4 : decode cX6_axlesOf 4 = .ok (.iload_n 1, 1) := by decide +kernel
theorem dX6_axlesOf_5 : decode cX6_axlesOf 5 = .ok (.iaload, 1) := by decide +kernel
theorem dX6_axlesOf_6 : decode cX6_axlesOf 6 = .ok (.iconst (-1), 1) := by decide +kernel
theorem dX6_axlesOf_7 : decode cX6_axlesOf 7 = .ok (.if_icmp .eq 10, 3) := by decide +kernel
theorem dX6_axlesOf_10 : decode cX6_axlesOf 10 = .ok (.aload_n 0, 1) := by decide +kernel
theorem dX6_axlesOf_11 : decode cX6_axlesOf 11 = .ok (.getfield 34, 3) := by decide +kernel
theorem dX6_axlesOf_14 : decode cX6_axlesOf 14 = .ok (.iload_n 1, 1) := by decide +kernel
theorem dX6_axlesOf_15 : decode cX6_axlesOf 15 = .ok (.iaload, 1) := by decide +kernel
theorem dX6_axlesOf_16 : decode cX6_axlesOf 16 = .ok (.ireturn, 1) := by decide +kernel
theorem dX6_axlesOf_17 : decode cX6_axlesOf 17 = .ok (.iconst 0, 1) := by decide +kernel
theorem dX6_axlesOf_18 : decode cX6_axlesOf 18 = .ok (.istore_n 2, 1) := by decide +kernel
theorem dX6_axlesOf_19 : decode cX6_axlesOf 19 = .ok (.iconst (-1), 1) := by decide +kernel
theorem dX6_axlesOf_20 : decode cX6_axlesOf 20 = .ok (.istore_n 3, 1) := by decide +kernel
theorem dX6_axlesOf_21 : decode cX6_axlesOf 21 = .ok (.iconst 0, 1) := by decide +kernel
theorem dX6_axlesOf_22 : decode cX6_axlesOf 22 = .ok (.istore 4, 2) := by decide +kernel
theorem dX6_axlesOf_24 : decode cX6_axlesOf 24 = .ok (.iload 4, 2) := by decide +kernel
theorem dX6_axlesOf_26 : decode cX6_axlesOf 26 = .ok (.bipush 8, 2) := by decide +kernel
theorem dX6_axlesOf_28 : decode cX6_axlesOf 28 = .ok (.if_icmp .ge 42, 3) := by decide +kernel
theorem dX6_axlesOf_31 : decode cX6_axlesOf 31 = .ok (.aload_n 0, 1) := by decide +kernel
theorem dX6_axlesOf_32 : decode cX6_axlesOf 32 = .ok (.getfield 49, 3) := by decide +kernel
theorem dX6_axlesOf_35 : decode cX6_axlesOf 35 = .ok (.iload_n 1, 1) := by decide +kernel
theorem dX6_axlesOf_36 : decode cX6_axlesOf 36 = .ok (.bipush 8, 2) := by decide +kernel
theorem dX6_axlesOf_38 : decode cX6_axlesOf 38 = .ok (.imul, 1) := by decide +kernel
theorem dX6_axlesOf_39 : decode cX6_axlesOf 39 = .ok (.iload 4, 2) := by decide +kernel
theorem dX6_axlesOf_41 : decode cX6_axlesOf 41 = .ok (.iadd, 1) := by decide +kernel
theorem dX6_axlesOf_42 : decode cX6_axlesOf 42 = .ok (.iaload, 1) := by decide +kernel
theorem dX6_axlesOf_43 : decode cX6_axlesOf 43 = .ok (.istore 5, 2) := by decide +kernel
theorem dX6_axlesOf_45 : decode cX6_axlesOf 45 = .ok (.iload 5, 2) := by decide +kernel
theorem dX6_axlesOf_47 : decode cX6_axlesOf 47 = .ok (.ifCond .le 17, 3) := by decide +kernel
theorem dX6_axlesOf_50 : decode cX6_axlesOf 50 = .ok (.iload 5, 2) := by decide +kernel
theorem dX6_axlesOf_52 : decode cX6_axlesOf 52 = .ok (.iload_n 2, 1) := by decide +kernel
theorem dX6_axlesOf_53 : decode cX6_axlesOf 53 = .ok (.if_icmp .lt 11, 3) := by decide +kernel
theorem dX6_axlesOf_56 : decode cX6_axlesOf 56 = .ok (.iload 5, 2) := by decide +kernel
theorem dX6_axlesOf_58 : decode cX6_axlesOf 58 = .ok (.istore_n 2, 1) := by decide +kernel
theorem dX6_axlesOf_59 : decode cX6_axlesOf 59 = .ok (.iconst 2, 1) := by decide +kernel
theorem dX6_axlesOf_60 : decode cX6_axlesOf 60 = .ok (.iload 4, 2) := by decide +kernel
theorem dX6_axlesOf_62 : decode cX6_axlesOf 62 = .ok (.iadd, 1) := by decide +kernel
theorem dX6_axlesOf_63 : decode cX6_axlesOf 63 = .ok (.istore_n 3, 1) := by decide +kernel
theorem dX6_axlesOf_64 : decode cX6_axlesOf 64 = .ok (.iinc 4 1, 3) := by decide +kernel
theorem dX6_axlesOf_67 : decode cX6_axlesOf 67 = .ok (.goto (-43), 3) := by decide +kernel
theorem dX6_axlesOf_70 : decode cX6_axlesOf 70 = .ok (.iload_n 3, 1) := by decide +kernel
theorem dX6_axlesOf_71 : decode cX6_axlesOf 71 = .ok (.ireturn, 1) := by decide +kernel
abbrev m_X6_axlesOf : MD := (yX6_axlesOf, cX6_axlesOf, 6, (some .int))

abbrev w_X6_axlesOf (g : GT) (h0 h1 h2 : Nat) (v0_0 v0_1 v0_2 v0_3 v0_4 v0_5 v0_6 v0_8 v0_9 v0_10 v0_11 : Value) (axleReadings1 handAxles2 : Nat → Int32) : va_W := [(h0, .inr (6, [v0_0, v0_1, v0_2, v0_3, v0_4, v0_5, v0_6, .ref h2, v0_8, v0_9, v0_10, v0_11, .ref h1])), (h1, aI g 640 axleReadings1), (h2, aI g 80 handAxles2)]
def f_X6_axlesOf_b64 (F : Nat) (k24 : (Int32 × Int32 × Int32 × Int32) → Option (Int32)) (axleReadings1 handAxles2 : Nat → Int32) (x1 x2 x3 x4 : Int32) : Option (Int32) :=
  k24 (x1, x2, x3, x4 + 1)
def f_X6_axlesOf_h24 (F : Nat) (axleReadings1 handAxles2 : Nat → Int32) (k24 : (Int32 × Int32 × Int32 × Int32) → Option (Int32)) (x1 x2 x3 x4 : Int32) : Option (Int32) :=
  if 8 ≤ x4 then
    some x3
  else
    rd axleReadings1 640 ((x1 * 8) + x4) fun a2 =>
    if a2 ≤ 0 then
      f_X6_axlesOf_b64 F k24 axleReadings1 handAxles2 x1 x2 x3 x4
    else
      if a2 < x2 then
        f_X6_axlesOf_b64 F k24 axleReadings1 handAxles2 x1 x2 x3 x4
      else
        f_X6_axlesOf_b64 F k24 axleReadings1 handAxles2 x1 a2 (2 + x4) x4
def f_X6_axlesOf_L24 (F : Nat) (axleReadings1 handAxles2 : Nat → Int32) (z : Int32 × Int32 × Int32 × Int32) : Option (Int32) := lp (fun k z => f_X6_axlesOf_h24 F axleReadings1 handAxles2 k z.1 z.2.1 z.2.2.1 z.2.2.2) F z
def f_X6_axlesOf (F : Nat) (p1 : Int32) (axleReadings1 handAxles2 : Nat → Int32) : Option (Int32) :=
  rd handAxles2 80 p1 fun a5 =>
  if a5 = (-1) then
    f_X6_axlesOf_L24 F axleReadings1 handAxles2 (p1, 0, (-1), 0)
  else
    rd handAxles2 80 p1 fun a7 =>
    some a7
set_option maxHeartbeats 4000000 in
set_option maxRecDepth 100000 in
theorem c_X6_axlesOf (l : Launch) (g : GT) (F : Nat) (h0 h1 h2 : Nat) (v0_0 v0_1 v0_2 v0_3 v0_4 v0_5 v0_6 v0_8 v0_9 v0_10 v0_11 : Value) (p1 : Int32) (axleReadings1 handAxles2 : Nat → Int32) (r : Int32) (sz : Nat) (hf : f_X6_axlesOf F p1 axleReadings1 handAxles2 = some r) : CI l m_X6_axlesOf (rml 0 0 0) g (w_X6_axlesOf g h0 h1 h2 v0_0 v0_1 v0_2 v0_3 v0_4 v0_5 v0_6 v0_8 v0_9 v0_10 v0_11 axleReadings1 handAxles2) (fun _ => w_X6_axlesOf g h0 h1 h2 v0_0 v0_1 v0_2 v0_3 v0_4 v0_5 v0_6 v0_8 v0_9 v0_10 v0_11 axleReadings1 handAxles2) sz [.ref h0, .int p1] r := by
  refine en_i (by decide) (Nat.le_of_ble_eq_true rfl) (fun p e s m args below meth c A ls C w hl => ?_)
  have C : Cx p s m args meth c RX6 m_X6_axlesOf g A := C
  have hx := C.1
  have hb : c.code = cX6_axlesOf := C.2.1
  have hl : lv_has ls 6 [(0, .ref h0), (1, .int p1)] := hl
  obtain ⟨Q, hQ⟩ : ∃ Q, Q = QI below args s g A (fun _ => w_X6_axlesOf g h0 h1 h2 v0_0 v0_1 v0_2 v0_3 v0_4 v0_5 v0_6 v0_8 v0_9 v0_10 v0_11 axleReadings1 handAxles2) r 0 0 := ⟨_, rfl⟩
  suffices hW : W p l e (rml 0 0 0) s m args below meth c s.heap [] 0 0 Q (F0 m 0 ls []) from (by rw [hQ] at hW; exact hW)
  unfold f_X6_axlesOf at hf
  have L24 : ∀ (z : Int32 × Int32 × Int32 × Int32), f_X6_axlesOf_L24 F axleReadings1 handAxles2 z = some r → ∀ (H : Heap) (locs : List Loc) (ls : Array Slot), Wd g A (w_X6_axlesOf g h0 h1 h2 v0_0 v0_1 v0_2 v0_3 v0_4 v0_5 v0_6 v0_8 v0_9 v0_10 v0_11 axleReadings1 handAxles2) s.heap H locs → lv_has ls 6 [(0, .ref h0), (1, .int z.1), (2, .int z.2.1), (3, .int z.2.2.1), (4, .int z.2.2.2)] → W p l e (rml 0 0 0) s m args below meth c H locs 0 0 Q (F0 m 24 ls []) := by
    intro z hf
    refine lp_W (r := r) (fun (z : Int32 × Int32 × Int32 × Int32) => ∀ (H : Heap) (locs : List Loc) (ls : Array Slot), Wd g A (w_X6_axlesOf g h0 h1 h2 v0_0 v0_1 v0_2 v0_3 v0_4 v0_5 v0_6 v0_8 v0_9 v0_10 v0_11 axleReadings1 handAxles2) s.heap H locs → lv_has ls 6 [(0, .ref h0), (1, .int z.1), (2, .int z.2.1), (3, .int z.2.2.1), (4, .int z.2.2.2)] → W p l e (rml 0 0 0) s m args below meth c H locs 0 0 Q (F0 m 24 ls [])) (fun k24 z ih24 hf => ?_) F z hf
    obtain ⟨x1, x2, x3, x4⟩ := z
    intro H locs ls w hl
    try dsimp only at hf w hl ⊢
    unfold f_X6_axlesOf_h24 at hf
    have b64 : ∀ (x1 x2 x3 x4 : Int32) (H : Heap) (locs : List Loc) (ls : Array Slot), f_X6_axlesOf_b64 F k24 axleReadings1 handAxles2 x1 x2 x3 x4 = some r → Wd g A (w_X6_axlesOf g h0 h1 h2 v0_0 v0_1 v0_2 v0_3 v0_4 v0_5 v0_6 v0_8 v0_9 v0_10 v0_11 axleReadings1 handAxles2) s.heap H locs → lv_has ls 6 [(0, .ref h0), (1, .int x1), (2, .int x2), (3, .int x3), (4, .int x4)] → W p l e (rml 0 0 0) s m args below meth c H locs 0 0 Q (F0 m 64 ls []) := by
      intro x1 x2 x3 x4 H locs ls hf w hl
      unfold f_X6_axlesOf_b64 at hf
      refine lv_iinc (v := x4 + 1) (lv' := [(4, .int (x4 + 1)), (0, .ref h0), (1, .int x1), (2, .int x2), (3, .int x3)]) hx hb dX6_axlesOf_64 hl (k := 4) rfl rfl (by decide) rfl (fun ls hl => ?_)
      refine lv_goto (tgt := 24) hx hb dX6_axlesOf_67 (by decide) ?_
      exact ih24 (x1, x2, x3, x4 + 1) hf _ _ _ w (lv_sub hl [1, 2, 3, 4, 0] rfl)
    refine lv_iload hx hb dX6_axlesOf_24 (lv_at hl 4 rfl) ?_
    refine lv_bipush (v := 8) hx hb dX6_axlesOf_26 (by decide) ?_
    refine lv_icmp_ge (tgt := 70) hx hb dX6_axlesOf_28 (by decide) (fun c1 => ?_) (fun c1 => ?_)
    · replace hf := it_t c1 hf
      refine lv_iload_n hx hb dX6_axlesOf_70 rfl (lv_at hl 3 rfl) ?_
      obtain e1 := tp1 hf
      rw [hQ]
      exact rt_i C w rfl (fun _ => 0) rfl e1 dX6_axlesOf_71
    · replace hf := it_f c1 hf
      refine lv_aload_n hx hb dX6_axlesOf_31 rfl (lv_at hl 0 rfl) ?_
      refine g_X6_49 C w 0 rfl rfl dX6_axlesOf_32 ?_
      refine lv_iload_n hx hb dX6_axlesOf_35 rfl (lv_at hl 1 rfl) ?_
      refine lv_bipush (v := 8) hx hb dX6_axlesOf_36 (by decide) ?_
      refine lv_imul hx hb dX6_axlesOf_38 ?_
      refine lv_iload hx hb dX6_axlesOf_39 (lv_at hl 4 rfl) ?_
      refine lv_iadd hx hb dX6_axlesOf_41 ?_
      obtain ⟨a2, hia2, haa2, hf⟩ := rd_some hf
      refine ial C w 1 rfl hia2 haa2 dX6_axlesOf_42 ?_
      refine lv_istore (lv' := [(5, .int a2), (0, .ref h0), (1, .int x1), (2, .int x2), (3, .int x3), (4, .int x4)]) hx hb dX6_axlesOf_43 hl (by decide) rfl (fun ls hl => ?_)
      refine lv_iload hx hb dX6_axlesOf_45 (lv_at hl 0 rfl) ?_
      refine lv_if_le (tgt := 64) hx hb dX6_axlesOf_47 (by decide) (fun c3 => ?_) (fun c3 => ?_)
      · replace hf := it_t c3 hf
        exact b64 x1 x2 x3 x4 _ _ _ hf w (lv_sub hl [1, 2, 3, 4, 5] rfl)
      · replace hf := it_f c3 hf
        refine lv_iload hx hb dX6_axlesOf_50 (lv_at hl 0 rfl) ?_
        refine lv_iload_n hx hb dX6_axlesOf_52 rfl (lv_at hl 3 rfl) ?_
        refine lv_icmp_lt (tgt := 64) hx hb dX6_axlesOf_53 (by decide) (fun c4 => ?_) (fun c4 => ?_)
        · replace hf := it_t c4 hf
          exact b64 x1 x2 x3 x4 _ _ _ hf w (lv_sub hl [1, 2, 3, 4, 5] rfl)
        · replace hf := it_f c4 hf
          refine lv_iload hx hb dX6_axlesOf_56 (lv_at hl 0 rfl) ?_
          refine lv_istore_n (lv' := [(2, .int a2), (5, .int a2), (0, .ref h0), (1, .int x1), (3, .int x3), (4, .int x4)]) hx hb dX6_axlesOf_58 rfl hl (by decide) rfl (fun ls hl => ?_)
          refine lv_iconst (v := 2) hx hb dX6_axlesOf_59 (by decide) ?_
          refine lv_iload hx hb dX6_axlesOf_60 (lv_at hl 5 rfl) ?_
          refine lv_iadd hx hb dX6_axlesOf_62 ?_
          refine lv_istore_n (lv' := [(3, .int (2 + x4)), (2, .int a2), (5, .int a2), (0, .ref h0), (1, .int x1), (4, .int x4)]) hx hb dX6_axlesOf_63 rfl hl (by decide) rfl (fun ls hl => ?_)
          exact b64 x1 a2 (2 + x4) x4 _ _ _ hf w (lv_sub hl [3, 4, 1, 0, 5] rfl)
  refine lv_aload_n hx hb dX6_axlesOf_0 rfl (lv_at hl 0 rfl) ?_
  refine g_X6_34 C w 0 rfl rfl dX6_axlesOf_1 ?_
  refine lv_iload_n hx hb dX6_axlesOf_4 rfl (lv_at hl 1 rfl) ?_
  obtain ⟨a5, hia5, haa5, hf⟩ := rd_some hf
  refine ial C w 2 rfl hia5 haa5 dX6_axlesOf_5 ?_
  refine lv_iconst (v := -1) hx hb dX6_axlesOf_6 (by decide) ?_
  refine lv_icmp_eq (tgt := 17) hx hb dX6_axlesOf_7 (by decide) (fun c6 => ?_) (fun c6 => ?_)
  · replace hf := it_t c6 hf
    refine lv_iconst (v := 0) hx hb dX6_axlesOf_17 (by decide) ?_
    refine lv_istore_n (lv' := [(2, .int 0), (0, .ref h0), (1, .int p1)]) hx hb dX6_axlesOf_18 rfl hl (by decide) rfl (fun ls hl => ?_)
    refine lv_iconst (v := -1) hx hb dX6_axlesOf_19 (by decide) ?_
    refine lv_istore_n (lv' := [(3, .int (-1)), (2, .int 0), (0, .ref h0), (1, .int p1)]) hx hb dX6_axlesOf_20 rfl hl (by decide) rfl (fun ls hl => ?_)
    refine lv_iconst (v := 0) hx hb dX6_axlesOf_21 (by decide) ?_
    refine lv_istore (lv' := [(4, .int 0), (3, .int (-1)), (2, .int 0), (0, .ref h0), (1, .int p1)]) hx hb dX6_axlesOf_22 hl (by decide) rfl (fun ls hl => ?_)
    exact L24 (p1, 0, (-1), 0) hf _ _ _ w (lv_sub hl [3, 4, 2, 1, 0] rfl)
  · replace hf := it_f c6 hf
    refine lv_aload_n hx hb dX6_axlesOf_10 rfl (lv_at hl 0 rfl) ?_
    refine g_X6_34 C w 0 rfl rfl dX6_axlesOf_11 ?_
    refine lv_iload_n hx hb dX6_axlesOf_14 rfl (lv_at hl 1 rfl) ?_
    obtain ⟨a7, hia7, haa7, hf⟩ := rd_some hf
    refine ial C w 2 rfl hia7 haa7 dX6_axlesOf_15 ?_
    obtain e1 := tp1 hf
    rw [hQ]
    exact rt_i C w rfl (fun _ => 0) rfl e1 dX6_axlesOf_16

theorem dX6_vehicleOf_0 : decode cX6_vehicleOf 0 = .ok (.aload_n 0, 1) := by decide +kernel
theorem dX6_vehicleOf_1 : decode cX6_vehicleOf 1 = .ok (.getfield 28, 3) := by decide +kernel
theorem dX6_vehicleOf_4 : decode cX6_vehicleOf 4 = .ok (.iload_n 1, 1) := by decide +kernel
theorem dX6_vehicleOf_5 : decode cX6_vehicleOf 5 = .ok (.iaload, 1) := by decide +kernel
theorem dX6_vehicleOf_6 : decode cX6_vehicleOf 6 = .ok (.iconst (-1), 1) := by decide +kernel
theorem dX6_vehicleOf_7 : decode cX6_vehicleOf 7 = .ok (.if_icmp .ne 12, 3) := by decide +kernel
theorem dX6_vehicleOf_10 : decode cX6_vehicleOf 10 = .ok (.aload_n 0, 1) := by decide +kernel
theorem dX6_vehicleOf_11 : decode cX6_vehicleOf 11 = .ok (.iload_n 1, 1) := by decide +kernel
theorem dX6_vehicleOf_12 : decode cX6_vehicleOf 12 = .ok (.aload_n 2, 1) := by decide +kernel
theorem dX6_vehicleOf_13 : decode cX6_vehicleOf 13 = .ok (.invokevirtual 69, 3) := by decide +kernel
theorem dX6_vehicleOf_16 : decode cX6_vehicleOf 16 = .ok (.goto 13, 3) := by decide +kernel
theorem dX6_vehicleOf_19 : decode cX6_vehicleOf 19 = .ok (.aload_n 2, 1) := by decide +kernel
theorem dX6_vehicleOf_20 : decode cX6_vehicleOf 20 = .ok (.aload_n 0, 1) := by decide +kernel
theorem dX6_vehicleOf_21 : decode cX6_vehicleOf 21 = .ok (.getfield 28, 3) := by decide +kernel
theorem dX6_vehicleOf_24 : decode cX6_vehicleOf 24 = .ok (.iload_n 1, 1) := by decide +kernel
theorem dX6_vehicleOf_25 : decode cX6_vehicleOf 25 = .ok (.iaload, 1) := by decide +kernel
theorem dX6_vehicleOf_26 : decode cX6_vehicleOf 26 = .ok (.invokevirtual 73, 3) := by decide +kernel
theorem dX6_vehicleOf_29 : decode cX6_vehicleOf 29 = .ok (.ireturn, 1) := by decide +kernel
abbrev m_X6_vehicleOf : MD := (yX6_vehicleOf, cX6_vehicleOf, 3, (some .int))
theorem q_427 : Cond.code yX4_plateOfTag cX4_plateOfTag 2 (some .int) ∈ TS := ts_t 427 (by decide +kernel) (by decide +kernel)
theorem q_426 : Cond.instanceMethod yX4_plateOfTag ∈ TS := ts_t 426 (by decide +kernel) (by decide +kernel)
theorem qs_6 : Cond.selects yX4_plateOfTag.cls yX4_plateOfTag yX4_plateOfTag ∈ TS := ts_s 6 (by decide +kernel) (by decide +kernel)
theorem k_X6_73 : LkN RX6 73 m_X4_plateOfTag 1 := ⟨⟨"FreeFlowToll", nw_t 424 (by decide +kernel) rfl⟩, q_426, qs_6, ⟨q_2, q_427, by decide, by decide, by decide +kernel⟩⟩
theorem q_7 : Cond.initialized RX6 ∈ TS := ts_t 7 (by decide +kernel) (by decide +kernel)
theorem q_423 : Cond.code yX6_plateOf cX6_plateOf 5 (some .int) ∈ TS := ts_t 423 (by decide +kernel) (by decide +kernel)
theorem q_420 : Cond.methodLink RX6 69 yX6_plateOf ∈ TS := ts_t 420 (by decide +kernel) (by decide +kernel)
theorem q_422 : Cond.instanceMethod yX6_plateOf ∈ TS := ts_t 422 (by decide +kernel) (by decide +kernel)
theorem qs_5 : Cond.selects yX6_plateOf.cls yX6_plateOf yX6_plateOf ∈ TS := ts_s 5 (by decide +kernel) (by decide +kernel)
theorem k_X6_69 : LkV RX6 69 m_X6_plateOf 2 := ⟨q_420, q_422, qs_5, ⟨q_7, q_423, by decide, by decide, by decide +kernel⟩⟩
abbrev w_X6_vehicleOf (g : GT) (h0 h1 h2 h3 h4 h5 h6 : Nat) (v0_0 v0_1 v0_2 v0_3 v0_4 v0_7 v0_8 v0_9 v0_12 v5_0 v5_1 v5_2 v5_4 v5_6 v5_7 v5_8 v5_9 v5_10 v5_12 : Value) (handPlate1 plateSums2 readPlates3 tag4 : Nat → Int32) (tags5 confidence5 : Int32) (tagPlate6 : Nat → Int32) : va_W := [(h0, .inr (6, [v0_0, v0_1, v0_2, v0_3, v0_4, .ref h4, .ref h1, v0_7, v0_8, v0_9, .ref h3, .ref h2, v0_12])), (h1, aI g 80 handPlate1), (h2, aI g 320 plateSums2), (h3, aI g 320 readPlates3), (h4, aI g 80 tag4), (h5, .inr (4, [v5_0, v5_1, v5_2, .int tags5, v5_4, .int confidence5, v5_6, v5_7, v5_8, v5_9, v5_10, .ref h6, v5_12])), (h6, aI g 12 tagPlate6)]
def f_X6_vehicleOf_b29 (F : Nat) (handPlate1 plateSums2 readPlates3 tag4 : Nat → Int32) (tags5 confidence5 : Int32) (tagPlate6 : Nat → Int32) (s0 : Int32) : Option (Int32) :=
  some s0
def f_X6_vehicleOf (F : Nat) (p1 : Int32) (handPlate1 plateSums2 readPlates3 tag4 : Nat → Int32) (tags5 confidence5 : Int32) (tagPlate6 : Nat → Int32) : Option (Int32) :=
  rd tag4 80 p1 fun a1 =>
  if a1 = (-1) then
    bd1 (f_X6_plateOf F p1 handPlate1 plateSums2 readPlates3 confidence5) fun r6 =>
    f_X6_vehicleOf_b29 F handPlate1 plateSums2 readPlates3 tag4 tags5 confidence5 tagPlate6 r6
  else
    rd tag4 80 p1 fun a3 =>
    bd1 (f_X4_plateOfTag F a3 tags5 tagPlate6) fun r4 =>
    f_X6_vehicleOf_b29 F handPlate1 plateSums2 readPlates3 tag4 tags5 confidence5 tagPlate6 r4
set_option maxHeartbeats 4000000 in
set_option maxRecDepth 100000 in
theorem c_X6_vehicleOf (l : Launch) (g : GT) (F : Nat) (h0 h1 h2 h3 h4 h5 h6 : Nat) (v0_0 v0_1 v0_2 v0_3 v0_4 v0_7 v0_8 v0_9 v0_12 v5_0 v5_1 v5_2 v5_4 v5_6 v5_7 v5_8 v5_9 v5_10 v5_12 : Value) (p1 : Int32) (handPlate1 plateSums2 readPlates3 tag4 : Nat → Int32) (tags5 confidence5 : Int32) (tagPlate6 : Nat → Int32) (r : Int32) (sz : Nat) (hf : f_X6_vehicleOf F p1 handPlate1 plateSums2 readPlates3 tag4 tags5 confidence5 tagPlate6 = some r) : CI l m_X6_vehicleOf (rml 2 0 0) g (w_X6_vehicleOf g h0 h1 h2 h3 h4 h5 h6 v0_0 v0_1 v0_2 v0_3 v0_4 v0_7 v0_8 v0_9 v0_12 v5_0 v5_1 v5_2 v5_4 v5_6 v5_7 v5_8 v5_9 v5_10 v5_12 handPlate1 plateSums2 readPlates3 tag4 tags5 confidence5 tagPlate6) (fun _ => w_X6_vehicleOf g h0 h1 h2 h3 h4 h5 h6 v0_0 v0_1 v0_2 v0_3 v0_4 v0_7 v0_8 v0_9 v0_12 v5_0 v5_1 v5_2 v5_4 v5_6 v5_7 v5_8 v5_9 v5_10 v5_12 handPlate1 plateSums2 readPlates3 tag4 tags5 confidence5 tagPlate6) sz [.ref h0, .int p1, .ref h5] r := by
  refine en_i (by decide) (Nat.le_of_ble_eq_true rfl) (fun p e s m args below meth c A ls C w hl => ?_)
  have C : Cx p s m args meth c RX6 m_X6_vehicleOf g A := C
  have hx := C.1
  have hb : c.code = cX6_vehicleOf := C.2.1
  have hl : lv_has ls 3 [(0, .ref h0), (1, .int p1), (2, .ref h5)] := hl
  obtain ⟨Q, hQ⟩ : ∃ Q, Q = QI below args s g A (fun _ => w_X6_vehicleOf g h0 h1 h2 h3 h4 h5 h6 v0_0 v0_1 v0_2 v0_3 v0_4 v0_7 v0_8 v0_9 v0_12 v5_0 v5_1 v5_2 v5_4 v5_6 v5_7 v5_8 v5_9 v5_10 v5_12 handPlate1 plateSums2 readPlates3 tag4 tags5 confidence5 tagPlate6) r 0 0 := ⟨_, rfl⟩
  suffices hW : W p l e (rml 2 0 0) s m args below meth c s.heap [] 0 0 Q (F0 m 0 ls []) from (by rw [hQ] at hW; exact hW)
  unfold f_X6_vehicleOf at hf
  have b29 : ∀ (s0 : Int32) (H : Heap) (locs : List Loc) (ls : Array Slot), f_X6_vehicleOf_b29 F handPlate1 plateSums2 readPlates3 tag4 tags5 confidence5 tagPlate6 s0 = some r → Wd g A (w_X6_vehicleOf g h0 h1 h2 h3 h4 h5 h6 v0_0 v0_1 v0_2 v0_3 v0_4 v0_7 v0_8 v0_9 v0_12 v5_0 v5_1 v5_2 v5_4 v5_6 v5_7 v5_8 v5_9 v5_10 v5_12 handPlate1 plateSums2 readPlates3 tag4 tags5 confidence5 tagPlate6) s.heap H locs → lv_has ls 3 [] → W p l e (rml 2 0 0) s m args below meth c H locs 0 0 Q (F0 m 29 ls [.int s0]) := by
    intro s0 H locs ls hf w hl
    unfold f_X6_vehicleOf_b29 at hf
    obtain e1 := tp1 hf
    rw [hQ]
    exact rt_i C w rfl (fun _ => 0) rfl e1 dX6_vehicleOf_29
  refine lv_aload_n hx hb dX6_vehicleOf_0 rfl (lv_at hl 0 rfl) ?_
  refine g_X6_28 C w 0 rfl rfl dX6_vehicleOf_1 ?_
  refine lv_iload_n hx hb dX6_vehicleOf_4 rfl (lv_at hl 1 rfl) ?_
  obtain ⟨a1, hia1, haa1, hf⟩ := rd_some hf
  refine ial C w 4 rfl hia1 haa1 dX6_vehicleOf_5 ?_
  refine lv_iconst (v := -1) hx hb dX6_vehicleOf_6 (by decide) ?_
  refine lv_icmp_ne (tgt := 19) hx hb dX6_vehicleOf_7 (by decide) (fun c2 => ?_) (fun c2 => ?_)
  · replace hf := it_f c2 hf
    refine lv_aload_n hx hb dX6_vehicleOf_19 rfl (lv_at hl 2 rfl) ?_
    refine lv_aload_n hx hb dX6_vehicleOf_20 rfl (lv_at hl 0 rfl) ?_
    refine g_X6_28 C w 0 rfl rfl dX6_vehicleOf_21 ?_
    refine lv_iload_n hx hb dX6_vehicleOf_24 rfl (lv_at hl 1 rfl) ?_
    obtain ⟨a3, hia3, haa3, hf⟩ := rd_some hf
    refine ial C w 4 rfl hia3 haa3 dX6_vehicleOf_25 ?_
    obtain ⟨r4, hc5, hf⟩ := bd1_some hf
    refine ca_iN C w (wn := fun _ => w_X6_vehicleOf g h0 h1 h2 h3 h4 h5 h6 v0_0 v0_1 v0_2 v0_3 v0_4 v0_7 v0_8 v0_9 v0_12 v5_0 v5_1 v5_2 v5_4 v5_6 v5_7 v5_8 v5_9 v5_10 v5_12 handPlate1 plateSums2 readPlates3 tag4 tags5 confidence5 tagPlate6) (pm_k [false, false, false, false, false, true, true] rfl rfl (fun _ => Nat.le_of_ble_eq_true rfl) (fun _ => rfl)) (c_X4_plateOfTag l g F h5 h6 v5_0 v5_1 v5_2 v5_4 (.int confidence5) v5_6 v5_7 v5_8 v5_9 v5_10 v5_12 a3 tags5 tagPlate6 r4 _ hc5) k_X6_73 (rm_le (by decide) (by decide)) 5 4 rfl rfl rfl rfl hl.1 rfl (Nat.le_of_ble_eq_true rfl) dX6_vehicleOf_26 ⟨Nat.le_of_ble_eq_true rfl, Nat.le_of_ble_eq_true rfl⟩ (cells2 := 0) (slots2 := 0) ⟨rfl, rfl⟩ (fun _ H locs w => ?_)
    exact b29 r4 _ _ _ hf w (lv_sub hl [] rfl)
  · replace hf := it_t c2 hf
    refine lv_aload_n hx hb dX6_vehicleOf_10 rfl (lv_at hl 0 rfl) ?_
    refine lv_iload_n hx hb dX6_vehicleOf_11 rfl (lv_at hl 1 rfl) ?_
    refine lv_aload_n hx hb dX6_vehicleOf_12 rfl (lv_at hl 2 rfl) ?_
    obtain ⟨r6, hc7, hf⟩ := bd1_some hf
    refine ca_iV C w (wn := fun _ => w_X6_vehicleOf g h0 h1 h2 h3 h4 h5 h6 v0_0 v0_1 v0_2 v0_3 v0_4 v0_7 v0_8 v0_9 v0_12 v5_0 v5_1 v5_2 v5_4 v5_6 v5_7 v5_8 v5_9 v5_10 v5_12 handPlate1 plateSums2 readPlates3 tag4 tags5 confidence5 tagPlate6) (pm_k [true, true, true, true, false, true, false] rfl rfl (fun _ => Nat.le_of_ble_eq_true rfl) (fun _ => rfl)) (c_X6_plateOf l g F h0 h1 h2 h3 h5 v0_0 v0_1 v0_2 v0_3 v0_4 (.ref h4) v0_7 v0_8 v0_9 v0_12 v5_0 v5_1 v5_2 (.int tags5) v5_4 v5_6 v5_7 v5_8 v5_9 v5_10 (.ref h6) v5_12 p1 handPlate1 plateSums2 readPlates3 confidence5 r6 _ hc7) k_X6_69 (rm_le (by decide) (by decide)) 0 6 rfl rfl rfl rfl hl.1 rfl (Nat.le_of_ble_eq_true rfl) dX6_vehicleOf_13 ⟨Nat.le_of_ble_eq_true rfl, Nat.le_of_ble_eq_true rfl⟩ (cells2 := 0) (slots2 := 0) ⟨rfl, rfl⟩ (fun _ H locs w => ?_)
    refine lv_goto (tgt := 29) hx hb dX6_vehicleOf_16 (by decide) ?_
    exact b29 r6 _ _ _ hf w (lv_sub hl [] rfl)

theorem dX6_exceptionsOf_0 : decode cX6_exceptionsOf 0 = .ok (.aload_n 0, 1) := by decide +kernel
theorem dX6_exceptionsOf_1 : decode cX6_exceptionsOf 1 = .ok (.iload_n 1, 1) := by decide +kernel
theorem dX6_exceptionsOf_2 : decode cX6_exceptionsOf 2 = .ok (.aload_n 2, 1) := by decide +kernel
theorem dX6_exceptionsOf_3 : decode cX6_exceptionsOf 3 = .ok (.invokevirtual 77, 3) := by decide +kernel
theorem dX6_exceptionsOf_6 : decode cX6_exceptionsOf 6 = .ok (.istore_n 3, 1) := by decide +kernel
theorem dX6_exceptionsOf_7 : decode cX6_exceptionsOf 7 = .ok (.iload_n 3, 1) := by decide +kernel
theorem dX6_exceptionsOf_8 : decode cX6_exceptionsOf 8 = .ok (.iconst (-1), 1) := by decide +kernel
theorem dX6_exceptionsOf_9 : decode cX6_exceptionsOf 9 = .ok (.if_icmp .ne 5, 3) := by decide +kernel
theorem dX6_exceptionsOf_12 : decode cX6_exceptionsOf 12 = .ok (.iconst 1, 1) := by decide +kernel
theorem dX6_exceptionsOf_13 : decode cX6_exceptionsOf 13 = .ok (.ireturn, 1) := by decide +kernel
theorem dX6_exceptionsOf_14 : decode cX6_exceptionsOf 14 = .ok (.iconst 0, 1) := by decide +kernel
theorem dX6_exceptionsOf_15 : decode cX6_exceptionsOf 15 = .ok (.istore 4, 2) := by decide +kernel
theorem dX6_exceptionsOf_17 : decode cX6_exceptionsOf 17 = .ok (.aload_n 0, 1) := by decide +kernel
theorem dX6_exceptionsOf_18 : decode cX6_exceptionsOf 18 = .ok (.iload_n 1, 1) := by decide +kernel
theorem dX6_exceptionsOf_19 : decode cX6_exceptionsOf 19 = .ok (.aload_n 2, 1) := by decide +kernel
theorem dX6_exceptionsOf_20 : decode cX6_exceptionsOf 20 = .ok (.invokevirtual 69, 3) := by decide +kernel
theorem dX6_exceptionsOf_23 : decode cX6_exceptionsOf 23 = .ok (.istore 5, 2) := by decide +kernel
theorem dX6_exceptionsOf_25 : decode cX6_exceptionsOf 25 = .ok (.iload 5, 2) := by decide +kernel
theorem dX6_exceptionsOf_27 : decode cX6_exceptionsOf 27 = .ok (.iconst (-1), 1) := by decide +kernel
theorem dX6_exceptionsOf_28 : decode cX6_exceptionsOf 28 = .ok (.if_icmp .eq 12, 3) := by decide +kernel
theorem dX6_exceptionsOf_31 : decode cX6_exceptionsOf 31 = .ok (.iload 5, 2) := by decide +kernel
theorem dX6_exceptionsOf_33 : decode cX6_exceptionsOf 33 = .ok (.iload_n 3, 1) := by decide +kernel
theorem dX6_exceptionsOf_34 : decode cX6_exceptionsOf 34 = .ok (.if_icmp .eq 6, 3) := by decide +kernel
theorem dX6_exceptionsOf_37 : decode cX6_exceptionsOf 37 = .ok (.iinc 4 2, 3) := by decide +kernel
theorem dX6_exceptionsOf_40 : decode cX6_exceptionsOf 40 = .ok (.aload_n 0, 1) := by decide +kernel
theorem dX6_exceptionsOf_41 : decode cX6_exceptionsOf 41 = .ok (.iload_n 1, 1) := by decide +kernel
theorem dX6_exceptionsOf_42 : decode cX6_exceptionsOf 42 = .ok (.invokevirtual 80, 3) := by decide +kernel
theorem dX6_exceptionsOf_45 : decode cX6_exceptionsOf 45 = .ok (.istore 6, 2) := by decide +kernel
theorem dX6_exceptionsOf_47 : decode cX6_exceptionsOf 47 = .ok (.iload 6, 2) := by decide +kernel
theorem dX6_exceptionsOf_49 : decode cX6_exceptionsOf 49 = .ok (.iconst (-1), 1) := by decide +kernel
theorem dX6_exceptionsOf_50 : decode cX6_exceptionsOf 50 = .ok (.if_icmp .eq 33, 3) := by decide +kernel
theorem dX6_exceptionsOf_53 : decode cX6_exceptionsOf 53 = .ok (.aload_n 2, 1) := by decide +kernel
theorem dX6_exceptionsOf_54 : decode cX6_exceptionsOf 54 = .ok (.iload_n 3, 1) := by decide +kernel
theorem dX6_exceptionsOf_55 : decode cX6_exceptionsOf 55 = .ok (.invokevirtual 83, 3) := by decide +kernel
theorem dX6_exceptionsOf_58 : decode cX6_exceptionsOf 58 = .ok (.iconst (-1), 1) := by decide +kernel
theorem dX6_exceptionsOf_59 : decode cX6_exceptionsOf 59 = .ok (.if_icmp .eq 24, 3) := by decide +kernel
theorem dX6_exceptionsOf_62 : decode cX6_exceptionsOf 62 = .ok (.aload_n 2, 1) := by decide +kernel
theorem dX6_exceptionsOf_63 : decode cX6_exceptionsOf 63 = .ok (.iload 6, 2) := by decide +kernel
theorem dX6_exceptionsOf_65 : decode cX6_exceptionsOf 65 = .ok (.invokevirtual 86, 3) := by decide +kernel
theorem dX6_exceptionsOf_68 : decode cX6_exceptionsOf 68 = .ok (.aload_n 2, 1) := by decide +kernel
theorem dX6_exceptionsOf_69 : decode cX6_exceptionsOf 69 = .ok (.aload_n 2, 1) := by decide +kernel
theorem dX6_exceptionsOf_70 : decode cX6_exceptionsOf 70 = .ok (.iload_n 3, 1) := by decide +kernel
theorem dX6_exceptionsOf_71 : decode cX6_exceptionsOf 71 = .ok (.invokevirtual 89, 3) := by decide +kernel
theorem dX6_exceptionsOf_74 : decode cX6_exceptionsOf 74 = .ok (.invokevirtual 86, 3) := by decide +kernel
theorem dX6_exceptionsOf_77 : decode cX6_exceptionsOf 77 = .ok (.if_icmp .eq 6, 3) := by decide +kernel
theorem dX6_exceptionsOf_80 : decode cX6_exceptionsOf 80 = .ok (.iinc 4 4, 3) := by decide +kernel
theorem dX6_exceptionsOf_83 : decode cX6_exceptionsOf 83 = .ok (.iload 4, 2) := by decide +kernel
theorem dX6_exceptionsOf_85 : decode cX6_exceptionsOf 85 = .ok (.ireturn, 1) := by decide +kernel
abbrev m_X6_exceptionsOf : MD := (yX6_exceptionsOf, cX6_exceptionsOf, 7, (some .int))
theorem q_435 : Cond.code yX6_axlesOf cX6_axlesOf 6 (some .int) ∈ TS := ts_t 435 (by decide +kernel) (by decide +kernel)
theorem q_432 : Cond.methodLink RX6 80 yX6_axlesOf ∈ TS := ts_t 432 (by decide +kernel) (by decide +kernel)
theorem q_434 : Cond.instanceMethod yX6_axlesOf ∈ TS := ts_t 434 (by decide +kernel) (by decide +kernel)
theorem qs_8 : Cond.selects yX6_axlesOf.cls yX6_axlesOf yX6_axlesOf ∈ TS := ts_s 8 (by decide +kernel) (by decide +kernel)
theorem k_X6_80 : LkV RX6 80 m_X6_axlesOf 1 := ⟨q_432, q_434, qs_8, ⟨q_7, q_435, by decide, by decide, by decide +kernel⟩⟩
theorem k_X6_83 : LkN RX6 83 m_X4_tagWithPlate 1 := ⟨⟨"FreeFlowToll", nw_t 436 (by decide +kernel) rfl⟩, q_438, qs_9, ⟨q_2, q_439, by decide, by decide, by decide +kernel⟩⟩
theorem q_443 : Cond.code yX4_classFor cX4_classFor 3 (some .int) ∈ TS := ts_t 443 (by decide +kernel) (by decide +kernel)
theorem q_442 : Cond.instanceMethod yX4_classFor ∈ TS := ts_t 442 (by decide +kernel) (by decide +kernel)
theorem qs_10 : Cond.selects yX4_classFor.cls yX4_classFor yX4_classFor ∈ TS := ts_s 10 (by decide +kernel) (by decide +kernel)
theorem k_X6_86 : LkN RX6 86 m_X4_classFor 1 := ⟨⟨"FreeFlowToll", nw_t 440 (by decide +kernel) rfl⟩, q_442, qs_10, ⟨q_2, q_443, by decide, by decide, by decide +kernel⟩⟩
theorem q_447 : Cond.code yX4_axlesOfVehicle cX4_axlesOfVehicle 3 (some .int) ∈ TS := ts_t 447 (by decide +kernel) (by decide +kernel)
theorem q_446 : Cond.instanceMethod yX4_axlesOfVehicle ∈ TS := ts_t 446 (by decide +kernel) (by decide +kernel)
theorem qs_11 : Cond.selects yX4_axlesOfVehicle.cls yX4_axlesOfVehicle yX4_axlesOfVehicle ∈ TS := ts_s 11 (by decide +kernel) (by decide +kernel)
theorem k_X6_89 : LkN RX6 89 m_X4_axlesOfVehicle 1 := ⟨⟨"FreeFlowToll", nw_t 444 (by decide +kernel) rfl⟩, q_446, qs_11, ⟨q_2, q_447, by decide, by decide, by decide +kernel⟩⟩
theorem q_419 : Cond.code yX6_vehicleOf cX6_vehicleOf 3 (some .int) ∈ TS := ts_t 419 (by decide +kernel) (by decide +kernel)
theorem q_416 : Cond.methodLink RX6 77 yX6_vehicleOf ∈ TS := ts_t 416 (by decide +kernel) (by decide +kernel)
theorem q_418 : Cond.instanceMethod yX6_vehicleOf ∈ TS := ts_t 418 (by decide +kernel) (by decide +kernel)
theorem qs_4 : Cond.selects yX6_vehicleOf.cls yX6_vehicleOf yX6_vehicleOf ∈ TS := ts_s 4 (by decide +kernel) (by decide +kernel)
theorem k_X6_77 : LkV RX6 77 m_X6_vehicleOf 2 := ⟨q_416, q_418, qs_4, ⟨q_7, q_419, by decide, by decide, by decide +kernel⟩⟩
abbrev w_X6_exceptionsOf (g : GT) (h0 h1 h2 h3 h4 h5 h6 h7 h8 h9 h10 : Nat) (v0_0 v0_1 v0_2 v0_3 v0_4 v0_8 v0_9 v7_0 v7_1 v7_4 v7_6 v7_7 v7_8 v7_10 : Value) (axleReadings1 handAxles2 handPlate3 plateSums4 readPlates5 tag6 : Nat → Int32) (classes7 tags7 confidence7 : Int32) (classAxles8 tagAxles9 tagPlate10 : Nat → Int32) : va_W := [(h0, .inr (6, [v0_0, v0_1, v0_2, v0_3, v0_4, .ref h6, .ref h3, .ref h2, v0_8, v0_9, .ref h5, .ref h4, .ref h1])), (h1, aI g 640 axleReadings1), (h2, aI g 80 handAxles2), (h3, aI g 80 handPlate3), (h4, aI g 320 plateSums4), (h5, aI g 320 readPlates5), (h6, aI g 80 tag6), (h7, .inr (4, [v7_0, v7_1, .int classes7, .int tags7, v7_4, .int confidence7, v7_6, v7_7, v7_8, .ref h8, v7_10, .ref h10, .ref h9])), (h8, aI g 4 classAxles8), (h9, aI g 12 tagAxles9), (h10, aI g 12 tagPlate10)]
def f_X6_exceptionsOf_b83 (F : Nat) (axleReadings1 handAxles2 handPlate3 plateSums4 readPlates5 tag6 : Nat → Int32) (classes7 tags7 confidence7 : Int32) (classAxles8 tagAxles9 tagPlate10 : Nat → Int32) (x4 : Int32) : Option (Int32) :=
  some x4
def f_X6_exceptionsOf_b40 (F : Nat) (axleReadings1 handAxles2 handPlate3 plateSums4 readPlates5 tag6 : Nat → Int32) (classes7 tags7 confidence7 : Int32) (classAxles8 tagAxles9 tagPlate10 : Nat → Int32) (x1 x3 x4 : Int32) : Option (Int32) :=
  bd1 (f_X6_axlesOf F x1 axleReadings1 handAxles2) fun r1 =>
  if r1 = (-1) then
    f_X6_exceptionsOf_b83 F axleReadings1 handAxles2 handPlate3 plateSums4 readPlates5 tag6 classes7 tags7 confidence7 classAxles8 tagAxles9 tagPlate10 x4
  else
    bd1 (f_X4_tagWithPlate F x3 tags7 tagPlate10) fun r4 =>
    if r4 = (-1) then
      f_X6_exceptionsOf_b83 F axleReadings1 handAxles2 handPlate3 plateSums4 readPlates5 tag6 classes7 tags7 confidence7 classAxles8 tagAxles9 tagPlate10 x4
    else
      bd1 (f_X4_classFor F r1 classes7 classAxles8) fun r7 =>
      bd1 (f_X4_axlesOfVehicle F x3 tags7 tagAxles9 tagPlate10) fun r9 =>
      bd1 (f_X4_classFor F r9 classes7 classAxles8) fun r11 =>
      if r7 = r11 then
        f_X6_exceptionsOf_b83 F axleReadings1 handAxles2 handPlate3 plateSums4 readPlates5 tag6 classes7 tags7 confidence7 classAxles8 tagAxles9 tagPlate10 x4
      else
        f_X6_exceptionsOf_b83 F axleReadings1 handAxles2 handPlate3 plateSums4 readPlates5 tag6 classes7 tags7 confidence7 classAxles8 tagAxles9 tagPlate10 (x4 + 4)
def f_X6_exceptionsOf (F : Nat) (p1 : Int32) (axleReadings1 handAxles2 handPlate3 plateSums4 readPlates5 tag6 : Nat → Int32) (classes7 tags7 confidence7 : Int32) (classAxles8 tagAxles9 tagPlate10 : Nat → Int32) : Option (Int32) :=
  bd1 (f_X6_vehicleOf F p1 handPlate3 plateSums4 readPlates5 tag6 tags7 confidence7 tagPlate10) fun r14 =>
  if r14 = (-1) then
    some 1
  else
    bd1 (f_X6_plateOf F p1 handPlate3 plateSums4 readPlates5 confidence7) fun r17 =>
    if r17 = (-1) then
      f_X6_exceptionsOf_b40 F axleReadings1 handAxles2 handPlate3 plateSums4 readPlates5 tag6 classes7 tags7 confidence7 classAxles8 tagAxles9 tagPlate10 p1 r14 0
    else
      if r17 = r14 then
        f_X6_exceptionsOf_b40 F axleReadings1 handAxles2 handPlate3 plateSums4 readPlates5 tag6 classes7 tags7 confidence7 classAxles8 tagAxles9 tagPlate10 p1 r14 0
      else
        f_X6_exceptionsOf_b40 F axleReadings1 handAxles2 handPlate3 plateSums4 readPlates5 tag6 classes7 tags7 confidence7 classAxles8 tagAxles9 tagPlate10 p1 r14 (0 + 2)
set_option maxHeartbeats 4000000 in
set_option maxRecDepth 100000 in
theorem c_X6_exceptionsOf (l : Launch) (g : GT) (F : Nat) (h0 h1 h2 h3 h4 h5 h6 h7 h8 h9 h10 : Nat) (v0_0 v0_1 v0_2 v0_3 v0_4 v0_8 v0_9 v7_0 v7_1 v7_4 v7_6 v7_7 v7_8 v7_10 : Value) (p1 : Int32) (axleReadings1 handAxles2 handPlate3 plateSums4 readPlates5 tag6 : Nat → Int32) (classes7 tags7 confidence7 : Int32) (classAxles8 tagAxles9 tagPlate10 : Nat → Int32) (r : Int32) (sz : Nat) (hf : f_X6_exceptionsOf F p1 axleReadings1 handAxles2 handPlate3 plateSums4 readPlates5 tag6 classes7 tags7 confidence7 classAxles8 tagAxles9 tagPlate10 = some r) : CI l m_X6_exceptionsOf (rml 3 0 0) g (w_X6_exceptionsOf g h0 h1 h2 h3 h4 h5 h6 h7 h8 h9 h10 v0_0 v0_1 v0_2 v0_3 v0_4 v0_8 v0_9 v7_0 v7_1 v7_4 v7_6 v7_7 v7_8 v7_10 axleReadings1 handAxles2 handPlate3 plateSums4 readPlates5 tag6 classes7 tags7 confidence7 classAxles8 tagAxles9 tagPlate10) (fun _ => w_X6_exceptionsOf g h0 h1 h2 h3 h4 h5 h6 h7 h8 h9 h10 v0_0 v0_1 v0_2 v0_3 v0_4 v0_8 v0_9 v7_0 v7_1 v7_4 v7_6 v7_7 v7_8 v7_10 axleReadings1 handAxles2 handPlate3 plateSums4 readPlates5 tag6 classes7 tags7 confidence7 classAxles8 tagAxles9 tagPlate10) sz [.ref h0, .int p1, .ref h7] r := by
  refine en_i (by decide) (Nat.le_of_ble_eq_true rfl) (fun p e s m args below meth c A ls C w hl => ?_)
  have C : Cx p s m args meth c RX6 m_X6_exceptionsOf g A := C
  have hx := C.1
  have hb : c.code = cX6_exceptionsOf := C.2.1
  have hl : lv_has ls 7 [(0, .ref h0), (1, .int p1), (2, .ref h7)] := hl
  obtain ⟨Q, hQ⟩ : ∃ Q, Q = QI below args s g A (fun _ => w_X6_exceptionsOf g h0 h1 h2 h3 h4 h5 h6 h7 h8 h9 h10 v0_0 v0_1 v0_2 v0_3 v0_4 v0_8 v0_9 v7_0 v7_1 v7_4 v7_6 v7_7 v7_8 v7_10 axleReadings1 handAxles2 handPlate3 plateSums4 readPlates5 tag6 classes7 tags7 confidence7 classAxles8 tagAxles9 tagPlate10) r 0 0 := ⟨_, rfl⟩
  suffices hW : W p l e (rml 3 0 0) s m args below meth c s.heap [] 0 0 Q (F0 m 0 ls []) from (by rw [hQ] at hW; exact hW)
  unfold f_X6_exceptionsOf at hf
  have b83 : ∀ (x4 : Int32) (H : Heap) (locs : List Loc) (ls : Array Slot), f_X6_exceptionsOf_b83 F axleReadings1 handAxles2 handPlate3 plateSums4 readPlates5 tag6 classes7 tags7 confidence7 classAxles8 tagAxles9 tagPlate10 x4 = some r → Wd g A (w_X6_exceptionsOf g h0 h1 h2 h3 h4 h5 h6 h7 h8 h9 h10 v0_0 v0_1 v0_2 v0_3 v0_4 v0_8 v0_9 v7_0 v7_1 v7_4 v7_6 v7_7 v7_8 v7_10 axleReadings1 handAxles2 handPlate3 plateSums4 readPlates5 tag6 classes7 tags7 confidence7 classAxles8 tagAxles9 tagPlate10) s.heap H locs → lv_has ls 7 [(4, .int x4)] → W p l e (rml 3 0 0) s m args below meth c H locs 0 0 Q (F0 m 83 ls []) := by
    intro x4 H locs ls hf w hl
    unfold f_X6_exceptionsOf_b83 at hf
    refine lv_iload hx hb dX6_exceptionsOf_83 (lv_at hl 0 rfl) ?_
    obtain e1 := tp1 hf
    rw [hQ]
    exact rt_i C w rfl (fun _ => 0) rfl e1 dX6_exceptionsOf_85
  have b40 : ∀ (x1 x3 x4 : Int32) (H : Heap) (locs : List Loc) (ls : Array Slot), f_X6_exceptionsOf_b40 F axleReadings1 handAxles2 handPlate3 plateSums4 readPlates5 tag6 classes7 tags7 confidence7 classAxles8 tagAxles9 tagPlate10 x1 x3 x4 = some r → Wd g A (w_X6_exceptionsOf g h0 h1 h2 h3 h4 h5 h6 h7 h8 h9 h10 v0_0 v0_1 v0_2 v0_3 v0_4 v0_8 v0_9 v7_0 v7_1 v7_4 v7_6 v7_7 v7_8 v7_10 axleReadings1 handAxles2 handPlate3 plateSums4 readPlates5 tag6 classes7 tags7 confidence7 classAxles8 tagAxles9 tagPlate10) s.heap H locs → lv_has ls 7 [(0, .ref h0), (1, .int x1), (2, .ref h7), (3, .int x3), (4, .int x4)] → W p l e (rml 3 0 0) s m args below meth c H locs 0 0 Q (F0 m 40 ls []) := by
    intro x1 x3 x4 H locs ls hf w hl
    unfold f_X6_exceptionsOf_b40 at hf
    refine lv_aload_n hx hb dX6_exceptionsOf_40 rfl (lv_at hl 0 rfl) ?_
    refine lv_iload_n hx hb dX6_exceptionsOf_41 rfl (lv_at hl 1 rfl) ?_
    obtain ⟨r1, hc2, hf⟩ := bd1_some hf
    refine ca_iV C w (wn := fun _ => w_X6_exceptionsOf g h0 h1 h2 h3 h4 h5 h6 h7 h8 h9 h10 v0_0 v0_1 v0_2 v0_3 v0_4 v0_8 v0_9 v7_0 v7_1 v7_4 v7_6 v7_7 v7_8 v7_10 axleReadings1 handAxles2 handPlate3 plateSums4 readPlates5 tag6 classes7 tags7 confidence7 classAxles8 tagAxles9 tagPlate10) (pm_k [true, true, true, false, false, false, false, false, false, false, false] rfl rfl (fun _ => Nat.le_of_ble_eq_true rfl) (fun _ => rfl)) (c_X6_axlesOf l g F h0 h1 h2 v0_0 v0_1 v0_2 v0_3 v0_4 (.ref h6) (.ref h3) v0_8 v0_9 (.ref h5) (.ref h4) x1 axleReadings1 handAxles2 r1 _ hc2) k_X6_80 (rm_le (by decide) (by decide)) 0 6 rfl rfl rfl rfl hl.1 rfl (Nat.le_of_ble_eq_true rfl) dX6_exceptionsOf_42 ⟨Nat.le_of_ble_eq_true rfl, Nat.le_of_ble_eq_true rfl⟩ (cells2 := 0) (slots2 := 0) ⟨rfl, rfl⟩ (fun _ H locs w => ?_)
    refine lv_istore (lv' := [(6, .int r1), (0, .ref h0), (1, .int x1), (2, .ref h7), (3, .int x3), (4, .int x4)]) hx hb dX6_exceptionsOf_45 hl (by decide) rfl (fun ls hl => ?_)
    refine lv_iload hx hb dX6_exceptionsOf_47 (lv_at hl 0 rfl) ?_
    refine lv_iconst (v := -1) hx hb dX6_exceptionsOf_49 (by decide) ?_
    refine lv_icmp_eq (tgt := 83) hx hb dX6_exceptionsOf_50 (by decide) (fun c3 => ?_) (fun c3 => ?_)
    · replace hf := it_t c3 hf
      exact b83 x4 _ _ _ hf w (lv_sub hl [5] rfl)
    · replace hf := it_f c3 hf
      refine lv_aload_n hx hb dX6_exceptionsOf_53 rfl (lv_at hl 3 rfl) ?_
      refine lv_iload_n hx hb dX6_exceptionsOf_54 rfl (lv_at hl 4 rfl) ?_
      obtain ⟨r4, hc5, hf⟩ := bd1_some hf
      refine ca_iN C w (wn := fun _ => w_X6_exceptionsOf g h0 h1 h2 h3 h4 h5 h6 h7 h8 h9 h10 v0_0 v0_1 v0_2 v0_3 v0_4 v0_8 v0_9 v7_0 v7_1 v7_4 v7_6 v7_7 v7_8 v7_10 axleReadings1 handAxles2 handPlate3 plateSums4 readPlates5 tag6 classes7 tags7 confidence7 classAxles8 tagAxles9 tagPlate10) (pm_k [false, false, false, false, false, false, false, true, false, false, true] rfl rfl (fun _ => Nat.le_of_ble_eq_true rfl) (fun _ => rfl)) (c_X4_tagWithPlate l g F h7 h10 v7_0 v7_1 (.int classes7) v7_4 (.int confidence7) v7_6 v7_7 v7_8 (.ref h8) v7_10 (.ref h9) x3 tags7 tagPlate10 r4 _ hc5) k_X6_83 (rm_le (by decide) (by decide)) 7 4 rfl rfl rfl rfl hl.1 rfl (Nat.le_of_ble_eq_true rfl) dX6_exceptionsOf_55 ⟨Nat.le_of_ble_eq_true rfl, Nat.le_of_ble_eq_true rfl⟩ (cells2 := 0) (slots2 := 0) ⟨rfl, rfl⟩ (fun _ H locs w => ?_)
      refine lv_iconst (v := -1) hx hb dX6_exceptionsOf_58 (by decide) ?_
      refine lv_icmp_eq (tgt := 83) hx hb dX6_exceptionsOf_59 (by decide) (fun c6 => ?_) (fun c6 => ?_)
      · replace hf := it_t c6 hf
        exact b83 x4 _ _ _ hf w (lv_sub hl [5] rfl)
      · replace hf := it_f c6 hf
        refine lv_aload_n hx hb dX6_exceptionsOf_62 rfl (lv_at hl 3 rfl) ?_
        refine lv_iload hx hb dX6_exceptionsOf_63 (lv_at hl 0 rfl) ?_
        obtain ⟨r7, hc8, hf⟩ := bd1_some hf
        refine ca_iN C w (wn := fun _ => w_X6_exceptionsOf g h0 h1 h2 h3 h4 h5 h6 h7 h8 h9 h10 v0_0 v0_1 v0_2 v0_3 v0_4 v0_8 v0_9 v7_0 v7_1 v7_4 v7_6 v7_7 v7_8 v7_10 axleReadings1 handAxles2 handPlate3 plateSums4 readPlates5 tag6 classes7 tags7 confidence7 classAxles8 tagAxles9 tagPlate10) (pm_k [false, false, false, false, false, false, false, true, true, false, false] rfl rfl (fun _ => Nat.le_of_ble_eq_true rfl) (fun _ => rfl)) (c_X4_classFor l g F h7 h8 v7_0 v7_1 (.int tags7) v7_4 (.int confidence7) v7_6 v7_7 v7_8 v7_10 (.ref h10) (.ref h9) r1 classes7 classAxles8 r7 _ hc8) k_X6_86 (rm_le (by decide) (by decide)) 7 4 rfl rfl rfl rfl hl.1 rfl (Nat.le_of_ble_eq_true rfl) dX6_exceptionsOf_65 ⟨Nat.le_of_ble_eq_true rfl, Nat.le_of_ble_eq_true rfl⟩ (cells2 := 0) (slots2 := 0) ⟨rfl, rfl⟩ (fun _ H locs w => ?_)
        refine lv_aload_n hx hb dX6_exceptionsOf_68 rfl (lv_at hl 3 rfl) ?_
        refine lv_aload_n hx hb dX6_exceptionsOf_69 rfl (lv_at hl 3 rfl) ?_
        refine lv_iload_n hx hb dX6_exceptionsOf_70 rfl (lv_at hl 4 rfl) ?_
        obtain ⟨r9, hc10, hf⟩ := bd1_some hf
        refine ca_iN C w (wn := fun _ => w_X6_exceptionsOf g h0 h1 h2 h3 h4 h5 h6 h7 h8 h9 h10 v0_0 v0_1 v0_2 v0_3 v0_4 v0_8 v0_9 v7_0 v7_1 v7_4 v7_6 v7_7 v7_8 v7_10 axleReadings1 handAxles2 handPlate3 plateSums4 readPlates5 tag6 classes7 tags7 confidence7 classAxles8 tagAxles9 tagPlate10) (pm_k [false, false, false, false, false, false, false, true, false, true, true] rfl rfl (fun _ => Nat.le_of_ble_eq_true rfl) (fun _ => rfl)) (c_X4_axlesOfVehicle l g F h7 h9 h10 v7_0 v7_1 (.int classes7) v7_4 (.int confidence7) v7_6 v7_7 v7_8 (.ref h8) v7_10 x3 tags7 tagAxles9 tagPlate10 r9 _ hc10) k_X6_89 (rm_le (by decide) (by decide)) 7 4 rfl rfl rfl rfl hl.1 rfl (Nat.le_of_ble_eq_true rfl) dX6_exceptionsOf_71 ⟨Nat.le_of_ble_eq_true rfl, Nat.le_of_ble_eq_true rfl⟩ (cells2 := 0) (slots2 := 0) ⟨rfl, rfl⟩ (fun _ H locs w => ?_)
        obtain ⟨r11, hc12, hf⟩ := bd1_some hf
        refine ca_iN C w (wn := fun _ => w_X6_exceptionsOf g h0 h1 h2 h3 h4 h5 h6 h7 h8 h9 h10 v0_0 v0_1 v0_2 v0_3 v0_4 v0_8 v0_9 v7_0 v7_1 v7_4 v7_6 v7_7 v7_8 v7_10 axleReadings1 handAxles2 handPlate3 plateSums4 readPlates5 tag6 classes7 tags7 confidence7 classAxles8 tagAxles9 tagPlate10) (pm_k [false, false, false, false, false, false, false, true, true, false, false] rfl rfl (fun _ => Nat.le_of_ble_eq_true rfl) (fun _ => rfl)) (c_X4_classFor l g F h7 h8 v7_0 v7_1 (.int tags7) v7_4 (.int confidence7) v7_6 v7_7 v7_8 v7_10 (.ref h10) (.ref h9) r9 classes7 classAxles8 r11 _ hc12) k_X6_86 (rm_le (by decide) (by decide)) 7 4 rfl rfl rfl rfl hl.1 rfl (Nat.le_of_ble_eq_true rfl) dX6_exceptionsOf_74 ⟨Nat.le_of_ble_eq_true rfl, Nat.le_of_ble_eq_true rfl⟩ (cells2 := 0) (slots2 := 0) ⟨rfl, rfl⟩ (fun _ H locs w => ?_)
        refine lv_icmp_eq (tgt := 83) hx hb dX6_exceptionsOf_77 (by decide) (fun c13 => ?_) (fun c13 => ?_)
        · replace hf := it_t c13 hf
          exact b83 x4 _ _ _ hf w (lv_sub hl [5] rfl)
        · replace hf := it_f c13 hf
          refine lv_iinc (v := x4 + 4) (lv' := [(4, .int (x4 + 4)), (6, .int r1), (0, .ref h0), (1, .int x1), (2, .ref h7), (3, .int x3)]) hx hb dX6_exceptionsOf_80 hl (k := 5) rfl rfl (by decide) rfl (fun ls hl => ?_)
          exact b83 (x4 + 4) _ _ _ hf w (lv_sub hl [0] rfl)
  refine lv_aload_n hx hb dX6_exceptionsOf_0 rfl (lv_at hl 0 rfl) ?_
  refine lv_iload_n hx hb dX6_exceptionsOf_1 rfl (lv_at hl 1 rfl) ?_
  refine lv_aload_n hx hb dX6_exceptionsOf_2 rfl (lv_at hl 2 rfl) ?_
  obtain ⟨r14, hc15, hf⟩ := bd1_some hf
  refine ca_iV C w (wn := fun _ => w_X6_exceptionsOf g h0 h1 h2 h3 h4 h5 h6 h7 h8 h9 h10 v0_0 v0_1 v0_2 v0_3 v0_4 v0_8 v0_9 v7_0 v7_1 v7_4 v7_6 v7_7 v7_8 v7_10 axleReadings1 handAxles2 handPlate3 plateSums4 readPlates5 tag6 classes7 tags7 confidence7 classAxles8 tagAxles9 tagPlate10) (pm_k [true, false, false, true, true, true, true, true, false, false, true] rfl rfl (fun _ => Nat.le_of_ble_eq_true rfl) (fun _ => rfl)) (c_X6_vehicleOf l g F h0 h3 h4 h5 h6 h7 h10 v0_0 v0_1 v0_2 v0_3 v0_4 (.ref h2) v0_8 v0_9 (.ref h1) v7_0 v7_1 (.int classes7) v7_4 v7_6 v7_7 v7_8 (.ref h8) v7_10 (.ref h9) p1 handPlate3 plateSums4 readPlates5 tag6 tags7 confidence7 tagPlate10 r14 _ hc15) k_X6_77 (rm_le (by decide) (by decide)) 0 6 rfl rfl rfl rfl hl.1 rfl (Nat.le_of_ble_eq_true rfl) dX6_exceptionsOf_3 ⟨Nat.le_of_ble_eq_true rfl, Nat.le_of_ble_eq_true rfl⟩ (cells2 := 0) (slots2 := 0) ⟨rfl, rfl⟩ (fun _ H locs w => ?_)
  refine lv_istore_n (lv' := [(3, .int r14), (0, .ref h0), (1, .int p1), (2, .ref h7)]) hx hb dX6_exceptionsOf_6 rfl hl (by decide) rfl (fun ls hl => ?_)
  refine lv_iload_n hx hb dX6_exceptionsOf_7 rfl (lv_at hl 0 rfl) ?_
  refine lv_iconst (v := -1) hx hb dX6_exceptionsOf_8 (by decide) ?_
  refine lv_icmp_ne (tgt := 14) hx hb dX6_exceptionsOf_9 (by decide) (fun c16 => ?_) (fun c16 => ?_)
  · replace hf := it_f c16 hf
    refine lv_iconst (v := 0) hx hb dX6_exceptionsOf_14 (by decide) ?_
    refine lv_istore (lv' := [(4, .int 0), (3, .int r14), (0, .ref h0), (1, .int p1), (2, .ref h7)]) hx hb dX6_exceptionsOf_15 hl (by decide) rfl (fun ls hl => ?_)
    refine lv_aload_n hx hb dX6_exceptionsOf_17 rfl (lv_at hl 2 rfl) ?_
    refine lv_iload_n hx hb dX6_exceptionsOf_18 rfl (lv_at hl 3 rfl) ?_
    refine lv_aload_n hx hb dX6_exceptionsOf_19 rfl (lv_at hl 4 rfl) ?_
    obtain ⟨r17, hc18, hf⟩ := bd1_some hf
    refine ca_iV C w (wn := fun _ => w_X6_exceptionsOf g h0 h1 h2 h3 h4 h5 h6 h7 h8 h9 h10 v0_0 v0_1 v0_2 v0_3 v0_4 v0_8 v0_9 v7_0 v7_1 v7_4 v7_6 v7_7 v7_8 v7_10 axleReadings1 handAxles2 handPlate3 plateSums4 readPlates5 tag6 classes7 tags7 confidence7 classAxles8 tagAxles9 tagPlate10) (pm_k [true, false, false, true, true, true, false, true, false, false, false] rfl rfl (fun _ => Nat.le_of_ble_eq_true rfl) (fun _ => rfl)) (c_X6_plateOf l g F h0 h3 h4 h5 h7 v0_0 v0_1 v0_2 v0_3 v0_4 (.ref h6) (.ref h2) v0_8 v0_9 (.ref h1) v7_0 v7_1 (.int classes7) (.int tags7) v7_4 v7_6 v7_7 v7_8 (.ref h8) v7_10 (.ref h10) (.ref h9) p1 handPlate3 plateSums4 readPlates5 confidence7 r17 _ hc18) k_X6_69 (rm_le (by decide) (by decide)) 0 6 rfl rfl rfl rfl hl.1 rfl (Nat.le_of_ble_eq_true rfl) dX6_exceptionsOf_20 ⟨Nat.le_of_ble_eq_true rfl, Nat.le_of_ble_eq_true rfl⟩ (cells2 := 0) (slots2 := 0) ⟨rfl, rfl⟩ (fun _ H locs w => ?_)
    refine lv_istore (lv' := [(5, .int r17), (4, .int 0), (3, .int r14), (0, .ref h0), (1, .int p1), (2, .ref h7)]) hx hb dX6_exceptionsOf_23 hl (by decide) rfl (fun ls hl => ?_)
    refine lv_iload hx hb dX6_exceptionsOf_25 (lv_at hl 0 rfl) ?_
    refine lv_iconst (v := -1) hx hb dX6_exceptionsOf_27 (by decide) ?_
    refine lv_icmp_eq (tgt := 40) hx hb dX6_exceptionsOf_28 (by decide) (fun c19 => ?_) (fun c19 => ?_)
    · replace hf := it_t c19 hf
      exact b40 p1 r14 0 _ _ _ hf w (lv_sub hl [3, 4, 5, 2, 1] rfl)
    · replace hf := it_f c19 hf
      refine lv_iload hx hb dX6_exceptionsOf_31 (lv_at hl 0 rfl) ?_
      refine lv_iload_n hx hb dX6_exceptionsOf_33 rfl (lv_at hl 2 rfl) ?_
      refine lv_icmp_eq (tgt := 40) hx hb dX6_exceptionsOf_34 (by decide) (fun c20 => ?_) (fun c20 => ?_)
      · replace hf := it_t c20 hf
        exact b40 p1 r14 0 _ _ _ hf w (lv_sub hl [3, 4, 5, 2, 1] rfl)
      · replace hf := it_f c20 hf
        refine lv_iinc (v := 0 + 2) (lv' := [(4, .int (0 + 2)), (5, .int r17), (3, .int r14), (0, .ref h0), (1, .int p1), (2, .ref h7)]) hx hb dX6_exceptionsOf_37 hl (k := 1) rfl rfl (by decide) rfl (fun ls hl => ?_)
        exact b40 p1 r14 (0 + 2) _ _ _ hf w (lv_sub hl [3, 4, 5, 2, 0] rfl)
  · replace hf := it_t c16 hf
    refine lv_iconst (v := 1) hx hb dX6_exceptionsOf_12 (by decide) ?_
    obtain e1 := tp1 hf
    rw [hQ]
    exact rt_i C w rfl (fun _ => 0) rfl e1 dX6_exceptionsOf_13

theorem dX6_openCount_0 : decode cX6_openCount 0 = .ok (.iconst 0, 1) := by decide +kernel
theorem dX6_openCount_1 : decode cX6_openCount 1 = .ok (.istore_n 1, 1) := by decide +kernel
theorem dX6_openCount_2 : decode cX6_openCount 2 = .ok (.iconst 0, 1) := by decide +kernel
theorem dX6_openCount_3 : decode cX6_openCount 3 = .ok (.istore_n 2, 1) := by decide +kernel
theorem dX6_openCount_4 : decode cX6_openCount 4 = .ok (.iload_n 2, 1) := by decide +kernel
theorem dX6_openCount_5 : decode cX6_openCount 5 = .ok (.aload_n 0, 1) := by decide +kernel
theorem dX6_openCount_6 : decode cX6_openCount 6 = .ok (.getfield 9, 3) := by decide +kernel
theorem dX6_openCount_9 : decode cX6_openCount 9 = .ok (.if_icmp .ge 21, 3) := by decide +kernel
theorem dX6_openCount_12 : decode cX6_openCount 12 = .ok (.aload_n 0, 1) := by decide +kernel
theorem dX6_openCount_13 : decode cX6_openCount 13 = .ok (.getfield 37, 3) := by decide +kernel
theorem dX6_openCount_16 : decode cX6_openCount 16 = .ok (.iload_n 2, 1) := by decide +kernel
theorem dX6_openCount_17 : decode cX6_openCount 17 = .ok (.iaload, 1) := by decide +kernel
theorem dX6_openCount_18 : decode cX6_openCount 18 = .ok (.ifCond .ne 6, 3) := by decide +kernel
theorem dX6_openCount_21 : decode cX6_openCount 21 = .ok (.iinc 1 1, 3) := by decide +kernel
theorem dX6_openCount_24 : decode cX6_openCount 24 = .ok (.iinc 2 1, 3) := by decide +kernel
theorem dX6_openCount_27 : decode cX6_openCount 27 = .ok (.goto (-23), 3) := by decide +kernel
theorem dX6_openCount_30 : decode cX6_openCount 30 = .ok (.iload_n 1, 1) := by decide +kernel
theorem dX6_openCount_31 : decode cX6_openCount 31 = .ok (.ireturn, 1) := by decide +kernel
abbrev m_X6_openCount : MD := (yX6_openCount, cX6_openCount, 3, (some .int))

abbrev w_X6_openCount (g : GT) (h0 h1 : Nat) (v0_1 v0_2 v0_3 v0_4 v0_5 v0_6 v0_7 v0_9 v0_10 v0_11 v0_12 : Value) (count0 : Int32) (state1 : Nat → Int32) : va_W := [(h0, .inr (6, [.int count0, v0_1, v0_2, v0_3, v0_4, v0_5, v0_6, v0_7, .ref h1, v0_9, v0_10, v0_11, v0_12])), (h1, aI g 80 state1)]
def f_X6_openCount_b24 (F : Nat) (k4 : (Int32 × Int32) → Option (Int32)) (count0 : Int32) (state1 : Nat → Int32) (x1 x2 : Int32) : Option (Int32) :=
  k4 (x1, x2 + 1)
def f_X6_openCount_h4 (F : Nat) (count0 : Int32) (state1 : Nat → Int32) (k4 : (Int32 × Int32) → Option (Int32)) (x1 x2 : Int32) : Option (Int32) :=
  if count0 ≤ x2 then
    some x1
  else
    rd state1 80 x2 fun a2 =>
    if a2 = 0 then
      f_X6_openCount_b24 F k4 count0 state1 (x1 + 1) x2
    else
      f_X6_openCount_b24 F k4 count0 state1 x1 x2
def f_X6_openCount_L4 (F : Nat) (count0 : Int32) (state1 : Nat → Int32) (z : Int32 × Int32) : Option (Int32) := lp (fun k z => f_X6_openCount_h4 F count0 state1 k z.1 z.2) F z
def f_X6_openCount (F : Nat) (count0 : Int32) (state1 : Nat → Int32) : Option (Int32) :=
  f_X6_openCount_L4 F count0 state1 (0, 0)
set_option maxHeartbeats 4000000 in
set_option maxRecDepth 100000 in
theorem c_X6_openCount (l : Launch) (g : GT) (F : Nat) (h0 h1 : Nat) (v0_1 v0_2 v0_3 v0_4 v0_5 v0_6 v0_7 v0_9 v0_10 v0_11 v0_12 : Value) (count0 : Int32) (state1 : Nat → Int32) (r : Int32) (sz : Nat) (hf : f_X6_openCount F count0 state1 = some r) : CI l m_X6_openCount (rml 0 0 0) g (w_X6_openCount g h0 h1 v0_1 v0_2 v0_3 v0_4 v0_5 v0_6 v0_7 v0_9 v0_10 v0_11 v0_12 count0 state1) (fun _ => w_X6_openCount g h0 h1 v0_1 v0_2 v0_3 v0_4 v0_5 v0_6 v0_7 v0_9 v0_10 v0_11 v0_12 count0 state1) sz [.ref h0] r := by
  refine en_i (by decide) (Nat.le_of_ble_eq_true rfl) (fun p e s m args below meth c A ls C w hl => ?_)
  have C : Cx p s m args meth c RX6 m_X6_openCount g A := C
  have hx := C.1
  have hb : c.code = cX6_openCount := C.2.1
  have hl : lv_has ls 3 [(0, .ref h0)] := hl
  obtain ⟨Q, hQ⟩ : ∃ Q, Q = QI below args s g A (fun _ => w_X6_openCount g h0 h1 v0_1 v0_2 v0_3 v0_4 v0_5 v0_6 v0_7 v0_9 v0_10 v0_11 v0_12 count0 state1) r 0 0 := ⟨_, rfl⟩
  suffices hW : W p l e (rml 0 0 0) s m args below meth c s.heap [] 0 0 Q (F0 m 0 ls []) from (by rw [hQ] at hW; exact hW)
  unfold f_X6_openCount at hf
  have L4 : ∀ (z : Int32 × Int32), f_X6_openCount_L4 F count0 state1 z = some r → ∀ (H : Heap) (locs : List Loc) (ls : Array Slot), Wd g A (w_X6_openCount g h0 h1 v0_1 v0_2 v0_3 v0_4 v0_5 v0_6 v0_7 v0_9 v0_10 v0_11 v0_12 count0 state1) s.heap H locs → lv_has ls 3 [(0, .ref h0), (1, .int z.1), (2, .int z.2)] → W p l e (rml 0 0 0) s m args below meth c H locs 0 0 Q (F0 m 4 ls []) := by
    intro z hf
    refine lp_W (r := r) (fun (z : Int32 × Int32) => ∀ (H : Heap) (locs : List Loc) (ls : Array Slot), Wd g A (w_X6_openCount g h0 h1 v0_1 v0_2 v0_3 v0_4 v0_5 v0_6 v0_7 v0_9 v0_10 v0_11 v0_12 count0 state1) s.heap H locs → lv_has ls 3 [(0, .ref h0), (1, .int z.1), (2, .int z.2)] → W p l e (rml 0 0 0) s m args below meth c H locs 0 0 Q (F0 m 4 ls [])) (fun k4 z ih4 hf => ?_) F z hf
    obtain ⟨x1, x2⟩ := z
    intro H locs ls w hl
    try dsimp only at hf w hl ⊢
    unfold f_X6_openCount_h4 at hf
    have b24 : ∀ (x1 x2 : Int32) (H : Heap) (locs : List Loc) (ls : Array Slot), f_X6_openCount_b24 F k4 count0 state1 x1 x2 = some r → Wd g A (w_X6_openCount g h0 h1 v0_1 v0_2 v0_3 v0_4 v0_5 v0_6 v0_7 v0_9 v0_10 v0_11 v0_12 count0 state1) s.heap H locs → lv_has ls 3 [(0, .ref h0), (1, .int x1), (2, .int x2)] → W p l e (rml 0 0 0) s m args below meth c H locs 0 0 Q (F0 m 24 ls []) := by
      intro x1 x2 H locs ls hf w hl
      unfold f_X6_openCount_b24 at hf
      refine lv_iinc (v := x2 + 1) (lv' := [(2, .int (x2 + 1)), (0, .ref h0), (1, .int x1)]) hx hb dX6_openCount_24 hl (k := 2) rfl rfl (by decide) rfl (fun ls hl => ?_)
      refine lv_goto (tgt := 4) hx hb dX6_openCount_27 (by decide) ?_
      exact ih4 (x1, x2 + 1) hf _ _ _ w (lv_sub hl [1, 2, 0] rfl)
    refine lv_iload_n hx hb dX6_openCount_4 rfl (lv_at hl 2 rfl) ?_
    refine lv_aload_n hx hb dX6_openCount_5 rfl (lv_at hl 0 rfl) ?_
    refine g_X6_9 C w 0 rfl rfl dX6_openCount_6 ?_
    refine lv_icmp_ge (tgt := 30) hx hb dX6_openCount_9 (by decide) (fun c1 => ?_) (fun c1 => ?_)
    · replace hf := it_t c1 hf
      refine lv_iload_n hx hb dX6_openCount_30 rfl (lv_at hl 1 rfl) ?_
      obtain e1 := tp1 hf
      rw [hQ]
      exact rt_i C w rfl (fun _ => 0) rfl e1 dX6_openCount_31
    · replace hf := it_f c1 hf
      refine lv_aload_n hx hb dX6_openCount_12 rfl (lv_at hl 0 rfl) ?_
      refine g_X6_37 C w 0 rfl rfl dX6_openCount_13 ?_
      refine lv_iload_n hx hb dX6_openCount_16 rfl (lv_at hl 2 rfl) ?_
      obtain ⟨a2, hia2, haa2, hf⟩ := rd_some hf
      refine ial C w 1 rfl hia2 haa2 dX6_openCount_17 ?_
      refine lv_if_ne (tgt := 24) hx hb dX6_openCount_18 (by decide) (fun c3 => ?_) (fun c3 => ?_)
      · replace hf := it_f c3 hf
        exact b24 x1 x2 _ _ _ hf w (lv_sub hl [0, 1, 2] rfl)
      · replace hf := it_t c3 hf
        refine lv_iinc (v := x1 + 1) (lv' := [(1, .int (x1 + 1)), (0, .ref h0), (2, .int x2)]) hx hb dX6_openCount_21 hl (k := 1) rfl rfl (by decide) rfl (fun ls hl => ?_)
        exact b24 (x1 + 1) x2 _ _ _ hf w (lv_sub hl [1, 0, 2] rfl)
  refine lv_iconst (v := 0) hx hb dX6_openCount_0 (by decide) ?_
  refine lv_istore_n (lv' := [(1, .int 0), (0, .ref h0)]) hx hb dX6_openCount_1 rfl hl (by decide) rfl (fun ls hl => ?_)
  refine lv_iconst (v := 0) hx hb dX6_openCount_2 (by decide) ?_
  refine lv_istore_n (lv' := [(2, .int 0), (1, .int 0), (0, .ref h0)]) hx hb dX6_openCount_3 rfl hl (by decide) rfl (fun ls hl => ?_)
  exact L4 (0, 0) hf _ _ _ w (lv_sub hl [2, 1, 0] rfl)

theorem dX6_reviewCount_0 : decode cX6_reviewCount 0 = .ok (.iconst 0, 1) := by decide +kernel
theorem dX6_reviewCount_1 : decode cX6_reviewCount 1 = .ok (.istore_n 2, 1) := by decide +kernel
theorem dX6_reviewCount_2 : decode cX6_reviewCount 2 = .ok (.iconst 0, 1) := by decide +kernel
theorem dX6_reviewCount_3 : decode cX6_reviewCount 3 = .ok (.istore_n 3, 1) := by decide +kernel
theorem dX6_reviewCount_4 : decode cX6_reviewCount 4 = .ok (.iload_n 3, 1) := by decide +kernel
theorem dX6_reviewCount_5 : decode cX6_reviewCount 5 = .ok (.aload_n 0, 1) := by decide +kernel
theorem dX6_reviewCount_6 : decode cX6_reviewCount 6 = .ok (.getfield 9, 3) := by decide +kernel
theorem dX6_reviewCount_9 : decode cX6_reviewCount 9 = .ok (.if_icmp .ge 30, 3) := by decide +kernel
theorem dX6_reviewCount_12 : decode cX6_reviewCount 12 = .ok (.aload_n 0, 1) := by decide +kernel
theorem dX6_reviewCount_13 : decode cX6_reviewCount 13 = .ok (.getfield 37, 3) := by decide +kernel
theorem dX6_reviewCount_16 : decode cX6_reviewCount 16 = .ok (.iload_n 3, 1) := by decide +kernel
theorem dX6_reviewCount_17 : decode cX6_reviewCount 17 = .ok (.iaload, 1) := by decide +kernel
theorem dX6_reviewCount_18 : decode cX6_reviewCount 18 = .ok (.ifCond .ne 15, 3) := by decide +kernel
theorem dX6_reviewCount_21 : decode cX6_reviewCount 21 = .ok (.aload_n 0, 1) := by decide +kernel
theorem dX6_reviewCount_22 : decode cX6_reviewCount 22 = .ok (.iload_n 3, 1) := by decide +kernel
theorem dX6_reviewCount_23 : decode cX6_reviewCount 23 = .ok (.aload_n 1, 1) := by decide +kernel
theorem dX6_reviewCount_24 : decode cX6_reviewCount 24 = .ok (.invokevirtual 92, 3) := by decide +kernel
theorem dX6_reviewCount_27 : decode cX6_reviewCount 27 = .ok (.ifCond .eq 6, 3) := by decide +kernel
theorem dX6_reviewCount_30 : decode cX6_reviewCount 30 = .ok (.iinc 2 1, 3) := by decide +kernel
theorem dX6_reviewCount_33 : decode cX6_reviewCount 33 = .ok (.iinc 3 1, 3) := by decide +kernel
theorem dX6_reviewCount_36 : decode cX6_reviewCount 36 = .ok (.goto (-32), 3) := by decide +kernel
theorem dX6_reviewCount_39 : decode cX6_reviewCount 39 = .ok (.iload_n 2, 1) := by decide +kernel
theorem dX6_reviewCount_40 : decode cX6_reviewCount 40 = .ok (.ireturn, 1) := by decide +kernel
abbrev m_X6_reviewCount : MD := (yX6_reviewCount, cX6_reviewCount, 4, (some .int))
theorem q_415 : Cond.code yX6_exceptionsOf cX6_exceptionsOf 7 (some .int) ∈ TS := ts_t 415 (by decide +kernel) (by decide +kernel)
theorem q_412 : Cond.methodLink RX6 92 yX6_exceptionsOf ∈ TS := ts_t 412 (by decide +kernel) (by decide +kernel)
theorem q_414 : Cond.instanceMethod yX6_exceptionsOf ∈ TS := ts_t 414 (by decide +kernel) (by decide +kernel)
theorem qs_3 : Cond.selects yX6_exceptionsOf.cls yX6_exceptionsOf yX6_exceptionsOf ∈ TS := ts_s 3 (by decide +kernel) (by decide +kernel)
theorem k_X6_92 : LkV RX6 92 m_X6_exceptionsOf 2 := ⟨q_412, q_414, qs_3, ⟨q_7, q_415, by decide, by decide, by decide +kernel⟩⟩
abbrev w_X6_reviewCount (g : GT) (h0 h1 h2 h3 h4 h5 h6 h7 h8 h9 h10 h11 : Nat) (v0_1 v0_2 v0_3 v0_4 v0_9 v8_0 v8_1 v8_4 v8_6 v8_7 v8_8 v8_10 : Value) (count0 : Int32) (axleReadings1 handAxles2 handPlate3 plateSums4 readPlates5 state6 tag7 : Nat → Int32) (classes8 tags8 confidence8 : Int32) (classAxles9 tagAxles10 tagPlate11 : Nat → Int32) : va_W := [(h0, .inr (6, [.int count0, v0_1, v0_2, v0_3, v0_4, .ref h7, .ref h3, .ref h2, .ref h6, v0_9, .ref h5, .ref h4, .ref h1])), (h1, aI g 640 axleReadings1), (h2, aI g 80 handAxles2), (h3, aI g 80 handPlate3), (h4, aI g 320 plateSums4), (h5, aI g 320 readPlates5), (h6, aI g 80 state6), (h7, aI g 80 tag7), (h8, .inr (4, [v8_0, v8_1, .int classes8, .int tags8, v8_4, .int confidence8, v8_6, v8_7, v8_8, .ref h9, v8_10, .ref h11, .ref h10])), (h9, aI g 4 classAxles9), (h10, aI g 12 tagAxles10), (h11, aI g 12 tagPlate11)]
def f_X6_reviewCount_b33 (F : Nat) (k4 : (Int32 × Int32) → Option (Int32)) (count0 : Int32) (axleReadings1 handAxles2 handPlate3 plateSums4 readPlates5 state6 tag7 : Nat → Int32) (classes8 tags8 confidence8 : Int32) (classAxles9 tagAxles10 tagPlate11 : Nat → Int32) (x2 x3 : Int32) : Option (Int32) :=
  k4 (x2, x3 + 1)
def f_X6_reviewCount_h4 (F : Nat) (count0 : Int32) (axleReadings1 handAxles2 handPlate3 plateSums4 readPlates5 state6 tag7 : Nat → Int32) (classes8 tags8 confidence8 : Int32) (classAxles9 tagAxles10 tagPlate11 : Nat → Int32) (k4 : (Int32 × Int32) → Option (Int32)) (x2 x3 : Int32) : Option (Int32) :=
  if count0 ≤ x3 then
    some x2
  else
    rd state6 80 x3 fun a2 =>
    if a2 = 0 then
      bd1 (f_X6_exceptionsOf F x3 axleReadings1 handAxles2 handPlate3 plateSums4 readPlates5 tag7 classes8 tags8 confidence8 classAxles9 tagAxles10 tagPlate11) fun r4 =>
      if r4 = 0 then
        f_X6_reviewCount_b33 F k4 count0 axleReadings1 handAxles2 handPlate3 plateSums4 readPlates5 state6 tag7 classes8 tags8 confidence8 classAxles9 tagAxles10 tagPlate11 x2 x3
      else
        f_X6_reviewCount_b33 F k4 count0 axleReadings1 handAxles2 handPlate3 plateSums4 readPlates5 state6 tag7 classes8 tags8 confidence8 classAxles9 tagAxles10 tagPlate11 (x2 + 1) x3
    else
      f_X6_reviewCount_b33 F k4 count0 axleReadings1 handAxles2 handPlate3 plateSums4 readPlates5 state6 tag7 classes8 tags8 confidence8 classAxles9 tagAxles10 tagPlate11 x2 x3
def f_X6_reviewCount_L4 (F : Nat) (count0 : Int32) (axleReadings1 handAxles2 handPlate3 plateSums4 readPlates5 state6 tag7 : Nat → Int32) (classes8 tags8 confidence8 : Int32) (classAxles9 tagAxles10 tagPlate11 : Nat → Int32) (z : Int32 × Int32) : Option (Int32) := lp (fun k z => f_X6_reviewCount_h4 F count0 axleReadings1 handAxles2 handPlate3 plateSums4 readPlates5 state6 tag7 classes8 tags8 confidence8 classAxles9 tagAxles10 tagPlate11 k z.1 z.2) F z
def f_X6_reviewCount (F : Nat) (count0 : Int32) (axleReadings1 handAxles2 handPlate3 plateSums4 readPlates5 state6 tag7 : Nat → Int32) (classes8 tags8 confidence8 : Int32) (classAxles9 tagAxles10 tagPlate11 : Nat → Int32) : Option (Int32) :=
  f_X6_reviewCount_L4 F count0 axleReadings1 handAxles2 handPlate3 plateSums4 readPlates5 state6 tag7 classes8 tags8 confidence8 classAxles9 tagAxles10 tagPlate11 (0, 0)
set_option maxHeartbeats 4000000 in
set_option maxRecDepth 100000 in
theorem c_X6_reviewCount (l : Launch) (g : GT) (F : Nat) (h0 h1 h2 h3 h4 h5 h6 h7 h8 h9 h10 h11 : Nat) (v0_1 v0_2 v0_3 v0_4 v0_9 v8_0 v8_1 v8_4 v8_6 v8_7 v8_8 v8_10 : Value) (count0 : Int32) (axleReadings1 handAxles2 handPlate3 plateSums4 readPlates5 state6 tag7 : Nat → Int32) (classes8 tags8 confidence8 : Int32) (classAxles9 tagAxles10 tagPlate11 : Nat → Int32) (r : Int32) (sz : Nat) (hf : f_X6_reviewCount F count0 axleReadings1 handAxles2 handPlate3 plateSums4 readPlates5 state6 tag7 classes8 tags8 confidence8 classAxles9 tagAxles10 tagPlate11 = some r) : CI l m_X6_reviewCount (rml 4 0 0) g (w_X6_reviewCount g h0 h1 h2 h3 h4 h5 h6 h7 h8 h9 h10 h11 v0_1 v0_2 v0_3 v0_4 v0_9 v8_0 v8_1 v8_4 v8_6 v8_7 v8_8 v8_10 count0 axleReadings1 handAxles2 handPlate3 plateSums4 readPlates5 state6 tag7 classes8 tags8 confidence8 classAxles9 tagAxles10 tagPlate11) (fun _ => w_X6_reviewCount g h0 h1 h2 h3 h4 h5 h6 h7 h8 h9 h10 h11 v0_1 v0_2 v0_3 v0_4 v0_9 v8_0 v8_1 v8_4 v8_6 v8_7 v8_8 v8_10 count0 axleReadings1 handAxles2 handPlate3 plateSums4 readPlates5 state6 tag7 classes8 tags8 confidence8 classAxles9 tagAxles10 tagPlate11) sz [.ref h0, .ref h8] r := by
  refine en_i (by decide) (Nat.le_of_ble_eq_true rfl) (fun p e s m args below meth c A ls C w hl => ?_)
  have C : Cx p s m args meth c RX6 m_X6_reviewCount g A := C
  have hx := C.1
  have hb : c.code = cX6_reviewCount := C.2.1
  have hl : lv_has ls 4 [(0, .ref h0), (1, .ref h8)] := hl
  obtain ⟨Q, hQ⟩ : ∃ Q, Q = QI below args s g A (fun _ => w_X6_reviewCount g h0 h1 h2 h3 h4 h5 h6 h7 h8 h9 h10 h11 v0_1 v0_2 v0_3 v0_4 v0_9 v8_0 v8_1 v8_4 v8_6 v8_7 v8_8 v8_10 count0 axleReadings1 handAxles2 handPlate3 plateSums4 readPlates5 state6 tag7 classes8 tags8 confidence8 classAxles9 tagAxles10 tagPlate11) r 0 0 := ⟨_, rfl⟩
  suffices hW : W p l e (rml 4 0 0) s m args below meth c s.heap [] 0 0 Q (F0 m 0 ls []) from (by rw [hQ] at hW; exact hW)
  unfold f_X6_reviewCount at hf
  have L4 : ∀ (z : Int32 × Int32), f_X6_reviewCount_L4 F count0 axleReadings1 handAxles2 handPlate3 plateSums4 readPlates5 state6 tag7 classes8 tags8 confidence8 classAxles9 tagAxles10 tagPlate11 z = some r → ∀ (H : Heap) (locs : List Loc) (ls : Array Slot), Wd g A (w_X6_reviewCount g h0 h1 h2 h3 h4 h5 h6 h7 h8 h9 h10 h11 v0_1 v0_2 v0_3 v0_4 v0_9 v8_0 v8_1 v8_4 v8_6 v8_7 v8_8 v8_10 count0 axleReadings1 handAxles2 handPlate3 plateSums4 readPlates5 state6 tag7 classes8 tags8 confidence8 classAxles9 tagAxles10 tagPlate11) s.heap H locs → lv_has ls 4 [(0, .ref h0), (1, .ref h8), (2, .int z.1), (3, .int z.2)] → W p l e (rml 4 0 0) s m args below meth c H locs 0 0 Q (F0 m 4 ls []) := by
    intro z hf
    refine lp_W (r := r) (fun (z : Int32 × Int32) => ∀ (H : Heap) (locs : List Loc) (ls : Array Slot), Wd g A (w_X6_reviewCount g h0 h1 h2 h3 h4 h5 h6 h7 h8 h9 h10 h11 v0_1 v0_2 v0_3 v0_4 v0_9 v8_0 v8_1 v8_4 v8_6 v8_7 v8_8 v8_10 count0 axleReadings1 handAxles2 handPlate3 plateSums4 readPlates5 state6 tag7 classes8 tags8 confidence8 classAxles9 tagAxles10 tagPlate11) s.heap H locs → lv_has ls 4 [(0, .ref h0), (1, .ref h8), (2, .int z.1), (3, .int z.2)] → W p l e (rml 4 0 0) s m args below meth c H locs 0 0 Q (F0 m 4 ls [])) (fun k4 z ih4 hf => ?_) F z hf
    obtain ⟨x2, x3⟩ := z
    intro H locs ls w hl
    try dsimp only at hf w hl ⊢
    unfold f_X6_reviewCount_h4 at hf
    have b33 : ∀ (x2 x3 : Int32) (H : Heap) (locs : List Loc) (ls : Array Slot), f_X6_reviewCount_b33 F k4 count0 axleReadings1 handAxles2 handPlate3 plateSums4 readPlates5 state6 tag7 classes8 tags8 confidence8 classAxles9 tagAxles10 tagPlate11 x2 x3 = some r → Wd g A (w_X6_reviewCount g h0 h1 h2 h3 h4 h5 h6 h7 h8 h9 h10 h11 v0_1 v0_2 v0_3 v0_4 v0_9 v8_0 v8_1 v8_4 v8_6 v8_7 v8_8 v8_10 count0 axleReadings1 handAxles2 handPlate3 plateSums4 readPlates5 state6 tag7 classes8 tags8 confidence8 classAxles9 tagAxles10 tagPlate11) s.heap H locs → lv_has ls 4 [(0, .ref h0), (1, .ref h8), (2, .int x2), (3, .int x3)] → W p l e (rml 4 0 0) s m args below meth c H locs 0 0 Q (F0 m 33 ls []) := by
      intro x2 x3 H locs ls hf w hl
      unfold f_X6_reviewCount_b33 at hf
      refine lv_iinc (v := x3 + 1) (lv' := [(3, .int (x3 + 1)), (0, .ref h0), (1, .ref h8), (2, .int x2)]) hx hb dX6_reviewCount_33 hl (k := 3) rfl rfl (by decide) rfl (fun ls hl => ?_)
      refine lv_goto (tgt := 4) hx hb dX6_reviewCount_36 (by decide) ?_
      exact ih4 (x2, x3 + 1) hf _ _ _ w (lv_sub hl [1, 2, 3, 0] rfl)
    refine lv_iload_n hx hb dX6_reviewCount_4 rfl (lv_at hl 3 rfl) ?_
    refine lv_aload_n hx hb dX6_reviewCount_5 rfl (lv_at hl 0 rfl) ?_
    refine g_X6_9 C w 0 rfl rfl dX6_reviewCount_6 ?_
    refine lv_icmp_ge (tgt := 39) hx hb dX6_reviewCount_9 (by decide) (fun c1 => ?_) (fun c1 => ?_)
    · replace hf := it_t c1 hf
      refine lv_iload_n hx hb dX6_reviewCount_39 rfl (lv_at hl 2 rfl) ?_
      obtain e1 := tp1 hf
      rw [hQ]
      exact rt_i C w rfl (fun _ => 0) rfl e1 dX6_reviewCount_40
    · replace hf := it_f c1 hf
      refine lv_aload_n hx hb dX6_reviewCount_12 rfl (lv_at hl 0 rfl) ?_
      refine g_X6_37 C w 0 rfl rfl dX6_reviewCount_13 ?_
      refine lv_iload_n hx hb dX6_reviewCount_16 rfl (lv_at hl 3 rfl) ?_
      obtain ⟨a2, hia2, haa2, hf⟩ := rd_some hf
      refine ial C w 6 rfl hia2 haa2 dX6_reviewCount_17 ?_
      refine lv_if_ne (tgt := 33) hx hb dX6_reviewCount_18 (by decide) (fun c3 => ?_) (fun c3 => ?_)
      · replace hf := it_f c3 hf
        exact b33 x2 x3 _ _ _ hf w (lv_sub hl [0, 1, 2, 3] rfl)
      · replace hf := it_t c3 hf
        refine lv_aload_n hx hb dX6_reviewCount_21 rfl (lv_at hl 0 rfl) ?_
        refine lv_iload_n hx hb dX6_reviewCount_22 rfl (lv_at hl 3 rfl) ?_
        refine lv_aload_n hx hb dX6_reviewCount_23 rfl (lv_at hl 1 rfl) ?_
        obtain ⟨r4, hc5, hf⟩ := bd1_some hf
        refine ca_iV C w (wn := fun _ => w_X6_reviewCount g h0 h1 h2 h3 h4 h5 h6 h7 h8 h9 h10 h11 v0_1 v0_2 v0_3 v0_4 v0_9 v8_0 v8_1 v8_4 v8_6 v8_7 v8_8 v8_10 count0 axleReadings1 handAxles2 handPlate3 plateSums4 readPlates5 state6 tag7 classes8 tags8 confidence8 classAxles9 tagAxles10 tagPlate11) (pm_k [true, true, true, true, true, true, false, true, true, true, true, true] rfl rfl (fun _ => Nat.le_of_ble_eq_true rfl) (fun _ => rfl)) (c_X6_exceptionsOf l g F h0 h1 h2 h3 h4 h5 h7 h8 h9 h10 h11 (.int count0) v0_1 v0_2 v0_3 v0_4 (.ref h6) v0_9 v8_0 v8_1 v8_4 v8_6 v8_7 v8_8 v8_10 x3 axleReadings1 handAxles2 handPlate3 plateSums4 readPlates5 tag7 classes8 tags8 confidence8 classAxles9 tagAxles10 tagPlate11 r4 _ hc5) k_X6_92 (rm_le (by decide) (by decide)) 0 6 rfl rfl rfl rfl hl.1 rfl (Nat.le_of_ble_eq_true rfl) dX6_reviewCount_24 ⟨Nat.le_of_ble_eq_true rfl, Nat.le_of_ble_eq_true rfl⟩ (cells2 := 0) (slots2 := 0) ⟨rfl, rfl⟩ (fun _ H locs w => ?_)
        refine lv_if_eq (tgt := 33) hx hb dX6_reviewCount_27 (by decide) (fun c6 => ?_) (fun c6 => ?_)
        · replace hf := it_t c6 hf
          exact b33 x2 x3 _ _ _ hf w (lv_sub hl [0, 1, 2, 3] rfl)
        · replace hf := it_f c6 hf
          refine lv_iinc (v := x2 + 1) (lv' := [(2, .int (x2 + 1)), (0, .ref h0), (1, .ref h8), (3, .int x3)]) hx hb dX6_reviewCount_30 hl (k := 2) rfl rfl (by decide) rfl (fun ls hl => ?_)
          exact b33 (x2 + 1) x3 _ _ _ hf w (lv_sub hl [1, 2, 0, 3] rfl)
  refine lv_iconst (v := 0) hx hb dX6_reviewCount_0 (by decide) ?_
  refine lv_istore_n (lv' := [(2, .int 0), (0, .ref h0), (1, .ref h8)]) hx hb dX6_reviewCount_1 rfl hl (by decide) rfl (fun ls hl => ?_)
  refine lv_iconst (v := 0) hx hb dX6_reviewCount_2 (by decide) ?_
  refine lv_istore_n (lv' := [(3, .int 0), (2, .int 0), (0, .ref h0), (1, .ref h8)]) hx hb dX6_reviewCount_3 rfl hl (by decide) rfl (fun ls hl => ?_)
  exact L4 (0, 0) hf _ _ _ w (lv_sub hl [2, 3, 1, 0] rfl)
