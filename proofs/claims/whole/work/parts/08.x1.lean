theorem dX1_reset_0 : decode cX1_reset 0 = .ok (.aload_n 0, 1) := by decide +kernel
theorem dX1_reset_1 : decode cX1_reset 1 = .ok (.iconst 0, 1) := by decide +kernel
theorem dX1_reset_2 : decode cX1_reset 2 = .ok (.putfield 9, 3) := by decide +kernel
theorem dX1_reset_5 : decode cX1_reset 5 = .ok (.aload_n 0, 1) := by decide +kernel
theorem dX1_reset_6 : decode cX1_reset 6 = .ok (.iconst 0, 1) := by decide +kernel
theorem dX1_reset_7 : decode cX1_reset 7 = .ok (.putfield 15, 3) := by decide +kernel
theorem dX1_reset_10 : decode cX1_reset 10 = .ok (.return_, 1) := by decide +kernel
abbrev m_X1_reset : MD := (yX1_reset, cX1_reset, 1, none)
theorem inX1s : ∀ w ∈ u_ws RX1 TX1 9, w ∈ TS := by
  show ∀ w ∈ [u_lay RX1 TX1 0, u_lay RX1 TX1 1, u_lay RX1 TX1 2, u_lay RX1 TX1 3, u_lay RX1 TX1 4, u_lay RX1 TX1 5, u_lay RX1 TX1 6, u_lay RX1 TX1 7, u_lay RX1 TX1 8], w ∈ TS
  exact List.forall_mem_cons.mpr ⟨ts_t 291 (by decide +kernel) (by decide +kernel), List.forall_mem_cons.mpr ⟨ts_t 293 (by decide +kernel) (by decide +kernel), List.forall_mem_cons.mpr ⟨ts_t 295 (by decide +kernel) (by decide +kernel), List.forall_mem_cons.mpr ⟨ts_t 297 (by decide +kernel) (by decide +kernel), List.forall_mem_cons.mpr ⟨ts_t 299 (by decide +kernel) (by decide +kernel), List.forall_mem_cons.mpr ⟨ts_t 301 (by decide +kernel) (by decide +kernel), List.forall_mem_cons.mpr ⟨ts_t 303 (by decide +kernel) (by decide +kernel), List.forall_mem_cons.mpr ⟨ts_t 305 (by decide +kernel) (by decide +kernel), List.forall_mem_cons.mpr ⟨ts_t 307 (by decide +kernel) (by decide +kernel), fun _ h => absurd h List.not_mem_nil⟩⟩⟩⟩⟩⟩⟩⟩⟩
theorem p_X1_9 {p : Program} {l : Launch} {e : Env} {R : Room} {s : State} {m : MethodId} {args : Array Value} {below : List Frame} {meth : Method} {c : Code} {H : Heap} {locs : List Loc} {cells slots : Nat} {Q : State → Prop} {d : MD} {g : GT} {A : Nat → Prop} {ws : va_W} {pc : Nat} {ls : Array Slot} {rest : List Value} (C : Cx p s m args meth c RX1 d g A) (w : Wd g A ws s.heap H locs) (q0 : Nat) {a : Nat} {fs : List Value} {x : Int32} (he : ws[q0]? = some (a, .inr (1, fs))) (hlt : 0 < fs.length) {ws2 : va_W} (h2 : ws.set q0 (a, .inr (1, fs.set 0 (.int x))) = ws2) (hd : decode d.2.1 pc = .ok (.putfield 9, 3)) (kk : ∀ (H1 : Heap) (locs1 : List Loc), Wd g A ws2 s.heap H1 locs1 → W p l e R s m args below meth c H1 locs1 cells slots Q (F0 m (pc + 3) ls rest)) : W p l e R s m args below meth c H locs cells slots Q (F0 m pc ls (.int x :: .ref a :: rest)) := fp C w inX1s tyX1_ok nmX1 (ref := RX1) rfl 0 (by decide) (ts_t (w := Cond.fieldLink RX1 9 RX1 (TX1 0).2.1 (TX1 0).2.2.1) 271 (by decide +kernel) (by decide +kernel)) rfl rfl q0 he rfl rfl hlt h2 hd kk
theorem p_X1_15 {p : Program} {l : Launch} {e : Env} {R : Room} {s : State} {m : MethodId} {args : Array Value} {below : List Frame} {meth : Method} {c : Code} {H : Heap} {locs : List Loc} {cells slots : Nat} {Q : State → Prop} {d : MD} {g : GT} {A : Nat → Prop} {ws : va_W} {pc : Nat} {ls : Array Slot} {rest : List Value} (C : Cx p s m args meth c RX1 d g A) (w : Wd g A ws s.heap H locs) (q0 : Nat) {a : Nat} {fs : List Value} {x : Int32} (he : ws[q0]? = some (a, .inr (1, fs))) (hlt : 1 < fs.length) {ws2 : va_W} (h2 : ws.set q0 (a, .inr (1, fs.set 1 (.int x))) = ws2) (hd : decode d.2.1 pc = .ok (.putfield 15, 3)) (kk : ∀ (H1 : Heap) (locs1 : List Loc), Wd g A ws2 s.heap H1 locs1 → W p l e R s m args below meth c H1 locs1 cells slots Q (F0 m (pc + 3) ls rest)) : W p l e R s m args below meth c H locs cells slots Q (F0 m pc ls (.int x :: .ref a :: rest)) := fp C w inX1s tyX1_ok nmX1 (ref := RX1) rfl 1 (by decide) (ts_t (w := Cond.fieldLink RX1 15 RX1 (TX1 1).2.1 (TX1 1).2.2.1) 274 (by decide +kernel) (by decide +kernel)) rfl rfl q0 he rfl rfl hlt h2 hd kk
abbrev w_X1_reset (g : GT) (h0 : Nat) (v0_2 v0_3 v0_4 v0_5 v0_6 v0_7 v0_8 : Value) (trips0 invoices0 : Int32) : va_W := [(h0, .inr (1, [.int trips0, .int invoices0, v0_2, v0_3, v0_4, v0_5, v0_6, v0_7, v0_8]))]
def f_X1_reset (F : Nat) (trips0 invoices0 : Int32) : Option (Int32 × Int32) :=
  some (0, 0)
set_option maxHeartbeats 4000000 in
set_option maxRecDepth 100000 in
theorem c_X1_reset (l : Launch) (g : GT) (F : Nat) (h0 : Nat) (v0_2 v0_3 v0_4 v0_5 v0_6 v0_7 v0_8 : Value) (trips0 invoices0 : Int32) (o_trips0 o_invoices0 : Int32) (sz : Nat) (hf : f_X1_reset F trips0 invoices0 = some (o_trips0, o_invoices0)) : CV l m_X1_reset (rml 0 0 0) g (w_X1_reset g h0 v0_2 v0_3 v0_4 v0_5 v0_6 v0_7 v0_8 trips0 invoices0) (fun _ => w_X1_reset g h0 v0_2 v0_3 v0_4 v0_5 v0_6 v0_7 v0_8 o_trips0 o_invoices0) sz [.ref h0] := by
  refine en_v (by decide) (Nat.le_of_ble_eq_true rfl) (fun p e s m args below meth c A ls C w hl => ?_)
  have C : Cx p s m args meth c RX1 m_X1_reset g A := C
  have hx := C.1
  have hb : c.code = cX1_reset := C.2.1
  have hl : lv_has ls 1 [(0, .ref h0)] := hl
  obtain ⟨Q, hQ⟩ : ∃ Q, Q = QV below args s g A (fun _ => w_X1_reset g h0 v0_2 v0_3 v0_4 v0_5 v0_6 v0_7 v0_8 o_trips0 o_invoices0) 0 0 := ⟨_, rfl⟩
  suffices hW : W p l e (rml 0 0 0) s m args below meth c s.heap [] 0 0 Q (F0 m 0 ls []) from (by rw [hQ] at hW; exact hW)
  unfold f_X1_reset at hf
  refine lv_aload_n hx hb dX1_reset_0 rfl (lv_at hl 0 rfl) ?_
  refine lv_iconst (v := 0) hx hb dX1_reset_1 (by decide) ?_
  refine p_X1_9 C w 0 rfl (Nat.le_of_ble_eq_true rfl) (ws2 := w_X1_reset g h0 v0_2 v0_3 v0_4 v0_5 v0_6 v0_7 v0_8 0 invoices0) rfl dX1_reset_2 (fun H locs w => ?_)
  refine lv_aload_n hx hb dX1_reset_5 rfl (lv_at hl 0 rfl) ?_
  refine lv_iconst (v := 0) hx hb dX1_reset_6 (by decide) ?_
  refine p_X1_15 C w 0 rfl (Nat.le_of_ble_eq_true rfl) (ws2 := w_X1_reset g h0 v0_2 v0_3 v0_4 v0_5 v0_6 v0_7 v0_8 0 0) rfl dX1_reset_7 (fun H locs w => ?_)
  obtain ⟨e1, e2⟩ := tp2 hf
  rw [hQ]
  exact rt_v C w rfl (fun _ => 0) (by rw [← e1, ← e2]) dX1_reset_10

theorem dX1_copyFrom_0 : decode cX1_copyFrom 0 = .ok (.aload_n 0, 1) := by decide +kernel
theorem dX1_copyFrom_1 : decode cX1_copyFrom 1 = .ok (.aload_n 1, 1) := by decide +kernel
theorem dX1_copyFrom_2 : decode cX1_copyFrom 2 = .ok (.getfield 9, 3) := by decide +kernel
theorem dX1_copyFrom_5 : decode cX1_copyFrom 5 = .ok (.putfield 9, 3) := by decide +kernel
theorem dX1_copyFrom_8 : decode cX1_copyFrom 8 = .ok (.aload_n 0, 1) := by decide +kernel
theorem dX1_copyFrom_9 : decode cX1_copyFrom 9 = .ok (.aload_n 1, 1) := by decide +kernel
theorem dX1_copyFrom_10 : decode cX1_copyFrom 10 = .ok (.getfield 15, 3) := by decide +kernel
theorem dX1_copyFrom_13 : decode cX1_copyFrom 13 = .ok (.putfield 15, 3) := by decide +kernel
theorem dX1_copyFrom_16 : decode cX1_copyFrom 16 = .ok (.aload_n 1, 1) := by decide +kernel
theorem dX1_copyFrom_17 : decode cX1_copyFrom 17 = .ok (.getfield 18, 3) := by decide +kernel
theorem dX1_copyFrom_20 : decode cX1_copyFrom 20 = .ok (.iconst 0, 1) := by decide +kernel
theorem dX1_copyFrom_21 : decode cX1_copyFrom 21 = .ok (.aload_n 0, 1) := by decide +kernel
theorem dX1_copyFrom_22 : decode cX1_copyFrom 22 = .ok (.getfield 18, 3) := by decide +kernel
theorem dX1_copyFrom_25 : decode cX1_copyFrom 25 = .ok (.iconst 0, 1) := by decide +kernel
theorem dX1_copyFrom_26 : decode cX1_copyFrom 26 = .ok (.bipush 80, 2) := by decide +kernel
theorem dX1_copyFrom_28 : decode cX1_copyFrom 28 = .ok (.invokestatic 40, 3) := by decide +kernel
theorem dX1_copyFrom_31 : decode cX1_copyFrom 31 = .ok (.aload_n 1, 1) := by decide +kernel
theorem dX1_copyFrom_32 : decode cX1_copyFrom 32 = .ok (.getfield 22, 3) := by decide +kernel
theorem dX1_copyFrom_35 : decode cX1_copyFrom 35 = .ok (.iconst 0, 1) := by decide +kernel
theorem dX1_copyFrom_36 : decode cX1_copyFrom 36 = .ok (.aload_n 0, 1) := by decide +kernel
theorem dX1_copyFrom_37 : decode cX1_copyFrom 37 = .ok (.getfield 22, 3) := by decide +kernel
theorem dX1_copyFrom_40 : decode cX1_copyFrom 40 = .ok (.iconst 0, 1) := by decide +kernel
theorem dX1_copyFrom_41 : decode cX1_copyFrom 41 = .ok (.bipush 80, 2) := by decide +kernel
theorem dX1_copyFrom_43 : decode cX1_copyFrom 43 = .ok (.invokestatic 40, 3) := by decide +kernel
theorem dX1_copyFrom_46 : decode cX1_copyFrom 46 = .ok (.aload_n 1, 1) := by decide +kernel
theorem dX1_copyFrom_47 : decode cX1_copyFrom 47 = .ok (.getfield 25, 3) := by decide +kernel
theorem dX1_copyFrom_50 : decode cX1_copyFrom 50 = .ok (.iconst 0, 1) := by decide +kernel
theorem dX1_copyFrom_51 : decode cX1_copyFrom 51 = .ok (.aload_n 0, 1) := by decide +kernel
theorem dX1_copyFrom_52 : decode cX1_copyFrom 52 = .ok (.getfield 25, 3) := by decide +kernel
theorem dX1_copyFrom_55 : decode cX1_copyFrom 55 = .ok (.iconst 0, 1) := by decide +kernel
theorem dX1_copyFrom_56 : decode cX1_copyFrom 56 = .ok (.bipush 80, 2) := by decide +kernel
theorem dX1_copyFrom_58 : decode cX1_copyFrom 58 = .ok (.invokestatic 40, 3) := by decide +kernel
theorem dX1_copyFrom_61 : decode cX1_copyFrom 61 = .ok (.aload_n 1, 1) := by decide +kernel
theorem dX1_copyFrom_62 : decode cX1_copyFrom 62 = .ok (.getfield 28, 3) := by decide +kernel
theorem dX1_copyFrom_65 : decode cX1_copyFrom 65 = .ok (.iconst 0, 1) := by decide +kernel
theorem dX1_copyFrom_66 : decode cX1_copyFrom 66 = .ok (.aload_n 0, 1) := by decide +kernel
theorem dX1_copyFrom_67 : decode cX1_copyFrom 67 = .ok (.getfield 28, 3) := by decide +kernel
theorem dX1_copyFrom_70 : decode cX1_copyFrom 70 = .ok (.iconst 0, 1) := by decide +kernel
theorem dX1_copyFrom_71 : decode cX1_copyFrom 71 = .ok (.bipush 80, 2) := by decide +kernel
theorem dX1_copyFrom_73 : decode cX1_copyFrom 73 = .ok (.invokestatic 40, 3) := by decide +kernel
theorem dX1_copyFrom_76 : decode cX1_copyFrom 76 = .ok (.aload_n 1, 1) := by decide +kernel
theorem dX1_copyFrom_77 : decode cX1_copyFrom 77 = .ok (.getfield 31, 3) := by decide +kernel
theorem dX1_copyFrom_80 : decode cX1_copyFrom 80 = .ok (.iconst 0, 1) := by decide +kernel
theorem dX1_copyFrom_81 : decode cX1_copyFrom 81 = .ok (.aload_n 0, 1) := by decide +kernel
theorem dX1_copyFrom_82 : decode cX1_copyFrom 82 = .ok (.getfield 31, 3) := by decide +kernel
theorem dX1_copyFrom_85 : decode cX1_copyFrom 85 = .ok (.iconst 0, 1) := by decide +kernel
theorem dX1_copyFrom_86 : decode cX1_copyFrom 86 = .ok (.bipush 80, 2) := by decide +kernel
theorem dX1_copyFrom_88 : decode cX1_copyFrom 88 = .ok (.invokestatic 40, 3) := by decide +kernel
theorem dX1_copyFrom_91 : decode cX1_copyFrom 91 = .ok (.aload_n 1, 1) := by decide +kernel
theorem dX1_copyFrom_92 : decode cX1_copyFrom 92 = .ok (.getfield 34, 3) := by decide +kernel
theorem dX1_copyFrom_95 : decode cX1_copyFrom 95 = .ok (.iconst 0, 1) := by decide +kernel
theorem dX1_copyFrom_96 : decode cX1_copyFrom 96 = .ok (.aload_n 0, 1) := by decide +kernel
theorem dX1_copyFrom_97 : decode cX1_copyFrom 97 = .ok (.getfield 34, 3) := by decide +kernel
theorem dX1_copyFrom_100 : decode cX1_copyFrom 100 = .ok (.iconst 0, 1) := by decide +kernel
theorem dX1_copyFrom_101 : decode cX1_copyFrom 101 = .ok (.bipush 40, 2) := by decide +kernel
theorem dX1_copyFrom_103 : decode cX1_copyFrom 103 = .ok (.invokestatic 40, 3) := by decide +kernel
theorem dX1_copyFrom_106 : decode cX1_copyFrom 106 = .ok (.aload_n 1, 1) := by decide +kernel
theorem dX1_copyFrom_107 : decode cX1_copyFrom 107 = .ok (.getfield 37, 3) := by decide +kernel
theorem dX1_copyFrom_110 : decode cX1_copyFrom 110 = .ok (.iconst 0, 1) := by decide +kernel
theorem dX1_copyFrom_111 : decode cX1_copyFrom 111 = .ok (.aload_n 0, 1) := by decide +kernel
theorem dX1_copyFrom_112 : decode cX1_copyFrom 112 = .ok (.getfield 37, 3) := by decide +kernel
theorem dX1_copyFrom_115 : decode cX1_copyFrom 115 = .ok (.iconst 0, 1) := by decide +kernel
theorem dX1_copyFrom_116 : decode cX1_copyFrom 116 = .ok (.bipush 40, 2) := by decide +kernel
theorem dX1_copyFrom_118 : decode cX1_copyFrom 118 = .ok (.invokestatic 40, 3) := by decide +kernel
theorem dX1_copyFrom_121 : decode cX1_copyFrom 121 = .ok (.return_, 1) := by decide +kernel
abbrev m_X1_copyFrom : MD := (yX1_copyFrom, cX1_copyFrom, 2, none)
theorem q_499 : Cond.methodLink RX1 40 arraycopyName ∈ TS := ts_t 499 (by decide +kernel) (by decide +kernel)
theorem g_X1_9 {p : Program} {l : Launch} {e : Env} {R : Room} {s : State} {m : MethodId} {args : Array Value} {below : List Frame} {meth : Method} {c : Code} {H : Heap} {locs : List Loc} {cells slots : Nat} {Q : State → Prop} {d : MD} {g : GT} {A : Nat → Prop} {ws : va_W} {pc : Nat} {ls : Array Slot} {rest : List Value} (C : Cx p s m args meth c RX1 d g A) (w : Wd g A ws s.heap H locs) (q0 : Nat) {a : Nat} {fs : List Value} {v : Value} (he : ws[q0]? = some (a, .inr (1, fs))) (hv : fs[0]? = some v) (hd : decode d.2.1 pc = .ok (.getfield 9, 3)) (kk : W p l e R s m args below meth c H locs cells slots Q (F0 m (pc + 3) ls (v :: rest))) : W p l e R s m args below meth c H locs cells slots Q (F0 m pc ls (.ref a :: rest)) := fg C w inX1s (ref := RX1) rfl 0 (by decide) (ts_t (w := Cond.fieldLink RX1 9 RX1 (TX1 0).2.1 (TX1 0).2.2.1) 271 (by decide +kernel) (by decide +kernel)) rfl q0 he hv hd kk
theorem g_X1_15 {p : Program} {l : Launch} {e : Env} {R : Room} {s : State} {m : MethodId} {args : Array Value} {below : List Frame} {meth : Method} {c : Code} {H : Heap} {locs : List Loc} {cells slots : Nat} {Q : State → Prop} {d : MD} {g : GT} {A : Nat → Prop} {ws : va_W} {pc : Nat} {ls : Array Slot} {rest : List Value} (C : Cx p s m args meth c RX1 d g A) (w : Wd g A ws s.heap H locs) (q0 : Nat) {a : Nat} {fs : List Value} {v : Value} (he : ws[q0]? = some (a, .inr (1, fs))) (hv : fs[1]? = some v) (hd : decode d.2.1 pc = .ok (.getfield 15, 3)) (kk : W p l e R s m args below meth c H locs cells slots Q (F0 m (pc + 3) ls (v :: rest))) : W p l e R s m args below meth c H locs cells slots Q (F0 m pc ls (.ref a :: rest)) := fg C w inX1s (ref := RX1) rfl 1 (by decide) (ts_t (w := Cond.fieldLink RX1 15 RX1 (TX1 1).2.1 (TX1 1).2.2.1) 274 (by decide +kernel) (by decide +kernel)) rfl q0 he hv hd kk
theorem g_X1_18 {p : Program} {l : Launch} {e : Env} {R : Room} {s : State} {m : MethodId} {args : Array Value} {below : List Frame} {meth : Method} {c : Code} {H : Heap} {locs : List Loc} {cells slots : Nat} {Q : State → Prop} {d : MD} {g : GT} {A : Nat → Prop} {ws : va_W} {pc : Nat} {ls : Array Slot} {rest : List Value} (C : Cx p s m args meth c RX1 d g A) (w : Wd g A ws s.heap H locs) (q0 : Nat) {a : Nat} {fs : List Value} {v : Value} (he : ws[q0]? = some (a, .inr (1, fs))) (hv : fs[2]? = some v) (hd : decode d.2.1 pc = .ok (.getfield 18, 3)) (kk : W p l e R s m args below meth c H locs cells slots Q (F0 m (pc + 3) ls (v :: rest))) : W p l e R s m args below meth c H locs cells slots Q (F0 m pc ls (.ref a :: rest)) := fg C w inX1s (ref := RX1) rfl 2 (by decide) (ts_t (w := Cond.fieldLink RX1 18 RX1 (TX1 2).2.1 (TX1 2).2.2.1) 277 (by decide +kernel) (by decide +kernel)) rfl q0 he hv hd kk
theorem g_X1_22 {p : Program} {l : Launch} {e : Env} {R : Room} {s : State} {m : MethodId} {args : Array Value} {below : List Frame} {meth : Method} {c : Code} {H : Heap} {locs : List Loc} {cells slots : Nat} {Q : State → Prop} {d : MD} {g : GT} {A : Nat → Prop} {ws : va_W} {pc : Nat} {ls : Array Slot} {rest : List Value} (C : Cx p s m args meth c RX1 d g A) (w : Wd g A ws s.heap H locs) (q0 : Nat) {a : Nat} {fs : List Value} {v : Value} (he : ws[q0]? = some (a, .inr (1, fs))) (hv : fs[3]? = some v) (hd : decode d.2.1 pc = .ok (.getfield 22, 3)) (kk : W p l e R s m args below meth c H locs cells slots Q (F0 m (pc + 3) ls (v :: rest))) : W p l e R s m args below meth c H locs cells slots Q (F0 m pc ls (.ref a :: rest)) := fg C w inX1s (ref := RX1) rfl 3 (by decide) (ts_t (w := Cond.fieldLink RX1 22 RX1 (TX1 3).2.1 (TX1 3).2.2.1) 279 (by decide +kernel) (by decide +kernel)) rfl q0 he hv hd kk
theorem g_X1_25 {p : Program} {l : Launch} {e : Env} {R : Room} {s : State} {m : MethodId} {args : Array Value} {below : List Frame} {meth : Method} {c : Code} {H : Heap} {locs : List Loc} {cells slots : Nat} {Q : State → Prop} {d : MD} {g : GT} {A : Nat → Prop} {ws : va_W} {pc : Nat} {ls : Array Slot} {rest : List Value} (C : Cx p s m args meth c RX1 d g A) (w : Wd g A ws s.heap H locs) (q0 : Nat) {a : Nat} {fs : List Value} {v : Value} (he : ws[q0]? = some (a, .inr (1, fs))) (hv : fs[4]? = some v) (hd : decode d.2.1 pc = .ok (.getfield 25, 3)) (kk : W p l e R s m args below meth c H locs cells slots Q (F0 m (pc + 3) ls (v :: rest))) : W p l e R s m args below meth c H locs cells slots Q (F0 m pc ls (.ref a :: rest)) := fg C w inX1s (ref := RX1) rfl 4 (by decide) (ts_t (w := Cond.fieldLink RX1 25 RX1 (TX1 4).2.1 (TX1 4).2.2.1) 281 (by decide +kernel) (by decide +kernel)) rfl q0 he hv hd kk
theorem g_X1_28 {p : Program} {l : Launch} {e : Env} {R : Room} {s : State} {m : MethodId} {args : Array Value} {below : List Frame} {meth : Method} {c : Code} {H : Heap} {locs : List Loc} {cells slots : Nat} {Q : State → Prop} {d : MD} {g : GT} {A : Nat → Prop} {ws : va_W} {pc : Nat} {ls : Array Slot} {rest : List Value} (C : Cx p s m args meth c RX1 d g A) (w : Wd g A ws s.heap H locs) (q0 : Nat) {a : Nat} {fs : List Value} {v : Value} (he : ws[q0]? = some (a, .inr (1, fs))) (hv : fs[5]? = some v) (hd : decode d.2.1 pc = .ok (.getfield 28, 3)) (kk : W p l e R s m args below meth c H locs cells slots Q (F0 m (pc + 3) ls (v :: rest))) : W p l e R s m args below meth c H locs cells slots Q (F0 m pc ls (.ref a :: rest)) := fg C w inX1s (ref := RX1) rfl 5 (by decide) (ts_t (w := Cond.fieldLink RX1 28 RX1 (TX1 5).2.1 (TX1 5).2.2.1) 283 (by decide +kernel) (by decide +kernel)) rfl q0 he hv hd kk
theorem g_X1_31 {p : Program} {l : Launch} {e : Env} {R : Room} {s : State} {m : MethodId} {args : Array Value} {below : List Frame} {meth : Method} {c : Code} {H : Heap} {locs : List Loc} {cells slots : Nat} {Q : State → Prop} {d : MD} {g : GT} {A : Nat → Prop} {ws : va_W} {pc : Nat} {ls : Array Slot} {rest : List Value} (C : Cx p s m args meth c RX1 d g A) (w : Wd g A ws s.heap H locs) (q0 : Nat) {a : Nat} {fs : List Value} {v : Value} (he : ws[q0]? = some (a, .inr (1, fs))) (hv : fs[6]? = some v) (hd : decode d.2.1 pc = .ok (.getfield 31, 3)) (kk : W p l e R s m args below meth c H locs cells slots Q (F0 m (pc + 3) ls (v :: rest))) : W p l e R s m args below meth c H locs cells slots Q (F0 m pc ls (.ref a :: rest)) := fg C w inX1s (ref := RX1) rfl 6 (by decide) (ts_t (w := Cond.fieldLink RX1 31 RX1 (TX1 6).2.1 (TX1 6).2.2.1) 285 (by decide +kernel) (by decide +kernel)) rfl q0 he hv hd kk
theorem g_X1_34 {p : Program} {l : Launch} {e : Env} {R : Room} {s : State} {m : MethodId} {args : Array Value} {below : List Frame} {meth : Method} {c : Code} {H : Heap} {locs : List Loc} {cells slots : Nat} {Q : State → Prop} {d : MD} {g : GT} {A : Nat → Prop} {ws : va_W} {pc : Nat} {ls : Array Slot} {rest : List Value} (C : Cx p s m args meth c RX1 d g A) (w : Wd g A ws s.heap H locs) (q0 : Nat) {a : Nat} {fs : List Value} {v : Value} (he : ws[q0]? = some (a, .inr (1, fs))) (hv : fs[7]? = some v) (hd : decode d.2.1 pc = .ok (.getfield 34, 3)) (kk : W p l e R s m args below meth c H locs cells slots Q (F0 m (pc + 3) ls (v :: rest))) : W p l e R s m args below meth c H locs cells slots Q (F0 m pc ls (.ref a :: rest)) := fg C w inX1s (ref := RX1) rfl 7 (by decide) (ts_t (w := Cond.fieldLink RX1 34 RX1 (TX1 7).2.1 (TX1 7).2.2.1) 287 (by decide +kernel) (by decide +kernel)) rfl q0 he hv hd kk
theorem g_X1_37 {p : Program} {l : Launch} {e : Env} {R : Room} {s : State} {m : MethodId} {args : Array Value} {below : List Frame} {meth : Method} {c : Code} {H : Heap} {locs : List Loc} {cells slots : Nat} {Q : State → Prop} {d : MD} {g : GT} {A : Nat → Prop} {ws : va_W} {pc : Nat} {ls : Array Slot} {rest : List Value} (C : Cx p s m args meth c RX1 d g A) (w : Wd g A ws s.heap H locs) (q0 : Nat) {a : Nat} {fs : List Value} {v : Value} (he : ws[q0]? = some (a, .inr (1, fs))) (hv : fs[8]? = some v) (hd : decode d.2.1 pc = .ok (.getfield 37, 3)) (kk : W p l e R s m args below meth c H locs cells slots Q (F0 m (pc + 3) ls (v :: rest))) : W p l e R s m args below meth c H locs cells slots Q (F0 m pc ls (.ref a :: rest)) := fg C w inX1s (ref := RX1) rfl 8 (by decide) (ts_t (w := Cond.fieldLink RX1 37 RX1 (TX1 8).2.1 (TX1 8).2.2.1) 289 (by decide +kernel) (by decide +kernel)) rfl q0 he hv hd kk
abbrev w_X1_copyFrom (g : GT) (h0 h1 h2 h3 h4 h5 h6 h7 h8 h9 h10 h11 h12 h13 h14 h15 : Nat) (trips0 invoices0 : Int32) (amount1 invoice2 paid3 passages4 plate5 state6 vehicleClass7 : Nat → Int32) (trips8 invoices8 : Int32) (amount9 invoice10 paid11 passages12 plate13 state14 vehicleClass15 : Nat → Int32) : va_W := [(h0, .inr (1, [.int trips0, .int invoices0, .ref h1, .ref h7, .ref h4, .ref h6, .ref h2, .ref h5, .ref h3])), (h1, aI g 80 amount1), (h2, aI g 80 invoice2), (h3, aI g 40 paid3), (h4, aI g 80 passages4), (h5, aI g 40 plate5), (h6, aI g 80 state6), (h7, aI g 80 vehicleClass7), (h8, .inr (1, [.int trips8, .int invoices8, .ref h9, .ref h15, .ref h12, .ref h14, .ref h10, .ref h13, .ref h11])), (h9, aI g 80 amount9), (h10, aI g 80 invoice10), (h11, aI g 40 paid11), (h12, aI g 80 passages12), (h13, aI g 40 plate13), (h14, aI g 80 state14), (h15, aI g 80 vehicleClass15)]
def f_X1_copyFrom (F : Nat) (trips0 invoices0 : Int32) (amount1 invoice2 paid3 passages4 plate5 state6 vehicleClass7 : Nat → Int32) (trips8 invoices8 : Int32) (amount9 invoice10 paid11 passages12 plate13 state14 vehicleClass15 : Nat → Int32) : Option (Int32 × Int32 × (Nat → Int32) × (Nat → Int32) × (Nat → Int32) × (Nat → Int32) × (Nat → Int32) × (Nat → Int32) × (Nat → Int32)) :=
  some (trips8, invoices8, (va_cpy amount9 amount1 0 0 80), (va_cpy invoice10 invoice2 0 0 80), (va_cpy paid11 paid3 0 0 40), (va_cpy passages12 passages4 0 0 80), (va_cpy plate13 plate5 0 0 40), (va_cpy state14 state6 0 0 80), (va_cpy vehicleClass15 vehicleClass7 0 0 80))
set_option maxHeartbeats 4000000 in
set_option maxRecDepth 100000 in
theorem c_X1_copyFrom (l : Launch) (g : GT) (F : Nat) (h0 h1 h2 h3 h4 h5 h6 h7 h8 h9 h10 h11 h12 h13 h14 h15 : Nat) (trips0 invoices0 : Int32) (amount1 invoice2 paid3 passages4 plate5 state6 vehicleClass7 : Nat → Int32) (trips8 invoices8 : Int32) (amount9 invoice10 paid11 passages12 plate13 state14 vehicleClass15 : Nat → Int32) (o_trips0 o_invoices0 : Int32) (o_amount1 o_invoice2 o_paid3 o_passages4 o_plate5 o_state6 o_vehicleClass7 : Nat → Int32) (sz : Nat) (hf : f_X1_copyFrom F trips0 invoices0 amount1 invoice2 paid3 passages4 plate5 state6 vehicleClass7 trips8 invoices8 amount9 invoice10 paid11 passages12 plate13 state14 vehicleClass15 = some (o_trips0, o_invoices0, o_amount1, o_invoice2, o_paid3, o_passages4, o_plate5, o_state6, o_vehicleClass7)) : CV l m_X1_copyFrom (rml 1 0 0) g (w_X1_copyFrom g h0 h1 h2 h3 h4 h5 h6 h7 h8 h9 h10 h11 h12 h13 h14 h15 trips0 invoices0 amount1 invoice2 paid3 passages4 plate5 state6 vehicleClass7 trips8 invoices8 amount9 invoice10 paid11 passages12 plate13 state14 vehicleClass15) (fun _ => w_X1_copyFrom g h0 h1 h2 h3 h4 h5 h6 h7 h8 h9 h10 h11 h12 h13 h14 h15 o_trips0 o_invoices0 o_amount1 o_invoice2 o_paid3 o_passages4 o_plate5 o_state6 o_vehicleClass7 trips8 invoices8 amount9 invoice10 paid11 passages12 plate13 state14 vehicleClass15) sz [.ref h0, .ref h8] := by
  refine en_v (by decide) (Nat.le_of_ble_eq_true rfl) (fun p e s m args below meth c A ls C w hl => ?_)
  have C : Cx p s m args meth c RX1 m_X1_copyFrom g A := C
  have hx := C.1
  have hb : c.code = cX1_copyFrom := C.2.1
  have hl : lv_has ls 2 [(0, .ref h0), (1, .ref h8)] := hl
  obtain ⟨Q, hQ⟩ : ∃ Q, Q = QV below args s g A (fun _ => w_X1_copyFrom g h0 h1 h2 h3 h4 h5 h6 h7 h8 h9 h10 h11 h12 h13 h14 h15 o_trips0 o_invoices0 o_amount1 o_invoice2 o_paid3 o_passages4 o_plate5 o_state6 o_vehicleClass7 trips8 invoices8 amount9 invoice10 paid11 passages12 plate13 state14 vehicleClass15) 0 0 := ⟨_, rfl⟩
  suffices hW : W p l e (rml 1 0 0) s m args below meth c s.heap [] 0 0 Q (F0 m 0 ls []) from (by rw [hQ] at hW; exact hW)
  unfold f_X1_copyFrom at hf
  refine lv_aload_n hx hb dX1_copyFrom_0 rfl (lv_at hl 0 rfl) ?_
  refine lv_aload_n hx hb dX1_copyFrom_1 rfl (lv_at hl 1 rfl) ?_
  refine g_X1_9 C w 8 rfl rfl dX1_copyFrom_2 ?_
  refine p_X1_9 C w 0 rfl (Nat.le_of_ble_eq_true rfl) (ws2 := w_X1_copyFrom g h0 h1 h2 h3 h4 h5 h6 h7 h8 h9 h10 h11 h12 h13 h14 h15 trips8 invoices0 amount1 invoice2 paid3 passages4 plate5 state6 vehicleClass7 trips8 invoices8 amount9 invoice10 paid11 passages12 plate13 state14 vehicleClass15) rfl dX1_copyFrom_5 (fun H locs w => ?_)
  refine lv_aload_n hx hb dX1_copyFrom_8 rfl (lv_at hl 0 rfl) ?_
  refine lv_aload_n hx hb dX1_copyFrom_9 rfl (lv_at hl 1 rfl) ?_
  refine g_X1_15 C w 8 rfl rfl dX1_copyFrom_10 ?_
  refine p_X1_15 C w 0 rfl (Nat.le_of_ble_eq_true rfl) (ws2 := w_X1_copyFrom g h0 h1 h2 h3 h4 h5 h6 h7 h8 h9 h10 h11 h12 h13 h14 h15 trips8 invoices8 amount1 invoice2 paid3 passages4 plate5 state6 vehicleClass7 trips8 invoices8 amount9 invoice10 paid11 passages12 plate13 state14 vehicleClass15) rfl dX1_copyFrom_13 (fun H locs w => ?_)
  refine lv_aload_n hx hb dX1_copyFrom_16 rfl (lv_at hl 1 rfl) ?_
  refine g_X1_18 C w 8 rfl rfl dX1_copyFrom_17 ?_
  refine lv_iconst (v := 0) hx hb dX1_copyFrom_20 (by decide) ?_
  refine lv_aload_n hx hb dX1_copyFrom_21 rfl (lv_at hl 0 rfl) ?_
  refine g_X1_18 C w 0 rfl rfl dX1_copyFrom_22 ?_
  refine lv_iconst (v := 0) hx hb dX1_copyFrom_25 (by decide) ?_
  refine lv_bipush (v := 80) hx hb dX1_copyFrom_26 (by decide) ?_
  refine icp C w hl.1 q_499 q_494 q_493 q_24 9 1 rfl rfl (by decide) (by decide) (by decide) (f2 := va_cpy amount9 amount1 0 0 80) (by rfl) (ws2 := w_X1_copyFrom g h0 h1 h2 h3 h4 h5 h6 h7 h8 h9 h10 h11 h12 h13 h14 h15 trips8 invoices8 (va_cpy amount9 amount1 0 0 80) invoice2 paid3 passages4 plate5 state6 vehicleClass7 trips8 invoices8 amount9 invoice10 paid11 passages12 plate13 state14 vehicleClass15) rfl (Nat.le_of_ble_eq_true rfl) (Nat.le_of_ble_eq_true rfl) dX1_copyFrom_28 (fun H locs w => ?_)
  refine lv_aload_n hx hb dX1_copyFrom_31 rfl (lv_at hl 1 rfl) ?_
  refine g_X1_22 C w 8 rfl rfl dX1_copyFrom_32 ?_
  refine lv_iconst (v := 0) hx hb dX1_copyFrom_35 (by decide) ?_
  refine lv_aload_n hx hb dX1_copyFrom_36 rfl (lv_at hl 0 rfl) ?_
  refine g_X1_22 C w 0 rfl rfl dX1_copyFrom_37 ?_
  refine lv_iconst (v := 0) hx hb dX1_copyFrom_40 (by decide) ?_
  refine lv_bipush (v := 80) hx hb dX1_copyFrom_41 (by decide) ?_
  refine icp C w hl.1 q_499 q_494 q_493 q_24 15 7 rfl rfl (by decide) (by decide) (by decide) (f2 := va_cpy vehicleClass15 vehicleClass7 0 0 80) (by rfl) (ws2 := w_X1_copyFrom g h0 h1 h2 h3 h4 h5 h6 h7 h8 h9 h10 h11 h12 h13 h14 h15 trips8 invoices8 (va_cpy amount9 amount1 0 0 80) invoice2 paid3 passages4 plate5 state6 (va_cpy vehicleClass15 vehicleClass7 0 0 80) trips8 invoices8 amount9 invoice10 paid11 passages12 plate13 state14 vehicleClass15) rfl (Nat.le_of_ble_eq_true rfl) (Nat.le_of_ble_eq_true rfl) dX1_copyFrom_43 (fun H locs w => ?_)
  refine lv_aload_n hx hb dX1_copyFrom_46 rfl (lv_at hl 1 rfl) ?_
  refine g_X1_25 C w 8 rfl rfl dX1_copyFrom_47 ?_
  refine lv_iconst (v := 0) hx hb dX1_copyFrom_50 (by decide) ?_
  refine lv_aload_n hx hb dX1_copyFrom_51 rfl (lv_at hl 0 rfl) ?_
  refine g_X1_25 C w 0 rfl rfl dX1_copyFrom_52 ?_
  refine lv_iconst (v := 0) hx hb dX1_copyFrom_55 (by decide) ?_
  refine lv_bipush (v := 80) hx hb dX1_copyFrom_56 (by decide) ?_
  refine icp C w hl.1 q_499 q_494 q_493 q_24 12 4 rfl rfl (by decide) (by decide) (by decide) (f2 := va_cpy passages12 passages4 0 0 80) (by rfl) (ws2 := w_X1_copyFrom g h0 h1 h2 h3 h4 h5 h6 h7 h8 h9 h10 h11 h12 h13 h14 h15 trips8 invoices8 (va_cpy amount9 amount1 0 0 80) invoice2 paid3 (va_cpy passages12 passages4 0 0 80) plate5 state6 (va_cpy vehicleClass15 vehicleClass7 0 0 80) trips8 invoices8 amount9 invoice10 paid11 passages12 plate13 state14 vehicleClass15) rfl (Nat.le_of_ble_eq_true rfl) (Nat.le_of_ble_eq_true rfl) dX1_copyFrom_58 (fun H locs w => ?_)
  refine lv_aload_n hx hb dX1_copyFrom_61 rfl (lv_at hl 1 rfl) ?_
  refine g_X1_28 C w 8 rfl rfl dX1_copyFrom_62 ?_
  refine lv_iconst (v := 0) hx hb dX1_copyFrom_65 (by decide) ?_
  refine lv_aload_n hx hb dX1_copyFrom_66 rfl (lv_at hl 0 rfl) ?_
  refine g_X1_28 C w 0 rfl rfl dX1_copyFrom_67 ?_
  refine lv_iconst (v := 0) hx hb dX1_copyFrom_70 (by decide) ?_
  refine lv_bipush (v := 80) hx hb dX1_copyFrom_71 (by decide) ?_
  refine icp C w hl.1 q_499 q_494 q_493 q_24 14 6 rfl rfl (by decide) (by decide) (by decide) (f2 := va_cpy state14 state6 0 0 80) (by rfl) (ws2 := w_X1_copyFrom g h0 h1 h2 h3 h4 h5 h6 h7 h8 h9 h10 h11 h12 h13 h14 h15 trips8 invoices8 (va_cpy amount9 amount1 0 0 80) invoice2 paid3 (va_cpy passages12 passages4 0 0 80) plate5 (va_cpy state14 state6 0 0 80) (va_cpy vehicleClass15 vehicleClass7 0 0 80) trips8 invoices8 amount9 invoice10 paid11 passages12 plate13 state14 vehicleClass15) rfl (Nat.le_of_ble_eq_true rfl) (Nat.le_of_ble_eq_true rfl) dX1_copyFrom_73 (fun H locs w => ?_)
  refine lv_aload_n hx hb dX1_copyFrom_76 rfl (lv_at hl 1 rfl) ?_
  refine g_X1_31 C w 8 rfl rfl dX1_copyFrom_77 ?_
  refine lv_iconst (v := 0) hx hb dX1_copyFrom_80 (by decide) ?_
  refine lv_aload_n hx hb dX1_copyFrom_81 rfl (lv_at hl 0 rfl) ?_
  refine g_X1_31 C w 0 rfl rfl dX1_copyFrom_82 ?_
  refine lv_iconst (v := 0) hx hb dX1_copyFrom_85 (by decide) ?_
  refine lv_bipush (v := 80) hx hb dX1_copyFrom_86 (by decide) ?_
  refine icp C w hl.1 q_499 q_494 q_493 q_24 10 2 rfl rfl (by decide) (by decide) (by decide) (f2 := va_cpy invoice10 invoice2 0 0 80) (by rfl) (ws2 := w_X1_copyFrom g h0 h1 h2 h3 h4 h5 h6 h7 h8 h9 h10 h11 h12 h13 h14 h15 trips8 invoices8 (va_cpy amount9 amount1 0 0 80) (va_cpy invoice10 invoice2 0 0 80) paid3 (va_cpy passages12 passages4 0 0 80) plate5 (va_cpy state14 state6 0 0 80) (va_cpy vehicleClass15 vehicleClass7 0 0 80) trips8 invoices8 amount9 invoice10 paid11 passages12 plate13 state14 vehicleClass15) rfl (Nat.le_of_ble_eq_true rfl) (Nat.le_of_ble_eq_true rfl) dX1_copyFrom_88 (fun H locs w => ?_)
  refine lv_aload_n hx hb dX1_copyFrom_91 rfl (lv_at hl 1 rfl) ?_
  refine g_X1_34 C w 8 rfl rfl dX1_copyFrom_92 ?_
  refine lv_iconst (v := 0) hx hb dX1_copyFrom_95 (by decide) ?_
  refine lv_aload_n hx hb dX1_copyFrom_96 rfl (lv_at hl 0 rfl) ?_
  refine g_X1_34 C w 0 rfl rfl dX1_copyFrom_97 ?_
  refine lv_iconst (v := 0) hx hb dX1_copyFrom_100 (by decide) ?_
  refine lv_bipush (v := 40) hx hb dX1_copyFrom_101 (by decide) ?_
  refine icp C w hl.1 q_499 q_494 q_493 q_24 13 5 rfl rfl (by decide) (by decide) (by decide) (f2 := va_cpy plate13 plate5 0 0 40) (by rfl) (ws2 := w_X1_copyFrom g h0 h1 h2 h3 h4 h5 h6 h7 h8 h9 h10 h11 h12 h13 h14 h15 trips8 invoices8 (va_cpy amount9 amount1 0 0 80) (va_cpy invoice10 invoice2 0 0 80) paid3 (va_cpy passages12 passages4 0 0 80) (va_cpy plate13 plate5 0 0 40) (va_cpy state14 state6 0 0 80) (va_cpy vehicleClass15 vehicleClass7 0 0 80) trips8 invoices8 amount9 invoice10 paid11 passages12 plate13 state14 vehicleClass15) rfl (Nat.le_of_ble_eq_true rfl) (Nat.le_of_ble_eq_true rfl) dX1_copyFrom_103 (fun H locs w => ?_)
  refine lv_aload_n hx hb dX1_copyFrom_106 rfl (lv_at hl 1 rfl) ?_
  refine g_X1_37 C w 8 rfl rfl dX1_copyFrom_107 ?_
  refine lv_iconst (v := 0) hx hb dX1_copyFrom_110 (by decide) ?_
  refine lv_aload_n hx hb dX1_copyFrom_111 rfl (lv_at hl 0 rfl) ?_
  refine g_X1_37 C w 0 rfl rfl dX1_copyFrom_112 ?_
  refine lv_iconst (v := 0) hx hb dX1_copyFrom_115 (by decide) ?_
  refine lv_bipush (v := 40) hx hb dX1_copyFrom_116 (by decide) ?_
  refine icp C w hl.1 q_499 q_494 q_493 q_24 11 3 rfl rfl (by decide) (by decide) (by decide) (f2 := va_cpy paid11 paid3 0 0 40) (by rfl) (ws2 := w_X1_copyFrom g h0 h1 h2 h3 h4 h5 h6 h7 h8 h9 h10 h11 h12 h13 h14 h15 trips8 invoices8 (va_cpy amount9 amount1 0 0 80) (va_cpy invoice10 invoice2 0 0 80) (va_cpy paid11 paid3 0 0 40) (va_cpy passages12 passages4 0 0 80) (va_cpy plate13 plate5 0 0 40) (va_cpy state14 state6 0 0 80) (va_cpy vehicleClass15 vehicleClass7 0 0 80) trips8 invoices8 amount9 invoice10 paid11 passages12 plate13 state14 vehicleClass15) rfl (Nat.le_of_ble_eq_true rfl) (Nat.le_of_ble_eq_true rfl) dX1_copyFrom_118 (fun H locs w => ?_)
  obtain ⟨e1, e2, e3, e4, e5, e6, e7, e8, e9⟩ := tp9 hf
  rw [hQ]
  exact rt_v C w rfl (fun _ => 0) (by rw [← e1, ← e2, ← e3, ← e4, ← e5, ← e6, ← e7, ← e8, ← e9]) dX1_copyFrom_121

theorem dX1_addInvoice_0 : decode cX1_addInvoice 0 = .ok (.aload_n 0, 1) := by decide +kernel
theorem dX1_addInvoice_1 : decode cX1_addInvoice 1 = .ok (.getfield 15, 3) := by decide +kernel
theorem dX1_addInvoice_4 : decode cX1_addInvoice 4 = .ok (.bipush 40, 2) := by decide +kernel
theorem dX1_addInvoice_6 : decode cX1_addInvoice 6 = .ok (.if_icmp .ge 33, 3) := by decide +kernel
theorem dX1_addInvoice_9 : decode cX1_addInvoice 9 = .ok (.aload_n 0, 1) := by decide +kernel
theorem dX1_addInvoice_10 : decode cX1_addInvoice 10 = .ok (.getfield 34, 3) := by decide +kernel
theorem dX1_addInvoice_13 : decode cX1_addInvoice 13 = .ok (.aload_n 0, 1) := by decide +kernel
theorem dX1_addInvoice_14 : decode cX1_addInvoice 14 = .ok (.getfield 15, 3) := by decide +kernel
theorem dX1_addInvoice_17 : decode cX1_addInvoice 17 = .ok (.iload_n 1, 1) := by decide +kernel
theorem dX1_addInvoice_18 : decode cX1_addInvoice 18 = .ok (.iastore, 1) := by decide +kernel
theorem dX1_addInvoice_19 : decode cX1_addInvoice 19 = .ok (.aload_n 0, 1) := by decide +kernel
theorem dX1_addInvoice_20 : decode cX1_addInvoice 20 = .ok (.getfield 37, 3) := by decide +kernel
theorem dX1_addInvoice_23 : decode cX1_addInvoice 23 = .ok (.aload_n 0, 1) := by decide +kernel
theorem dX1_addInvoice_24 : decode cX1_addInvoice 24 = .ok (.getfield 15, 3) := by decide +kernel
theorem dX1_addInvoice_27 : decode cX1_addInvoice 27 = .ok (.iconst 0, 1) := by decide +kernel
theorem dX1_addInvoice_28 : decode cX1_addInvoice 28 = .ok (.iastore, 1) := by decide +kernel
theorem dX1_addInvoice_29 : decode cX1_addInvoice 29 = .ok (.aload_n 0, 1) := by decide +kernel
theorem dX1_addInvoice_30 : decode cX1_addInvoice 30 = .ok (.dup, 1) := by decide +kernel
theorem dX1_addInvoice_31 : decode cX1_addInvoice 31 = .ok (.getfield 15, 3) := by decide +kernel
theorem dX1_addInvoice_34 : decode cX1_addInvoice 34 = .ok (.iconst 1, 1) := by decide +kernel
theorem dX1_addInvoice_35 : decode cX1_addInvoice 35 = .ok (.iadd, 1) := by decide +kernel
theorem dX1_addInvoice_36 : decode cX1_addInvoice 36 = .ok (.putfield 15, 3) := by decide +kernel
theorem dX1_addInvoice_39 : decode cX1_addInvoice 39 = .ok (.return_, 1) := by decide +kernel
abbrev m_X1_addInvoice : MD := (yX1_addInvoice, cX1_addInvoice, 2, none)

abbrev w_X1_addInvoice (g : GT) (h0 h1 h2 : Nat) (v0_0 v0_2 v0_3 v0_4 v0_5 v0_6 : Value) (invoices0 : Int32) (paid1 plate2 : Nat → Int32) : va_W := [(h0, .inr (1, [v0_0, .int invoices0, v0_2, v0_3, v0_4, v0_5, v0_6, .ref h2, .ref h1])), (h1, aI g 40 paid1), (h2, aI g 40 plate2)]
def f_X1_addInvoice_b39 (F : Nat) (invoices0 : Int32) (paid1 plate2 : Nat → Int32) : Option (Int32 × (Nat → Int32) × (Nat → Int32)) :=
  some (invoices0, paid1, plate2)
def f_X1_addInvoice (F : Nat) (p1 invoices0 : Int32) (paid1 plate2 : Nat → Int32) : Option (Int32 × (Nat → Int32) × (Nat → Int32)) :=
  if 40 ≤ invoices0 then
    f_X1_addInvoice_b39 F invoices0 paid1 plate2
  else
    wr plate2 40 invoices0 p1 fun f2 =>
    wr paid1 40 invoices0 0 fun f3 =>
    f_X1_addInvoice_b39 F (invoices0 + 1) f3 f2
set_option maxHeartbeats 4000000 in
set_option maxRecDepth 100000 in
theorem c_X1_addInvoice (l : Launch) (g : GT) (F : Nat) (h0 h1 h2 : Nat) (v0_0 v0_2 v0_3 v0_4 v0_5 v0_6 : Value) (p1 invoices0 : Int32) (paid1 plate2 : Nat → Int32) (o_invoices0 : Int32) (o_paid1 o_plate2 : Nat → Int32) (sz : Nat) (hf : f_X1_addInvoice F p1 invoices0 paid1 plate2 = some (o_invoices0, o_paid1, o_plate2)) : CV l m_X1_addInvoice (rml 0 0 0) g (w_X1_addInvoice g h0 h1 h2 v0_0 v0_2 v0_3 v0_4 v0_5 v0_6 invoices0 paid1 plate2) (fun _ => w_X1_addInvoice g h0 h1 h2 v0_0 v0_2 v0_3 v0_4 v0_5 v0_6 o_invoices0 o_paid1 o_plate2) sz [.ref h0, .int p1] := by
  refine en_v (by decide) (Nat.le_of_ble_eq_true rfl) (fun p e s m args below meth c A ls C w hl => ?_)
  have C : Cx p s m args meth c RX1 m_X1_addInvoice g A := C
  have hx := C.1
  have hb : c.code = cX1_addInvoice := C.2.1
  have hl : lv_has ls 2 [(0, .ref h0), (1, .int p1)] := hl
  obtain ⟨Q, hQ⟩ : ∃ Q, Q = QV below args s g A (fun _ => w_X1_addInvoice g h0 h1 h2 v0_0 v0_2 v0_3 v0_4 v0_5 v0_6 o_invoices0 o_paid1 o_plate2) 0 0 := ⟨_, rfl⟩
  suffices hW : W p l e (rml 0 0 0) s m args below meth c s.heap [] 0 0 Q (F0 m 0 ls []) from (by rw [hQ] at hW; exact hW)
  unfold f_X1_addInvoice at hf
  have b39 : ∀ (invoices0 : Int32) (paid1 plate2 : Nat → Int32) (H : Heap) (locs : List Loc) (ls : Array Slot), f_X1_addInvoice_b39 F invoices0 paid1 plate2 = some (o_invoices0, o_paid1, o_plate2) → Wd g A (w_X1_addInvoice g h0 h1 h2 v0_0 v0_2 v0_3 v0_4 v0_5 v0_6 invoices0 paid1 plate2) s.heap H locs → lv_has ls 2 [] → W p l e (rml 0 0 0) s m args below meth c H locs 0 0 Q (F0 m 39 ls []) := by
    intro invoices0 paid1 plate2 H locs ls hf w hl
    unfold f_X1_addInvoice_b39 at hf
    obtain ⟨e1, e2, e3⟩ := tp3 hf
    rw [hQ]
    exact rt_v C w rfl (fun _ => 0) (by rw [← e1, ← e2, ← e3]) dX1_addInvoice_39
  refine lv_aload_n hx hb dX1_addInvoice_0 rfl (lv_at hl 0 rfl) ?_
  refine g_X1_15 C w 0 rfl rfl dX1_addInvoice_1 ?_
  refine lv_bipush (v := 40) hx hb dX1_addInvoice_4 (by decide) ?_
  refine lv_icmp_ge (tgt := 39) hx hb dX1_addInvoice_6 (by decide) (fun c1 => ?_) (fun c1 => ?_)
  · replace hf := it_t c1 hf
    exact b39 invoices0 paid1 plate2 _ _ _ hf w (lv_sub hl [] rfl)
  · replace hf := it_f c1 hf
    refine lv_aload_n hx hb dX1_addInvoice_9 rfl (lv_at hl 0 rfl) ?_
    refine g_X1_34 C w 0 rfl rfl dX1_addInvoice_10 ?_
    refine lv_aload_n hx hb dX1_addInvoice_13 rfl (lv_at hl 0 rfl) ?_
    refine g_X1_15 C w 0 rfl rfl dX1_addInvoice_14 ?_
    refine lv_iload_n hx hb dX1_addInvoice_17 rfl (lv_at hl 1 rfl) ?_
    obtain ⟨f2, hif2, haf2, hf⟩ := wr_some hf
    refine ias C w 2 rfl hif2 haf2 (ws2 := w_X1_addInvoice g h0 h1 h2 v0_0 v0_2 v0_3 v0_4 v0_5 v0_6 invoices0 paid1 f2) rfl dX1_addInvoice_18 (fun H locs w => ?_)
    refine lv_aload_n hx hb dX1_addInvoice_19 rfl (lv_at hl 0 rfl) ?_
    refine g_X1_37 C w 0 rfl rfl dX1_addInvoice_20 ?_
    refine lv_aload_n hx hb dX1_addInvoice_23 rfl (lv_at hl 0 rfl) ?_
    refine g_X1_15 C w 0 rfl rfl dX1_addInvoice_24 ?_
    refine lv_iconst (v := 0) hx hb dX1_addInvoice_27 (by decide) ?_
    obtain ⟨f3, hif3, haf3, hf⟩ := wr_some hf
    refine ias C w 1 rfl hif3 haf3 (ws2 := w_X1_addInvoice g h0 h1 h2 v0_0 v0_2 v0_3 v0_4 v0_5 v0_6 invoices0 f3 f2) rfl dX1_addInvoice_28 (fun H locs w => ?_)
    refine lv_aload_n hx hb dX1_addInvoice_29 rfl (lv_at hl 0 rfl) ?_
    refine lv_dup hx hb dX1_addInvoice_30 rfl ?_
    refine g_X1_15 C w 0 rfl rfl dX1_addInvoice_31 ?_
    refine lv_iconst (v := 1) hx hb dX1_addInvoice_34 (by decide) ?_
    refine lv_iadd hx hb dX1_addInvoice_35 ?_
    refine p_X1_15 C w 0 rfl (Nat.le_of_ble_eq_true rfl) (ws2 := w_X1_addInvoice g h0 h1 h2 v0_0 v0_2 v0_3 v0_4 v0_5 v0_6 (invoices0 + 1) f3 f2) rfl dX1_addInvoice_36 (fun H locs w => ?_)
    exact b39 (invoices0 + 1) f3 f2 _ _ _ hf w (lv_sub hl [] rfl)

theorem dX1_addTrip_0 : decode cX1_addTrip 0 = .ok (.aload_n 0, 1) := by decide +kernel
theorem dX1_addTrip_1 : decode cX1_addTrip 1 = .ok (.getfield 9, 3) := by decide +kernel
theorem dX1_addTrip_4 : decode cX1_addTrip 4 = .ok (.bipush 80, 2) := by decide +kernel
theorem dX1_addTrip_6 : decode cX1_addTrip 6 = .ok (.if_icmp .ge 64, 3) := by decide +kernel
theorem dX1_addTrip_9 : decode cX1_addTrip 9 = .ok (.aload_n 0, 1) := by decide +kernel
theorem dX1_addTrip_10 : decode cX1_addTrip 10 = .ok (.getfield 31, 3) := by decide +kernel
theorem dX1_addTrip_13 : decode cX1_addTrip 13 = .ok (.aload_n 0, 1) := by decide +kernel
theorem dX1_addTrip_14 : decode cX1_addTrip 14 = .ok (.getfield 9, 3) := by decide +kernel
theorem dX1_addTrip_17 : decode cX1_addTrip 17 = .ok (.iload_n 1, 1) := by decide +kernel
theorem dX1_addTrip_18 : decode cX1_addTrip 18 = .ok (.iastore, 1) := by decide +kernel
theorem dX1_addTrip_19 : decode cX1_addTrip 19 = .ok (.aload_n 0, 1) := by decide +kernel
theorem dX1_addTrip_20 : decode cX1_addTrip 20 = .ok (.getfield 22, 3) := by decide +kernel
theorem dX1_addTrip_23 : decode cX1_addTrip 23 = .ok (.aload_n 0, 1) := by decide +kernel
theorem dX1_addTrip_24 : decode cX1_addTrip 24 = .ok (.getfield 9, 3) := by decide +kernel
theorem dX1_addTrip_27 : decode cX1_addTrip 27 = .ok (.iload_n 2, 1) := by decide +kernel
theorem dX1_addTrip_28 : decode cX1_addTrip 28 = .ok (.iastore, 1) := by decide +kernel
theorem dX1_addTrip_29 : decode cX1_addTrip 29 = .ok (.aload_n 0, 1) := by decide +kernel
theorem dX1_addTrip_30 : decode cX1_addTrip 30 = .ok (.getfield 18, 3) := by decide +kernel
theorem dX1_addTrip_33 : decode cX1_addTrip 33 = .ok (.aload_n 0, 1) := by decide +kernel
theorem dX1_addTrip_34 : decode cX1_addTrip 34 = .ok (.getfield 9, 3) := by decide +kernel
theorem dX1_addTrip_37 : decode cX1_addTrip 37 = .ok (.iload_n 3, 1) := by decide +kernel
theorem dX1_addTrip_38 : decode cX1_addTrip 38 = .ok (.iastore, 1) := by decide +kernel
theorem dX1_addTrip_39 : decode cX1_addTrip 39 = .ok (.aload_n 0, 1) := by decide +kernel
theorem dX1_addTrip_40 : decode cX1_addTrip 40 = .ok (.getfield 25, 3) := by decide +kernel
theorem dX1_addTrip_43 : decode cX1_addTrip 43 = .ok (.aload_n 0, 1) := by decide +kernel
theorem dX1_addTrip_44 : decode cX1_addTrip 44 = .ok (.getfield 9, 3) := by decide +kernel
theorem dX1_addTrip_47 : decode cX1_addTrip 47 = .ok (.iload 4, 2) := by decide +kernel
theorem dX1_addTrip_49 : decode cX1_addTrip 49 = .ok (.iastore, 1) := by decide +kernel
theorem dX1_addTrip_50 : decode cX1_addTrip 50 = .ok (.aload_n 0, 1) := by decide +kernel
theorem dX1_addTrip_51 : decode cX1_addTrip 51 = .ok (.getfield 28, 3) := by decide +kernel
theorem dX1_addTrip_54 : decode cX1_addTrip 54 = .ok (.aload_n 0, 1) := by decide +kernel
theorem dX1_addTrip_55 : decode cX1_addTrip 55 = .ok (.getfield 9, 3) := by decide +kernel
theorem dX1_addTrip_58 : decode cX1_addTrip 58 = .ok (.iconst 0, 1) := by decide +kernel
theorem dX1_addTrip_59 : decode cX1_addTrip 59 = .ok (.iastore, 1) := by decide +kernel
theorem dX1_addTrip_60 : decode cX1_addTrip 60 = .ok (.aload_n 0, 1) := by decide +kernel
theorem dX1_addTrip_61 : decode cX1_addTrip 61 = .ok (.dup, 1) := by decide +kernel
theorem dX1_addTrip_62 : decode cX1_addTrip 62 = .ok (.getfield 9, 3) := by decide +kernel
theorem dX1_addTrip_65 : decode cX1_addTrip 65 = .ok (.iconst 1, 1) := by decide +kernel
theorem dX1_addTrip_66 : decode cX1_addTrip 66 = .ok (.iadd, 1) := by decide +kernel
theorem dX1_addTrip_67 : decode cX1_addTrip 67 = .ok (.putfield 9, 3) := by decide +kernel
theorem dX1_addTrip_70 : decode cX1_addTrip 70 = .ok (.return_, 1) := by decide +kernel
abbrev m_X1_addTrip : MD := (yX1_addTrip, cX1_addTrip, 5, none)

abbrev w_X1_addTrip (g : GT) (h0 h1 h2 h3 h4 h5 : Nat) (v0_1 v0_7 v0_8 : Value) (trips0 : Int32) (amount1 invoice2 passages3 state4 vehicleClass5 : Nat → Int32) : va_W := [(h0, .inr (1, [.int trips0, v0_1, .ref h1, .ref h5, .ref h3, .ref h4, .ref h2, v0_7, v0_8])), (h1, aI g 80 amount1), (h2, aI g 80 invoice2), (h3, aI g 80 passages3), (h4, aI g 80 state4), (h5, aI g 80 vehicleClass5)]
def f_X1_addTrip_b70 (F : Nat) (trips0 : Int32) (amount1 invoice2 passages3 state4 vehicleClass5 : Nat → Int32) : Option (Int32 × (Nat → Int32) × (Nat → Int32) × (Nat → Int32) × (Nat → Int32) × (Nat → Int32)) :=
  some (trips0, amount1, invoice2, passages3, state4, vehicleClass5)
def f_X1_addTrip (F : Nat) (p1 p2 p3 p4 trips0 : Int32) (amount1 invoice2 passages3 state4 vehicleClass5 : Nat → Int32) : Option (Int32 × (Nat → Int32) × (Nat → Int32) × (Nat → Int32) × (Nat → Int32) × (Nat → Int32)) :=
  if 80 ≤ trips0 then
    f_X1_addTrip_b70 F trips0 amount1 invoice2 passages3 state4 vehicleClass5
  else
    wr invoice2 80 trips0 p1 fun f2 =>
    wr vehicleClass5 80 trips0 p2 fun f3 =>
    wr amount1 80 trips0 p3 fun f4 =>
    wr passages3 80 trips0 p4 fun f5 =>
    wr state4 80 trips0 0 fun f6 =>
    f_X1_addTrip_b70 F (trips0 + 1) f4 f2 f5 f6 f3
set_option maxHeartbeats 4000000 in
set_option maxRecDepth 100000 in
theorem c_X1_addTrip (l : Launch) (g : GT) (F : Nat) (h0 h1 h2 h3 h4 h5 : Nat) (v0_1 v0_7 v0_8 : Value) (p1 p2 p3 p4 trips0 : Int32) (amount1 invoice2 passages3 state4 vehicleClass5 : Nat → Int32) (o_trips0 : Int32) (o_amount1 o_invoice2 o_passages3 o_state4 o_vehicleClass5 : Nat → Int32) (sz : Nat) (hf : f_X1_addTrip F p1 p2 p3 p4 trips0 amount1 invoice2 passages3 state4 vehicleClass5 = some (o_trips0, o_amount1, o_invoice2, o_passages3, o_state4, o_vehicleClass5)) : CV l m_X1_addTrip (rml 0 0 0) g (w_X1_addTrip g h0 h1 h2 h3 h4 h5 v0_1 v0_7 v0_8 trips0 amount1 invoice2 passages3 state4 vehicleClass5) (fun _ => w_X1_addTrip g h0 h1 h2 h3 h4 h5 v0_1 v0_7 v0_8 o_trips0 o_amount1 o_invoice2 o_passages3 o_state4 o_vehicleClass5) sz [.ref h0, .int p1, .int p2, .int p3, .int p4] := by
  refine en_v (by decide) (Nat.le_of_ble_eq_true rfl) (fun p e s m args below meth c A ls C w hl => ?_)
  have C : Cx p s m args meth c RX1 m_X1_addTrip g A := C
  have hx := C.1
  have hb : c.code = cX1_addTrip := C.2.1
  have hl : lv_has ls 5 [(0, .ref h0), (1, .int p1), (2, .int p2), (3, .int p3), (4, .int p4)] := hl
  obtain ⟨Q, hQ⟩ : ∃ Q, Q = QV below args s g A (fun _ => w_X1_addTrip g h0 h1 h2 h3 h4 h5 v0_1 v0_7 v0_8 o_trips0 o_amount1 o_invoice2 o_passages3 o_state4 o_vehicleClass5) 0 0 := ⟨_, rfl⟩
  suffices hW : W p l e (rml 0 0 0) s m args below meth c s.heap [] 0 0 Q (F0 m 0 ls []) from (by rw [hQ] at hW; exact hW)
  unfold f_X1_addTrip at hf
  have b70 : ∀ (trips0 : Int32) (amount1 invoice2 passages3 state4 vehicleClass5 : Nat → Int32) (H : Heap) (locs : List Loc) (ls : Array Slot), f_X1_addTrip_b70 F trips0 amount1 invoice2 passages3 state4 vehicleClass5 = some (o_trips0, o_amount1, o_invoice2, o_passages3, o_state4, o_vehicleClass5) → Wd g A (w_X1_addTrip g h0 h1 h2 h3 h4 h5 v0_1 v0_7 v0_8 trips0 amount1 invoice2 passages3 state4 vehicleClass5) s.heap H locs → lv_has ls 5 [] → W p l e (rml 0 0 0) s m args below meth c H locs 0 0 Q (F0 m 70 ls []) := by
    intro trips0 amount1 invoice2 passages3 state4 vehicleClass5 H locs ls hf w hl
    unfold f_X1_addTrip_b70 at hf
    obtain ⟨e1, e2, e3, e4, e5, e6⟩ := tp6 hf
    rw [hQ]
    exact rt_v C w rfl (fun _ => 0) (by rw [← e1, ← e2, ← e3, ← e4, ← e5, ← e6]) dX1_addTrip_70
  refine lv_aload_n hx hb dX1_addTrip_0 rfl (lv_at hl 0 rfl) ?_
  refine g_X1_9 C w 0 rfl rfl dX1_addTrip_1 ?_
  refine lv_bipush (v := 80) hx hb dX1_addTrip_4 (by decide) ?_
  refine lv_icmp_ge (tgt := 70) hx hb dX1_addTrip_6 (by decide) (fun c1 => ?_) (fun c1 => ?_)
  · replace hf := it_t c1 hf
    exact b70 trips0 amount1 invoice2 passages3 state4 vehicleClass5 _ _ _ hf w (lv_sub hl [] rfl)
  · replace hf := it_f c1 hf
    refine lv_aload_n hx hb dX1_addTrip_9 rfl (lv_at hl 0 rfl) ?_
    refine g_X1_31 C w 0 rfl rfl dX1_addTrip_10 ?_
    refine lv_aload_n hx hb dX1_addTrip_13 rfl (lv_at hl 0 rfl) ?_
    refine g_X1_9 C w 0 rfl rfl dX1_addTrip_14 ?_
    refine lv_iload_n hx hb dX1_addTrip_17 rfl (lv_at hl 1 rfl) ?_
    obtain ⟨f2, hif2, haf2, hf⟩ := wr_some hf
    refine ias C w 2 rfl hif2 haf2 (ws2 := w_X1_addTrip g h0 h1 h2 h3 h4 h5 v0_1 v0_7 v0_8 trips0 amount1 f2 passages3 state4 vehicleClass5) rfl dX1_addTrip_18 (fun H locs w => ?_)
    refine lv_aload_n hx hb dX1_addTrip_19 rfl (lv_at hl 0 rfl) ?_
    refine g_X1_22 C w 0 rfl rfl dX1_addTrip_20 ?_
    refine lv_aload_n hx hb dX1_addTrip_23 rfl (lv_at hl 0 rfl) ?_
    refine g_X1_9 C w 0 rfl rfl dX1_addTrip_24 ?_
    refine lv_iload_n hx hb dX1_addTrip_27 rfl (lv_at hl 2 rfl) ?_
    obtain ⟨f3, hif3, haf3, hf⟩ := wr_some hf
    refine ias C w 5 rfl hif3 haf3 (ws2 := w_X1_addTrip g h0 h1 h2 h3 h4 h5 v0_1 v0_7 v0_8 trips0 amount1 f2 passages3 state4 f3) rfl dX1_addTrip_28 (fun H locs w => ?_)
    refine lv_aload_n hx hb dX1_addTrip_29 rfl (lv_at hl 0 rfl) ?_
    refine g_X1_18 C w 0 rfl rfl dX1_addTrip_30 ?_
    refine lv_aload_n hx hb dX1_addTrip_33 rfl (lv_at hl 0 rfl) ?_
    refine g_X1_9 C w 0 rfl rfl dX1_addTrip_34 ?_
    refine lv_iload_n hx hb dX1_addTrip_37 rfl (lv_at hl 3 rfl) ?_
    obtain ⟨f4, hif4, haf4, hf⟩ := wr_some hf
    refine ias C w 1 rfl hif4 haf4 (ws2 := w_X1_addTrip g h0 h1 h2 h3 h4 h5 v0_1 v0_7 v0_8 trips0 f4 f2 passages3 state4 f3) rfl dX1_addTrip_38 (fun H locs w => ?_)
    refine lv_aload_n hx hb dX1_addTrip_39 rfl (lv_at hl 0 rfl) ?_
    refine g_X1_25 C w 0 rfl rfl dX1_addTrip_40 ?_
    refine lv_aload_n hx hb dX1_addTrip_43 rfl (lv_at hl 0 rfl) ?_
    refine g_X1_9 C w 0 rfl rfl dX1_addTrip_44 ?_
    refine lv_iload hx hb dX1_addTrip_47 (lv_at hl 4 rfl) ?_
    obtain ⟨f5, hif5, haf5, hf⟩ := wr_some hf
    refine ias C w 3 rfl hif5 haf5 (ws2 := w_X1_addTrip g h0 h1 h2 h3 h4 h5 v0_1 v0_7 v0_8 trips0 f4 f2 f5 state4 f3) rfl dX1_addTrip_49 (fun H locs w => ?_)
    refine lv_aload_n hx hb dX1_addTrip_50 rfl (lv_at hl 0 rfl) ?_
    refine g_X1_28 C w 0 rfl rfl dX1_addTrip_51 ?_
    refine lv_aload_n hx hb dX1_addTrip_54 rfl (lv_at hl 0 rfl) ?_
    refine g_X1_9 C w 0 rfl rfl dX1_addTrip_55 ?_
    refine lv_iconst (v := 0) hx hb dX1_addTrip_58 (by decide) ?_
    obtain ⟨f6, hif6, haf6, hf⟩ := wr_some hf
    refine ias C w 4 rfl hif6 haf6 (ws2 := w_X1_addTrip g h0 h1 h2 h3 h4 h5 v0_1 v0_7 v0_8 trips0 f4 f2 f5 f6 f3) rfl dX1_addTrip_59 (fun H locs w => ?_)
    refine lv_aload_n hx hb dX1_addTrip_60 rfl (lv_at hl 0 rfl) ?_
    refine lv_dup hx hb dX1_addTrip_61 rfl ?_
    refine g_X1_9 C w 0 rfl rfl dX1_addTrip_62 ?_
    refine lv_iconst (v := 1) hx hb dX1_addTrip_65 (by decide) ?_
    refine lv_iadd hx hb dX1_addTrip_66 ?_
    refine p_X1_9 C w 0 rfl (Nat.le_of_ble_eq_true rfl) (ws2 := w_X1_addTrip g h0 h1 h2 h3 h4 h5 v0_1 v0_7 v0_8 (trips0 + 1) f4 f2 f5 f6 f3) rfl dX1_addTrip_67 (fun H locs w => ?_)
    exact b70 (trips0 + 1) f4 f2 f5 f6 f3 _ _ _ hf w (lv_sub hl [] rfl)

theorem dX1_totalOf_0 : decode cX1_totalOf 0 = .ok (.aload_n 2, 1) := by decide +kernel
theorem dX1_totalOf_1 : decode cX1_totalOf 1 = .ok (.aload_n 0, 1) := by decide +kernel
theorem dX1_totalOf_2 : decode cX1_totalOf 2 = .ok (.getfield 34, 3) := by decide +kernel
theorem dX1_totalOf_5 : decode cX1_totalOf 5 = .ok (.iload_n 1, 1) := by decide +kernel
theorem dX1_totalOf_6 : decode cX1_totalOf 6 = .ok (.iaload, 1) := by decide +kernel
theorem dX1_totalOf_7 : decode cX1_totalOf 7 = .ok (.invokevirtual 46, 3) := by decide +kernel
theorem dX1_totalOf_10 : decode cX1_totalOf 10 = .ok (.istore_n 3, 1) := by decide +kernel
theorem dX1_totalOf_11 : decode cX1_totalOf 11 = .ok (.iconst 0, 1) := by decide +kernel
theorem dX1_totalOf_12 : decode cX1_totalOf 12 = .ok (.istore 4, 2) := by decide +kernel
theorem dX1_totalOf_14 : decode cX1_totalOf 14 = .ok (.iload 4, 2) := by decide +kernel
theorem dX1_totalOf_16 : decode cX1_totalOf 16 = .ok (.aload_n 0, 1) := by decide +kernel
theorem dX1_totalOf_17 : decode cX1_totalOf 17 = .ok (.getfield 9, 3) := by decide +kernel
theorem dX1_totalOf_20 : decode cX1_totalOf 20 = .ok (.if_icmp .ge 41, 3) := by decide +kernel
theorem dX1_totalOf_23 : decode cX1_totalOf 23 = .ok (.aload_n 0, 1) := by decide +kernel
theorem dX1_totalOf_24 : decode cX1_totalOf 24 = .ok (.getfield 31, 3) := by decide +kernel
theorem dX1_totalOf_27 : decode cX1_totalOf 27 = .ok (.iload 4, 2) := by decide +kernel
theorem dX1_totalOf_29 : decode cX1_totalOf 29 = .ok (.iaload, 1) := by decide +kernel
theorem dX1_totalOf_30 : decode cX1_totalOf 30 = .ok (.iload_n 1, 1) := by decide +kernel
theorem dX1_totalOf_31 : decode cX1_totalOf 31 = .ok (.if_icmp .ne 24, 3) := by decide +kernel
theorem dX1_totalOf_34 : decode cX1_totalOf 34 = .ok (.aload_n 0, 1) := by decide +kernel
theorem dX1_totalOf_35 : decode cX1_totalOf 35 = .ok (.getfield 28, 3) := by decide +kernel
theorem dX1_totalOf_38 : decode cX1_totalOf 38 = .ok (.iload 4, 2) := by decide +kernel
theorem dX1_totalOf_40 : decode cX1_totalOf 40 = .ok (.iaload, 1) := by decide +kernel
theorem dX1_totalOf_41 : decode cX1_totalOf 41 = .ok (.iconst 2, 1) := by decide +kernel
theorem dX1_totalOf_42 : decode cX1_totalOf 42 = .ok (.if_icmp .eq 13, 3) := by decide +kernel
theorem dX1_totalOf_45 : decode cX1_totalOf 45 = .ok (.iload_n 3, 1) := by decide +kernel
theorem dX1_totalOf_46 : decode cX1_totalOf 46 = .ok (.aload_n 0, 1) := by decide +kernel
theorem dX1_totalOf_47 : decode cX1_totalOf 47 = .ok (.getfield 18, 3) := by decide +kernel
theorem dX1_totalOf_50 : decode cX1_totalOf 50 = .ok (.iload 4, 2) := by decide +kernel
theorem dX1_totalOf_52 : decode cX1_totalOf 52 = .ok (.iaload, 1) := by decide +kernel
theorem dX1_totalOf_53 : decode cX1_totalOf 53 = .ok (.iadd, 1) := by decide +kernel
theorem dX1_totalOf_54 : decode cX1_totalOf 54 = .ok (.istore_n 3, 1) := by decide +kernel
theorem dX1_totalOf_55 : decode cX1_totalOf 55 = .ok (.iinc 4 1, 3) := by decide +kernel
theorem dX1_totalOf_58 : decode cX1_totalOf 58 = .ok (.goto (-44), 3) := by decide +kernel
theorem dX1_totalOf_61 : decode cX1_totalOf 61 = .ok (.iload_n 3, 1) := by decide +kernel
theorem dX1_totalOf_62 : decode cX1_totalOf 62 = .ok (.ireturn, 1) := by decide +kernel
abbrev m_X1_totalOf : MD := (yX1_totalOf, cX1_totalOf, 5, (some .int))
theorem q_472 : Cond.code yX4_feeFor cX4_feeFor 2 (some .int) ∈ TS := ts_t 472 (by decide +kernel) (by decide +kernel)
theorem q_471 : Cond.instanceMethod yX4_feeFor ∈ TS := ts_t 471 (by decide +kernel) (by decide +kernel)
theorem qs_14 : Cond.selects yX4_feeFor.cls yX4_feeFor yX4_feeFor ∈ TS := ts_s 14 (by decide +kernel) (by decide +kernel)
theorem k_X1_46 : LkN RX1 46 m_X4_feeFor 1 := ⟨⟨"FreeFlowToll", nw_t 469 (by decide +kernel) rfl⟩, q_471, qs_14, ⟨q_2, q_472, by decide, by decide, by decide +kernel⟩⟩
abbrev w_X1_totalOf (g : GT) (h0 h1 h2 h3 h4 h5 h6 : Nat) (v0_1 v0_3 v0_4 v0_8 v5_0 v5_1 v5_2 v5_4 v5_5 v5_7 v5_8 v5_9 v5_10 v5_12 : Value) (trips0 : Int32) (amount1 invoice2 plate3 state4 : Nat → Int32) (tags5 fee5 : Int32) (tagPlate6 : Nat → Int32) : va_W := [(h0, .inr (1, [.int trips0, v0_1, .ref h1, v0_3, v0_4, .ref h4, .ref h2, .ref h3, v0_8])), (h1, aI g 80 amount1), (h2, aI g 80 invoice2), (h3, aI g 40 plate3), (h4, aI g 80 state4), (h5, .inr (4, [v5_0, v5_1, v5_2, .int tags5, v5_4, v5_5, .int fee5, v5_7, v5_8, v5_9, v5_10, .ref h6, v5_12])), (h6, aI g 12 tagPlate6)]
def f_X1_totalOf_b55 (F : Nat) (k14 : (Int32 × Int32 × Int32) → Option (Int32)) (trips0 : Int32) (amount1 invoice2 plate3 state4 : Nat → Int32) (tags5 fee5 : Int32) (tagPlate6 : Nat → Int32) (x1 x3 x4 : Int32) : Option (Int32) :=
  k14 (x1, x3, x4 + 1)
def f_X1_totalOf_h14 (F : Nat) (trips0 : Int32) (amount1 invoice2 plate3 state4 : Nat → Int32) (tags5 fee5 : Int32) (tagPlate6 : Nat → Int32) (k14 : (Int32 × Int32 × Int32) → Option (Int32)) (x1 x3 x4 : Int32) : Option (Int32) :=
  if trips0 ≤ x4 then
    some x3
  else
    rd invoice2 80 x4 fun a2 =>
    if a2 = x1 then
      rd state4 80 x4 fun a4 =>
      if a4 = 2 then
        f_X1_totalOf_b55 F k14 trips0 amount1 invoice2 plate3 state4 tags5 fee5 tagPlate6 x1 x3 x4
      else
        rd amount1 80 x4 fun a6 =>
        f_X1_totalOf_b55 F k14 trips0 amount1 invoice2 plate3 state4 tags5 fee5 tagPlate6 x1 (x3 + a6) x4
    else
      f_X1_totalOf_b55 F k14 trips0 amount1 invoice2 plate3 state4 tags5 fee5 tagPlate6 x1 x3 x4
def f_X1_totalOf_L14 (F : Nat) (trips0 : Int32) (amount1 invoice2 plate3 state4 : Nat → Int32) (tags5 fee5 : Int32) (tagPlate6 : Nat → Int32) (z : Int32 × Int32 × Int32) : Option (Int32) := lp (fun k z => f_X1_totalOf_h14 F trips0 amount1 invoice2 plate3 state4 tags5 fee5 tagPlate6 k z.1 z.2.1 z.2.2) F z
def f_X1_totalOf (F : Nat) (p1 trips0 : Int32) (amount1 invoice2 plate3 state4 : Nat → Int32) (tags5 fee5 : Int32) (tagPlate6 : Nat → Int32) : Option (Int32) :=
  rd plate3 40 p1 fun a7 =>
  bd1 (f_X4_feeFor F a7 tags5 fee5 tagPlate6) fun r8 =>
  f_X1_totalOf_L14 F trips0 amount1 invoice2 plate3 state4 tags5 fee5 tagPlate6 (p1, r8, 0)
set_option maxHeartbeats 4000000 in
set_option maxRecDepth 100000 in
theorem c_X1_totalOf (l : Launch) (g : GT) (F : Nat) (h0 h1 h2 h3 h4 h5 h6 : Nat) (v0_1 v0_3 v0_4 v0_8 v5_0 v5_1 v5_2 v5_4 v5_5 v5_7 v5_8 v5_9 v5_10 v5_12 : Value) (p1 trips0 : Int32) (amount1 invoice2 plate3 state4 : Nat → Int32) (tags5 fee5 : Int32) (tagPlate6 : Nat → Int32) (r : Int32) (sz : Nat) (hf : f_X1_totalOf F p1 trips0 amount1 invoice2 plate3 state4 tags5 fee5 tagPlate6 = some r) : CI l m_X1_totalOf (rml 2 0 0) g (w_X1_totalOf g h0 h1 h2 h3 h4 h5 h6 v0_1 v0_3 v0_4 v0_8 v5_0 v5_1 v5_2 v5_4 v5_5 v5_7 v5_8 v5_9 v5_10 v5_12 trips0 amount1 invoice2 plate3 state4 tags5 fee5 tagPlate6) (fun _ => w_X1_totalOf g h0 h1 h2 h3 h4 h5 h6 v0_1 v0_3 v0_4 v0_8 v5_0 v5_1 v5_2 v5_4 v5_5 v5_7 v5_8 v5_9 v5_10 v5_12 trips0 amount1 invoice2 plate3 state4 tags5 fee5 tagPlate6) sz [.ref h0, .int p1, .ref h5] r := by
  refine en_i (by decide) (Nat.le_of_ble_eq_true rfl) (fun p e s m args below meth c A ls C w hl => ?_)
  have C : Cx p s m args meth c RX1 m_X1_totalOf g A := C
  have hx := C.1
  have hb : c.code = cX1_totalOf := C.2.1
  have hl : lv_has ls 5 [(0, .ref h0), (1, .int p1), (2, .ref h5)] := hl
  obtain ⟨Q, hQ⟩ : ∃ Q, Q = QI below args s g A (fun _ => w_X1_totalOf g h0 h1 h2 h3 h4 h5 h6 v0_1 v0_3 v0_4 v0_8 v5_0 v5_1 v5_2 v5_4 v5_5 v5_7 v5_8 v5_9 v5_10 v5_12 trips0 amount1 invoice2 plate3 state4 tags5 fee5 tagPlate6) r 0 0 := ⟨_, rfl⟩
  suffices hW : W p l e (rml 2 0 0) s m args below meth c s.heap [] 0 0 Q (F0 m 0 ls []) from (by rw [hQ] at hW; exact hW)
  unfold f_X1_totalOf at hf
  have L14 : ∀ (z : Int32 × Int32 × Int32), f_X1_totalOf_L14 F trips0 amount1 invoice2 plate3 state4 tags5 fee5 tagPlate6 z = some r → ∀ (H : Heap) (locs : List Loc) (ls : Array Slot), Wd g A (w_X1_totalOf g h0 h1 h2 h3 h4 h5 h6 v0_1 v0_3 v0_4 v0_8 v5_0 v5_1 v5_2 v5_4 v5_5 v5_7 v5_8 v5_9 v5_10 v5_12 trips0 amount1 invoice2 plate3 state4 tags5 fee5 tagPlate6) s.heap H locs → lv_has ls 5 [(0, .ref h0), (1, .int z.1), (3, .int z.2.1), (4, .int z.2.2)] → W p l e (rml 2 0 0) s m args below meth c H locs 0 0 Q (F0 m 14 ls []) := by
    intro z hf
    refine lp_W (r := r) (fun (z : Int32 × Int32 × Int32) => ∀ (H : Heap) (locs : List Loc) (ls : Array Slot), Wd g A (w_X1_totalOf g h0 h1 h2 h3 h4 h5 h6 v0_1 v0_3 v0_4 v0_8 v5_0 v5_1 v5_2 v5_4 v5_5 v5_7 v5_8 v5_9 v5_10 v5_12 trips0 amount1 invoice2 plate3 state4 tags5 fee5 tagPlate6) s.heap H locs → lv_has ls 5 [(0, .ref h0), (1, .int z.1), (3, .int z.2.1), (4, .int z.2.2)] → W p l e (rml 2 0 0) s m args below meth c H locs 0 0 Q (F0 m 14 ls [])) (fun k14 z ih14 hf => ?_) F z hf
    obtain ⟨x1, x3, x4⟩ := z
    intro H locs ls w hl
    try dsimp only at hf w hl ⊢
    unfold f_X1_totalOf_h14 at hf
    have b55 : ∀ (x1 x3 x4 : Int32) (H : Heap) (locs : List Loc) (ls : Array Slot), f_X1_totalOf_b55 F k14 trips0 amount1 invoice2 plate3 state4 tags5 fee5 tagPlate6 x1 x3 x4 = some r → Wd g A (w_X1_totalOf g h0 h1 h2 h3 h4 h5 h6 v0_1 v0_3 v0_4 v0_8 v5_0 v5_1 v5_2 v5_4 v5_5 v5_7 v5_8 v5_9 v5_10 v5_12 trips0 amount1 invoice2 plate3 state4 tags5 fee5 tagPlate6) s.heap H locs → lv_has ls 5 [(0, .ref h0), (1, .int x1), (3, .int x3), (4, .int x4)] → W p l e (rml 2 0 0) s m args below meth c H locs 0 0 Q (F0 m 55 ls []) := by
      intro x1 x3 x4 H locs ls hf w hl
      unfold f_X1_totalOf_b55 at hf
      refine lv_iinc (v := x4 + 1) (lv' := [(4, .int (x4 + 1)), (0, .ref h0), (1, .int x1), (3, .int x3)]) hx hb dX1_totalOf_55 hl (k := 3) rfl rfl (by decide) rfl (fun ls hl => ?_)
      refine lv_goto (tgt := 14) hx hb dX1_totalOf_58 (by decide) ?_
      exact ih14 (x1, x3, x4 + 1) hf _ _ _ w (lv_sub hl [1, 2, 3, 0] rfl)
    refine lv_iload hx hb dX1_totalOf_14 (lv_at hl 3 rfl) ?_
    refine lv_aload_n hx hb dX1_totalOf_16 rfl (lv_at hl 0 rfl) ?_
    refine g_X1_9 C w 0 rfl rfl dX1_totalOf_17 ?_
    refine lv_icmp_ge (tgt := 61) hx hb dX1_totalOf_20 (by decide) (fun c1 => ?_) (fun c1 => ?_)
    · replace hf := it_t c1 hf
      refine lv_iload_n hx hb dX1_totalOf_61 rfl (lv_at hl 2 rfl) ?_
      obtain e1 := tp1 hf
      rw [hQ]
      exact rt_i C w rfl (fun _ => 0) rfl e1 dX1_totalOf_62
    · replace hf := it_f c1 hf
      refine lv_aload_n hx hb dX1_totalOf_23 rfl (lv_at hl 0 rfl) ?_
      refine g_X1_31 C w 0 rfl rfl dX1_totalOf_24 ?_
      refine lv_iload hx hb dX1_totalOf_27 (lv_at hl 3 rfl) ?_
      obtain ⟨a2, hia2, haa2, hf⟩ := rd_some hf
      refine ial C w 2 rfl hia2 haa2 dX1_totalOf_29 ?_
      refine lv_iload_n hx hb dX1_totalOf_30 rfl (lv_at hl 1 rfl) ?_
      refine lv_icmp_ne (tgt := 55) hx hb dX1_totalOf_31 (by decide) (fun c3 => ?_) (fun c3 => ?_)
      · replace hf := it_f c3 hf
        exact b55 x1 x3 x4 _ _ _ hf w (lv_sub hl [0, 1, 2, 3] rfl)
      · replace hf := it_t c3 hf
        refine lv_aload_n hx hb dX1_totalOf_34 rfl (lv_at hl 0 rfl) ?_
        refine g_X1_28 C w 0 rfl rfl dX1_totalOf_35 ?_
        refine lv_iload hx hb dX1_totalOf_38 (lv_at hl 3 rfl) ?_
        obtain ⟨a4, hia4, haa4, hf⟩ := rd_some hf
        refine ial C w 4 rfl hia4 haa4 dX1_totalOf_40 ?_
        refine lv_iconst (v := 2) hx hb dX1_totalOf_41 (by decide) ?_
        refine lv_icmp_eq (tgt := 55) hx hb dX1_totalOf_42 (by decide) (fun c5 => ?_) (fun c5 => ?_)
        · replace hf := it_t c5 hf
          exact b55 x1 x3 x4 _ _ _ hf w (lv_sub hl [0, 1, 2, 3] rfl)
        · replace hf := it_f c5 hf
          refine lv_iload_n hx hb dX1_totalOf_45 rfl (lv_at hl 2 rfl) ?_
          refine lv_aload_n hx hb dX1_totalOf_46 rfl (lv_at hl 0 rfl) ?_
          refine g_X1_18 C w 0 rfl rfl dX1_totalOf_47 ?_
          refine lv_iload hx hb dX1_totalOf_50 (lv_at hl 3 rfl) ?_
          obtain ⟨a6, hia6, haa6, hf⟩ := rd_some hf
          refine ial C w 1 rfl hia6 haa6 dX1_totalOf_52 ?_
          refine lv_iadd hx hb dX1_totalOf_53 ?_
          refine lv_istore_n (lv' := [(3, .int (x3 + a6)), (0, .ref h0), (1, .int x1), (4, .int x4)]) hx hb dX1_totalOf_54 rfl hl (by decide) rfl (fun ls hl => ?_)
          exact b55 x1 (x3 + a6) x4 _ _ _ hf w (lv_sub hl [1, 2, 0, 3] rfl)
  refine lv_aload_n hx hb dX1_totalOf_0 rfl (lv_at hl 2 rfl) ?_
  refine lv_aload_n hx hb dX1_totalOf_1 rfl (lv_at hl 0 rfl) ?_
  refine g_X1_34 C w 0 rfl rfl dX1_totalOf_2 ?_
  refine lv_iload_n hx hb dX1_totalOf_5 rfl (lv_at hl 1 rfl) ?_
  obtain ⟨a7, hia7, haa7, hf⟩ := rd_some hf
  refine ial C w 3 rfl hia7 haa7 dX1_totalOf_6 ?_
  obtain ⟨r8, hc9, hf⟩ := bd1_some hf
  refine ca_iN C w (wn := fun _ => w_X1_totalOf g h0 h1 h2 h3 h4 h5 h6 v0_1 v0_3 v0_4 v0_8 v5_0 v5_1 v5_2 v5_4 v5_5 v5_7 v5_8 v5_9 v5_10 v5_12 trips0 amount1 invoice2 plate3 state4 tags5 fee5 tagPlate6) (pm_k [false, false, false, false, false, true, true] rfl rfl (fun _ => Nat.le_of_ble_eq_true rfl) (fun _ => rfl)) (c_X4_feeFor l g F h5 h6 v5_0 v5_1 v5_2 v5_4 v5_5 v5_7 v5_8 v5_9 v5_10 v5_12 a7 tags5 fee5 tagPlate6 r8 _ hc9) k_X1_46 (rm_le (by decide) (by decide)) 5 4 rfl rfl rfl rfl hl.1 rfl (Nat.le_of_ble_eq_true rfl) dX1_totalOf_7 ⟨Nat.le_of_ble_eq_true rfl, Nat.le_of_ble_eq_true rfl⟩ (cells2 := 0) (slots2 := 0) ⟨rfl, rfl⟩ (fun _ H locs w => ?_)
  refine lv_istore_n (lv' := [(3, .int r8), (0, .ref h0), (1, .int p1), (2, .ref h5)]) hx hb dX1_totalOf_10 rfl hl (by decide) rfl (fun ls hl => ?_)
  refine lv_iconst (v := 0) hx hb dX1_totalOf_11 (by decide) ?_
  refine lv_istore (lv' := [(4, .int 0), (3, .int r8), (0, .ref h0), (1, .int p1), (2, .ref h5)]) hx hb dX1_totalOf_12 hl (by decide) rfl (fun ls hl => ?_)
  exact L14 (p1, r8, 0) hf _ _ _ w (lv_sub hl [2, 3, 1, 0] rfl)

theorem dX1_balanceOf_0 : decode cX1_balanceOf 0 = .ok (.aload_n 0, 1) := by decide +kernel
theorem dX1_balanceOf_1 : decode cX1_balanceOf 1 = .ok (.iload_n 1, 1) := by decide +kernel
theorem dX1_balanceOf_2 : decode cX1_balanceOf 2 = .ok (.aload_n 2, 1) := by decide +kernel
theorem dX1_balanceOf_3 : decode cX1_balanceOf 3 = .ok (.invokevirtual 52, 3) := by decide +kernel
theorem dX1_balanceOf_6 : decode cX1_balanceOf 6 = .ok (.aload_n 0, 1) := by decide +kernel
theorem dX1_balanceOf_7 : decode cX1_balanceOf 7 = .ok (.getfield 37, 3) := by decide +kernel
theorem dX1_balanceOf_10 : decode cX1_balanceOf 10 = .ok (.iload_n 1, 1) := by decide +kernel
theorem dX1_balanceOf_11 : decode cX1_balanceOf 11 = .ok (.iaload, 1) := by decide +kernel
theorem dX1_balanceOf_12 : decode cX1_balanceOf 12 = .ok (.isub, 1) := by decide +kernel
theorem dX1_balanceOf_13 : decode cX1_balanceOf 13 = .ok (.ireturn, 1) := by decide +kernel
abbrev m_X1_balanceOf : MD := (yX1_balanceOf, cX1_balanceOf, 3, (some .int))
theorem q_8 : Cond.initialized RX1 ∈ TS := ts_t 8 (by decide +kernel) (by decide +kernel)
theorem q_468 : Cond.code yX1_totalOf cX1_totalOf 5 (some .int) ∈ TS := ts_t 468 (by decide +kernel) (by decide +kernel)
theorem q_465 : Cond.methodLink RX1 52 yX1_totalOf ∈ TS := ts_t 465 (by decide +kernel) (by decide +kernel)
theorem q_467 : Cond.instanceMethod yX1_totalOf ∈ TS := ts_t 467 (by decide +kernel) (by decide +kernel)
theorem qs_13 : Cond.selects yX1_totalOf.cls yX1_totalOf yX1_totalOf ∈ TS := ts_s 13 (by decide +kernel) (by decide +kernel)
theorem k_X1_52 : LkV RX1 52 m_X1_totalOf 2 := ⟨q_465, q_467, qs_13, ⟨q_8, q_468, by decide, by decide, by decide +kernel⟩⟩
abbrev w_X1_balanceOf (g : GT) (h0 h1 h2 h3 h4 h5 h6 h7 : Nat) (v0_1 v0_3 v0_4 v6_0 v6_1 v6_2 v6_4 v6_5 v6_7 v6_8 v6_9 v6_10 v6_12 : Value) (trips0 : Int32) (amount1 invoice2 paid3 plate4 state5 : Nat → Int32) (tags6 fee6 : Int32) (tagPlate7 : Nat → Int32) : va_W := [(h0, .inr (1, [.int trips0, v0_1, .ref h1, v0_3, v0_4, .ref h5, .ref h2, .ref h4, .ref h3])), (h1, aI g 80 amount1), (h2, aI g 80 invoice2), (h3, aI g 40 paid3), (h4, aI g 40 plate4), (h5, aI g 80 state5), (h6, .inr (4, [v6_0, v6_1, v6_2, .int tags6, v6_4, v6_5, .int fee6, v6_7, v6_8, v6_9, v6_10, .ref h7, v6_12])), (h7, aI g 12 tagPlate7)]
def f_X1_balanceOf (F : Nat) (p1 trips0 : Int32) (amount1 invoice2 paid3 plate4 state5 : Nat → Int32) (tags6 fee6 : Int32) (tagPlate7 : Nat → Int32) : Option (Int32) :=
  bd1 (f_X1_totalOf F p1 trips0 amount1 invoice2 plate4 state5 tags6 fee6 tagPlate7) fun r1 =>
  rd paid3 40 p1 fun a3 =>
  some (r1 - a3)
set_option maxHeartbeats 4000000 in
set_option maxRecDepth 100000 in
theorem c_X1_balanceOf (l : Launch) (g : GT) (F : Nat) (h0 h1 h2 h3 h4 h5 h6 h7 : Nat) (v0_1 v0_3 v0_4 v6_0 v6_1 v6_2 v6_4 v6_5 v6_7 v6_8 v6_9 v6_10 v6_12 : Value) (p1 trips0 : Int32) (amount1 invoice2 paid3 plate4 state5 : Nat → Int32) (tags6 fee6 : Int32) (tagPlate7 : Nat → Int32) (r : Int32) (sz : Nat) (hf : f_X1_balanceOf F p1 trips0 amount1 invoice2 paid3 plate4 state5 tags6 fee6 tagPlate7 = some r) : CI l m_X1_balanceOf (rml 3 0 0) g (w_X1_balanceOf g h0 h1 h2 h3 h4 h5 h6 h7 v0_1 v0_3 v0_4 v6_0 v6_1 v6_2 v6_4 v6_5 v6_7 v6_8 v6_9 v6_10 v6_12 trips0 amount1 invoice2 paid3 plate4 state5 tags6 fee6 tagPlate7) (fun _ => w_X1_balanceOf g h0 h1 h2 h3 h4 h5 h6 h7 v0_1 v0_3 v0_4 v6_0 v6_1 v6_2 v6_4 v6_5 v6_7 v6_8 v6_9 v6_10 v6_12 trips0 amount1 invoice2 paid3 plate4 state5 tags6 fee6 tagPlate7) sz [.ref h0, .int p1, .ref h6] r := by
  refine en_i (by decide) (Nat.le_of_ble_eq_true rfl) (fun p e s m args below meth c A ls C w hl => ?_)
  have C : Cx p s m args meth c RX1 m_X1_balanceOf g A := C
  have hx := C.1
  have hb : c.code = cX1_balanceOf := C.2.1
  have hl : lv_has ls 3 [(0, .ref h0), (1, .int p1), (2, .ref h6)] := hl
  obtain ⟨Q, hQ⟩ : ∃ Q, Q = QI below args s g A (fun _ => w_X1_balanceOf g h0 h1 h2 h3 h4 h5 h6 h7 v0_1 v0_3 v0_4 v6_0 v6_1 v6_2 v6_4 v6_5 v6_7 v6_8 v6_9 v6_10 v6_12 trips0 amount1 invoice2 paid3 plate4 state5 tags6 fee6 tagPlate7) r 0 0 := ⟨_, rfl⟩
  suffices hW : W p l e (rml 3 0 0) s m args below meth c s.heap [] 0 0 Q (F0 m 0 ls []) from (by rw [hQ] at hW; exact hW)
  unfold f_X1_balanceOf at hf
  refine lv_aload_n hx hb dX1_balanceOf_0 rfl (lv_at hl 0 rfl) ?_
  refine lv_iload_n hx hb dX1_balanceOf_1 rfl (lv_at hl 1 rfl) ?_
  refine lv_aload_n hx hb dX1_balanceOf_2 rfl (lv_at hl 2 rfl) ?_
  obtain ⟨r1, hc2, hf⟩ := bd1_some hf
  refine ca_iV C w (wn := fun _ => w_X1_balanceOf g h0 h1 h2 h3 h4 h5 h6 h7 v0_1 v0_3 v0_4 v6_0 v6_1 v6_2 v6_4 v6_5 v6_7 v6_8 v6_9 v6_10 v6_12 trips0 amount1 invoice2 paid3 plate4 state5 tags6 fee6 tagPlate7) (pm_k [true, true, true, false, true, true, true, true] rfl rfl (fun _ => Nat.le_of_ble_eq_true rfl) (fun _ => rfl)) (c_X1_totalOf l g F h0 h1 h2 h4 h5 h6 h7 v0_1 v0_3 v0_4 (.ref h3) v6_0 v6_1 v6_2 v6_4 v6_5 v6_7 v6_8 v6_9 v6_10 v6_12 p1 trips0 amount1 invoice2 plate4 state5 tags6 fee6 tagPlate7 r1 _ hc2) k_X1_52 (rm_le (by decide) (by decide)) 0 1 rfl rfl rfl rfl hl.1 rfl (Nat.le_of_ble_eq_true rfl) dX1_balanceOf_3 ⟨Nat.le_of_ble_eq_true rfl, Nat.le_of_ble_eq_true rfl⟩ (cells2 := 0) (slots2 := 0) ⟨rfl, rfl⟩ (fun _ H locs w => ?_)
  refine lv_aload_n hx hb dX1_balanceOf_6 rfl (lv_at hl 0 rfl) ?_
  refine g_X1_37 C w 0 rfl rfl dX1_balanceOf_7 ?_
  refine lv_iload_n hx hb dX1_balanceOf_10 rfl (lv_at hl 1 rfl) ?_
  obtain ⟨a3, hia3, haa3, hf⟩ := rd_some hf
  refine ial C w 3 rfl hia3 haa3 dX1_balanceOf_11 ?_
  refine lv_isub hx hb dX1_balanceOf_12 ?_
  obtain e1 := tp1 hf
  rw [hQ]
  exact rt_i C w rfl (fun _ => 0) rfl e1 dX1_balanceOf_13

theorem dX1_disputedCount_0 : decode cX1_disputedCount 0 = .ok (.iconst 0, 1) := by decide +kernel
theorem dX1_disputedCount_1 : decode cX1_disputedCount 1 = .ok (.istore_n 1, 1) := by decide +kernel
theorem dX1_disputedCount_2 : decode cX1_disputedCount 2 = .ok (.iconst 0, 1) := by decide +kernel
theorem dX1_disputedCount_3 : decode cX1_disputedCount 3 = .ok (.istore_n 2, 1) := by decide +kernel
theorem dX1_disputedCount_4 : decode cX1_disputedCount 4 = .ok (.iload_n 2, 1) := by decide +kernel
theorem dX1_disputedCount_5 : decode cX1_disputedCount 5 = .ok (.aload_n 0, 1) := by decide +kernel
theorem dX1_disputedCount_6 : decode cX1_disputedCount 6 = .ok (.getfield 9, 3) := by decide +kernel
theorem dX1_disputedCount_9 : decode cX1_disputedCount 9 = .ok (.if_icmp .ge 22, 3) := by decide +kernel
theorem dX1_disputedCount_12 : decode cX1_disputedCount 12 = .ok (.aload_n 0, 1) := by decide +kernel
theorem dX1_disputedCount_13 : decode cX1_disputedCount 13 = .ok (.getfield 28, 3) := by decide +kernel
theorem dX1_disputedCount_16 : decode cX1_disputedCount 16 = .ok (.iload_n 2, 1) := by decide +kernel
theorem dX1_disputedCount_17 : decode cX1_disputedCount 17 = .ok (.iaload, 1) := by decide +kernel
theorem dX1_disputedCount_18 : decode cX1_disputedCount 18 = .ok (.iconst 1, 1) := by decide +kernel
theorem dX1_disputedCount_19 : decode cX1_disputedCount 19 = .ok (.if_icmp .ne 6, 3) := by decide +kernel
theorem dX1_disputedCount_22 : decode cX1_disputedCount 22 = .ok (.iinc 1 1, 3) := by decide +kernel
theorem dX1_disputedCount_25 : decode cX1_disputedCount 25 = .ok (.iinc 2 1, 3) := by decide +kernel
theorem dX1_disputedCount_28 : decode cX1_disputedCount 28 = .ok (.goto (-24), 3) := by decide +kernel
theorem dX1_disputedCount_31 : decode cX1_disputedCount 31 = .ok (.iload_n 1, 1) := by decide +kernel
theorem dX1_disputedCount_32 : decode cX1_disputedCount 32 = .ok (.ireturn, 1) := by decide +kernel
abbrev m_X1_disputedCount : MD := (yX1_disputedCount, cX1_disputedCount, 3, (some .int))

abbrev w_X1_disputedCount (g : GT) (h0 h1 : Nat) (v0_1 v0_2 v0_3 v0_4 v0_6 v0_7 v0_8 : Value) (trips0 : Int32) (state1 : Nat → Int32) : va_W := [(h0, .inr (1, [.int trips0, v0_1, v0_2, v0_3, v0_4, .ref h1, v0_6, v0_7, v0_8])), (h1, aI g 80 state1)]
def f_X1_disputedCount_b25 (F : Nat) (k4 : (Int32 × Int32) → Option (Int32)) (trips0 : Int32) (state1 : Nat → Int32) (x1 x2 : Int32) : Option (Int32) :=
  k4 (x1, x2 + 1)
def f_X1_disputedCount_h4 (F : Nat) (trips0 : Int32) (state1 : Nat → Int32) (k4 : (Int32 × Int32) → Option (Int32)) (x1 x2 : Int32) : Option (Int32) :=
  if trips0 ≤ x2 then
    some x1
  else
    rd state1 80 x2 fun a2 =>
    if a2 = 1 then
      f_X1_disputedCount_b25 F k4 trips0 state1 (x1 + 1) x2
    else
      f_X1_disputedCount_b25 F k4 trips0 state1 x1 x2
def f_X1_disputedCount_L4 (F : Nat) (trips0 : Int32) (state1 : Nat → Int32) (z : Int32 × Int32) : Option (Int32) := lp (fun k z => f_X1_disputedCount_h4 F trips0 state1 k z.1 z.2) F z
def f_X1_disputedCount (F : Nat) (trips0 : Int32) (state1 : Nat → Int32) : Option (Int32) :=
  f_X1_disputedCount_L4 F trips0 state1 (0, 0)
set_option maxHeartbeats 4000000 in
set_option maxRecDepth 100000 in
theorem c_X1_disputedCount (l : Launch) (g : GT) (F : Nat) (h0 h1 : Nat) (v0_1 v0_2 v0_3 v0_4 v0_6 v0_7 v0_8 : Value) (trips0 : Int32) (state1 : Nat → Int32) (r : Int32) (sz : Nat) (hf : f_X1_disputedCount F trips0 state1 = some r) : CI l m_X1_disputedCount (rml 0 0 0) g (w_X1_disputedCount g h0 h1 v0_1 v0_2 v0_3 v0_4 v0_6 v0_7 v0_8 trips0 state1) (fun _ => w_X1_disputedCount g h0 h1 v0_1 v0_2 v0_3 v0_4 v0_6 v0_7 v0_8 trips0 state1) sz [.ref h0] r := by
  refine en_i (by decide) (Nat.le_of_ble_eq_true rfl) (fun p e s m args below meth c A ls C w hl => ?_)
  have C : Cx p s m args meth c RX1 m_X1_disputedCount g A := C
  have hx := C.1
  have hb : c.code = cX1_disputedCount := C.2.1
  have hl : lv_has ls 3 [(0, .ref h0)] := hl
  obtain ⟨Q, hQ⟩ : ∃ Q, Q = QI below args s g A (fun _ => w_X1_disputedCount g h0 h1 v0_1 v0_2 v0_3 v0_4 v0_6 v0_7 v0_8 trips0 state1) r 0 0 := ⟨_, rfl⟩
  suffices hW : W p l e (rml 0 0 0) s m args below meth c s.heap [] 0 0 Q (F0 m 0 ls []) from (by rw [hQ] at hW; exact hW)
  unfold f_X1_disputedCount at hf
  have L4 : ∀ (z : Int32 × Int32), f_X1_disputedCount_L4 F trips0 state1 z = some r → ∀ (H : Heap) (locs : List Loc) (ls : Array Slot), Wd g A (w_X1_disputedCount g h0 h1 v0_1 v0_2 v0_3 v0_4 v0_6 v0_7 v0_8 trips0 state1) s.heap H locs → lv_has ls 3 [(0, .ref h0), (1, .int z.1), (2, .int z.2)] → W p l e (rml 0 0 0) s m args below meth c H locs 0 0 Q (F0 m 4 ls []) := by
    intro z hf
    refine lp_W (r := r) (fun (z : Int32 × Int32) => ∀ (H : Heap) (locs : List Loc) (ls : Array Slot), Wd g A (w_X1_disputedCount g h0 h1 v0_1 v0_2 v0_3 v0_4 v0_6 v0_7 v0_8 trips0 state1) s.heap H locs → lv_has ls 3 [(0, .ref h0), (1, .int z.1), (2, .int z.2)] → W p l e (rml 0 0 0) s m args below meth c H locs 0 0 Q (F0 m 4 ls [])) (fun k4 z ih4 hf => ?_) F z hf
    obtain ⟨x1, x2⟩ := z
    intro H locs ls w hl
    try dsimp only at hf w hl ⊢
    unfold f_X1_disputedCount_h4 at hf
    have b25 : ∀ (x1 x2 : Int32) (H : Heap) (locs : List Loc) (ls : Array Slot), f_X1_disputedCount_b25 F k4 trips0 state1 x1 x2 = some r → Wd g A (w_X1_disputedCount g h0 h1 v0_1 v0_2 v0_3 v0_4 v0_6 v0_7 v0_8 trips0 state1) s.heap H locs → lv_has ls 3 [(0, .ref h0), (1, .int x1), (2, .int x2)] → W p l e (rml 0 0 0) s m args below meth c H locs 0 0 Q (F0 m 25 ls []) := by
      intro x1 x2 H locs ls hf w hl
      unfold f_X1_disputedCount_b25 at hf
      refine lv_iinc (v := x2 + 1) (lv' := [(2, .int (x2 + 1)), (0, .ref h0), (1, .int x1)]) hx hb dX1_disputedCount_25 hl (k := 2) rfl rfl (by decide) rfl (fun ls hl => ?_)
      refine lv_goto (tgt := 4) hx hb dX1_disputedCount_28 (by decide) ?_
      exact ih4 (x1, x2 + 1) hf _ _ _ w (lv_sub hl [1, 2, 0] rfl)
    refine lv_iload_n hx hb dX1_disputedCount_4 rfl (lv_at hl 2 rfl) ?_
    refine lv_aload_n hx hb dX1_disputedCount_5 rfl (lv_at hl 0 rfl) ?_
    refine g_X1_9 C w 0 rfl rfl dX1_disputedCount_6 ?_
    refine lv_icmp_ge (tgt := 31) hx hb dX1_disputedCount_9 (by decide) (fun c1 => ?_) (fun c1 => ?_)
    · replace hf := it_t c1 hf
      refine lv_iload_n hx hb dX1_disputedCount_31 rfl (lv_at hl 1 rfl) ?_
      obtain e1 := tp1 hf
      rw [hQ]
      exact rt_i C w rfl (fun _ => 0) rfl e1 dX1_disputedCount_32
    · replace hf := it_f c1 hf
      refine lv_aload_n hx hb dX1_disputedCount_12 rfl (lv_at hl 0 rfl) ?_
      refine g_X1_28 C w 0 rfl rfl dX1_disputedCount_13 ?_
      refine lv_iload_n hx hb dX1_disputedCount_16 rfl (lv_at hl 2 rfl) ?_
      obtain ⟨a2, hia2, haa2, hf⟩ := rd_some hf
      refine ial C w 1 rfl hia2 haa2 dX1_disputedCount_17 ?_
      refine lv_iconst (v := 1) hx hb dX1_disputedCount_18 (by decide) ?_
      refine lv_icmp_ne (tgt := 25) hx hb dX1_disputedCount_19 (by decide) (fun c3 => ?_) (fun c3 => ?_)
      · replace hf := it_f c3 hf
        exact b25 x1 x2 _ _ _ hf w (lv_sub hl [0, 1, 2] rfl)
      · replace hf := it_t c3 hf
        refine lv_iinc (v := x1 + 1) (lv' := [(1, .int (x1 + 1)), (0, .ref h0), (2, .int x2)]) hx hb dX1_disputedCount_22 hl (k := 1) rfl rfl (by decide) rfl (fun ls hl => ?_)
        exact b25 (x1 + 1) x2 _ _ _ hf w (lv_sub hl [1, 0, 2] rfl)
  refine lv_iconst (v := 0) hx hb dX1_disputedCount_0 (by decide) ?_
  refine lv_istore_n (lv' := [(1, .int 0), (0, .ref h0)]) hx hb dX1_disputedCount_1 rfl hl (by decide) rfl (fun ls hl => ?_)
  refine lv_iconst (v := 0) hx hb dX1_disputedCount_2 (by decide) ?_
  refine lv_istore_n (lv' := [(2, .int 0), (1, .int 0), (0, .ref h0)]) hx hb dX1_disputedCount_3 rfl hl (by decide) rfl (fun ls hl => ?_)
  exact L4 (0, 0) hf _ _ _ w (lv_sub hl [2, 1, 0] rfl)
