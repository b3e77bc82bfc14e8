theorem dJ7_fill_53178_0 : decode cJ7_fill_53178 0 = .ok (.iconst 0, 1) := by decide +kernel
theorem dJ7_fill_53178_1 : decode cJ7_fill_53178 1 = .ok (.istore_n 2, 1) := by decide +kernel
theorem dJ7_fill_53178_2 : decode cJ7_fill_53178 2 = .ok (.aload_n 0, 1) := by decide +kernel
theorem dJ7_fill_53178_3 : decode cJ7_fill_53178 3 = .ok (.arraylength, 1) := by decide +kernel
theorem dJ7_fill_53178_4 : decode cJ7_fill_53178 4 = .ok (.istore_n 3, 1) := by decide +kernel
theorem dJ7_fill_53178_5 : decode cJ7_fill_53178 5 = .ok (.iload_n 2, 1) := by decide +kernel
theorem dJ7_fill_53178_6 : decode cJ7_fill_53178 6 = .ok (.iload_n 3, 1) := by decide +kernel
theorem dJ7_fill_53178_7 : decode cJ7_fill_53178 7 = .ok (.if_icmp .ge 13, 3) := by decide +kernel
theorem dJ7_fill_53178_10 : decode cJ7_fill_53178 10 = .ok (.aload_n 0, 1) := by decide +kernel
theorem dJ7_fill_53178_11 : decode cJ7_fill_53178 11 = .ok (.iload_n 2, 1) := by decide +kernel
theorem dJ7_fill_53178_12 : decode cJ7_fill_53178 12 = .ok (.iload_n 1, 1) := by decide +kernel
theorem dJ7_fill_53178_13 : decode cJ7_fill_53178 13 = .ok (.iastore, 1) := by decide +kernel
theorem dJ7_fill_53178_14 : decode cJ7_fill_53178 14 = .ok (.iinc 2 1, 3) := by decide +kernel
theorem dJ7_fill_53178_17 : decode cJ7_fill_53178 17 = .ok (.goto (-12), 3) := by decide +kernel
theorem dJ7_fill_53178_20 : decode cJ7_fill_53178 20 = .ok (.return_, 1) := by decide +kernel
abbrev m_J7_fill_53178 : MD := (yJ7_fill_53178, cJ7_fill_53178, 4, none)

abbrev w_J7_fill_53178 (g : GT) (h0 : Nat) (n0 : Nat) (arr0 : Nat → Int32) : va_W := [(h0, aI g n0 arr0)]
def f_J7_fill_53178_h5 (F n0 : Nat) (k5 : (Int32 × Int32 × Int32 × (Nat → Int32)) → Option ((Nat → Int32))) (x1 x2 x3 : Int32) (arr0 : Nat → Int32) : Option ((Nat → Int32)) :=
  if x3 ≤ x2 then
    some arr0
  else
    wr arr0 n0 x2 x1 fun f2 =>
    k5 (x1, x2 + 1, x3, f2)
def f_J7_fill_53178_L5 (F n0 : Nat) (z : Int32 × Int32 × Int32 × (Nat → Int32)) : Option ((Nat → Int32)) := lp (fun k z => f_J7_fill_53178_h5 F n0 k z.1 z.2.1 z.2.2.1 z.2.2.2) F z
def f_J7_fill_53178 (F n0 : Nat) (p1 : Int32) (arr0 : Nat → Int32) : Option ((Nat → Int32)) :=
  f_J7_fill_53178_L5 F n0 (p1, 0, nI n0, arr0)
set_option maxHeartbeats 4000000 in
set_option maxRecDepth 100000 in
theorem c_J7_fill_53178 (l : Launch) (g : GT) (F : Nat) (h0 : Nat) (n0 : Nat) (p1 : Int32) (arr0 : Nat → Int32) (o_arr0 : Nat → Int32) (sz : Nat) (hf : f_J7_fill_53178 F n0 p1 arr0 = some o_arr0) : CV l m_J7_fill_53178 (rml 0 0 0) g (w_J7_fill_53178 g h0 n0 arr0) (fun _ => w_J7_fill_53178 g h0 n0 o_arr0) sz [.ref h0, .int p1] := by
  refine en_v (by decide) (Nat.le_of_ble_eq_true rfl) (fun p e s m args below meth c A ls C w hl => ?_)
  have C : Cx p s m args meth c RJ7 m_J7_fill_53178 g A := C
  have hx := C.1
  have hb : c.code = cJ7_fill_53178 := C.2.1
  have hl : lv_has ls 4 [(0, .ref h0), (1, .int p1)] := hl
  obtain ⟨Q, hQ⟩ : ∃ Q, Q = QV below args s g A (fun _ => w_J7_fill_53178 g h0 n0 o_arr0) 0 0 := ⟨_, rfl⟩
  suffices hW : W p l e (rml 0 0 0) s m args below meth c s.heap [] 0 0 Q (F0 m 0 ls []) from (by rw [hQ] at hW; exact hW)
  unfold f_J7_fill_53178 at hf
  have L5 : ∀ (z : Int32 × Int32 × Int32 × (Nat → Int32)), f_J7_fill_53178_L5 F n0 z = some o_arr0 → ∀ (H : Heap) (locs : List Loc) (ls : Array Slot), Wd g A (w_J7_fill_53178 g h0 n0 z.2.2.2) s.heap H locs → lv_has ls 4 [(0, .ref h0), (1, .int z.1), (2, .int z.2.1), (3, .int z.2.2.1)] → W p l e (rml 0 0 0) s m args below meth c H locs 0 0 Q (F0 m 5 ls []) := by
    intro z hf
    refine lp_W (r := o_arr0) (fun (z : Int32 × Int32 × Int32 × (Nat → Int32)) => ∀ (H : Heap) (locs : List Loc) (ls : Array Slot), Wd g A (w_J7_fill_53178 g h0 n0 z.2.2.2) s.heap H locs → lv_has ls 4 [(0, .ref h0), (1, .int z.1), (2, .int z.2.1), (3, .int z.2.2.1)] → W p l e (rml 0 0 0) s m args below meth c H locs 0 0 Q (F0 m 5 ls [])) (fun k5 z ih5 hf => ?_) F z hf
    obtain ⟨x1, x2, x3, arr0⟩ := z
    intro H locs ls w hl
    try dsimp only at hf w hl ⊢
    unfold f_J7_fill_53178_h5 at hf
    refine lv_iload_n hx hb dJ7_fill_53178_5 rfl (lv_at hl 2 rfl) ?_
    refine lv_iload_n hx hb dJ7_fill_53178_6 rfl (lv_at hl 3 rfl) ?_
    refine lv_icmp_ge (tgt := 20) hx hb dJ7_fill_53178_7 (by decide) (fun c1 => ?_) (fun c1 => ?_)
    · replace hf := it_t c1 hf
      obtain e1 := tp1 hf
      rw [hQ]
      exact rt_v C w rfl (fun _ => 0) (by rw [← e1]) dJ7_fill_53178_20
    · replace hf := it_f c1 hf
      refine lv_aload_n hx hb dJ7_fill_53178_10 rfl (lv_at hl 0 rfl) ?_
      refine lv_iload_n hx hb dJ7_fill_53178_11 rfl (lv_at hl 2 rfl) ?_
      refine lv_iload_n hx hb dJ7_fill_53178_12 rfl (lv_at hl 1 rfl) ?_
      obtain ⟨f2, hif2, haf2, hf⟩ := wr_some hf
      refine ias C w 0 rfl hif2 haf2 (ws2 := w_J7_fill_53178 g h0 n0 f2) rfl dJ7_fill_53178_13 (fun H locs w => ?_)
      refine lv_iinc (v := x2 + 1) (lv' := [(2, .int (x2 + 1)), (0, .ref h0), (1, .int x1), (3, .int x3)]) hx hb dJ7_fill_53178_14 hl (k := 2) rfl rfl (by decide) rfl (fun ls hl => ?_)
      refine lv_goto (tgt := 5) hx hb dJ7_fill_53178_17 (by decide) ?_
      exact ih5 (x1, x2 + 1, x3, f2) hf _ _ _ w (lv_sub hl [1, 2, 0, 3] rfl)
  refine lv_iconst (v := 0) hx hb dJ7_fill_53178_0 (by decide) ?_
  refine lv_istore_n (lv' := [(2, .int 0), (0, .ref h0), (1, .int p1)]) hx hb dJ7_fill_53178_1 rfl hl (by decide) rfl (fun ls hl => ?_)
  refine lv_aload_n hx hb dJ7_fill_53178_2 rfl (lv_at hl 1 rfl) ?_
  refine ilen C w 0 rfl (v := nI n0) rfl dJ7_fill_53178_3 ?_
  refine lv_istore_n (lv' := [(3, .int (nI n0)), (2, .int 0), (0, .ref h0), (1, .int p1)]) hx hb dJ7_fill_53178_4 rfl hl (by decide) rfl (fun ls hl => ?_)
  exact L5 (p1, 0, nI n0, arr0) hf _ _ _ w (lv_sub hl [2, 3, 1, 0] rfl)

theorem dX4_reset_0 : decode cX4_reset 0 = .ok (.aload_n 0, 1) := by decide +kernel
theorem dX4_reset_1 : decode cX4_reset 1 = .ok (.iconst 0, 1) := by decide +kernel
theorem dX4_reset_2 : decode cX4_reset 2 = .ok (.putfield 9, 3) := by decide +kernel
theorem dX4_reset_5 : decode cX4_reset 5 = .ok (.aload_n 0, 1) := by decide +kernel
theorem dX4_reset_6 : decode cX4_reset 6 = .ok (.iconst 0, 1) := by decide +kernel
theorem dX4_reset_7 : decode cX4_reset 7 = .ok (.putfield 15, 3) := by decide +kernel
theorem dX4_reset_10 : decode cX4_reset 10 = .ok (.aload_n 0, 1) := by decide +kernel
theorem dX4_reset_11 : decode cX4_reset 11 = .ok (.iconst 0, 1) := by decide +kernel
theorem dX4_reset_12 : decode cX4_reset 12 = .ok (.putfield 18, 3) := by decide +kernel
theorem dX4_reset_15 : decode cX4_reset 15 = .ok (.aload_n 0, 1) := by decide +kernel
theorem dX4_reset_16 : decode cX4_reset 16 = .ok (.iconst 0, 1) := by decide +kernel
theorem dX4_reset_17 : decode cX4_reset 17 = .ok (.putfield 21, 3) := by decide +kernel
theorem dX4_reset_20 : decode cX4_reset 20 = .ok (.aload_n 0, 1) := by decide +kernel
theorem dX4_reset_21 : decode cX4_reset 21 = .ok (.iconst 1, 1) := by decide +kernel
theorem dX4_reset_22 : decode cX4_reset 22 = .ok (.putfield 24, 3) := by decide +kernel
theorem dX4_reset_25 : decode cX4_reset 25 = .ok (.aload_n 0, 1) := by decide +kernel
theorem dX4_reset_26 : decode cX4_reset 26 = .ok (.bipush 60, 2) := by decide +kernel
theorem dX4_reset_28 : decode cX4_reset 28 = .ok (.putfield 27, 3) := by decide +kernel
theorem dX4_reset_31 : decode cX4_reset 31 = .ok (.aload_n 0, 1) := by decide +kernel
theorem dX4_reset_32 : decode cX4_reset 32 = .ok (.iconst 0, 1) := by decide +kernel
theorem dX4_reset_33 : decode cX4_reset 33 = .ok (.putfield 30, 3) := by decide +kernel
theorem dX4_reset_36 : decode cX4_reset 36 = .ok (.aload_n 0, 1) := by decide +kernel
theorem dX4_reset_37 : decode cX4_reset 37 = .ok (.getfield 33, 3) := by decide +kernel
theorem dX4_reset_40 : decode cX4_reset 40 = .ok (.iconst 0, 1) := by decide +kernel
theorem dX4_reset_41 : decode cX4_reset 41 = .ok (.invokestatic 52, 3) := by decide +kernel
theorem dX4_reset_44 : decode cX4_reset 44 = .ok (.aload_n 0, 1) := by decide +kernel
theorem dX4_reset_45 : decode cX4_reset 45 = .ok (.getfield 37, 3) := by decide +kernel
theorem dX4_reset_48 : decode cX4_reset 48 = .ok (.iconst 0, 1) := by decide +kernel
theorem dX4_reset_49 : decode cX4_reset 49 = .ok (.invokestatic 52, 3) := by decide +kernel
theorem dX4_reset_52 : decode cX4_reset 52 = .ok (.return_, 1) := by decide +kernel
abbrev m_X4_reset : MD := (yX4_reset, cX4_reset, 1, none)
theorem inX4s : ∀ w ∈ u_ws RX4 TX4 13, w ∈ TS := by
  show ∀ w ∈ [u_lay RX4 TX4 0, u_lay RX4 TX4 1, u_lay RX4 TX4 2, u_lay RX4 TX4 3, u_lay RX4 TX4 4, u_lay RX4 TX4 5, u_lay RX4 TX4 6, u_lay RX4 TX4 7, u_lay RX4 TX4 8, u_lay RX4 TX4 9, u_lay RX4 TX4 10, u_lay RX4 TX4 11, u_lay RX4 TX4 12], w ∈ TS
  exact List.forall_mem_cons.mpr ⟨ts_t 65 (by decide +kernel) (by decide +kernel), List.forall_mem_cons.mpr ⟨ts_t 67 (by decide +kernel) (by decide +kernel), List.forall_mem_cons.mpr ⟨ts_t 69 (by decide +kernel) (by decide +kernel), List.forall_mem_cons.mpr ⟨ts_t 71 (by decide +kernel) (by decide +kernel), List.forall_mem_cons.mpr ⟨ts_t 73 (by decide +kernel) (by decide +kernel), List.forall_mem_cons.mpr ⟨ts_t 75 (by decide +kernel) (by decide +kernel), List.forall_mem_cons.mpr ⟨ts_t 77 (by decide +kernel) (by decide +kernel), List.forall_mem_cons.mpr ⟨ts_t 79 (by decide +kernel) (by decide +kernel), List.forall_mem_cons.mpr ⟨ts_t 81 (by decide +kernel) (by decide +kernel), List.forall_mem_cons.mpr ⟨ts_t 83 (by decide +kernel) (by decide +kernel), List.forall_mem_cons.mpr ⟨ts_t 85 (by decide +kernel) (by decide +kernel), List.forall_mem_cons.mpr ⟨ts_t 87 (by decide +kernel) (by decide +kernel), List.forall_mem_cons.mpr ⟨ts_t 89 (by decide +kernel) (by decide +kernel), fun _ h => absurd h List.not_mem_nil⟩⟩⟩⟩⟩⟩⟩⟩⟩⟩⟩⟩⟩
theorem g_X4_33 {p : Program} {l : Launch} {e : Env} {R : Room} {s : State} {m : MethodId} {args : Array Value} {below : List Frame} {meth : Method} {c : Code} {H : Heap} {locs : List Loc} {cells slots : Nat} {Q : State → Prop} {d : MD} {g : GT} {A : Nat → Prop} {ws : va_W} {pc : Nat} {ls : Array Slot} {rest : List Value} (C : Cx p s m args meth c RX4 d g A) (w : Wd g A ws s.heap H locs) (q0 : Nat) {a : Nat} {fs : List Value} {v : Value} (he : ws[q0]? = some (a, .inr (4, fs))) (hv : fs[7]? = some v) (hd : decode d.2.1 pc = .ok (.getfield 33, 3)) (kk : W p l e R s m args below meth c H locs cells slots Q (F0 m (pc + 3) ls (v :: rest))) : W p l e R s m args below meth c H locs cells slots Q (F0 m pc ls (.ref a :: rest)) := fg C w inX4s (ref := RX4) rfl 7 (by decide) (ts_t (w := Cond.fieldLink RX4 33 RX4 (TX4 7).2.1 (TX4 7).2.2.1) 59 (by decide +kernel) (by decide +kernel)) rfl q0 he hv hd kk
theorem g_X4_37 {p : Program} {l : Launch} {e : Env} {R : Room} {s : State} {m : MethodId} {args : Array Value} {below : List Frame} {meth : Method} {c : Code} {H : Heap} {locs : List Loc} {cells slots : Nat} {Q : State → Prop} {d : MD} {g : GT} {A : Nat → Prop} {ws : va_W} {pc : Nat} {ls : Array Slot} {rest : List Value} (C : Cx p s m args meth c RX4 d g A) (w : Wd g A ws s.heap H locs) (q0 : Nat) {a : Nat} {fs : List Value} {v : Value} (he : ws[q0]? = some (a, .inr (4, fs))) (hv : fs[8]? = some v) (hd : decode d.2.1 pc = .ok (.getfield 37, 3)) (kk : W p l e R s m args below meth c H locs cells slots Q (F0 m (pc + 3) ls (v :: rest))) : W p l e R s m args below meth c H locs cells slots Q (F0 m pc ls (.ref a :: rest)) := fg C w inX4s (ref := RX4) rfl 8 (by decide) (ts_t (w := Cond.fieldLink RX4 37 RX4 (TX4 8).2.1 (TX4 8).2.2.1) 60 (by decide +kernel) (by decide +kernel)) rfl q0 he hv hd kk
theorem p_X4_9 {p : Program} {l : Launch} {e : Env} {R : Room} {s : State} {m : MethodId} {args : Array Value} {below : List Frame} {meth : Method} {c : Code} {H : Heap} {locs : List Loc} {cells slots : Nat} {Q : State → Prop} {d : MD} {g : GT} {A : Nat → Prop} {ws : va_W} {pc : Nat} {ls : Array Slot} {rest : List Value} (C : Cx p s m args meth c RX4 d g A) (w : Wd g A ws s.heap H locs) (q0 : Nat) {a : Nat} {fs : List Value} {x : Int32} (he : ws[q0]? = some (a, .inr (4, fs))) (hlt : 0 < fs.length) {ws2 : va_W} (h2 : ws.set q0 (a, .inr (4, fs.set 0 (.int x))) = ws2) (hd : decode d.2.1 pc = .ok (.putfield 9, 3)) (kk : ∀ (H1 : Heap) (locs1 : List Loc), Wd g A ws2 s.heap H1 locs1 → W p l e R s m args below meth c H1 locs1 cells slots Q (F0 m (pc + 3) ls rest)) : W p l e R s m args below meth c H locs cells slots Q (F0 m pc ls (.int x :: .ref a :: rest)) := fp C w inX4s tyX4_ok nmX4 (ref := RX4) rfl 0 (by decide) (ts_t (w := Cond.fieldLink RX4 9 RX4 (TX4 0).2.1 (TX4 0).2.2.1) 39 (by decide +kernel) (by decide +kernel)) rfl rfl q0 he rfl rfl hlt h2 hd kk
theorem p_X4_15 {p : Program} {l : Launch} {e : Env} {R : Room} {s : State} {m : MethodId} {args : Array Value} {below : List Frame} {meth : Method} {c : Code} {H : Heap} {locs : List Loc} {cells slots : Nat} {Q : State → Prop} {d : MD} {g : GT} {A : Nat → Prop} {ws : va_W} {pc : Nat} {ls : Array Slot} {rest : List Value} (C : Cx p s m args meth c RX4 d g A) (w : Wd g A ws s.heap H locs) (q0 : Nat) {a : Nat} {fs : List Value} {x : Int32} (he : ws[q0]? = some (a, .inr (4, fs))) (hlt : 1 < fs.length) {ws2 : va_W} (h2 : ws.set q0 (a, .inr (4, fs.set 1 (.int x))) = ws2) (hd : decode d.2.1 pc = .ok (.putfield 15, 3)) (kk : ∀ (H1 : Heap) (locs1 : List Loc), Wd g A ws2 s.heap H1 locs1 → W p l e R s m args below meth c H1 locs1 cells slots Q (F0 m (pc + 3) ls rest)) : W p l e R s m args below meth c H locs cells slots Q (F0 m pc ls (.int x :: .ref a :: rest)) := fp C w inX4s tyX4_ok nmX4 (ref := RX4) rfl 1 (by decide) (ts_t (w := Cond.fieldLink RX4 15 RX4 (TX4 1).2.1 (TX4 1).2.2.1) 43 (by decide +kernel) (by decide +kernel)) rfl rfl q0 he rfl rfl hlt h2 hd kk
theorem p_X4_18 {p : Program} {l : Launch} {e : Env} {R : Room} {s : State} {m : MethodId} {args : Array Value} {below : List Frame} {meth : Method} {c : Code} {H : Heap} {locs : List Loc} {cells slots : Nat} {Q : State → Prop} {d : MD} {g : GT} {A : Nat → Prop} {ws : va_W} {pc : Nat} {ls : Array Slot} {rest : List Value} (C : Cx p s m args meth c RX4 d g A) (w : Wd g A ws s.heap H locs) (q0 : Nat) {a : Nat} {fs : List Value} {x : Int32} (he : ws[q0]? = some (a, .inr (4, fs))) (hlt : 2 < fs.length) {ws2 : va_W} (h2 : ws.set q0 (a, .inr (4, fs.set 2 (.int x))) = ws2) (hd : decode d.2.1 pc = .ok (.putfield 18, 3)) (kk : ∀ (H1 : Heap) (locs1 : List Loc), Wd g A ws2 s.heap H1 locs1 → W p l e R s m args below meth c H1 locs1 cells slots Q (F0 m (pc + 3) ls rest)) : W p l e R s m args below meth c H locs cells slots Q (F0 m pc ls (.int x :: .ref a :: rest)) := fp C w inX4s tyX4_ok nmX4 (ref := RX4) rfl 2 (by decide) (ts_t (w := Cond.fieldLink RX4 18 RX4 (TX4 2).2.1 (TX4 2).2.2.1) 46 (by decide +kernel) (by decide +kernel)) rfl rfl q0 he rfl rfl hlt h2 hd kk
theorem p_X4_21 {p : Program} {l : Launch} {e : Env} {R : Room} {s : State} {m : MethodId} {args : Array Value} {below : List Frame} {meth : Method} {c : Code} {H : Heap} {locs : List Loc} {cells slots : Nat} {Q : State → Prop} {d : MD} {g : GT} {A : Nat → Prop} {ws : va_W} {pc : Nat} {ls : Array Slot} {rest : List Value} (C : Cx p s m args meth c RX4 d g A) (w : Wd g A ws s.heap H locs) (q0 : Nat) {a : Nat} {fs : List Value} {x : Int32} (he : ws[q0]? = some (a, .inr (4, fs))) (hlt : 3 < fs.length) {ws2 : va_W} (h2 : ws.set q0 (a, .inr (4, fs.set 3 (.int x))) = ws2) (hd : decode d.2.1 pc = .ok (.putfield 21, 3)) (kk : ∀ (H1 : Heap) (locs1 : List Loc), Wd g A ws2 s.heap H1 locs1 → W p l e R s m args below meth c H1 locs1 cells slots Q (F0 m (pc + 3) ls rest)) : W p l e R s m args below meth c H locs cells slots Q (F0 m pc ls (.int x :: .ref a :: rest)) := fp C w inX4s tyX4_ok nmX4 (ref := RX4) rfl 3 (by decide) (ts_t (w := Cond.fieldLink RX4 21 RX4 (TX4 3).2.1 (TX4 3).2.2.1) 48 (by decide +kernel) (by decide +kernel)) rfl rfl q0 he rfl rfl hlt h2 hd kk
theorem p_X4_24 {p : Program} {l : Launch} {e : Env} {R : Room} {s : State} {m : MethodId} {args : Array Value} {below : List Frame} {meth : Method} {c : Code} {H : Heap} {locs : List Loc} {cells slots : Nat} {Q : State → Prop} {d : MD} {g : GT} {A : Nat → Prop} {ws : va_W} {pc : Nat} {ls : Array Slot} {rest : List Value} (C : Cx p s m args meth c RX4 d g A) (w : Wd g A ws s.heap H locs) (q0 : Nat) {a : Nat} {fs : List Value} {x : Int32} (he : ws[q0]? = some (a, .inr (4, fs))) (hlt : 4 < fs.length) {ws2 : va_W} (h2 : ws.set q0 (a, .inr (4, fs.set 4 (.int x))) = ws2) (hd : decode d.2.1 pc = .ok (.putfield 24, 3)) (kk : ∀ (H1 : Heap) (locs1 : List Loc), Wd g A ws2 s.heap H1 locs1 → W p l e R s m args below meth c H1 locs1 cells slots Q (F0 m (pc + 3) ls rest)) : W p l e R s m args below meth c H locs cells slots Q (F0 m pc ls (.int x :: .ref a :: rest)) := fp C w inX4s tyX4_ok nmX4 (ref := RX4) rfl 4 (by decide) (ts_t (w := Cond.fieldLink RX4 24 RX4 (TX4 4).2.1 (TX4 4).2.2.1) 51 (by decide +kernel) (by decide +kernel)) rfl rfl q0 he rfl rfl hlt h2 hd kk
theorem p_X4_27 {p : Program} {l : Launch} {e : Env} {R : Room} {s : State} {m : MethodId} {args : Array Value} {below : List Frame} {meth : Method} {c : Code} {H : Heap} {locs : List Loc} {cells slots : Nat} {Q : State → Prop} {d : MD} {g : GT} {A : Nat → Prop} {ws : va_W} {pc : Nat} {ls : Array Slot} {rest : List Value} (C : Cx p s m args meth c RX4 d g A) (w : Wd g A ws s.heap H locs) (q0 : Nat) {a : Nat} {fs : List Value} {x : Int32} (he : ws[q0]? = some (a, .inr (4, fs))) (hlt : 5 < fs.length) {ws2 : va_W} (h2 : ws.set q0 (a, .inr (4, fs.set 5 (.int x))) = ws2) (hd : decode d.2.1 pc = .ok (.putfield 27, 3)) (kk : ∀ (H1 : Heap) (locs1 : List Loc), Wd g A ws2 s.heap H1 locs1 → W p l e R s m args below meth c H1 locs1 cells slots Q (F0 m (pc + 3) ls rest)) : W p l e R s m args below meth c H locs cells slots Q (F0 m pc ls (.int x :: .ref a :: rest)) := fp C w inX4s tyX4_ok nmX4 (ref := RX4) rfl 5 (by decide) (ts_t (w := Cond.fieldLink RX4 27 RX4 (TX4 5).2.1 (TX4 5).2.2.1) 54 (by decide +kernel) (by decide +kernel)) rfl rfl q0 he rfl rfl hlt h2 hd kk
theorem p_X4_30 {p : Program} {l : Launch} {e : Env} {R : Room} {s : State} {m : MethodId} {args : Array Value} {below : List Frame} {meth : Method} {c : Code} {H : Heap} {locs : List Loc} {cells slots : Nat} {Q : State → Prop} {d : MD} {g : GT} {A : Nat → Prop} {ws : va_W} {pc : Nat} {ls : Array Slot} {rest : List Value} (C : Cx p s m args meth c RX4 d g A) (w : Wd g A ws s.heap H locs) (q0 : Nat) {a : Nat} {fs : List Value} {x : Int32} (he : ws[q0]? = some (a, .inr (4, fs))) (hlt : 6 < fs.length) {ws2 : va_W} (h2 : ws.set q0 (a, .inr (4, fs.set 6 (.int x))) = ws2) (hd : decode d.2.1 pc = .ok (.putfield 30, 3)) (kk : ∀ (H1 : Heap) (locs1 : List Loc), Wd g A ws2 s.heap H1 locs1 → W p l e R s m args below meth c H1 locs1 cells slots Q (F0 m (pc + 3) ls rest)) : W p l e R s m args below meth c H locs cells slots Q (F0 m pc ls (.int x :: .ref a :: rest)) := fp C w inX4s tyX4_ok nmX4 (ref := RX4) rfl 6 (by decide) (ts_t (w := Cond.fieldLink RX4 30 RX4 (TX4 6).2.1 (TX4 6).2.2.1) 57 (by decide +kernel) (by decide +kernel)) rfl rfl q0 he rfl rfl hlt h2 hd kk
theorem q_17 : Cond.initialized RJ7 ∈ TS := ts_t 17 (by decide +kernel) (by decide +kernel)
theorem q_611 : Cond.code yJ7_fill_53178 cJ7_fill_53178 4 none ∈ TS := ts_t 611 (by decide +kernel) (by decide +kernel)
theorem q_609 : Cond.methodLink RX4 52 yJ7_fill_53178 ∈ TS := ts_t 609 (by decide +kernel) (by decide +kernel)
theorem q_610 : Cond.static yJ7_fill_53178 ∈ TS := ts_t 610 (by decide +kernel) (by decide +kernel)
theorem k_X4_52 : LkS RX4 52 m_J7_fill_53178 2 := ⟨q_609, q_610, ⟨q_17, q_611, by decide, by decide, by decide +kernel⟩⟩
abbrev w_X4_reset (g : GT) (h0 h1 h2 : Nat) (v0_9 v0_10 v0_11 v0_12 : Value) (gantries0 links0 classes0 tags0 window0 confidence0 fee0 : Int32) (linkMinutes1 linkPrice2 : Nat → Int32) : va_W := [(h0, .inr (4, [.int gantries0, .int links0, .int classes0, .int tags0, .int window0, .int confidence0, .int fee0, .ref h1, .ref h2, v0_9, v0_10, v0_11, v0_12])), (h1, aI g 100 linkMinutes1), (h2, aI g 100 linkPrice2)]
def f_X4_reset (F : Nat) (gantries0 links0 classes0 tags0 window0 confidence0 fee0 : Int32) (linkMinutes1 linkPrice2 : Nat → Int32) : Option (Int32 × Int32 × Int32 × Int32 × Int32 × Int32 × Int32 × (Nat → Int32) × (Nat → Int32)) :=
  bd1 (f_J7_fill_53178 F 100 0 linkMinutes1) fun o1 =>
  bd1 (f_J7_fill_53178 F 100 0 linkPrice2) fun o3 =>
  some (0, 0, 0, 0, 1, 60, 0, o1, o3)
set_option maxHeartbeats 4000000 in
set_option maxRecDepth 100000 in
theorem c_X4_reset (l : Launch) (g : GT) (F : Nat) (h0 h1 h2 : Nat) (v0_9 v0_10 v0_11 v0_12 : Value) (gantries0 links0 classes0 tags0 window0 confidence0 fee0 : Int32) (linkMinutes1 linkPrice2 : Nat → Int32) (o_gantries0 o_links0 o_classes0 o_tags0 o_window0 o_confidence0 o_fee0 : Int32) (o_linkMinutes1 o_linkPrice2 : Nat → Int32) (sz : Nat) (hf : f_X4_reset F gantries0 links0 classes0 tags0 window0 confidence0 fee0 linkMinutes1 linkPrice2 = some (o_gantries0, o_links0, o_classes0, o_tags0, o_window0, o_confidence0, o_fee0, o_linkMinutes1, o_linkPrice2)) : CV l m_X4_reset (rml 1 0 0) g (w_X4_reset g h0 h1 h2 v0_9 v0_10 v0_11 v0_12 gantries0 links0 classes0 tags0 window0 confidence0 fee0 linkMinutes1 linkPrice2) (fun _ => w_X4_reset g h0 h1 h2 v0_9 v0_10 v0_11 v0_12 o_gantries0 o_links0 o_classes0 o_tags0 o_window0 o_confidence0 o_fee0 o_linkMinutes1 o_linkPrice2) sz [.ref h0] := by
  refine en_v (by decide) (Nat.le_of_ble_eq_true rfl) (fun p e s m args below meth c A ls C w hl => ?_)
  have C : Cx p s m args meth c RX4 m_X4_reset g A := C
  have hx := C.1
  have hb : c.code = cX4_reset := C.2.1
  have hl : lv_has ls 1 [(0, .ref h0)] := hl
  obtain ⟨Q, hQ⟩ : ∃ Q, Q = QV below args s g A (fun _ => w_X4_reset g h0 h1 h2 v0_9 v0_10 v0_11 v0_12 o_gantries0 o_links0 o_classes0 o_tags0 o_window0 o_confidence0 o_fee0 o_linkMinutes1 o_linkPrice2) 0 0 := ⟨_, rfl⟩
  suffices hW : W p l e (rml 1 0 0) s m args below meth c s.heap [] 0 0 Q (F0 m 0 ls []) from (by rw [hQ] at hW; exact hW)
  unfold f_X4_reset at hf
  refine lv_aload_n hx hb dX4_reset_0 rfl (lv_at hl 0 rfl) ?_
  refine lv_iconst (v := 0) hx hb dX4_reset_1 (by decide) ?_
  refine p_X4_9 C w 0 rfl (Nat.le_of_ble_eq_true rfl) (ws2 := w_X4_reset g h0 h1 h2 v0_9 v0_10 v0_11 v0_12 0 links0 classes0 tags0 window0 confidence0 fee0 linkMinutes1 linkPrice2) rfl dX4_reset_2 (fun H locs w => ?_)
  refine lv_aload_n hx hb dX4_reset_5 rfl (lv_at hl 0 rfl) ?_
  refine lv_iconst (v := 0) hx hb dX4_reset_6 (by decide) ?_
  refine p_X4_15 C w 0 rfl (Nat.le_of_ble_eq_true rfl) (ws2 := w_X4_reset g h0 h1 h2 v0_9 v0_10 v0_11 v0_12 0 0 classes0 tags0 window0 confidence0 fee0 linkMinutes1 linkPrice2) rfl dX4_reset_7 (fun H locs w => ?_)
  refine lv_aload_n hx hb dX4_reset_10 rfl (lv_at hl 0 rfl) ?_
  refine lv_iconst (v := 0) hx hb dX4_reset_11 (by decide) ?_
  refine p_X4_18 C w 0 rfl (Nat.le_of_ble_eq_true rfl) (ws2 := w_X4_reset g h0 h1 h2 v0_9 v0_10 v0_11 v0_12 0 0 0 tags0 window0 confidence0 fee0 linkMinutes1 linkPrice2) rfl dX4_reset_12 (fun H locs w => ?_)
  refine lv_aload_n hx hb dX4_reset_15 rfl (lv_at hl 0 rfl) ?_
  refine lv_iconst (v := 0) hx hb dX4_reset_16 (by decide) ?_
  refine p_X4_21 C w 0 rfl (Nat.le_of_ble_eq_true rfl) (ws2 := w_X4_reset g h0 h1 h2 v0_9 v0_10 v0_11 v0_12 0 0 0 0 window0 confidence0 fee0 linkMinutes1 linkPrice2) rfl dX4_reset_17 (fun H locs w => ?_)
  refine lv_aload_n hx hb dX4_reset_20 rfl (lv_at hl 0 rfl) ?_
  refine lv_iconst (v := 1) hx hb dX4_reset_21 (by decide) ?_
  refine p_X4_24 C w 0 rfl (Nat.le_of_ble_eq_true rfl) (ws2 := w_X4_reset g h0 h1 h2 v0_9 v0_10 v0_11 v0_12 0 0 0 0 1 confidence0 fee0 linkMinutes1 linkPrice2) rfl dX4_reset_22 (fun H locs w => ?_)
  refine lv_aload_n hx hb dX4_reset_25 rfl (lv_at hl 0 rfl) ?_
  refine lv_bipush (v := 60) hx hb dX4_reset_26 (by decide) ?_
  refine p_X4_27 C w 0 rfl (Nat.le_of_ble_eq_true rfl) (ws2 := w_X4_reset g h0 h1 h2 v0_9 v0_10 v0_11 v0_12 0 0 0 0 1 60 fee0 linkMinutes1 linkPrice2) rfl dX4_reset_28 (fun H locs w => ?_)
  refine lv_aload_n hx hb dX4_reset_31 rfl (lv_at hl 0 rfl) ?_
  refine lv_iconst (v := 0) hx hb dX4_reset_32 (by decide) ?_
  refine p_X4_30 C w 0 rfl (Nat.le_of_ble_eq_true rfl) (ws2 := w_X4_reset g h0 h1 h2 v0_9 v0_10 v0_11 v0_12 0 0 0 0 1 60 0 linkMinutes1 linkPrice2) rfl dX4_reset_33 (fun H locs w => ?_)
  refine lv_aload_n hx hb dX4_reset_36 rfl (lv_at hl 0 rfl) ?_
  refine g_X4_33 C w 0 rfl rfl dX4_reset_37 ?_
  refine lv_iconst (v := 0) hx hb dX4_reset_40 (by decide) ?_
  obtain ⟨o1, hc2, hf⟩ := bd1_some hf
  refine ca_vS C w (wn := fun _ => w_X4_reset g h0 h1 h2 v0_9 v0_10 v0_11 v0_12 0 0 0 0 1 60 0 o1 linkPrice2) (pm_k [false, true, false] rfl rfl (fun _ => Nat.le_of_ble_eq_true rfl) (fun _ => rfl)) (c_J7_fill_53178 l g F h1 100 0 linkMinutes1 o1 _ hc2) k_X4_52 (rm_le (by decide) (by decide)) rfl hl.1 rfl (Nat.le_of_ble_eq_true rfl) dX4_reset_41 ⟨Nat.le_of_ble_eq_true rfl, Nat.le_of_ble_eq_true rfl⟩ (cells2 := 0) (slots2 := 0) ⟨rfl, rfl⟩ (fun _ H locs w => ?_)
  refine lv_aload_n hx hb dX4_reset_44 rfl (lv_at hl 0 rfl) ?_
  refine g_X4_37 C w 0 rfl rfl dX4_reset_45 ?_
  refine lv_iconst (v := 0) hx hb dX4_reset_48 (by decide) ?_
  obtain ⟨o3, hc4, hf⟩ := bd1_some hf
  refine ca_vS C w (wn := fun _ => w_X4_reset g h0 h1 h2 v0_9 v0_10 v0_11 v0_12 0 0 0 0 1 60 0 o1 o3) (pm_k [false, false, true] rfl rfl (fun _ => Nat.le_of_ble_eq_true rfl) (fun _ => rfl)) (c_J7_fill_53178 l g F h2 100 0 linkPrice2 o3 _ hc4) k_X4_52 (rm_le (by decide) (by decide)) rfl hl.1 rfl (Nat.le_of_ble_eq_true rfl) dX4_reset_49 ⟨Nat.le_of_ble_eq_true rfl, Nat.le_of_ble_eq_true rfl⟩ (cells2 := 0) (slots2 := 0) ⟨rfl, rfl⟩ (fun _ H locs w => ?_)
  obtain ⟨e1, e2, e3, e4, e5, e6, e7, e8, e9⟩ := tp9 hf
  rw [hQ]
  exact rt_v C w rfl (fun _ => 0) (by rw [← e1, ← e2, ← e3, ← e4, ← e5, ← e6, ← e7, ← e8, ← e9]) dX4_reset_52

theorem dX4_hasGantry_0 : decode cX4_hasGantry 0 = .ok (.iload_n 1, 1) := by decide +kernel
theorem dX4_hasGantry_1 : decode cX4_hasGantry 1 = .ok (.ifCond .lt 15, 3) := by decide +kernel
theorem dX4_hasGantry_4 : decode cX4_hasGantry 4 = .ok (.iload_n 1, 1) := by decide +kernel
theorem dX4_hasGantry_5 : decode cX4_hasGantry 5 = .ok (.aload_n 0, 1) := by decide +kernel
theorem dX4_hasGantry_6 : decode cX4_hasGantry 6 = .ok (.getfield 9, 3) := by decide +kernel
theorem dX4_hasGantry_9 : decode cX4_hasGantry 9 = .ok (.if_icmp .ge 7, 3) := by decide +kernel
theorem dX4_hasGantry_12 : decode cX4_hasGantry 12 = .ok (.iconst 1, 1) := by decide +kernel
theorem dX4_hasGantry_13 : decode cX4_hasGantry 13 = .ok (.goto 4, 3) := by decide +kernel
theorem dX4_hasGantry_16 : decode cX4_hasGantry 16 = .ok (.iconst 0, 1) := by decide +kernel
theorem dX4_hasGantry_17 : decode cX4_hasGantry 17 = .ok (.ireturn, 1) := by decide +kernel
abbrev m_X4_hasGantry : MD := (yX4_hasGantry, cX4_hasGantry, 2, (some .boolean))
theorem g_X4_9 {p : Program} {l : Launch} {e : Env} {R : Room} {s : State} {m : MethodId} {args : Array Value} {below : List Frame} {meth : Method} {c : Code} {H : Heap} {locs : List Loc} {cells slots : Nat} {Q : State → Prop} {d : MD} {g : GT} {A : Nat → Prop} {ws : va_W} {pc : Nat} {ls : Array Slot} {rest : List Value} (C : Cx p s m args meth c RX4 d g A) (w : Wd g A ws s.heap H locs) (q0 : Nat) {a : Nat} {fs : List Value} {v : Value} (he : ws[q0]? = some (a, .inr (4, fs))) (hv : fs[0]? = some v) (hd : decode d.2.1 pc = .ok (.getfield 9, 3)) (kk : W p l e R s m args below meth c H locs cells slots Q (F0 m (pc + 3) ls (v :: rest))) : W p l e R s m args below meth c H locs cells slots Q (F0 m pc ls (.ref a :: rest)) := fg C w inX4s (ref := RX4) rfl 0 (by decide) (ts_t (w := Cond.fieldLink RX4 9 RX4 (TX4 0).2.1 (TX4 0).2.2.1) 39 (by decide +kernel) (by decide +kernel)) rfl q0 he hv hd kk
abbrev w_X4_hasGantry (g : GT) (h0 : Nat) (v0_1 v0_2 v0_3 v0_4 v0_5 v0_6 v0_7 v0_8 v0_9 v0_10 v0_11 v0_12 : Value) (gantries0 : Int32) : va_W := [(h0, .inr (4, [.int gantries0, v0_1, v0_2, v0_3, v0_4, v0_5, v0_6, v0_7, v0_8, v0_9, v0_10, v0_11, v0_12]))]
def f_X4_hasGantry_b17 (F : Nat) (gantries0 s0 : Int32) : Option (Int32) :=
  gd (s0 = 0 ∨ s0 = 1) (some s0)
def f_X4_hasGantry_b16 (F : Nat) (gantries0 : Int32) : Option (Int32) :=
  f_X4_hasGantry_b17 F gantries0 0
def f_X4_hasGantry (F : Nat) (p1 gantries0 : Int32) : Option (Int32) :=
  if p1 < 0 then
    f_X4_hasGantry_b16 F gantries0
  else
    if gantries0 ≤ p1 then
      f_X4_hasGantry_b16 F gantries0
    else
      f_X4_hasGantry_b17 F gantries0 1
set_option maxHeartbeats 4000000 in
set_option maxRecDepth 100000 in
theorem c_X4_hasGantry (l : Launch) (g : GT) (F : Nat) (h0 : Nat) (v0_1 v0_2 v0_3 v0_4 v0_5 v0_6 v0_7 v0_8 v0_9 v0_10 v0_11 v0_12 : Value) (p1 gantries0 : Int32) (r : Int32) (sz : Nat) (hf : f_X4_hasGantry F p1 gantries0 = some r) : CI l m_X4_hasGantry (rml 0 0 0) g (w_X4_hasGantry g h0 v0_1 v0_2 v0_3 v0_4 v0_5 v0_6 v0_7 v0_8 v0_9 v0_10 v0_11 v0_12 gantries0) (fun _ => w_X4_hasGantry g h0 v0_1 v0_2 v0_3 v0_4 v0_5 v0_6 v0_7 v0_8 v0_9 v0_10 v0_11 v0_12 gantries0) sz [.ref h0, .int p1] r := by
  refine en_i (by decide) (Nat.le_of_ble_eq_true rfl) (fun p e s m args below meth c A ls C w hl => ?_)
  have C : Cx p s m args meth c RX4 m_X4_hasGantry g A := C
  have hx := C.1
  have hb : c.code = cX4_hasGantry := C.2.1
  have hl : lv_has ls 2 [(0, .ref h0), (1, .int p1)] := hl
  obtain ⟨Q, hQ⟩ : ∃ Q, Q = QI below args s g A (fun _ => w_X4_hasGantry g h0 v0_1 v0_2 v0_3 v0_4 v0_5 v0_6 v0_7 v0_8 v0_9 v0_10 v0_11 v0_12 gantries0) r 0 0 := ⟨_, rfl⟩
  suffices hW : W p l e (rml 0 0 0) s m args below meth c s.heap [] 0 0 Q (F0 m 0 ls []) from (by rw [hQ] at hW; exact hW)
  unfold f_X4_hasGantry at hf
  have b17 : ∀ (s0 : Int32) (H : Heap) (locs : List Loc) (ls : Array Slot), f_X4_hasGantry_b17 F gantries0 s0 = some r → Wd g A (w_X4_hasGantry g h0 v0_1 v0_2 v0_3 v0_4 v0_5 v0_6 v0_7 v0_8 v0_9 v0_10 v0_11 v0_12 gantries0) s.heap H locs → lv_has ls 2 [] → W p l e (rml 0 0 0) s m args below meth c H locs 0 0 Q (F0 m 17 ls [.int s0]) := by
    intro s0 H locs ls hf w hl
    unfold f_X4_hasGantry_b17 at hf
    obtain ⟨h01, hf⟩ := gd_some hf
    obtain e1 := tp1 hf
    rw [hQ]
    exact rt_z C w rfl h01 (fun _ => 0) rfl e1 dX4_hasGantry_17
  have b16 : ∀ (H : Heap) (locs : List Loc) (ls : Array Slot), f_X4_hasGantry_b16 F gantries0 = some r → Wd g A (w_X4_hasGantry g h0 v0_1 v0_2 v0_3 v0_4 v0_5 v0_6 v0_7 v0_8 v0_9 v0_10 v0_11 v0_12 gantries0) s.heap H locs → lv_has ls 2 [] → W p l e (rml 0 0 0) s m args below meth c H locs 0 0 Q (F0 m 16 ls []) := by
    intro  H locs ls hf w hl
    unfold f_X4_hasGantry_b16 at hf
    refine lv_iconst (v := 0) hx hb dX4_hasGantry_16 (by decide) ?_
    exact b17 0 _ _ _ hf w (lv_sub hl [] rfl)
  refine lv_iload_n hx hb dX4_hasGantry_0 rfl (lv_at hl 1 rfl) ?_
  refine lv_if_lt (tgt := 16) hx hb dX4_hasGantry_1 (by decide) (fun c1 => ?_) (fun c1 => ?_)
  · replace hf := it_t c1 hf
    exact b16  _ _ _ hf w (lv_sub hl [] rfl)
  · replace hf := it_f c1 hf
    refine lv_iload_n hx hb dX4_hasGantry_4 rfl (lv_at hl 1 rfl) ?_
    refine lv_aload_n hx hb dX4_hasGantry_5 rfl (lv_at hl 0 rfl) ?_
    refine g_X4_9 C w 0 rfl rfl dX4_hasGantry_6 ?_
    refine lv_icmp_ge (tgt := 16) hx hb dX4_hasGantry_9 (by decide) (fun c2 => ?_) (fun c2 => ?_)
    · replace hf := it_t c2 hf
      exact b16  _ _ _ hf w (lv_sub hl [] rfl)
    · replace hf := it_f c2 hf
      refine lv_iconst (v := 1) hx hb dX4_hasGantry_12 (by decide) ?_
      refine lv_goto (tgt := 17) hx hb dX4_hasGantry_13 (by decide) ?_
      exact b17 1 _ _ _ hf w (lv_sub hl [] rfl)

theorem dX4_hasTag_0 : decode cX4_hasTag 0 = .ok (.iload_n 1, 1) := by decide +kernel
theorem dX4_hasTag_1 : decode cX4_hasTag 1 = .ok (.ifCond .lt 15, 3) := by decide +kernel
theorem dX4_hasTag_4 : decode cX4_hasTag 4 = .ok (.iload_n 1, 1) := by decide +kernel
theorem dX4_hasTag_5 : decode cX4_hasTag 5 = .ok (.aload_n 0, 1) := by decide +kernel
theorem dX4_hasTag_6 : decode cX4_hasTag 6 = .ok (.getfield 21, 3) := by decide +kernel
theorem dX4_hasTag_9 : decode cX4_hasTag 9 = .ok (.if_icmp .ge 7, 3) := by decide +kernel
theorem dX4_hasTag_12 : decode cX4_hasTag 12 = .ok (.iconst 1, 1) := by decide +kernel
theorem dX4_hasTag_13 : decode cX4_hasTag 13 = .ok (.goto 4, 3) := by decide +kernel
theorem dX4_hasTag_16 : decode cX4_hasTag 16 = .ok (.iconst 0, 1) := by decide +kernel
theorem dX4_hasTag_17 : decode cX4_hasTag 17 = .ok (.ireturn, 1) := by decide +kernel
abbrev m_X4_hasTag : MD := (yX4_hasTag, cX4_hasTag, 2, (some .boolean))
theorem g_X4_21 {p : Program} {l : Launch} {e : Env} {R : Room} {s : State} {m : MethodId} {args : Array Value} {below : List Frame} {meth : Method} {c : Code} {H : Heap} {locs : List Loc} {cells slots : Nat} {Q : State → Prop} {d : MD} {g : GT} {A : Nat → Prop} {ws : va_W} {pc : Nat} {ls : Array Slot} {rest : List Value} (C : Cx p s m args meth c RX4 d g A) (w : Wd g A ws s.heap H locs) (q0 : Nat) {a : Nat} {fs : List Value} {v : Value} (he : ws[q0]? = some (a, .inr (4, fs))) (hv : fs[3]? = some v) (hd : decode d.2.1 pc = .ok (.getfield 21, 3)) (kk : W p l e R s m args below meth c H locs cells slots Q (F0 m (pc + 3) ls (v :: rest))) : W p l e R s m args below meth c H locs cells slots Q (F0 m pc ls (.ref a :: rest)) := fg C w inX4s (ref := RX4) rfl 3 (by decide) (ts_t (w := Cond.fieldLink RX4 21 RX4 (TX4 3).2.1 (TX4 3).2.2.1) 48 (by decide +kernel) (by decide +kernel)) rfl q0 he hv hd kk
abbrev w_X4_hasTag (g : GT) (h0 : Nat) (v0_0 v0_1 v0_2 v0_4 v0_5 v0_6 v0_7 v0_8 v0_9 v0_10 v0_11 v0_12 : Value) (tags0 : Int32) : va_W := [(h0, .inr (4, [v0_0, v0_1, v0_2, .int tags0, v0_4, v0_5, v0_6, v0_7, v0_8, v0_9, v0_10, v0_11, v0_12]))]
def f_X4_hasTag_b17 (F : Nat) (tags0 s0 : Int32) : Option (Int32) :=
  gd (s0 = 0 ∨ s0 = 1) (some s0)
def f_X4_hasTag_b16 (F : Nat) (tags0 : Int32) : Option (Int32) :=
  f_X4_hasTag_b17 F tags0 0
def f_X4_hasTag (F : Nat) (p1 tags0 : Int32) : Option (Int32) :=
  if p1 < 0 then
    f_X4_hasTag_b16 F tags0
  else
    if tags0 ≤ p1 then
      f_X4_hasTag_b16 F tags0
    else
      f_X4_hasTag_b17 F tags0 1
set_option maxHeartbeats 4000000 in
set_option maxRecDepth 100000 in
theorem c_X4_hasTag (l : Launch) (g : GT) (F : Nat) (h0 : Nat) (v0_0 v0_1 v0_2 v0_4 v0_5 v0_6 v0_7 v0_8 v0_9 v0_10 v0_11 v0_12 : Value) (p1 tags0 : Int32) (r : Int32) (sz : Nat) (hf : f_X4_hasTag F p1 tags0 = some r) : CI l m_X4_hasTag (rml 0 0 0) g (w_X4_hasTag g h0 v0_0 v0_1 v0_2 v0_4 v0_5 v0_6 v0_7 v0_8 v0_9 v0_10 v0_11 v0_12 tags0) (fun _ => w_X4_hasTag g h0 v0_0 v0_1 v0_2 v0_4 v0_5 v0_6 v0_7 v0_8 v0_9 v0_10 v0_11 v0_12 tags0) sz [.ref h0, .int p1] r := by
  refine en_i (by decide) (Nat.le_of_ble_eq_true rfl) (fun p e s m args below meth c A ls C w hl => ?_)
  have C : Cx p s m args meth c RX4 m_X4_hasTag g A := C
  have hx := C.1
  have hb : c.code = cX4_hasTag := C.2.1
  have hl : lv_has ls 2 [(0, .ref h0), (1, .int p1)] := hl
  obtain ⟨Q, hQ⟩ : ∃ Q, Q = QI below args s g A (fun _ => w_X4_hasTag g h0 v0_0 v0_1 v0_2 v0_4 v0_5 v0_6 v0_7 v0_8 v0_9 v0_10 v0_11 v0_12 tags0) r 0 0 := ⟨_, rfl⟩
  suffices hW : W p l e (rml 0 0 0) s m args below meth c s.heap [] 0 0 Q (F0 m 0 ls []) from (by rw [hQ] at hW; exact hW)
  unfold f_X4_hasTag at hf
  have b17 : ∀ (s0 : Int32) (H : Heap) (locs : List Loc) (ls : Array Slot), f_X4_hasTag_b17 F tags0 s0 = some r → Wd g A (w_X4_hasTag g h0 v0_0 v0_1 v0_2 v0_4 v0_5 v0_6 v0_7 v0_8 v0_9 v0_10 v0_11 v0_12 tags0) s.heap H locs → lv_has ls 2 [] → W p l e (rml 0 0 0) s m args below meth c H locs 0 0 Q (F0 m 17 ls [.int s0]) := by
    intro s0 H locs ls hf w hl
    unfold f_X4_hasTag_b17 at hf
    obtain ⟨h01, hf⟩ := gd_some hf
    obtain e1 := tp1 hf
    rw [hQ]
    exact rt_z C w rfl h01 (fun _ => 0) rfl e1 dX4_hasTag_17
  have b16 : ∀ (H : Heap) (locs : List Loc) (ls : Array Slot), f_X4_hasTag_b16 F tags0 = some r → Wd g A (w_X4_hasTag g h0 v0_0 v0_1 v0_2 v0_4 v0_5 v0_6 v0_7 v0_8 v0_9 v0_10 v0_11 v0_12 tags0) s.heap H locs → lv_has ls 2 [] → W p l e (rml 0 0 0) s m args below meth c H locs 0 0 Q (F0 m 16 ls []) := by
    intro  H locs ls hf w hl
    unfold f_X4_hasTag_b16 at hf
    refine lv_iconst (v := 0) hx hb dX4_hasTag_16 (by decide) ?_
    exact b17 0 _ _ _ hf w (lv_sub hl [] rfl)
  refine lv_iload_n hx hb dX4_hasTag_0 rfl (lv_at hl 1 rfl) ?_
  refine lv_if_lt (tgt := 16) hx hb dX4_hasTag_1 (by decide) (fun c1 => ?_) (fun c1 => ?_)
  · replace hf := it_t c1 hf
    exact b16  _ _ _ hf w (lv_sub hl [] rfl)
  · replace hf := it_f c1 hf
    refine lv_iload_n hx hb dX4_hasTag_4 rfl (lv_at hl 1 rfl) ?_
    refine lv_aload_n hx hb dX4_hasTag_5 rfl (lv_at hl 0 rfl) ?_
    refine g_X4_21 C w 0 rfl rfl dX4_hasTag_6 ?_
    refine lv_icmp_ge (tgt := 16) hx hb dX4_hasTag_9 (by decide) (fun c2 => ?_) (fun c2 => ?_)
    · replace hf := it_t c2 hf
      exact b16  _ _ _ hf w (lv_sub hl [] rfl)
    · replace hf := it_f c2 hf
      refine lv_iconst (v := 1) hx hb dX4_hasTag_12 (by decide) ?_
      refine lv_goto (tgt := 17) hx hb dX4_hasTag_13 (by decide) ?_
      exact b17 1 _ _ _ hf w (lv_sub hl [] rfl)

theorem dX4_minutesOf_0 : decode cX4_minutesOf 0 = .ok (.iload_n 1, 1) := by decide +kernel
theorem dX4_minutesOf_1 : decode cX4_minutesOf 1 = .ok (.ifCond .lt 27, 3) := by decide +kernel
theorem dX4_minutesOf_4 : decode cX4_minutesOf 4 = .ok (.iload_n 1, 1) := by decide +kernel
theorem dX4_minutesOf_5 : decode cX4_minutesOf 5 = .ok (.aload_n 0, 1) := by decide +kernel
theorem dX4_minutesOf_6 : decode cX4_minutesOf 6 = .ok (.getfield 9, 3) := by decide +kernel
theorem dX4_minutesOf_9 : decode cX4_minutesOf 9 = .ok (.if_icmp .ge 19, 3) := by decide +kernel
theorem dX4_minutesOf_12 : decode cX4_minutesOf 12 = .ok (.iload_n 2, 1) := by decide +kernel
theorem dX4_minutesOf_13 : decode cX4_minutesOf 13 = .ok (.ifCond .lt 15, 3) := by decide +kernel
theorem dX4_minutesOf_16 : decode cX4_minutesOf 16 = .ok (.iload_n 2, 1) := by decide +kernel
theorem dX4_minutesOf_17 : decode cX4_minutesOf 17 = .ok (.aload_n 0, 1) := by decide +kernel
theorem dX4_minutesOf_18 : decode cX4_minutesOf 18 = .ok (.getfield 9, 3) := by decide +kernel
theorem dX4_minutesOf_21 : decode cX4_minutesOf 21 = .ok (.if_icmp .ge 7, 3) := by decide +kernel
theorem dX4_minutesOf_24 : decode cX4_minutesOf 24 = .ok (.iconst 1, 1) := by decide +kernel
theorem dX4_minutesOf_25 : decode cX4_minutesOf 25 = .ok (.goto 4, 3) := by decide +kernel
theorem dX4_minutesOf_28 : decode cX4_minutesOf 28 = .ok (.iconst 0, 1) := by decide +kernel
theorem dX4_minutesOf_29 : decode cX4_minutesOf 29 = .ok (.istore_n 3, 1) := by decide +kernel
theorem dX4_minutesOf_30 : decode cX4_minutesOf 30 = .ok (.iload_n 3, 1) := by decide +kernel
theorem dX4_minutesOf_31 : decode cX4_minutesOf 31 = .ok (.ifCond .eq 17, 3) := by decide +kernel
theorem dX4_minutesOf_34 : decode cX4_minutesOf 34 = .ok (.aload_n 0, 1) := by decide +kernel
theorem dX4_minutesOf_35 : decode cX4_minutesOf 35 = .ok (.getfield 33, 3) := by decide +kernel
theorem dX4_minutesOf_38 : decode cX4_minutesOf 38 = .ok (.iload_n 1, 1) := by decide +kernel
theorem dX4_minutesOf_39 : decode cX4_minutesOf 39 = .ok (.bipush 10, 2) := by decide +kernel
theorem dX4_minutesOf_41 : decode cX4_minutesOf 41 = .ok (.imul, 1) := by decide +kernel
theorem dX4_minutesOf_42 : decode cX4_minutesOf 42 = .ok (.iload_n 2, 1) := by decide +kernel
theorem dX4_minutesOf_43 : decode cX4_minutesOf 43 = .ok (.iadd, 1) := by decide +kernel
theorem dX4_minutesOf_44 : decode cX4_minutesOf 44 = .ok (.iaload, 1) := by decide +kernel
theorem dX4_minutesOf_45 : decode cX4_minutesOf 45 = .ok (.goto 4, 3) := by decide +kernel
theorem dX4_minutesOf_48 : decode cX4_minutesOf 48 = .ok (.iconst 0, 1) := by decide +kernel
theorem dX4_minutesOf_49 : decode cX4_minutesOf 49 = .ok (.ireturn, 1) := by decide +kernel
abbrev m_X4_minutesOf : MD := (yX4_minutesOf, cX4_minutesOf, 4, (some .int))

abbrev w_X4_minutesOf (g : GT) (h0 h1 : Nat) (v0_1 v0_2 v0_3 v0_4 v0_5 v0_6 v0_8 v0_9 v0_10 v0_11 v0_12 : Value) (gantries0 : Int32) (linkMinutes1 : Nat → Int32) : va_W := [(h0, .inr (4, [.int gantries0, v0_1, v0_2, v0_3, v0_4, v0_5, v0_6, .ref h1, v0_8, v0_9, v0_10, v0_11, v0_12])), (h1, aI g 100 linkMinutes1)]
def f_X4_minutesOf_b49 (F : Nat) (gantries0 : Int32) (linkMinutes1 : Nat → Int32) (s0 : Int32) : Option (Int32) :=
  some s0
def f_X4_minutesOf_b29 (F : Nat) (gantries0 : Int32) (linkMinutes1 : Nat → Int32) (x1 x2 s0 : Int32) : Option (Int32) :=
  if s0 = 0 then
    f_X4_minutesOf_b49 F gantries0 linkMinutes1 0
  else
    rd linkMinutes1 100 ((x1 * 10) + x2) fun a2 =>
    f_X4_minutesOf_b49 F gantries0 linkMinutes1 a2
def f_X4_minutesOf_b28 (F : Nat) (gantries0 : Int32) (linkMinutes1 : Nat → Int32) (x1 x2 : Int32) : Option (Int32) :=
  f_X4_minutesOf_b29 F gantries0 linkMinutes1 x1 x2 0
def f_X4_minutesOf (F : Nat) (p1 p2 gantries0 : Int32) (linkMinutes1 : Nat → Int32) : Option (Int32) :=
  if p1 < 0 then
    f_X4_minutesOf_b28 F gantries0 linkMinutes1 p1 p2
  else
    if gantries0 ≤ p1 then
      f_X4_minutesOf_b28 F gantries0 linkMinutes1 p1 p2
    else
      if p2 < 0 then
        f_X4_minutesOf_b28 F gantries0 linkMinutes1 p1 p2
      else
        if gantries0 ≤ p2 then
          f_X4_minutesOf_b28 F gantries0 linkMinutes1 p1 p2
        else
          f_X4_minutesOf_b29 F gantries0 linkMinutes1 p1 p2 1
set_option maxHeartbeats 4000000 in
set_option maxRecDepth 100000 in
theorem c_X4_minutesOf (l : Launch) (g : GT) (F : Nat) (h0 h1 : Nat) (v0_1 v0_2 v0_3 v0_4 v0_5 v0_6 v0_8 v0_9 v0_10 v0_11 v0_12 : Value) (p1 p2 gantries0 : Int32) (linkMinutes1 : Nat → Int32) (r : Int32) (sz : Nat) (hf : f_X4_minutesOf F p1 p2 gantries0 linkMinutes1 = some r) : CI l m_X4_minutesOf (rml 0 0 0) g (w_X4_minutesOf g h0 h1 v0_1 v0_2 v0_3 v0_4 v0_5 v0_6 v0_8 v0_9 v0_10 v0_11 v0_12 gantries0 linkMinutes1) (fun _ => w_X4_minutesOf g h0 h1 v0_1 v0_2 v0_3 v0_4 v0_5 v0_6 v0_8 v0_9 v0_10 v0_11 v0_12 gantries0 linkMinutes1) sz [.ref h0, .int p1, .int p2] r := by
  refine en_i (by decide) (Nat.le_of_ble_eq_true rfl) (fun p e s m args below meth c A ls C w hl => ?_)
  have C : Cx p s m args meth c RX4 m_X4_minutesOf g A := C
  have hx := C.1
  have hb : c.code = cX4_minutesOf := C.2.1
  have hl : lv_has ls 4 [(0, .ref h0), (1, .int p1), (2, .int p2)] := hl
  obtain ⟨Q, hQ⟩ : ∃ Q, Q = QI below args s g A (fun _ => w_X4_minutesOf g h0 h1 v0_1 v0_2 v0_3 v0_4 v0_5 v0_6 v0_8 v0_9 v0_10 v0_11 v0_12 gantries0 linkMinutes1) r 0 0 := ⟨_, rfl⟩
  suffices hW : W p l e (rml 0 0 0) s m args below meth c s.heap [] 0 0 Q (F0 m 0 ls []) from (by rw [hQ] at hW; exact hW)
  unfold f_X4_minutesOf at hf
  have b49 : ∀ (s0 : Int32) (H : Heap) (locs : List Loc) (ls : Array Slot), f_X4_minutesOf_b49 F gantries0 linkMinutes1 s0 = some r → Wd g A (w_X4_minutesOf g h0 h1 v0_1 v0_2 v0_3 v0_4 v0_5 v0_6 v0_8 v0_9 v0_10 v0_11 v0_12 gantries0 linkMinutes1) s.heap H locs → lv_has ls 4 [] → W p l e (rml 0 0 0) s m args below meth c H locs 0 0 Q (F0 m 49 ls [.int s0]) := by
    intro s0 H locs ls hf w hl
    unfold f_X4_minutesOf_b49 at hf
    obtain e1 := tp1 hf
    rw [hQ]
    exact rt_i C w rfl (fun _ => 0) rfl e1 dX4_minutesOf_49
  have b29 : ∀ (x1 x2 s0 : Int32) (H : Heap) (locs : List Loc) (ls : Array Slot), f_X4_minutesOf_b29 F gantries0 linkMinutes1 x1 x2 s0 = some r → Wd g A (w_X4_minutesOf g h0 h1 v0_1 v0_2 v0_3 v0_4 v0_5 v0_6 v0_8 v0_9 v0_10 v0_11 v0_12 gantries0 linkMinutes1) s.heap H locs → lv_has ls 4 [(0, .ref h0), (1, .int x1), (2, .int x2)] → W p l e (rml 0 0 0) s m args below meth c H locs 0 0 Q (F0 m 29 ls [.int s0]) := by
    intro x1 x2 s0 H locs ls hf w hl
    unfold f_X4_minutesOf_b29 at hf
    refine lv_istore_n (lv' := [(3, .int s0), (0, .ref h0), (1, .int x1), (2, .int x2)]) hx hb dX4_minutesOf_29 rfl hl (by decide) rfl (fun ls hl => ?_)
    refine lv_iload_n hx hb dX4_minutesOf_30 rfl (lv_at hl 0 rfl) ?_
    refine lv_if_eq (tgt := 48) hx hb dX4_minutesOf_31 (by decide) (fun c1 => ?_) (fun c1 => ?_)
    · replace hf := it_t c1 hf
      refine lv_iconst (v := 0) hx hb dX4_minutesOf_48 (by decide) ?_
      exact b49 0 _ _ _ hf w (lv_sub hl [] rfl)
    · replace hf := it_f c1 hf
      refine lv_aload_n hx hb dX4_minutesOf_34 rfl (lv_at hl 1 rfl) ?_
      refine g_X4_33 C w 0 rfl rfl dX4_minutesOf_35 ?_
      refine lv_iload_n hx hb dX4_minutesOf_38 rfl (lv_at hl 2 rfl) ?_
      refine lv_bipush (v := 10) hx hb dX4_minutesOf_39 (by decide) ?_
      refine lv_imul hx hb dX4_minutesOf_41 ?_
      refine lv_iload_n hx hb dX4_minutesOf_42 rfl (lv_at hl 3 rfl) ?_
      refine lv_iadd hx hb dX4_minutesOf_43 ?_
      obtain ⟨a2, hia2, haa2, hf⟩ := rd_some hf
      refine ial C w 1 rfl hia2 haa2 dX4_minutesOf_44 ?_
      refine lv_goto (tgt := 49) hx hb dX4_minutesOf_45 (by decide) ?_
      exact b49 a2 _ _ _ hf w (lv_sub hl [] rfl)
  have b28 : ∀ (x1 x2 : Int32) (H : Heap) (locs : List Loc) (ls : Array Slot), f_X4_minutesOf_b28 F gantries0 linkMinutes1 x1 x2 = some r → Wd g A (w_X4_minutesOf g h0 h1 v0_1 v0_2 v0_3 v0_4 v0_5 v0_6 v0_8 v0_9 v0_10 v0_11 v0_12 gantries0 linkMinutes1) s.heap H locs → lv_has ls 4 [(0, .ref h0), (1, .int x1), (2, .int x2)] → W p l e (rml 0 0 0) s m args below meth c H locs 0 0 Q (F0 m 28 ls []) := by
    intro x1 x2 H locs ls hf w hl
    unfold f_X4_minutesOf_b28 at hf
    refine lv_iconst (v := 0) hx hb dX4_minutesOf_28 (by decide) ?_
    exact b29 x1 x2 0 _ _ _ hf w (lv_sub hl [0, 1, 2] rfl)
  refine lv_iload_n hx hb dX4_minutesOf_0 rfl (lv_at hl 1 rfl) ?_
  refine lv_if_lt (tgt := 28) hx hb dX4_minutesOf_1 (by decide) (fun c3 => ?_) (fun c3 => ?_)
  · replace hf := it_t c3 hf
    exact b28 p1 p2 _ _ _ hf w (lv_sub hl [0, 1, 2] rfl)
  · replace hf := it_f c3 hf
    refine lv_iload_n hx hb dX4_minutesOf_4 rfl (lv_at hl 1 rfl) ?_
    refine lv_aload_n hx hb dX4_minutesOf_5 rfl (lv_at hl 0 rfl) ?_
    refine g_X4_9 C w 0 rfl rfl dX4_minutesOf_6 ?_
    refine lv_icmp_ge (tgt := 28) hx hb dX4_minutesOf_9 (by decide) (fun c4 => ?_) (fun c4 => ?_)
    · replace hf := it_t c4 hf
      exact b28 p1 p2 _ _ _ hf w (lv_sub hl [0, 1, 2] rfl)
    · replace hf := it_f c4 hf
      refine lv_iload_n hx hb dX4_minutesOf_12 rfl (lv_at hl 2 rfl) ?_
      refine lv_if_lt (tgt := 28) hx hb dX4_minutesOf_13 (by decide) (fun c5 => ?_) (fun c5 => ?_)
      · replace hf := it_t c5 hf
        exact b28 p1 p2 _ _ _ hf w (lv_sub hl [0, 1, 2] rfl)
      · replace hf := it_f c5 hf
        refine lv_iload_n hx hb dX4_minutesOf_16 rfl (lv_at hl 2 rfl) ?_
        refine lv_aload_n hx hb dX4_minutesOf_17 rfl (lv_at hl 0 rfl) ?_
        refine g_X4_9 C w 0 rfl rfl dX4_minutesOf_18 ?_
        refine lv_icmp_ge (tgt := 28) hx hb dX4_minutesOf_21 (by decide) (fun c6 => ?_) (fun c6 => ?_)
        · replace hf := it_t c6 hf
          exact b28 p1 p2 _ _ _ hf w (lv_sub hl [0, 1, 2] rfl)
        · replace hf := it_f c6 hf
          refine lv_iconst (v := 1) hx hb dX4_minutesOf_24 (by decide) ?_
          refine lv_goto (tgt := 29) hx hb dX4_minutesOf_25 (by decide) ?_
          exact b29 p1 p2 1 _ _ _ hf w (lv_sub hl [0, 1, 2] rfl)

theorem dX4_priceOf_0 : decode cX4_priceOf 0 = .ok (.iload_n 1, 1) := by decide +kernel
theorem dX4_priceOf_1 : decode cX4_priceOf 1 = .ok (.ifCond .lt 27, 3) := by decide +kernel
theorem dX4_priceOf_4 : decode cX4_priceOf 4 = .ok (.iload_n 1, 1) := by decide +kernel
theorem dX4_priceOf_5 : decode cX4_priceOf 5 = .ok (.aload_n 0, 1) := by decide +kernel
theorem dX4_priceOf_6 : decode cX4_priceOf 6 = .ok (.getfield 9, 3) := by decide +kernel
theorem dX4_priceOf_9 : decode cX4_priceOf 9 = .ok (.if_icmp .ge 19, 3) := by decide +kernel
theorem dX4_priceOf_12 : decode cX4_priceOf 12 = .ok (.iload_n 2, 1) := by decide +kernel
theorem dX4_priceOf_13 : decode cX4_priceOf 13 = .ok (.ifCond .lt 15, 3) := by decide +kernel
theorem dX4_priceOf_16 : decode cX4_priceOf 16 = .ok (.iload_n 2, 1) := by decide +kernel
theorem dX4_priceOf_17 : decode cX4_priceOf 17 = .ok (.aload_n 0, 1) := by decide +kernel
theorem dX4_priceOf_18 : decode cX4_priceOf 18 = .ok (.getfield 9, 3) := by decide +kernel
theorem dX4_priceOf_21 : decode cX4_priceOf 21 = .ok (.if_icmp .ge 7, 3) := by decide +kernel
theorem dX4_priceOf_24 : decode cX4_priceOf 24 = .ok (.iconst 1, 1) := by decide +kernel
theorem dX4_priceOf_25 : decode cX4_priceOf 25 = .ok (.goto 4, 3) := by decide +kernel
theorem dX4_priceOf_28 : decode cX4_priceOf 28 = .ok (.iconst 0, 1) := by decide +kernel
theorem dX4_priceOf_29 : decode cX4_priceOf 29 = .ok (.istore_n 3, 1) := by decide +kernel
theorem dX4_priceOf_30 : decode cX4_priceOf 30 = .ok (.iload_n 3, 1) := by decide +kernel
theorem dX4_priceOf_31 : decode cX4_priceOf 31 = .ok (.ifCond .eq 17, 3) := by decide +kernel
theorem dX4_priceOf_34 : decode cX4_priceOf 34 = .ok (.aload_n 0, 1) := by decide +kernel
theorem dX4_priceOf_35 : decode cX4_priceOf 35 = .ok (.getfield 37, 3) := by decide +kernel
theorem dX4_priceOf_38 : decode cX4_priceOf 38 = .ok (.iload_n 1, 1) := by decide +kernel
theorem dX4_priceOf_39 : decode cX4_priceOf 39 = .ok (.bipush 10, 2) := by decide +kernel
theorem dX4_priceOf_41 : decode cX4_priceOf 41 = .ok (.imul, 1) := by decide +kernel
theorem dX4_priceOf_42 : decode cX4_priceOf 42 = .ok (.iload_n 2, 1) := by decide +kernel
theorem dX4_priceOf_43 : decode cX4_priceOf 43 = .ok (.iadd, 1) := by decide +kernel
theorem dX4_priceOf_44 : decode cX4_priceOf 44 = .ok (.iaload, 1) := by decide +kernel
theorem dX4_priceOf_45 : decode cX4_priceOf 45 = .ok (.goto 4, 3) := by decide +kernel
theorem dX4_priceOf_48 : decode cX4_priceOf 48 = .ok (.iconst 0, 1) := by decide +kernel
theorem dX4_priceOf_49 : decode cX4_priceOf 49 = .ok (.ireturn, 1) := by decide +kernel
abbrev m_X4_priceOf : MD := (yX4_priceOf, cX4_priceOf, 4, (some .int))

abbrev w_X4_priceOf (g : GT) (h0 h1 : Nat) (v0_1 v0_2 v0_3 v0_4 v0_5 v0_6 v0_7 v0_9 v0_10 v0_11 v0_12 : Value) (gantries0 : Int32) (linkPrice1 : Nat → Int32) : va_W := [(h0, .inr (4, [.int gantries0, v0_1, v0_2, v0_3, v0_4, v0_5, v0_6, v0_7, .ref h1, v0_9, v0_10, v0_11, v0_12])), (h1, aI g 100 linkPrice1)]
def f_X4_priceOf_b49 (F : Nat) (gantries0 : Int32) (linkPrice1 : Nat → Int32) (s0 : Int32) : Option (Int32) :=
  some s0
def f_X4_priceOf_b29 (F : Nat) (gantries0 : Int32) (linkPrice1 : Nat → Int32) (x1 x2 s0 : Int32) : Option (Int32) :=
  if s0 = 0 then
    f_X4_priceOf_b49 F gantries0 linkPrice1 0
  else
    rd linkPrice1 100 ((x1 * 10) + x2) fun a2 =>
    f_X4_priceOf_b49 F gantries0 linkPrice1 a2
def f_X4_priceOf_b28 (F : Nat) (gantries0 : Int32) (linkPrice1 : Nat → Int32) (x1 x2 : Int32) : Option (Int32) :=
  f_X4_priceOf_b29 F gantries0 linkPrice1 x1 x2 0
def f_X4_priceOf (F : Nat) (p1 p2 gantries0 : Int32) (linkPrice1 : Nat → Int32) : Option (Int32) :=
  if p1 < 0 then
    f_X4_priceOf_b28 F gantries0 linkPrice1 p1 p2
  else
    if gantries0 ≤ p1 then
      f_X4_priceOf_b28 F gantries0 linkPrice1 p1 p2
    else
      if p2 < 0 then
        f_X4_priceOf_b28 F gantries0 linkPrice1 p1 p2
      else
        if gantries0 ≤ p2 then
          f_X4_priceOf_b28 F gantries0 linkPrice1 p1 p2
        else
          f_X4_priceOf_b29 F gantries0 linkPrice1 p1 p2 1
set_option maxHeartbeats 4000000 in
set_option maxRecDepth 100000 in
theorem c_X4_priceOf (l : Launch) (g : GT) (F : Nat) (h0 h1 : Nat) (v0_1 v0_2 v0_3 v0_4 v0_5 v0_6 v0_7 v0_9 v0_10 v0_11 v0_12 : Value) (p1 p2 gantries0 : Int32) (linkPrice1 : Nat → Int32) (r : Int32) (sz : Nat) (hf : f_X4_priceOf F p1 p2 gantries0 linkPrice1 = some r) : CI l m_X4_priceOf (rml 0 0 0) g (w_X4_priceOf g h0 h1 v0_1 v0_2 v0_3 v0_4 v0_5 v0_6 v0_7 v0_9 v0_10 v0_11 v0_12 gantries0 linkPrice1) (fun _ => w_X4_priceOf g h0 h1 v0_1 v0_2 v0_3 v0_4 v0_5 v0_6 v0_7 v0_9 v0_10 v0_11 v0_12 gantries0 linkPrice1) sz [.ref h0, .int p1, .int p2] r := by
  refine en_i (by decide) (Nat.le_of_ble_eq_true rfl) (fun p e s m args below meth c A ls C w hl => ?_)
  have C : Cx p s m args meth c RX4 m_X4_priceOf g A := C
  have hx := C.1
  have hb : c.code = cX4_priceOf := C.2.1
  have hl : lv_has ls 4 [(0, .ref h0), (1, .int p1), (2, .int p2)] := hl
  obtain ⟨Q, hQ⟩ : ∃ Q, Q = QI below args s g A (fun _ => w_X4_priceOf g h0 h1 v0_1 v0_2 v0_3 v0_4 v0_5 v0_6 v0_7 v0_9 v0_10 v0_11 v0_12 gantries0 linkPrice1) r 0 0 := ⟨_, rfl⟩
  suffices hW : W p l e (rml 0 0 0) s m args below meth c s.heap [] 0 0 Q (F0 m 0 ls []) from (by rw [hQ] at hW; exact hW)
  unfold f_X4_priceOf at hf
  have b49 : ∀ (s0 : Int32) (H : Heap) (locs : List Loc) (ls : Array Slot), f_X4_priceOf_b49 F gantries0 linkPrice1 s0 = some r → Wd g A (w_X4_priceOf g h0 h1 v0_1 v0_2 v0_3 v0_4 v0_5 v0_6 v0_7 v0_9 v0_10 v0_11 v0_12 gantries0 linkPrice1) s.heap H locs → lv_has ls 4 [] → W p l e (rml 0 0 0) s m args below meth c H locs 0 0 Q (F0 m 49 ls [.int s0]) := by
    intro s0 H locs ls hf w hl
    unfold f_X4_priceOf_b49 at hf
    obtain e1 := tp1 hf
    rw [hQ]
    exact rt_i C w rfl (fun _ => 0) rfl e1 dX4_priceOf_49
  have b29 : ∀ (x1 x2 s0 : Int32) (H : Heap) (locs : List Loc) (ls : Array Slot), f_X4_priceOf_b29 F gantries0 linkPrice1 x1 x2 s0 = some r → Wd g A (w_X4_priceOf g h0 h1 v0_1 v0_2 v0_3 v0_4 v0_5 v0_6 v0_7 v0_9 v0_10 v0_11 v0_12 gantries0 linkPrice1) s.heap H locs → lv_has ls 4 [(0, .ref h0), (1, .int x1), (2, .int x2)] → W p l e (rml 0 0 0) s m args below meth c H locs 0 0 Q (F0 m 29 ls [.int s0]) := by
    intro x1 x2 s0 H locs ls hf w hl
    unfold f_X4_priceOf_b29 at hf
    refine lv_istore_n (lv' := [(3, .int s0), (0, .ref h0), (1, .int x1), (2, .int x2)]) hx hb dX4_priceOf_29 rfl hl (by decide) rfl (fun ls hl => ?_)
    refine lv_iload_n hx hb dX4_priceOf_30 rfl (lv_at hl 0 rfl) ?_
    refine lv_if_eq (tgt := 48) hx hb dX4_priceOf_31 (by decide) (fun c1 => ?_) (fun c1 => ?_)
    · replace hf := it_t c1 hf
      refine lv_iconst (v := 0) hx hb dX4_priceOf_48 (by decide) ?_
      exact b49 0 _ _ _ hf w (lv_sub hl [] rfl)
    · replace hf := it_f c1 hf
      refine lv_aload_n hx hb dX4_priceOf_34 rfl (lv_at hl 1 rfl) ?_
      refine g_X4_37 C w 0 rfl rfl dX4_priceOf_35 ?_
      refine lv_iload_n hx hb dX4_priceOf_38 rfl (lv_at hl 2 rfl) ?_
      refine lv_bipush (v := 10) hx hb dX4_priceOf_39 (by decide) ?_
      refine lv_imul hx hb dX4_priceOf_41 ?_
      refine lv_iload_n hx hb dX4_priceOf_42 rfl (lv_at hl 3 rfl) ?_
      refine lv_iadd hx hb dX4_priceOf_43 ?_
      obtain ⟨a2, hia2, haa2, hf⟩ := rd_some hf
      refine ial C w 1 rfl hia2 haa2 dX4_priceOf_44 ?_
      refine lv_goto (tgt := 49) hx hb dX4_priceOf_45 (by decide) ?_
      exact b49 a2 _ _ _ hf w (lv_sub hl [] rfl)
  have b28 : ∀ (x1 x2 : Int32) (H : Heap) (locs : List Loc) (ls : Array Slot), f_X4_priceOf_b28 F gantries0 linkPrice1 x1 x2 = some r → Wd g A (w_X4_priceOf g h0 h1 v0_1 v0_2 v0_3 v0_4 v0_5 v0_6 v0_7 v0_9 v0_10 v0_11 v0_12 gantries0 linkPrice1) s.heap H locs → lv_has ls 4 [(0, .ref h0), (1, .int x1), (2, .int x2)] → W p l e (rml 0 0 0) s m args below meth c H locs 0 0 Q (F0 m 28 ls []) := by
    intro x1 x2 H locs ls hf w hl
    unfold f_X4_priceOf_b28 at hf
    refine lv_iconst (v := 0) hx hb dX4_priceOf_28 (by decide) ?_
    exact b29 x1 x2 0 _ _ _ hf w (lv_sub hl [0, 1, 2] rfl)
  refine lv_iload_n hx hb dX4_priceOf_0 rfl (lv_at hl 1 rfl) ?_
  refine lv_if_lt (tgt := 28) hx hb dX4_priceOf_1 (by decide) (fun c3 => ?_) (fun c3 => ?_)
  · replace hf := it_t c3 hf
    exact b28 p1 p2 _ _ _ hf w (lv_sub hl [0, 1, 2] rfl)
  · replace hf := it_f c3 hf
    refine lv_iload_n hx hb dX4_priceOf_4 rfl (lv_at hl 1 rfl) ?_
    refine lv_aload_n hx hb dX4_priceOf_5 rfl (lv_at hl 0 rfl) ?_
    refine g_X4_9 C w 0 rfl rfl dX4_priceOf_6 ?_
    refine lv_icmp_ge (tgt := 28) hx hb dX4_priceOf_9 (by decide) (fun c4 => ?_) (fun c4 => ?_)
    · replace hf := it_t c4 hf
      exact b28 p1 p2 _ _ _ hf w (lv_sub hl [0, 1, 2] rfl)
    · replace hf := it_f c4 hf
      refine lv_iload_n hx hb dX4_priceOf_12 rfl (lv_at hl 2 rfl) ?_
      refine lv_if_lt (tgt := 28) hx hb dX4_priceOf_13 (by decide) (fun c5 => ?_) (fun c5 => ?_)
      · replace hf := it_t c5 hf
        exact b28 p1 p2 _ _ _ hf w (lv_sub hl [0, 1, 2] rfl)
      · replace hf := it_f c5 hf
        refine lv_iload_n hx hb dX4_priceOf_16 rfl (lv_at hl 2 rfl) ?_
        refine lv_aload_n hx hb dX4_priceOf_17 rfl (lv_at hl 0 rfl) ?_
        refine g_X4_9 C w 0 rfl rfl dX4_priceOf_18 ?_
        refine lv_icmp_ge (tgt := 28) hx hb dX4_priceOf_21 (by decide) (fun c6 => ?_) (fun c6 => ?_)
        · replace hf := it_t c6 hf
          exact b28 p1 p2 _ _ _ hf w (lv_sub hl [0, 1, 2] rfl)
        · replace hf := it_f c6 hf
          refine lv_iconst (v := 1) hx hb dX4_priceOf_24 (by decide) ?_
          refine lv_goto (tgt := 29) hx hb dX4_priceOf_25 (by decide) ?_
          exact b29 p1 p2 1 _ _ _ hf w (lv_sub hl [0, 1, 2] rfl)

theorem dX4_addLink_0 : decode cX4_addLink 0 = .ok (.aload_n 0, 1) := by decide +kernel
theorem dX4_addLink_1 : decode cX4_addLink 1 = .ok (.iload_n 1, 1) := by decide +kernel
theorem dX4_addLink_2 : decode cX4_addLink 2 = .ok (.invokevirtual 58, 3) := by decide +kernel
theorem dX4_addLink_5 : decode cX4_addLink 5 = .ok (.ifCond .eq 46, 3) := by decide +kernel
theorem dX4_addLink_8 : decode cX4_addLink 8 = .ok (.aload_n 0, 1) := by decide +kernel
theorem dX4_addLink_9 : decode cX4_addLink 9 = .ok (.iload_n 2, 1) := by decide +kernel
theorem dX4_addLink_10 : decode cX4_addLink 10 = .ok (.invokevirtual 58, 3) := by decide +kernel
theorem dX4_addLink_13 : decode cX4_addLink 13 = .ok (.ifCond .eq 38, 3) := by decide +kernel
theorem dX4_addLink_16 : decode cX4_addLink 16 = .ok (.aload_n 0, 1) := by decide +kernel
theorem dX4_addLink_17 : decode cX4_addLink 17 = .ok (.getfield 33, 3) := by decide +kernel
theorem dX4_addLink_20 : decode cX4_addLink 20 = .ok (.iload_n 1, 1) := by decide +kernel
theorem dX4_addLink_21 : decode cX4_addLink 21 = .ok (.bipush 10, 2) := by decide +kernel
theorem dX4_addLink_23 : decode cX4_addLink 23 = .ok (.imul, 1) := by decide +kernel
theorem dX4_addLink_24 : decode cX4_addLink 24 = .ok (.iload_n 2, 1) := by decide +kernel
theorem dX4_addLink_25 : decode cX4_addLink 25 = .ok (.iadd, 1) := by decide +kernel
theorem dX4_addLink_26 : decode cX4_addLink 26 = .ok (.iload_n 3, 1) := by decide +kernel
theorem dX4_addLink_27 : decode cX4_addLink 27 = .ok (.iastore, 1) := by decide +kernel
theorem dX4_addLink_28 : decode cX4_addLink 28 = .ok (.aload_n 0, 1) := by decide +kernel
theorem dX4_addLink_29 : decode cX4_addLink 29 = .ok (.getfield 37, 3) := by decide +kernel
theorem dX4_addLink_32 : decode cX4_addLink 32 = .ok (.iload_n 1, 1) := by decide +kernel
theorem dX4_addLink_33 : decode cX4_addLink 33 = .ok (.bipush 10, 2) := by decide +kernel
theorem dX4_addLink_35 : decode cX4_addLink 35 = .ok (.imul, 1) := by decide +kernel
theorem dX4_addLink_36 : decode cX4_addLink 36 = .ok (.iload_n 2, 1) := by decide +kernel
theorem dX4_addLink_37 : decode cX4_addLink 37 = .ok (.iadd, 1) := by decide +kernel
theorem dX4_addLink_38 : decode cX4_addLink 38 = .ok (.iload 4, 2) := by decide +kernel
theorem dX4_addLink_40 : decode cX4_addLink 40 = .ok (.iastore, 1) := by decide +kernel
theorem dX4_addLink_41 : decode cX4_addLink 41 = .ok (.aload_n 0, 1) := by decide +kernel
theorem dX4_addLink_42 : decode cX4_addLink 42 = .ok (.dup, 1) := by decide +kernel
theorem dX4_addLink_43 : decode cX4_addLink 43 = .ok (.getfield 15, 3) := by decide +kernel
theorem dX4_addLink_46 : decode cX4_addLink 46 = .ok (.iconst 1, 1) := by decide +kernel
theorem dX4_addLink_47 : decode cX4_addLink 47 = .ok (.iadd, 1) := by decide +kernel
theorem dX4_addLink_48 : decode cX4_addLink 48 = .ok (.putfield 15, 3) := by decide +kernel
theorem dX4_addLink_51 : decode cX4_addLink 51 = .ok (.return_, 1) := by decide +kernel
abbrev m_X4_addLink : MD := (yX4_addLink, cX4_addLink, 5, none)
theorem g_X4_15 {p : Program} {l : Launch} {e : Env} {R : Room} {s : State} {m : MethodId} {args : Array Value} {below : List Frame} {meth : Method} {c : Code} {H : Heap} {locs : List Loc} {cells slots : Nat} {Q : State → Prop} {d : MD} {g : GT} {A : Nat → Prop} {ws : va_W} {pc : Nat} {ls : Array Slot} {rest : List Value} (C : Cx p s m args meth c RX4 d g A) (w : Wd g A ws s.heap H locs) (q0 : Nat) {a : Nat} {fs : List Value} {v : Value} (he : ws[q0]? = some (a, .inr (4, fs))) (hv : fs[1]? = some v) (hd : decode d.2.1 pc = .ok (.getfield 15, 3)) (kk : W p l e R s m args below meth c H locs cells slots Q (F0 m (pc + 3) ls (v :: rest))) : W p l e R s m args below meth c H locs cells slots Q (F0 m pc ls (.ref a :: rest)) := fg C w inX4s (ref := RX4) rfl 1 (by decide) (ts_t (w := Cond.fieldLink RX4 15 RX4 (TX4 1).2.1 (TX4 1).2.2.1) 43 (by decide +kernel) (by decide +kernel)) rfl q0 he hv hd kk
theorem q_2 : Cond.initialized RX4 ∈ TS := ts_t 2 (by decide +kernel) (by decide +kernel)
theorem q_708 : Cond.code yX4_hasGantry cX4_hasGantry 2 (some .boolean) ∈ TS := ts_t 708 (by decide +kernel) (by decide +kernel)
theorem q_705 : Cond.methodLink RX4 58 yX4_hasGantry ∈ TS := ts_t 705 (by decide +kernel) (by decide +kernel)
theorem q_707 : Cond.instanceMethod yX4_hasGantry ∈ TS := ts_t 707 (by decide +kernel) (by decide +kernel)
theorem qs_35 : Cond.selects yX4_hasGantry.cls yX4_hasGantry yX4_hasGantry ∈ TS := ts_s 35 (by decide +kernel) (by decide +kernel)
theorem k_X4_58 : LkV RX4 58 m_X4_hasGantry 1 := ⟨q_705, q_707, qs_35, ⟨q_2, q_708, by decide, by decide, by decide +kernel⟩⟩
abbrev w_X4_addLink (g : GT) (h0 h1 h2 : Nat) (v0_2 v0_3 v0_4 v0_5 v0_6 v0_9 v0_10 v0_11 v0_12 : Value) (gantries0 links0 : Int32) (linkMinutes1 linkPrice2 : Nat → Int32) : va_W := [(h0, .inr (4, [.int gantries0, .int links0, v0_2, v0_3, v0_4, v0_5, v0_6, .ref h1, .ref h2, v0_9, v0_10, v0_11, v0_12])), (h1, aI g 100 linkMinutes1), (h2, aI g 100 linkPrice2)]
def f_X4_addLink_b51 (F : Nat) (gantries0 links0 : Int32) (linkMinutes1 linkPrice2 : Nat → Int32) : Option (Int32 × (Nat → Int32) × (Nat → Int32)) :=
  some (links0, linkMinutes1, linkPrice2)
def f_X4_addLink (F : Nat) (p1 p2 p3 p4 gantries0 links0 : Int32) (linkMinutes1 linkPrice2 : Nat → Int32) : Option (Int32 × (Nat → Int32) × (Nat → Int32)) :=
  bd1 (f_X4_hasGantry F p1 gantries0) fun r1 =>
  if r1 = 0 then
    f_X4_addLink_b51 F gantries0 links0 linkMinutes1 linkPrice2
  else
    bd1 (f_X4_hasGantry F p2 gantries0) fun r4 =>
    if r4 = 0 then
      f_X4_addLink_b51 F gantries0 links0 linkMinutes1 linkPrice2
    else
      wr linkMinutes1 100 ((p1 * 10) + p2) p3 fun f7 =>
      wr linkPrice2 100 ((p1 * 10) + p2) p4 fun f8 =>
      f_X4_addLink_b51 F gantries0 (links0 + 1) f7 f8
set_option maxHeartbeats 4000000 in
set_option maxRecDepth 100000 in
theorem c_X4_addLink (l : Launch) (g : GT) (F : Nat) (h0 h1 h2 : Nat) (v0_2 v0_3 v0_4 v0_5 v0_6 v0_9 v0_10 v0_11 v0_12 : Value) (p1 p2 p3 p4 gantries0 links0 : Int32) (linkMinutes1 linkPrice2 : Nat → Int32) (o_links0 : Int32) (o_linkMinutes1 o_linkPrice2 : Nat → Int32) (sz : Nat) (hf : f_X4_addLink F p1 p2 p3 p4 gantries0 links0 linkMinutes1 linkPrice2 = some (o_links0, o_linkMinutes1, o_linkPrice2)) : CV l m_X4_addLink (rml 1 0 0) g (w_X4_addLink g h0 h1 h2 v0_2 v0_3 v0_4 v0_5 v0_6 v0_9 v0_10 v0_11 v0_12 gantries0 links0 linkMinutes1 linkPrice2) (fun _ => w_X4_addLink g h0 h1 h2 v0_2 v0_3 v0_4 v0_5 v0_6 v0_9 v0_10 v0_11 v0_12 gantries0 o_links0 o_linkMinutes1 o_linkPrice2) sz [.ref h0, .int p1, .int p2, .int p3, .int p4] := by
  refine en_v (by decide) (Nat.le_of_ble_eq_true rfl) (fun p e s m args below meth c A ls C w hl => ?_)
  have C : Cx p s m args meth c RX4 m_X4_addLink g A := C
  have hx := C.1
  have hb : c.code = cX4_addLink := C.2.1
  have hl : lv_has ls 5 [(0, .ref h0), (1, .int p1), (2, .int p2), (3, .int p3), (4, .int p4)] := hl
  obtain ⟨Q, hQ⟩ : ∃ Q, Q = QV below args s g A (fun _ => w_X4_addLink g h0 h1 h2 v0_2 v0_3 v0_4 v0_5 v0_6 v0_9 v0_10 v0_11 v0_12 gantries0 o_links0 o_linkMinutes1 o_linkPrice2) 0 0 := ⟨_, rfl⟩
  suffices hW : W p l e (rml 1 0 0) s m args below meth c s.heap [] 0 0 Q (F0 m 0 ls []) from (by rw [hQ] at hW; exact hW)
  unfold f_X4_addLink at hf
  have b51 : ∀ (links0 : Int32) (linkMinutes1 linkPrice2 : Nat → Int32) (H : Heap) (locs : List Loc) (ls : Array Slot), f_X4_addLink_b51 F gantries0 links0 linkMinutes1 linkPrice2 = some (o_links0, o_linkMinutes1, o_linkPrice2) → Wd g A (w_X4_addLink g h0 h1 h2 v0_2 v0_3 v0_4 v0_5 v0_6 v0_9 v0_10 v0_11 v0_12 gantries0 links0 linkMinutes1 linkPrice2) s.heap H locs → lv_has ls 5 [] → W p l e (rml 1 0 0) s m args below meth c H locs 0 0 Q (F0 m 51 ls []) := by
    intro links0 linkMinutes1 linkPrice2 H locs ls hf w hl
    unfold f_X4_addLink_b51 at hf
    obtain ⟨e1, e2, e3⟩ := tp3 hf
    rw [hQ]
    exact rt_v C w rfl (fun _ => 0) (by rw [← e1, ← e2, ← e3]) dX4_addLink_51
  refine lv_aload_n hx hb dX4_addLink_0 rfl (lv_at hl 0 rfl) ?_
  refine lv_iload_n hx hb dX4_addLink_1 rfl (lv_at hl 1 rfl) ?_
  obtain ⟨r1, hc2, hf⟩ := bd1_some hf
  refine ca_iV C w (wn := fun _ => w_X4_addLink g h0 h1 h2 v0_2 v0_3 v0_4 v0_5 v0_6 v0_9 v0_10 v0_11 v0_12 gantries0 links0 linkMinutes1 linkPrice2) (pm_k [true, false, false] rfl rfl (fun _ => Nat.le_of_ble_eq_true rfl) (fun _ => rfl)) (c_X4_hasGantry l g F h0 (.int links0) v0_2 v0_3 v0_4 v0_5 v0_6 (.ref h1) (.ref h2) v0_9 v0_10 v0_11 v0_12 p1 gantries0 r1 _ hc2) k_X4_58 (rm_le (by decide) (by decide)) 0 4 rfl rfl rfl rfl hl.1 rfl (Nat.le_of_ble_eq_true rfl) dX4_addLink_2 ⟨Nat.le_of_ble_eq_true rfl, Nat.le_of_ble_eq_true rfl⟩ (cells2 := 0) (slots2 := 0) ⟨rfl, rfl⟩ (fun _ H locs w => ?_)
  refine lv_if_eq (tgt := 51) hx hb dX4_addLink_5 (by decide) (fun c3 => ?_) (fun c3 => ?_)
  · replace hf := it_t c3 hf
    exact b51 links0 linkMinutes1 linkPrice2 _ _ _ hf w (lv_sub hl [] rfl)
  · replace hf := it_f c3 hf
    refine lv_aload_n hx hb dX4_addLink_8 rfl (lv_at hl 0 rfl) ?_
    refine lv_iload_n hx hb dX4_addLink_9 rfl (lv_at hl 2 rfl) ?_
    obtain ⟨r4, hc5, hf⟩ := bd1_some hf
    refine ca_iV C w (wn := fun _ => w_X4_addLink g h0 h1 h2 v0_2 v0_3 v0_4 v0_5 v0_6 v0_9 v0_10 v0_11 v0_12 gantries0 links0 linkMinutes1 linkPrice2) (pm_k [true, false, false] rfl rfl (fun _ => Nat.le_of_ble_eq_true rfl) (fun _ => rfl)) (c_X4_hasGantry l g F h0 (.int links0) v0_2 v0_3 v0_4 v0_5 v0_6 (.ref h1) (.ref h2) v0_9 v0_10 v0_11 v0_12 p2 gantries0 r4 _ hc5) k_X4_58 (rm_le (by decide) (by decide)) 0 4 rfl rfl rfl rfl hl.1 rfl (Nat.le_of_ble_eq_true rfl) dX4_addLink_10 ⟨Nat.le_of_ble_eq_true rfl, Nat.le_of_ble_eq_true rfl⟩ (cells2 := 0) (slots2 := 0) ⟨rfl, rfl⟩ (fun _ H locs w => ?_)
    refine lv_if_eq (tgt := 51) hx hb dX4_addLink_13 (by decide) (fun c6 => ?_) (fun c6 => ?_)
    · replace hf := it_t c6 hf
      exact b51 links0 linkMinutes1 linkPrice2 _ _ _ hf w (lv_sub hl [] rfl)
    · replace hf := it_f c6 hf
      refine lv_aload_n hx hb dX4_addLink_16 rfl (lv_at hl 0 rfl) ?_
      refine g_X4_33 C w 0 rfl rfl dX4_addLink_17 ?_
      refine lv_iload_n hx hb dX4_addLink_20 rfl (lv_at hl 1 rfl) ?_
      refine lv_bipush (v := 10) hx hb dX4_addLink_21 (by decide) ?_
      refine lv_imul hx hb dX4_addLink_23 ?_
      refine lv_iload_n hx hb dX4_addLink_24 rfl (lv_at hl 2 rfl) ?_
      refine lv_iadd hx hb dX4_addLink_25 ?_
      refine lv_iload_n hx hb dX4_addLink_26 rfl (lv_at hl 3 rfl) ?_
      obtain ⟨f7, hif7, haf7, hf⟩ := wr_some hf
      refine ias C w 1 rfl hif7 haf7 (ws2 := w_X4_addLink g h0 h1 h2 v0_2 v0_3 v0_4 v0_5 v0_6 v0_9 v0_10 v0_11 v0_12 gantries0 links0 f7 linkPrice2) rfl dX4_addLink_27 (fun H locs w => ?_)
      refine lv_aload_n hx hb dX4_addLink_28 rfl (lv_at hl 0 rfl) ?_
      refine g_X4_37 C w 0 rfl rfl dX4_addLink_29 ?_
      refine lv_iload_n hx hb dX4_addLink_32 rfl (lv_at hl 1 rfl) ?_
      refine lv_bipush (v := 10) hx hb dX4_addLink_33 (by decide) ?_
      refine lv_imul hx hb dX4_addLink_35 ?_
      refine lv_iload_n hx hb dX4_addLink_36 rfl (lv_at hl 2 rfl) ?_
      refine lv_iadd hx hb dX4_addLink_37 ?_
      refine lv_iload hx hb dX4_addLink_38 (lv_at hl 4 rfl) ?_
      obtain ⟨f8, hif8, haf8, hf⟩ := wr_some hf
      refine ias C w 2 rfl hif8 haf8 (ws2 := w_X4_addLink g h0 h1 h2 v0_2 v0_3 v0_4 v0_5 v0_6 v0_9 v0_10 v0_11 v0_12 gantries0 links0 f7 f8) rfl dX4_addLink_40 (fun H locs w => ?_)
      refine lv_aload_n hx hb dX4_addLink_41 rfl (lv_at hl 0 rfl) ?_
      refine lv_dup hx hb dX4_addLink_42 rfl ?_
      refine g_X4_15 C w 0 rfl rfl dX4_addLink_43 ?_
      refine lv_iconst (v := 1) hx hb dX4_addLink_46 (by decide) ?_
      refine lv_iadd hx hb dX4_addLink_47 ?_
      refine p_X4_15 C w 0 rfl (Nat.le_of_ble_eq_true rfl) (ws2 := w_X4_addLink g h0 h1 h2 v0_2 v0_3 v0_4 v0_5 v0_6 v0_9 v0_10 v0_11 v0_12 gantries0 (links0 + 1) f7 f8) rfl dX4_addLink_48 (fun H locs w => ?_)
      exact b51 (links0 + 1) f7 f8 _ _ _ hf w (lv_sub hl [] rfl)

theorem dX4_addClass_0 : decode cX4_addClass 0 = .ok (.aload_n 0, 1) := by decide +kernel
theorem dX4_addClass_1 : decode cX4_addClass 1 = .ok (.getfield 18, 3) := by decide +kernel
theorem dX4_addClass_4 : decode cX4_addClass 4 = .ok (.iconst 4, 1) := by decide +kernel
theorem dX4_addClass_5 : decode cX4_addClass 5 = .ok (.if_icmp .ge 33, 3) := by decide +kernel
theorem dX4_addClass_8 : decode cX4_addClass 8 = .ok (.aload_n 0, 1) := by decide +kernel
theorem dX4_addClass_9 : decode cX4_addClass 9 = .ok (.getfield 40, 3) := by decide +kernel
theorem dX4_addClass_12 : decode cX4_addClass 12 = .ok (.aload_n 0, 1) := by decide +kernel
theorem dX4_addClass_13 : decode cX4_addClass 13 = .ok (.getfield 18, 3) := by decide +kernel
theorem dX4_addClass_16 : decode cX4_addClass 16 = .ok (.iload_n 1, 1) := by decide +kernel
theorem dX4_addClass_17 : decode cX4_addClass 17 = .ok (.iastore, 1) := by decide +kernel
theorem dX4_addClass_18 : decode cX4_addClass 18 = .ok (.aload_n 0, 1) := by decide +kernel
theorem dX4_addClass_19 : decode cX4_addClass 19 = .ok (.getfield 43, 3) := by decide +kernel
theorem dX4_addClass_22 : decode cX4_addClass 22 = .ok (.aload_n 0, 1) := by decide +kernel
theorem dX4_addClass_23 : decode cX4_addClass 23 = .ok (.getfield 18, 3) := by decide +kernel
theorem dX4_addClass_26 : decode cX4_addClass 26 = .ok (.iload_n 2, 1) := by decide +kernel
theorem dX4_addClass_27 : decode cX4_addClass 27 = .ok (.iastore, 1) := by decide +kernel
theorem dX4_addClass_28 : decode cX4_addClass 28 = .ok (.aload_n 0, 1) := by decide +kernel
theorem dX4_addClass_29 : decode cX4_addClass 29 = .ok (.dup, 1) := by decide +kernel
theorem dX4_addClass_30 : decode cX4_addClass 30 = .ok (.getfield 18, 3) := by decide +kernel
theorem dX4_addClass_33 : decode cX4_addClass 33 = .ok (.iconst 1, 1) := by decide +kernel
theorem dX4_addClass_34 : decode cX4_addClass 34 = .ok (.iadd, 1) := by decide +kernel
theorem dX4_addClass_35 : decode cX4_addClass 35 = .ok (.putfield 18, 3) := by decide +kernel
theorem dX4_addClass_38 : decode cX4_addClass 38 = .ok (.return_, 1) := by decide +kernel
abbrev m_X4_addClass : MD := (yX4_addClass, cX4_addClass, 3, none)
theorem g_X4_18 {p : Program} {l : Launch} {e : Env} {R : Room} {s : State} {m : MethodId} {args : Array Value} {below : List Frame} {meth : Method} {c : Code} {H : Heap} {locs : List Loc} {cells slots : Nat} {Q : State → Prop} {d : MD} {g : GT} {A : Nat → Prop} {ws : va_W} {pc : Nat} {ls : Array Slot} {rest : List Value} (C : Cx p s m args meth c RX4 d g A) (w : Wd g A ws s.heap H locs) (q0 : Nat) {a : Nat} {fs : List Value} {v : Value} (he : ws[q0]? = some (a, .inr (4, fs))) (hv : fs[2]? = some v) (hd : decode d.2.1 pc = .ok (.getfield 18, 3)) (kk : W p l e R s m args below meth c H locs cells slots Q (F0 m (pc + 3) ls (v :: rest))) : W p l e R s m args below meth c H locs cells slots Q (F0 m pc ls (.ref a :: rest)) := fg C w inX4s (ref := RX4) rfl 2 (by decide) (ts_t (w := Cond.fieldLink RX4 18 RX4 (TX4 2).2.1 (TX4 2).2.2.1) 46 (by decide +kernel) (by decide +kernel)) rfl q0 he hv hd kk
theorem g_X4_40 {p : Program} {l : Launch} {e : Env} {R : Room} {s : State} {m : MethodId} {args : Array Value} {below : List Frame} {meth : Method} {c : Code} {H : Heap} {locs : List Loc} {cells slots : Nat} {Q : State → Prop} {d : MD} {g : GT} {A : Nat → Prop} {ws : va_W} {pc : Nat} {ls : Array Slot} {rest : List Value} (C : Cx p s m args meth c RX4 d g A) (w : Wd g A ws s.heap H locs) (q0 : Nat) {a : Nat} {fs : List Value} {v : Value} (he : ws[q0]? = some (a, .inr (4, fs))) (hv : fs[9]? = some v) (hd : decode d.2.1 pc = .ok (.getfield 40, 3)) (kk : W p l e R s m args below meth c H locs cells slots Q (F0 m (pc + 3) ls (v :: rest))) : W p l e R s m args below meth c H locs cells slots Q (F0 m pc ls (.ref a :: rest)) := fg C w inX4s (ref := RX4) rfl 9 (by decide) (ts_t (w := Cond.fieldLink RX4 40 RX4 (TX4 9).2.1 (TX4 9).2.2.1) 61 (by decide +kernel) (by decide +kernel)) rfl q0 he hv hd kk
theorem g_X4_43 {p : Program} {l : Launch} {e : Env} {R : Room} {s : State} {m : MethodId} {args : Array Value} {below : List Frame} {meth : Method} {c : Code} {H : Heap} {locs : List Loc} {cells slots : Nat} {Q : State → Prop} {d : MD} {g : GT} {A : Nat → Prop} {ws : va_W} {pc : Nat} {ls : Array Slot} {rest : List Value} (C : Cx p s m args meth c RX4 d g A) (w : Wd g A ws s.heap H locs) (q0 : Nat) {a : Nat} {fs : List Value} {v : Value} (he : ws[q0]? = some (a, .inr (4, fs))) (hv : fs[10]? = some v) (hd : decode d.2.1 pc = .ok (.getfield 43, 3)) (kk : W p l e R s m args below meth c H locs cells slots Q (F0 m (pc + 3) ls (v :: rest))) : W p l e R s m args below meth c H locs cells slots Q (F0 m pc ls (.ref a :: rest)) := fg C w inX4s (ref := RX4) rfl 10 (by decide) (ts_t (w := Cond.fieldLink RX4 43 RX4 (TX4 10).2.1 (TX4 10).2.2.1) 62 (by decide +kernel) (by decide +kernel)) rfl q0 he hv hd kk
abbrev w_X4_addClass (g : GT) (h0 h1 h2 : Nat) (v0_0 v0_1 v0_3 v0_4 v0_5 v0_6 v0_7 v0_8 v0_11 v0_12 : Value) (classes0 : Int32) (classAxles1 classPercent2 : Nat → Int32) : va_W := [(h0, .inr (4, [v0_0, v0_1, .int classes0, v0_3, v0_4, v0_5, v0_6, v0_7, v0_8, .ref h1, .ref h2, v0_11, v0_12])), (h1, aI g 4 classAxles1), (h2, aI g 4 classPercent2)]
def f_X4_addClass_b38 (F : Nat) (classes0 : Int32) (classAxles1 classPercent2 : Nat → Int32) : Option (Int32 × (Nat → Int32) × (Nat → Int32)) :=
  some (classes0, classAxles1, classPercent2)
def f_X4_addClass (F : Nat) (p1 p2 classes0 : Int32) (classAxles1 classPercent2 : Nat → Int32) : Option (Int32 × (Nat → Int32) × (Nat → Int32)) :=
  if 4 ≤ classes0 then
    f_X4_addClass_b38 F classes0 classAxles1 classPercent2
  else
    wr classAxles1 4 classes0 p1 fun f2 =>
    wr classPercent2 4 classes0 p2 fun f3 =>
    f_X4_addClass_b38 F (classes0 + 1) f2 f3
set_option maxHeartbeats 4000000 in
set_option maxRecDepth 100000 in
theorem c_X4_addClass (l : Launch) (g : GT) (F : Nat) (h0 h1 h2 : Nat) (v0_0 v0_1 v0_3 v0_4 v0_5 v0_6 v0_7 v0_8 v0_11 v0_12 : Value) (p1 p2 classes0 : Int32) (classAxles1 classPercent2 : Nat → Int32) (o_classes0 : Int32) (o_classAxles1 o_classPercent2 : Nat → Int32) (sz : Nat) (hf : f_X4_addClass F p1 p2 classes0 classAxles1 classPercent2 = some (o_classes0, o_classAxles1, o_classPercent2)) : CV l m_X4_addClass (rml 0 0 0) g (w_X4_addClass g h0 h1 h2 v0_0 v0_1 v0_3 v0_4 v0_5 v0_6 v0_7 v0_8 v0_11 v0_12 classes0 classAxles1 classPercent2) (fun _ => w_X4_addClass g h0 h1 h2 v0_0 v0_1 v0_3 v0_4 v0_5 v0_6 v0_7 v0_8 v0_11 v0_12 o_classes0 o_classAxles1 o_classPercent2) sz [.ref h0, .int p1, .int p2] := by
  refine en_v (by decide) (Nat.le_of_ble_eq_true rfl) (fun p e s m args below meth c A ls C w hl => ?_)
  have C : Cx p s m args meth c RX4 m_X4_addClass g A := C
  have hx := C.1
  have hb : c.code = cX4_addClass := C.2.1
  have hl : lv_has ls 3 [(0, .ref h0), (1, .int p1), (2, .int p2)] := hl
  obtain ⟨Q, hQ⟩ : ∃ Q, Q = QV below args s g A (fun _ => w_X4_addClass g h0 h1 h2 v0_0 v0_1 v0_3 v0_4 v0_5 v0_6 v0_7 v0_8 v0_11 v0_12 o_classes0 o_classAxles1 o_classPercent2) 0 0 := ⟨_, rfl⟩
  suffices hW : W p l e (rml 0 0 0) s m args below meth c s.heap [] 0 0 Q (F0 m 0 ls []) from (by rw [hQ] at hW; exact hW)
  unfold f_X4_addClass at hf
  have b38 : ∀ (classes0 : Int32) (classAxles1 classPercent2 : Nat → Int32) (H : Heap) (locs : List Loc) (ls : Array Slot), f_X4_addClass_b38 F classes0 classAxles1 classPercent2 = some (o_classes0, o_classAxles1, o_classPercent2) → Wd g A (w_X4_addClass g h0 h1 h2 v0_0 v0_1 v0_3 v0_4 v0_5 v0_6 v0_7 v0_8 v0_11 v0_12 classes0 classAxles1 classPercent2) s.heap H locs → lv_has ls 3 [] → W p l e (rml 0 0 0) s m args below meth c H locs 0 0 Q (F0 m 38 ls []) := by
    intro classes0 classAxles1 classPercent2 H locs ls hf w hl
    unfold f_X4_addClass_b38 at hf
    obtain ⟨e1, e2, e3⟩ := tp3 hf
    rw [hQ]
    exact rt_v C w rfl (fun _ => 0) (by rw [← e1, ← e2, ← e3]) dX4_addClass_38
  refine lv_aload_n hx hb dX4_addClass_0 rfl (lv_at hl 0 rfl) ?_
  refine g_X4_18 C w 0 rfl rfl dX4_addClass_1 ?_
  refine lv_iconst (v := 4) hx hb dX4_addClass_4 (by decide) ?_
  refine lv_icmp_ge (tgt := 38) hx hb dX4_addClass_5 (by decide) (fun c1 => ?_) (fun c1 => ?_)
  · replace hf := it_t c1 hf
    exact b38 classes0 classAxles1 classPercent2 _ _ _ hf w (lv_sub hl [] rfl)
  · replace hf := it_f c1 hf
    refine lv_aload_n hx hb dX4_addClass_8 rfl (lv_at hl 0 rfl) ?_
    refine g_X4_40 C w 0 rfl rfl dX4_addClass_9 ?_
    refine lv_aload_n hx hb dX4_addClass_12 rfl (lv_at hl 0 rfl) ?_
    refine g_X4_18 C w 0 rfl rfl dX4_addClass_13 ?_
    refine lv_iload_n hx hb dX4_addClass_16 rfl (lv_at hl 1 rfl) ?_
    obtain ⟨f2, hif2, haf2, hf⟩ := wr_some hf
    refine ias C w 1 rfl hif2 haf2 (ws2 := w_X4_addClass g h0 h1 h2 v0_0 v0_1 v0_3 v0_4 v0_5 v0_6 v0_7 v0_8 v0_11 v0_12 classes0 f2 classPercent2) rfl dX4_addClass_17 (fun H locs w => ?_)
    refine lv_aload_n hx hb dX4_addClass_18 rfl (lv_at hl 0 rfl) ?_
    refine g_X4_43 C w 0 rfl rfl dX4_addClass_19 ?_
    refine lv_aload_n hx hb dX4_addClass_22 rfl (lv_at hl 0 rfl) ?_
    refine g_X4_18 C w 0 rfl rfl dX4_addClass_23 ?_
    refine lv_iload_n hx hb dX4_addClass_26 rfl (lv_at hl 2 rfl) ?_
    obtain ⟨f3, hif3, haf3, hf⟩ := wr_some hf
    refine ias C w 2 rfl hif3 haf3 (ws2 := w_X4_addClass g h0 h1 h2 v0_0 v0_1 v0_3 v0_4 v0_5 v0_6 v0_7 v0_8 v0_11 v0_12 classes0 f2 f3) rfl dX4_addClass_27 (fun H locs w => ?_)
    refine lv_aload_n hx hb dX4_addClass_28 rfl (lv_at hl 0 rfl) ?_
    refine lv_dup hx hb dX4_addClass_29 rfl ?_
    refine g_X4_18 C w 0 rfl rfl dX4_addClass_30 ?_
    refine lv_iconst (v := 1) hx hb dX4_addClass_33 (by decide) ?_
    refine lv_iadd hx hb dX4_addClass_34 ?_
    refine p_X4_18 C w 0 rfl (Nat.le_of_ble_eq_true rfl) (ws2 := w_X4_addClass g h0 h1 h2 v0_0 v0_1 v0_3 v0_4 v0_5 v0_6 v0_7 v0_8 v0_11 v0_12 (classes0 + 1) f2 f3) rfl dX4_addClass_35 (fun H locs w => ?_)
    exact b38 (classes0 + 1) f2 f3 _ _ _ hf w (lv_sub hl [] rfl)

theorem dX4_addTag_0 : decode cX4_addTag 0 = .ok (.aload_n 0, 1) := by decide +kernel
theorem dX4_addTag_1 : decode cX4_addTag 1 = .ok (.getfield 21, 3) := by decide +kernel
theorem dX4_addTag_4 : decode cX4_addTag 4 = .ok (.bipush 12, 2) := by decide +kernel
theorem dX4_addTag_6 : decode cX4_addTag 6 = .ok (.if_icmp .ge 33, 3) := by decide +kernel
theorem dX4_addTag_9 : decode cX4_addTag 9 = .ok (.aload_n 0, 1) := by decide +kernel
theorem dX4_addTag_10 : decode cX4_addTag 10 = .ok (.getfield 46, 3) := by decide +kernel
theorem dX4_addTag_13 : decode cX4_addTag 13 = .ok (.aload_n 0, 1) := by decide +kernel
theorem dX4_addTag_14 : decode cX4_addTag 14 = .ok (.getfield 21, 3) := by decide +kernel
theorem dX4_addTag_17 : decode cX4_addTag 17 = .ok (.iload_n 1, 1) := by decide +kernel
theorem dX4_addTag_18 : decode cX4_addTag 18 = .ok (.iastore, 1) := by decide +kernel
theorem dX4_addTag_19 : decode cX4_addTag 19 = .ok (.aload_n 0, 1) := by decide +kernel
theorem dX4_addTag_20 : decode cX4_addTag 20 = .ok (.getfield 49, 3) := by decide +kernel
theorem dX4_addTag_23 : decode cX4_addTag 23 = .ok (.aload_n 0, 1) := by decide +kernel
theorem dX4_addTag_24 : decode cX4_addTag 24 = .ok (.getfield 21, 3) := by decide +kernel
theorem dX4_addTag_27 : decode cX4_addTag 27 = .ok (.iload_n 2, 1) := by decide +kernel
theorem dX4_addTag_28 : decode cX4_addTag 28 = .ok (.iastore, 1) := by decide +kernel
theorem dX4_addTag_29 : decode cX4_addTag 29 = .ok (.aload_n 0, 1) := by decide +kernel
theorem dX4_addTag_30 : decode cX4_addTag 30 = .ok (.dup, 1) := by decide +kernel
theorem dX4_addTag_31 : decode cX4_addTag 31 = .ok (.getfield 21, 3) := by decide +kernel
theorem dX4_addTag_34 : decode cX4_addTag 34 = .ok (.iconst 1, 1) := by decide +kernel
theorem dX4_addTag_35 : decode cX4_addTag 35 = .ok (.iadd, 1) := by decide +kernel
theorem dX4_addTag_36 : decode cX4_addTag 36 = .ok (.putfield 21, 3) := by decide +kernel
theorem dX4_addTag_39 : decode cX4_addTag 39 = .ok (.return_, 1) := by decide +kernel
abbrev m_X4_addTag : MD := (yX4_addTag, cX4_addTag, 3, none)
theorem g_X4_46 {p : Program} {l : Launch} {e : Env} {R : Room} {s : State} {m : MethodId} {args : Array Value} {below : List Frame} {meth : Method} {c : Code} {H : Heap} {locs : List Loc} {cells slots : Nat} {Q : State → Prop} {d : MD} {g : GT} {A : Nat → Prop} {ws : va_W} {pc : Nat} {ls : Array Slot} {rest : List Value} (C : Cx p s m args meth c RX4 d g A) (w : Wd g A ws s.heap H locs) (q0 : Nat) {a : Nat} {fs : List Value} {v : Value} (he : ws[q0]? = some (a, .inr (4, fs))) (hv : fs[11]? = some v) (hd : decode d.2.1 pc = .ok (.getfield 46, 3)) (kk : W p l e R s m args below meth c H locs cells slots Q (F0 m (pc + 3) ls (v :: rest))) : W p l e R s m args below meth c H locs cells slots Q (F0 m pc ls (.ref a :: rest)) := fg C w inX4s (ref := RX4) rfl 11 (by decide) (ts_t (w := Cond.fieldLink RX4 46 RX4 (TX4 11).2.1 (TX4 11).2.2.1) 63 (by decide +kernel) (by decide +kernel)) rfl q0 he hv hd kk
theorem g_X4_49 {p : Program} {l : Launch} {e : Env} {R : Room} {s : State} {m : MethodId} {args : Array Value} {below : List Frame} {meth : Method} {c : Code} {H : Heap} {locs : List Loc} {cells slots : Nat} {Q : State → Prop} {d : MD} {g : GT} {A : Nat → Prop} {ws : va_W} {pc : Nat} {ls : Array Slot} {rest : List Value} (C : Cx p s m args meth c RX4 d g A) (w : Wd g A ws s.heap H locs) (q0 : Nat) {a : Nat} {fs : List Value} {v : Value} (he : ws[q0]? = some (a, .inr (4, fs))) (hv : fs[12]? = some v) (hd : decode d.2.1 pc = .ok (.getfield 49, 3)) (kk : W p l e R s m args below meth c H locs cells slots Q (F0 m (pc + 3) ls (v :: rest))) : W p l e R s m args below meth c H locs cells slots Q (F0 m pc ls (.ref a :: rest)) := fg C w inX4s (ref := RX4) rfl 12 (by decide) (ts_t (w := Cond.fieldLink RX4 49 RX4 (TX4 12).2.1 (TX4 12).2.2.1) 64 (by decide +kernel) (by decide +kernel)) rfl q0 he hv hd kk
abbrev w_X4_addTag (g : GT) (h0 h1 h2 : Nat) (v0_0 v0_1 v0_2 v0_4 v0_5 v0_6 v0_7 v0_8 v0_9 v0_10 : Value) (tags0 : Int32) (tagAxles1 tagPlate2 : Nat → Int32) : va_W := [(h0, .inr (4, [v0_0, v0_1, v0_2, .int tags0, v0_4, v0_5, v0_6, v0_7, v0_8, v0_9, v0_10, .ref h2, .ref h1])), (h1, aI g 12 tagAxles1), (h2, aI g 12 tagPlate2)]
def f_X4_addTag_b39 (F : Nat) (tags0 : Int32) (tagAxles1 tagPlate2 : Nat → Int32) : Option (Int32 × (Nat → Int32) × (Nat → Int32)) :=
  some (tags0, tagAxles1, tagPlate2)
def f_X4_addTag (F : Nat) (p1 p2 tags0 : Int32) (tagAxles1 tagPlate2 : Nat → Int32) : Option (Int32 × (Nat → Int32) × (Nat → Int32)) :=
  if 12 ≤ tags0 then
    f_X4_addTag_b39 F tags0 tagAxles1 tagPlate2
  else
    wr tagPlate2 12 tags0 p1 fun f2 =>
    wr tagAxles1 12 tags0 p2 fun f3 =>
    f_X4_addTag_b39 F (tags0 + 1) f3 f2
set_option maxHeartbeats 4000000 in
set_option maxRecDepth 100000 in
theorem c_X4_addTag (l : Launch) (g : GT) (F : Nat) (h0 h1 h2 : Nat) (v0_0 v0_1 v0_2 v0_4 v0_5 v0_6 v0_7 v0_8 v0_9 v0_10 : Value) (p1 p2 tags0 : Int32) (tagAxles1 tagPlate2 : Nat → Int32) (o_tags0 : Int32) (o_tagAxles1 o_tagPlate2 : Nat → Int32) (sz : Nat) (hf : f_X4_addTag F p1 p2 tags0 tagAxles1 tagPlate2 = some (o_tags0, o_tagAxles1, o_tagPlate2)) : CV l m_X4_addTag (rml 0 0 0) g (w_X4_addTag g h0 h1 h2 v0_0 v0_1 v0_2 v0_4 v0_5 v0_6 v0_7 v0_8 v0_9 v0_10 tags0 tagAxles1 tagPlate2) (fun _ => w_X4_addTag g h0 h1 h2 v0_0 v0_1 v0_2 v0_4 v0_5 v0_6 v0_7 v0_8 v0_9 v0_10 o_tags0 o_tagAxles1 o_tagPlate2) sz [.ref h0, .int p1, .int p2] := by
  refine en_v (by decide) (Nat.le_of_ble_eq_true rfl) (fun p e s m args below meth c A ls C w hl => ?_)
  have C : Cx p s m args meth c RX4 m_X4_addTag g A := C
  have hx := C.1
  have hb : c.code = cX4_addTag := C.2.1
  have hl : lv_has ls 3 [(0, .ref h0), (1, .int p1), (2, .int p2)] := hl
  obtain ⟨Q, hQ⟩ : ∃ Q, Q = QV below args s g A (fun _ => w_X4_addTag g h0 h1 h2 v0_0 v0_1 v0_2 v0_4 v0_5 v0_6 v0_7 v0_8 v0_9 v0_10 o_tags0 o_tagAxles1 o_tagPlate2) 0 0 := ⟨_, rfl⟩
  suffices hW : W p l e (rml 0 0 0) s m args below meth c s.heap [] 0 0 Q (F0 m 0 ls []) from (by rw [hQ] at hW; exact hW)
  unfold f_X4_addTag at hf
  have b39 : ∀ (tags0 : Int32) (tagAxles1 tagPlate2 : Nat → Int32) (H : Heap) (locs : List Loc) (ls : Array Slot), f_X4_addTag_b39 F tags0 tagAxles1 tagPlate2 = some (o_tags0, o_tagAxles1, o_tagPlate2) → Wd g A (w_X4_addTag g h0 h1 h2 v0_0 v0_1 v0_2 v0_4 v0_5 v0_6 v0_7 v0_8 v0_9 v0_10 tags0 tagAxles1 tagPlate2) s.heap H locs → lv_has ls 3 [] → W p l e (rml 0 0 0) s m args below meth c H locs 0 0 Q (F0 m 39 ls []) := by
    intro tags0 tagAxles1 tagPlate2 H locs ls hf w hl
    unfold f_X4_addTag_b39 at hf
    obtain ⟨e1, e2, e3⟩ := tp3 hf
    rw [hQ]
    exact rt_v C w rfl (fun _ => 0) (by rw [← e1, ← e2, ← e3]) dX4_addTag_39
  refine lv_aload_n hx hb dX4_addTag_0 rfl (lv_at hl 0 rfl) ?_
  refine g_X4_21 C w 0 rfl rfl dX4_addTag_1 ?_
  refine lv_bipush (v := 12) hx hb dX4_addTag_4 (by decide) ?_
  refine lv_icmp_ge (tgt := 39) hx hb dX4_addTag_6 (by decide) (fun c1 => ?_) (fun c1 => ?_)
  · replace hf := it_t c1 hf
    exact b39 tags0 tagAxles1 tagPlate2 _ _ _ hf w (lv_sub hl [] rfl)
  · replace hf := it_f c1 hf
    refine lv_aload_n hx hb dX4_addTag_9 rfl (lv_at hl 0 rfl) ?_
    refine g_X4_46 C w 0 rfl rfl dX4_addTag_10 ?_
    refine lv_aload_n hx hb dX4_addTag_13 rfl (lv_at hl 0 rfl) ?_
    refine g_X4_21 C w 0 rfl rfl dX4_addTag_14 ?_
    refine lv_iload_n hx hb dX4_addTag_17 rfl (lv_at hl 1 rfl) ?_
    obtain ⟨f2, hif2, haf2, hf⟩ := wr_some hf
    refine ias C w 2 rfl hif2 haf2 (ws2 := w_X4_addTag g h0 h1 h2 v0_0 v0_1 v0_2 v0_4 v0_5 v0_6 v0_7 v0_8 v0_9 v0_10 tags0 tagAxles1 f2) rfl dX4_addTag_18 (fun H locs w => ?_)
    refine lv_aload_n hx hb dX4_addTag_19 rfl (lv_at hl 0 rfl) ?_
    refine g_X4_49 C w 0 rfl rfl dX4_addTag_20 ?_
    refine lv_aload_n hx hb dX4_addTag_23 rfl (lv_at hl 0 rfl) ?_
    refine g_X4_21 C w 0 rfl rfl dX4_addTag_24 ?_
    refine lv_iload_n hx hb dX4_addTag_27 rfl (lv_at hl 2 rfl) ?_
    obtain ⟨f3, hif3, haf3, hf⟩ := wr_some hf
    refine ias C w 1 rfl hif3 haf3 (ws2 := w_X4_addTag g h0 h1 h2 v0_0 v0_1 v0_2 v0_4 v0_5 v0_6 v0_7 v0_8 v0_9 v0_10 tags0 f3 f2) rfl dX4_addTag_28 (fun H locs w => ?_)
    refine lv_aload_n hx hb dX4_addTag_29 rfl (lv_at hl 0 rfl) ?_
    refine lv_dup hx hb dX4_addTag_30 rfl ?_
    refine g_X4_21 C w 0 rfl rfl dX4_addTag_31 ?_
    refine lv_iconst (v := 1) hx hb dX4_addTag_34 (by decide) ?_
    refine lv_iadd hx hb dX4_addTag_35 ?_
    refine p_X4_21 C w 0 rfl (Nat.le_of_ble_eq_true rfl) (ws2 := w_X4_addTag g h0 h1 h2 v0_0 v0_1 v0_2 v0_4 v0_5 v0_6 v0_7 v0_8 v0_9 v0_10 (tags0 + 1) f3 f2) rfl dX4_addTag_36 (fun H locs w => ?_)
    exact b39 (tags0 + 1) f3 f2 _ _ _ hf w (lv_sub hl [] rfl)

theorem dX4_lastClassAxles_0 : decode cX4_lastClassAxles 0 = .ok (.aload_n 0, 1) := by decide +kernel
theorem dX4_lastClassAxles_1 : decode cX4_lastClassAxles 1 = .ok (.getfield 18, 3) := by decide +kernel
theorem dX4_lastClassAxles_4 : decode cX4_lastClassAxles 4 = .ok (.ifCond .le 17, 3) := by decide +kernel
theorem dX4_lastClassAxles_7 : decode cX4_lastClassAxles 7 = .ok (.aload_n 0, 1) := by decide +kernel
theorem dX4_lastClassAxles_8 : decode cX4_lastClassAxles 8 = .ok (.getfield 40, 3) := by decide +kernel
theorem dX4_lastClassAxles_11 : decode cX4_lastClassAxles 11 = .ok (.aload_n 0, 1) := by decide +kernel
theorem dX4_lastClassAxles_12 : decode cX4_lastClassAxles 12 = .ok (.getfield 18, 3) := by decide +kernel
theorem dX4_lastClassAxles_15 : decode cX4_lastClassAxles 15 = .ok (.iconst 1, 1) := by decide +kernel
theorem dX4_lastClassAxles_16 : decode cX4_lastClassAxles 16 = .ok (.isub, 1) := by decide +kernel
theorem dX4_lastClassAxles_17 : decode cX4_lastClassAxles 17 = .ok (.iaload, 1) := by decide +kernel
theorem dX4_lastClassAxles_18 : decode cX4_lastClassAxles 18 = .ok (.goto 4, 3) := by decide +kernel
theorem dX4_lastClassAxles_21 : decode cX4_lastClassAxles 21 = .ok (.iconst 0, 1) := by decide +kernel
theorem dX4_lastClassAxles_22 : decode cX4_lastClassAxles 22 = .ok (.ireturn, 1) := by decide +kernel
abbrev m_X4_lastClassAxles : MD := (yX4_lastClassAxles, cX4_lastClassAxles, 1, (some .int))

abbrev w_X4_lastClassAxles (g : GT) (h0 h1 : Nat) (v0_0 v0_1 v0_3 v0_4 v0_5 v0_6 v0_7 v0_8 v0_10 v0_11 v0_12 : Value) (classes0 : Int32) (classAxles1 : Nat → Int32) : va_W := [(h0, .inr (4, [v0_0, v0_1, .int classes0, v0_3, v0_4, v0_5, v0_6, v0_7, v0_8, .ref h1, v0_10, v0_11, v0_12])), (h1, aI g 4 classAxles1)]
def f_X4_lastClassAxles_b22 (F : Nat) (classes0 : Int32) (classAxles1 : Nat → Int32) (s0 : Int32) : Option (Int32) :=
  some s0
def f_X4_lastClassAxles (F : Nat) (classes0 : Int32) (classAxles1 : Nat → Int32) : Option (Int32) :=
  if classes0 ≤ 0 then
    f_X4_lastClassAxles_b22 F classes0 classAxles1 0
  else
    rd classAxles1 4 (classes0 - 1) fun a2 =>
    f_X4_lastClassAxles_b22 F classes0 classAxles1 a2
set_option maxHeartbeats 4000000 in
set_option maxRecDepth 100000 in
theorem c_X4_lastClassAxles (l : Launch) (g : GT) (F : Nat) (h0 h1 : Nat) (v0_0 v0_1 v0_3 v0_4 v0_5 v0_6 v0_7 v0_8 v0_10 v0_11 v0_12 : Value) (classes0 : Int32) (classAxles1 : Nat → Int32) (r : Int32) (sz : Nat) (hf : f_X4_lastClassAxles F classes0 classAxles1 = some r) : CI l m_X4_lastClassAxles (rml 0 0 0) g (w_X4_lastClassAxles g h0 h1 v0_0 v0_1 v0_3 v0_4 v0_5 v0_6 v0_7 v0_8 v0_10 v0_11 v0_12 classes0 classAxles1) (fun _ => w_X4_lastClassAxles g h0 h1 v0_0 v0_1 v0_3 v0_4 v0_5 v0_6 v0_7 v0_8 v0_10 v0_11 v0_12 classes0 classAxles1) sz [.ref h0] r := by
  refine en_i (by decide) (Nat.le_of_ble_eq_true rfl) (fun p e s m args below meth c A ls C w hl => ?_)
  have C : Cx p s m args meth c RX4 m_X4_lastClassAxles g A := C
  have hx := C.1
  have hb : c.code = cX4_lastClassAxles := C.2.1
  have hl : lv_has ls 1 [(0, .ref h0)] := hl
  obtain ⟨Q, hQ⟩ : ∃ Q, Q = QI below args s g A (fun _ => w_X4_lastClassAxles g h0 h1 v0_0 v0_1 v0_3 v0_4 v0_5 v0_6 v0_7 v0_8 v0_10 v0_11 v0_12 classes0 classAxles1) r 0 0 := ⟨_, rfl⟩
  suffices hW : W p l e (rml 0 0 0) s m args below meth c s.heap [] 0 0 Q (F0 m 0 ls []) from (by rw [hQ] at hW; exact hW)
  unfold f_X4_lastClassAxles at hf
  have b22 : ∀ (s0 : Int32) (H : Heap) (locs : List Loc) (ls : Array Slot), f_X4_lastClassAxles_b22 F classes0 classAxles1 s0 = some r → Wd g A (w_X4_lastClassAxles g h0 h1 v0_0 v0_1 v0_3 v0_4 v0_5 v0_6 v0_7 v0_8 v0_10 v0_11 v0_12 classes0 classAxles1) s.heap H locs → lv_has ls 1 [] → W p l e (rml 0 0 0) s m args below meth c H locs 0 0 Q (F0 m 22 ls [.int s0]) := by
    intro s0 H locs ls hf w hl
    unfold f_X4_lastClassAxles_b22 at hf
    obtain e1 := tp1 hf
    rw [hQ]
    exact rt_i C w rfl (fun _ => 0) rfl e1 dX4_lastClassAxles_22
  refine lv_aload_n hx hb dX4_lastClassAxles_0 rfl (lv_at hl 0 rfl) ?_
  refine g_X4_18 C w 0 rfl rfl dX4_lastClassAxles_1 ?_
  refine lv_if_le (tgt := 21) hx hb dX4_lastClassAxles_4 (by decide) (fun c1 => ?_) (fun c1 => ?_)
  · replace hf := it_t c1 hf
    refine lv_iconst (v := 0) hx hb dX4_lastClassAxles_21 (by decide) ?_
    exact b22 0 _ _ _ hf w (lv_sub hl [] rfl)
  · replace hf := it_f c1 hf
    refine lv_aload_n hx hb dX4_lastClassAxles_7 rfl (lv_at hl 0 rfl) ?_
    refine g_X4_40 C w 0 rfl rfl dX4_lastClassAxles_8 ?_
    refine lv_aload_n hx hb dX4_lastClassAxles_11 rfl (lv_at hl 0 rfl) ?_
    refine g_X4_18 C w 0 rfl rfl dX4_lastClassAxles_12 ?_
    refine lv_iconst (v := 1) hx hb dX4_lastClassAxles_15 (by decide) ?_
    refine lv_isub hx hb dX4_lastClassAxles_16 ?_
    obtain ⟨a2, hia2, haa2, hf⟩ := rd_some hf
    refine ial C w 1 rfl hia2 haa2 dX4_lastClassAxles_17 ?_
    refine lv_goto (tgt := 22) hx hb dX4_lastClassAxles_18 (by decide) ?_
    exact b22 a2 _ _ _ hf w (lv_sub hl [] rfl)

theorem dX4_classFor_0 : decode cX4_classFor 0 = .ok (.aload_n 0, 1) := by decide +kernel
theorem dX4_classFor_1 : decode cX4_classFor 1 = .ok (.getfield 18, 3) := by decide +kernel
theorem dX4_classFor_4 : decode cX4_classFor 4 = .ok (.iconst 1, 1) := by decide +kernel
theorem dX4_classFor_5 : decode cX4_classFor 5 = .ok (.isub, 1) := by decide +kernel
theorem dX4_classFor_6 : decode cX4_classFor 6 = .ok (.istore_n 2, 1) := by decide +kernel
theorem dX4_classFor_7 : decode cX4_classFor 7 = .ok (.iload_n 2, 1) := by decide +kernel
theorem dX4_classFor_8 : decode cX4_classFor 8 = .ok (.ifCond .lt 21, 3) := by decide +kernel
theorem dX4_classFor_11 : decode cX4_classFor 11 = .ok (.aload_n 0, 1) := by decide +kernel
theorem dX4_classFor_12 : decode cX4_classFor 12 = .ok (.getfield 40, 3) := by decide +kernel
theorem dX4_classFor_15 : decode cX4_classFor 15 = .ok (.iload_n 2, 1) := by decide +kernel
theorem dX4_classFor_16 : decode cX4_classFor 16 = .ok (.iaload, 1) := by decide +kernel
theorem dX4_classFor_17 : decode cX4_classFor 17 = .ok (.iload_n 1, 1) := by decide +kernel
theorem dX4_classFor_18 : decode cX4_classFor 18 = .ok (.if_icmp .gt 5, 3) := by decide +kernel
theorem dX4_classFor_21 : decode cX4_classFor 21 = .ok (.iload_n 2, 1) := by decide +kernel
theorem dX4_classFor_22 : decode cX4_classFor 22 = .ok (.ireturn, 1) := by decide +kernel
theorem dX4_classFor_23 : decode cX4_classFor 23 = .ok (.iinc 2 (-1), 3) := by decide +kernel
theorem dX4_classFor_26 : decode cX4_classFor 26 = .ok (.goto (-19), 3) := by decide +kernel
theorem dX4_classFor_29 : decode cX4_classFor 29 = .ok (.iconst (-1), 1) := by decide +kernel
theorem dX4_classFor_30 : decode cX4_classFor 30 = .ok (.ireturn, 1) := by decide +kernel
abbrev m_X4_classFor : MD := (yX4_classFor, cX4_classFor, 3, (some .int))

abbrev w_X4_classFor (g : GT) (h0 h1 : Nat) (v0_0 v0_1 v0_3 v0_4 v0_5 v0_6 v0_7 v0_8 v0_10 v0_11 v0_12 : Value) (classes0 : Int32) (classAxles1 : Nat → Int32) : va_W := [(h0, .inr (4, [v0_0, v0_1, .int classes0, v0_3, v0_4, v0_5, v0_6, v0_7, v0_8, .ref h1, v0_10, v0_11, v0_12])), (h1, aI g 4 classAxles1)]
def f_X4_classFor_h7 (F : Nat) (classes0 : Int32) (classAxles1 : Nat → Int32) (k7 : (Int32 × Int32) → Option (Int32)) (x1 x2 : Int32) : Option (Int32) :=
  if x2 < 0 then
    some (-1)
  else
    rd classAxles1 4 x2 fun a2 =>
    if x1 < a2 then
      k7 (x1, x2 + (-1))
    else
      some x2
def f_X4_classFor_L7 (F : Nat) (classes0 : Int32) (classAxles1 : Nat → Int32) (z : Int32 × Int32) : Option (Int32) := lp (fun k z => f_X4_classFor_h7 F classes0 classAxles1 k z.1 z.2) F z
def f_X4_classFor (F : Nat) (p1 classes0 : Int32) (classAxles1 : Nat → Int32) : Option (Int32) :=
  f_X4_classFor_L7 F classes0 classAxles1 (p1, classes0 - 1)
set_option maxHeartbeats 4000000 in
set_option maxRecDepth 100000 in
theorem c_X4_classFor (l : Launch) (g : GT) (F : Nat) (h0 h1 : Nat) (v0_0 v0_1 v0_3 v0_4 v0_5 v0_6 v0_7 v0_8 v0_10 v0_11 v0_12 : Value) (p1 classes0 : Int32) (classAxles1 : Nat → Int32) (r : Int32) (sz : Nat) (hf : f_X4_classFor F p1 classes0 classAxles1 = some r) : CI l m_X4_classFor (rml 0 0 0) g (w_X4_classFor g h0 h1 v0_0 v0_1 v0_3 v0_4 v0_5 v0_6 v0_7 v0_8 v0_10 v0_11 v0_12 classes0 classAxles1) (fun _ => w_X4_classFor g h0 h1 v0_0 v0_1 v0_3 v0_4 v0_5 v0_6 v0_7 v0_8 v0_10 v0_11 v0_12 classes0 classAxles1) sz [.ref h0, .int p1] r := by
  refine en_i (by decide) (Nat.le_of_ble_eq_true rfl) (fun p e s m args below meth c A ls C w hl => ?_)
  have C : Cx p s m args meth c RX4 m_X4_classFor g A := C
  have hx := C.1
  have hb : c.code = cX4_classFor := C.2.1
  have hl : lv_has ls 3 [(0, .ref h0), (1, .int p1)] := hl
  obtain ⟨Q, hQ⟩ : ∃ Q, Q = QI below args s g A (fun _ => w_X4_classFor g h0 h1 v0_0 v0_1 v0_3 v0_4 v0_5 v0_6 v0_7 v0_8 v0_10 v0_11 v0_12 classes0 classAxles1) r 0 0 := ⟨_, rfl⟩
  suffices hW : W p l e (rml 0 0 0) s m args below meth c s.heap [] 0 0 Q (F0 m 0 ls []) from (by rw [hQ] at hW; exact hW)
  unfold f_X4_classFor at hf
  have L7 : ∀ (z : Int32 × Int32), f_X4_classFor_L7 F classes0 classAxles1 z = some r → ∀ (H : Heap) (locs : List Loc) (ls : Array Slot), Wd g A (w_X4_classFor g h0 h1 v0_0 v0_1 v0_3 v0_4 v0_5 v0_6 v0_7 v0_8 v0_10 v0_11 v0_12 classes0 classAxles1) s.heap H locs → lv_has ls 3 [(0, .ref h0), (1, .int z.1), (2, .int z.2)] → W p l e (rml 0 0 0) s m args below meth c H locs 0 0 Q (F0 m 7 ls []) := by
    intro z hf
    refine lp_W (r := r) (fun (z : Int32 × Int32) => ∀ (H : Heap) (locs : List Loc) (ls : Array Slot), Wd g A (w_X4_classFor g h0 h1 v0_0 v0_1 v0_3 v0_4 v0_5 v0_6 v0_7 v0_8 v0_10 v0_11 v0_12 classes0 classAxles1) s.heap H locs → lv_has ls 3 [(0, .ref h0), (1, .int z.1), (2, .int z.2)] → W p l e (rml 0 0 0) s m args below meth c H locs 0 0 Q (F0 m 7 ls [])) (fun k7 z ih7 hf => ?_) F z hf
    obtain ⟨x1, x2⟩ := z
    intro H locs ls w hl
    try dsimp only at hf w hl ⊢
    unfold f_X4_classFor_h7 at hf
    refine lv_iload_n hx hb dX4_classFor_7 rfl (lv_at hl 2 rfl) ?_
    refine lv_if_lt (tgt := 29) hx hb dX4_classFor_8 (by decide) (fun c1 => ?_) (fun c1 => ?_)
    · replace hf := it_t c1 hf
      refine lv_iconst (v := -1) hx hb dX4_classFor_29 (by decide) ?_
      obtain e1 := tp1 hf
      rw [hQ]
      exact rt_i C w rfl (fun _ => 0) rfl e1 dX4_classFor_30
    · replace hf := it_f c1 hf
      refine lv_aload_n hx hb dX4_classFor_11 rfl (lv_at hl 0 rfl) ?_
      refine g_X4_40 C w 0 rfl rfl dX4_classFor_12 ?_
      refine lv_iload_n hx hb dX4_classFor_15 rfl (lv_at hl 2 rfl) ?_
      obtain ⟨a2, hia2, haa2, hf⟩ := rd_some hf
      refine ial C w 1 rfl hia2 haa2 dX4_classFor_16 ?_
      refine lv_iload_n hx hb dX4_classFor_17 rfl (lv_at hl 1 rfl) ?_
      refine lv_icmp_gt (tgt := 23) hx hb dX4_classFor_18 (by decide) (fun c3 => ?_) (fun c3 => ?_)
      · replace hf := it_t c3 hf
        refine lv_iinc (v := x2 + (-1)) (lv' := [(2, .int (x2 + (-1))), (0, .ref h0), (1, .int x1)]) hx hb dX4_classFor_23 hl (k := 2) rfl rfl (by decide) rfl (fun ls hl => ?_)
        refine lv_goto (tgt := 7) hx hb dX4_classFor_26 (by decide) ?_
        exact ih7 (x1, x2 + (-1)) hf _ _ _ w (lv_sub hl [1, 2, 0] rfl)
      · replace hf := it_f c3 hf
        refine lv_iload_n hx hb dX4_classFor_21 rfl (lv_at hl 2 rfl) ?_
        obtain e1 := tp1 hf
        rw [hQ]
        exact rt_i C w rfl (fun _ => 0) rfl e1 dX4_classFor_22
  refine lv_aload_n hx hb dX4_classFor_0 rfl (lv_at hl 0 rfl) ?_
  refine g_X4_18 C w 0 rfl rfl dX4_classFor_1 ?_
  refine lv_iconst (v := 1) hx hb dX4_classFor_4 (by decide) ?_
  refine lv_isub hx hb dX4_classFor_5 ?_
  refine lv_istore_n (lv' := [(2, .int (classes0 - 1)), (0, .ref h0), (1, .int p1)]) hx hb dX4_classFor_6 rfl hl (by decide) rfl (fun ls hl => ?_)
  exact L7 (p1, classes0 - 1) hf _ _ _ w (lv_sub hl [1, 2, 0] rfl)

theorem dX4_priceForClass_0 : decode cX4_priceForClass 0 = .ok (.iload_n 2, 1) := by decide +kernel
theorem dX4_priceForClass_1 : decode cX4_priceForClass 1 = .ok (.ifCond .lt 15, 3) := by decide +kernel
theorem dX4_priceForClass_4 : decode cX4_priceForClass 4 = .ok (.iload_n 2, 1) := by decide +kernel
theorem dX4_priceForClass_5 : decode cX4_priceForClass 5 = .ok (.aload_n 0, 1) := by decide +kernel
theorem dX4_priceForClass_6 : decode cX4_priceForClass 6 = .ok (.getfield 18, 3) := by decide +kernel
theorem dX4_priceForClass_9 : decode cX4_priceForClass 9 = .ok (.if_icmp .ge 7, 3) := by decide +kernel
theorem dX4_priceForClass_12 : decode cX4_priceForClass 12 = .ok (.iconst 1, 1) := by decide +kernel
theorem dX4_priceForClass_13 : decode cX4_priceForClass 13 = .ok (.goto 4, 3) := by decide +kernel
theorem dX4_priceForClass_16 : decode cX4_priceForClass 16 = .ok (.iconst 0, 1) := by decide +kernel
theorem dX4_priceForClass_17 : decode cX4_priceForClass 17 = .ok (.istore_n 3, 1) := by decide +kernel
theorem dX4_priceForClass_18 : decode cX4_priceForClass 18 = .ok (.iload_n 3, 1) := by decide +kernel
theorem dX4_priceForClass_19 : decode cX4_priceForClass 19 = .ok (.ifCond .eq 17, 3) := by decide +kernel
theorem dX4_priceForClass_22 : decode cX4_priceForClass 22 = .ok (.iload_n 1, 1) := by decide +kernel
theorem dX4_priceForClass_23 : decode cX4_priceForClass 23 = .ok (.aload_n 0, 1) := by decide +kernel
theorem dX4_priceForClass_24 : decode cX4_priceForClass 24 = .ok (.getfield 43, 3) := by decide +kernel
theorem dX4_priceForClass_27 : decode cX4_priceForClass 27 = .ok (.iload_n 2, 1) := by decide +kernel
theorem dX4_priceForClass_28 : decode cX4_priceForClass 28 = .ok (.iaload, 1) := by decide +kernel
theorem dX4_priceForClass_29 : decode cX4_priceForClass 29 = .ok (.imul, 1) := by decide +kernel
theorem dX4_priceForClass_30 : decode cX4_priceForClass 30 = .ok (.bipush 100, 2) := by decide +kernel
theorem dX4_priceForClass_32 : decode cX4_priceForClass 32 = .ok (.idiv, 1) := by decide +kernel
theorem dX4_priceForClass_33 : decode cX4_priceForClass 33 = .ok (.goto 4, 3) := by decide +kernel
theorem dX4_priceForClass_36 : decode cX4_priceForClass 36 = .ok (.iload_n 1, 1) := by decide +kernel
theorem dX4_priceForClass_37 : decode cX4_priceForClass 37 = .ok (.ireturn, 1) := by decide +kernel
abbrev m_X4_priceForClass : MD := (yX4_priceForClass, cX4_priceForClass, 4, (some .int))

abbrev w_X4_priceForClass (g : GT) (h0 h1 : Nat) (v0_0 v0_1 v0_3 v0_4 v0_5 v0_6 v0_7 v0_8 v0_9 v0_11 v0_12 : Value) (classes0 : Int32) (classPercent1 : Nat → Int32) : va_W := [(h0, .inr (4, [v0_0, v0_1, .int classes0, v0_3, v0_4, v0_5, v0_6, v0_7, v0_8, v0_9, .ref h1, v0_11, v0_12])), (h1, aI g 4 classPercent1)]
def f_X4_priceForClass_b37 (F : Nat) (classes0 : Int32) (classPercent1 : Nat → Int32) (s0 : Int32) : Option (Int32) :=
  some s0
def f_X4_priceForClass_b17 (F : Nat) (classes0 : Int32) (classPercent1 : Nat → Int32) (x1 x2 s0 : Int32) : Option (Int32) :=
  if s0 = 0 then
    f_X4_priceForClass_b37 F classes0 classPercent1 x1
  else
    rd classPercent1 4 x2 fun a2 =>
    f_X4_priceForClass_b37 F classes0 classPercent1 ((x1 * a2) / 100)
def f_X4_priceForClass_b16 (F : Nat) (classes0 : Int32) (classPercent1 : Nat → Int32) (x1 x2 : Int32) : Option (Int32) :=
  f_X4_priceForClass_b17 F classes0 classPercent1 x1 x2 0
def f_X4_priceForClass (F : Nat) (p1 p2 classes0 : Int32) (classPercent1 : Nat → Int32) : Option (Int32) :=
  if p2 < 0 then
    f_X4_priceForClass_b16 F classes0 classPercent1 p1 p2
  else
    if classes0 ≤ p2 then
      f_X4_priceForClass_b16 F classes0 classPercent1 p1 p2
    else
      f_X4_priceForClass_b17 F classes0 classPercent1 p1 p2 1
set_option maxHeartbeats 4000000 in
set_option maxRecDepth 100000 in
theorem c_X4_priceForClass (l : Launch) (g : GT) (F : Nat) (h0 h1 : Nat) (v0_0 v0_1 v0_3 v0_4 v0_5 v0_6 v0_7 v0_8 v0_9 v0_11 v0_12 : Value) (p1 p2 classes0 : Int32) (classPercent1 : Nat → Int32) (r : Int32) (sz : Nat) (hf : f_X4_priceForClass F p1 p2 classes0 classPercent1 = some r) : CI l m_X4_priceForClass (rml 0 0 0) g (w_X4_priceForClass g h0 h1 v0_0 v0_1 v0_3 v0_4 v0_5 v0_6 v0_7 v0_8 v0_9 v0_11 v0_12 classes0 classPercent1) (fun _ => w_X4_priceForClass g h0 h1 v0_0 v0_1 v0_3 v0_4 v0_5 v0_6 v0_7 v0_8 v0_9 v0_11 v0_12 classes0 classPercent1) sz [.ref h0, .int p1, .int p2] r := by
  refine en_i (by decide) (Nat.le_of_ble_eq_true rfl) (fun p e s m args below meth c A ls C w hl => ?_)
  have C : Cx p s m args meth c RX4 m_X4_priceForClass g A := C
  have hx := C.1
  have hb : c.code = cX4_priceForClass := C.2.1
  have hl : lv_has ls 4 [(0, .ref h0), (1, .int p1), (2, .int p2)] := hl
  obtain ⟨Q, hQ⟩ : ∃ Q, Q = QI below args s g A (fun _ => w_X4_priceForClass g h0 h1 v0_0 v0_1 v0_3 v0_4 v0_5 v0_6 v0_7 v0_8 v0_9 v0_11 v0_12 classes0 classPercent1) r 0 0 := ⟨_, rfl⟩
  suffices hW : W p l e (rml 0 0 0) s m args below meth c s.heap [] 0 0 Q (F0 m 0 ls []) from (by rw [hQ] at hW; exact hW)
  unfold f_X4_priceForClass at hf
  have b37 : ∀ (s0 : Int32) (H : Heap) (locs : List Loc) (ls : Array Slot), f_X4_priceForClass_b37 F classes0 classPercent1 s0 = some r → Wd g A (w_X4_priceForClass g h0 h1 v0_0 v0_1 v0_3 v0_4 v0_5 v0_6 v0_7 v0_8 v0_9 v0_11 v0_12 classes0 classPercent1) s.heap H locs → lv_has ls 4 [] → W p l e (rml 0 0 0) s m args below meth c H locs 0 0 Q (F0 m 37 ls [.int s0]) := by
    intro s0 H locs ls hf w hl
    unfold f_X4_priceForClass_b37 at hf
    obtain e1 := tp1 hf
    rw [hQ]
    exact rt_i C w rfl (fun _ => 0) rfl e1 dX4_priceForClass_37
  have b17 : ∀ (x1 x2 s0 : Int32) (H : Heap) (locs : List Loc) (ls : Array Slot), f_X4_priceForClass_b17 F classes0 classPercent1 x1 x2 s0 = some r → Wd g A (w_X4_priceForClass g h0 h1 v0_0 v0_1 v0_3 v0_4 v0_5 v0_6 v0_7 v0_8 v0_9 v0_11 v0_12 classes0 classPercent1) s.heap H locs → lv_has ls 4 [(0, .ref h0), (1, .int x1), (2, .int x2)] → W p l e (rml 0 0 0) s m args below meth c H locs 0 0 Q (F0 m 17 ls [.int s0]) := by
    intro x1 x2 s0 H locs ls hf w hl
    unfold f_X4_priceForClass_b17 at hf
    refine lv_istore_n (lv' := [(3, .int s0), (0, .ref h0), (1, .int x1), (2, .int x2)]) hx hb dX4_priceForClass_17 rfl hl (by decide) rfl (fun ls hl => ?_)
    refine lv_iload_n hx hb dX4_priceForClass_18 rfl (lv_at hl 0 rfl) ?_
    refine lv_if_eq (tgt := 36) hx hb dX4_priceForClass_19 (by decide) (fun c1 => ?_) (fun c1 => ?_)
    · replace hf := it_t c1 hf
      refine lv_iload_n hx hb dX4_priceForClass_36 rfl (lv_at hl 2 rfl) ?_
      exact b37 x1 _ _ _ hf w (lv_sub hl [] rfl)
    · replace hf := it_f c1 hf
      refine lv_iload_n hx hb dX4_priceForClass_22 rfl (lv_at hl 2 rfl) ?_
      refine lv_aload_n hx hb dX4_priceForClass_23 rfl (lv_at hl 1 rfl) ?_
      refine g_X4_43 C w 0 rfl rfl dX4_priceForClass_24 ?_
      refine lv_iload_n hx hb dX4_priceForClass_27 rfl (lv_at hl 3 rfl) ?_
      obtain ⟨a2, hia2, haa2, hf⟩ := rd_some hf
      refine ial C w 1 rfl hia2 haa2 dX4_priceForClass_28 ?_
      refine lv_imul hx hb dX4_priceForClass_29 ?_
      refine lv_bipush (v := 100) hx hb dX4_priceForClass_30 (by decide) ?_
      refine lv_idiv hx hb dX4_priceForClass_32 (by decide) ?_
      refine lv_goto (tgt := 37) hx hb dX4_priceForClass_33 (by decide) ?_
      exact b37 ((x1 * a2) / 100) _ _ _ hf w (lv_sub hl [] rfl)
  have b16 : ∀ (x1 x2 : Int32) (H : Heap) (locs : List Loc) (ls : Array Slot), f_X4_priceForClass_b16 F classes0 classPercent1 x1 x2 = some r → Wd g A (w_X4_priceForClass g h0 h1 v0_0 v0_1 v0_3 v0_4 v0_5 v0_6 v0_7 v0_8 v0_9 v0_11 v0_12 classes0 classPercent1) s.heap H locs → lv_has ls 4 [(0, .ref h0), (1, .int x1), (2, .int x2)] → W p l e (rml 0 0 0) s m args below meth c H locs 0 0 Q (F0 m 16 ls []) := by
    intro x1 x2 H locs ls hf w hl
    unfold f_X4_priceForClass_b16 at hf
    refine lv_iconst (v := 0) hx hb dX4_priceForClass_16 (by decide) ?_
    exact b17 x1 x2 0 _ _ _ hf w (lv_sub hl [0, 1, 2] rfl)
  refine lv_iload_n hx hb dX4_priceForClass_0 rfl (lv_at hl 2 rfl) ?_
  refine lv_if_lt (tgt := 16) hx hb dX4_priceForClass_1 (by decide) (fun c3 => ?_) (fun c3 => ?_)
  · replace hf := it_t c3 hf
    exact b16 p1 p2 _ _ _ hf w (lv_sub hl [0, 1, 2] rfl)
  · replace hf := it_f c3 hf
    refine lv_iload_n hx hb dX4_priceForClass_4 rfl (lv_at hl 2 rfl) ?_
    refine lv_aload_n hx hb dX4_priceForClass_5 rfl (lv_at hl 0 rfl) ?_
    refine g_X4_18 C w 0 rfl rfl dX4_priceForClass_6 ?_
    refine lv_icmp_ge (tgt := 16) hx hb dX4_priceForClass_9 (by decide) (fun c4 => ?_) (fun c4 => ?_)
    · replace hf := it_t c4 hf
      exact b16 p1 p2 _ _ _ hf w (lv_sub hl [0, 1, 2] rfl)
    · replace hf := it_f c4 hf
      refine lv_iconst (v := 1) hx hb dX4_priceForClass_12 (by decide) ?_
      refine lv_goto (tgt := 17) hx hb dX4_priceForClass_13 (by decide) ?_
      exact b17 p1 p2 1 _ _ _ hf w (lv_sub hl [0, 1, 2] rfl)

theorem dX4_tagWithPlate_0 : decode cX4_tagWithPlate 0 = .ok (.iconst 0, 1) := by decide +kernel
theorem dX4_tagWithPlate_1 : decode cX4_tagWithPlate 1 = .ok (.istore_n 2, 1) := by decide +kernel
theorem dX4_tagWithPlate_2 : decode cX4_tagWithPlate 2 = .ok (.iload_n 2, 1) := by decide +kernel
theorem dX4_tagWithPlate_3 : decode cX4_tagWithPlate 3 = .ok (.aload_n 0, 1) := by decide +kernel
theorem dX4_tagWithPlate_4 : decode cX4_tagWithPlate 4 = .ok (.getfield 21, 3) := by decide +kernel
theorem dX4_tagWithPlate_7 : decode cX4_tagWithPlate 7 = .ok (.if_icmp .ge 21, 3) := by decide +kernel
theorem dX4_tagWithPlate_10 : decode cX4_tagWithPlate 10 = .ok (.aload_n 0, 1) := by decide +kernel
theorem dX4_tagWithPlate_11 : decode cX4_tagWithPlate 11 = .ok (.getfield 46, 3) := by decide +kernel
theorem dX4_tagWithPlate_14 : decode cX4_tagWithPlate 14 = .ok (.iload_n 2, 1) := by decide +kernel
theorem dX4_tagWithPlate_15 : decode cX4_tagWithPlate 15 = .ok (.iaload, 1) := by decide +kernel
theorem dX4_tagWithPlate_16 : decode cX4_tagWithPlate 16 = .ok (.iload_n 1, 1) := by decide +kernel
theorem dX4_tagWithPlate_17 : decode cX4_tagWithPlate 17 = .ok (.if_icmp .ne 5, 3) := by decide +kernel
theorem dX4_tagWithPlate_20 : decode cX4_tagWithPlate 20 = .ok (.iload_n 2, 1) := by decide +kernel
theorem dX4_tagWithPlate_21 : decode cX4_tagWithPlate 21 = .ok (.ireturn, 1) := by decide +kernel
theorem dX4_tagWithPlate_22 : decode cX4_tagWithPlate 22 = .ok (.iinc 2 1, 3) := by decide +kernel
theorem dX4_tagWithPlate_25 : decode cX4_tagWithPlate 25 = .ok (.goto (-23), 3) := by decide +kernel
theorem dX4_tagWithPlate_28 : decode cX4_tagWithPlate 28 = .ok (.iconst (-1), 1) := by decide +kernel
theorem dX4_tagWithPlate_29 : decode cX4_tagWithPlate 29 = .ok (.ireturn, 1) := by decide +kernel
abbrev m_X4_tagWithPlate : MD := (yX4_tagWithPlate, cX4_tagWithPlate, 3, (some .int))

abbrev w_X4_tagWithPlate (g : GT) (h0 h1 : Nat) (v0_0 v0_1 v0_2 v0_4 v0_5 v0_6 v0_7 v0_8 v0_9 v0_10 v0_12 : Value) (tags0 : Int32) (tagPlate1 : Nat → Int32) : va_W := [(h0, .inr (4, [v0_0, v0_1, v0_2, .int tags0, v0_4, v0_5, v0_6, v0_7, v0_8, v0_9, v0_10, .ref h1, v0_12])), (h1, aI g 12 tagPlate1)]
def f_X4_tagWithPlate_h2 (F : Nat) (tags0 : Int32) (tagPlate1 : Nat → Int32) (k2 : (Int32 × Int32) → Option (Int32)) (x1 x2 : Int32) : Option (Int32) :=
  if tags0 ≤ x2 then
    some (-1)
  else
    rd tagPlate1 12 x2 fun a2 =>
    if a2 = x1 then
      some x2
    else
      k2 (x1, x2 + 1)
def f_X4_tagWithPlate_L2 (F : Nat) (tags0 : Int32) (tagPlate1 : Nat → Int32) (z : Int32 × Int32) : Option (Int32) := lp (fun k z => f_X4_tagWithPlate_h2 F tags0 tagPlate1 k z.1 z.2) F z
def f_X4_tagWithPlate (F : Nat) (p1 tags0 : Int32) (tagPlate1 : Nat → Int32) : Option (Int32) :=
  f_X4_tagWithPlate_L2 F tags0 tagPlate1 (p1, 0)
set_option maxHeartbeats 4000000 in
set_option maxRecDepth 100000 in
theorem c_X4_tagWithPlate (l : Launch) (g : GT) (F : Nat) (h0 h1 : Nat) (v0_0 v0_1 v0_2 v0_4 v0_5 v0_6 v0_7 v0_8 v0_9 v0_10 v0_12 : Value) (p1 tags0 : Int32) (tagPlate1 : Nat → Int32) (r : Int32) (sz : Nat) (hf : f_X4_tagWithPlate F p1 tags0 tagPlate1 = some r) : CI l m_X4_tagWithPlate (rml 0 0 0) g (w_X4_tagWithPlate g h0 h1 v0_0 v0_1 v0_2 v0_4 v0_5 v0_6 v0_7 v0_8 v0_9 v0_10 v0_12 tags0 tagPlate1) (fun _ => w_X4_tagWithPlate g h0 h1 v0_0 v0_1 v0_2 v0_4 v0_5 v0_6 v0_7 v0_8 v0_9 v0_10 v0_12 tags0 tagPlate1) sz [.ref h0, .int p1] r := by
  refine en_i (by decide) (Nat.le_of_ble_eq_true rfl) (fun p e s m args below meth c A ls C w hl => ?_)
  have C : Cx p s m args meth c RX4 m_X4_tagWithPlate g A := C
  have hx := C.1
  have hb : c.code = cX4_tagWithPlate := C.2.1
  have hl : lv_has ls 3 [(0, .ref h0), (1, .int p1)] := hl
  obtain ⟨Q, hQ⟩ : ∃ Q, Q = QI below args s g A (fun _ => w_X4_tagWithPlate g h0 h1 v0_0 v0_1 v0_2 v0_4 v0_5 v0_6 v0_7 v0_8 v0_9 v0_10 v0_12 tags0 tagPlate1) r 0 0 := ⟨_, rfl⟩
  suffices hW : W p l e (rml 0 0 0) s m args below meth c s.heap [] 0 0 Q (F0 m 0 ls []) from (by rw [hQ] at hW; exact hW)
  unfold f_X4_tagWithPlate at hf
  have L2 : ∀ (z : Int32 × Int32), f_X4_tagWithPlate_L2 F tags0 tagPlate1 z = some r → ∀ (H : Heap) (locs : List Loc) (ls : Array Slot), Wd g A (w_X4_tagWithPlate g h0 h1 v0_0 v0_1 v0_2 v0_4 v0_5 v0_6 v0_7 v0_8 v0_9 v0_10 v0_12 tags0 tagPlate1) s.heap H locs → lv_has ls 3 [(0, .ref h0), (1, .int z.1), (2, .int z.2)] → W p l e (rml 0 0 0) s m args below meth c H locs 0 0 Q (F0 m 2 ls []) := by
    intro z hf
    refine lp_W (r := r) (fun (z : Int32 × Int32) => ∀ (H : Heap) (locs : List Loc) (ls : Array Slot), Wd g A (w_X4_tagWithPlate g h0 h1 v0_0 v0_1 v0_2 v0_4 v0_5 v0_6 v0_7 v0_8 v0_9 v0_10 v0_12 tags0 tagPlate1) s.heap H locs → lv_has ls 3 [(0, .ref h0), (1, .int z.1), (2, .int z.2)] → W p l e (rml 0 0 0) s m args below meth c H locs 0 0 Q (F0 m 2 ls [])) (fun k2 z ih2 hf => ?_) F z hf
    obtain ⟨x1, x2⟩ := z
    intro H locs ls w hl
    try dsimp only at hf w hl ⊢
    unfold f_X4_tagWithPlate_h2 at hf
    refine lv_iload_n hx hb dX4_tagWithPlate_2 rfl (lv_at hl 2 rfl) ?_
    refine lv_aload_n hx hb dX4_tagWithPlate_3 rfl (lv_at hl 0 rfl) ?_
    refine g_X4_21 C w 0 rfl rfl dX4_tagWithPlate_4 ?_
    refine lv_icmp_ge (tgt := 28) hx hb dX4_tagWithPlate_7 (by decide) (fun c1 => ?_) (fun c1 => ?_)
    · replace hf := it_t c1 hf
      refine lv_iconst (v := -1) hx hb dX4_tagWithPlate_28 (by decide) ?_
      obtain e1 := tp1 hf
      rw [hQ]
      exact rt_i C w rfl (fun _ => 0) rfl e1 dX4_tagWithPlate_29
    · replace hf := it_f c1 hf
      refine lv_aload_n hx hb dX4_tagWithPlate_10 rfl (lv_at hl 0 rfl) ?_
      refine g_X4_46 C w 0 rfl rfl dX4_tagWithPlate_11 ?_
      refine lv_iload_n hx hb dX4_tagWithPlate_14 rfl (lv_at hl 2 rfl) ?_
      obtain ⟨a2, hia2, haa2, hf⟩ := rd_some hf
      refine ial C w 1 rfl hia2 haa2 dX4_tagWithPlate_15 ?_
      refine lv_iload_n hx hb dX4_tagWithPlate_16 rfl (lv_at hl 1 rfl) ?_
      refine lv_icmp_ne (tgt := 22) hx hb dX4_tagWithPlate_17 (by decide) (fun c3 => ?_) (fun c3 => ?_)
      · replace hf := it_f c3 hf
        refine lv_iinc (v := x2 + 1) (lv' := [(2, .int (x2 + 1)), (0, .ref h0), (1, .int x1)]) hx hb dX4_tagWithPlate_22 hl (k := 2) rfl rfl (by decide) rfl (fun ls hl => ?_)
        refine lv_goto (tgt := 2) hx hb dX4_tagWithPlate_25 (by decide) ?_
        exact ih2 (x1, x2 + 1) hf _ _ _ w (lv_sub hl [1, 2, 0] rfl)
      · replace hf := it_t c3 hf
        refine lv_iload_n hx hb dX4_tagWithPlate_20 rfl (lv_at hl 2 rfl) ?_
        obtain e1 := tp1 hf
        rw [hQ]
        exact rt_i C w rfl (fun _ => 0) rfl e1 dX4_tagWithPlate_21
  refine lv_iconst (v := 0) hx hb dX4_tagWithPlate_0 (by decide) ?_
  refine lv_istore_n (lv' := [(2, .int 0), (0, .ref h0), (1, .int p1)]) hx hb dX4_tagWithPlate_1 rfl hl (by decide) rfl (fun ls hl => ?_)
  exact L2 (p1, 0) hf _ _ _ w (lv_sub hl [1, 2, 0] rfl)

theorem dX4_plateOfTag_0 : decode cX4_plateOfTag 0 = .ok (.aload_n 0, 1) := by decide +kernel
theorem dX4_plateOfTag_1 : decode cX4_plateOfTag 1 = .ok (.iload_n 1, 1) := by decide +kernel
theorem dX4_plateOfTag_2 : decode cX4_plateOfTag 2 = .ok (.invokevirtual 62, 3) := by decide +kernel
theorem dX4_plateOfTag_5 : decode cX4_plateOfTag 5 = .ok (.ifCond .eq 12, 3) := by decide +kernel
theorem dX4_plateOfTag_8 : decode cX4_plateOfTag 8 = .ok (.aload_n 0, 1) := by decide +kernel
theorem dX4_plateOfTag_9 : decode cX4_plateOfTag 9 = .ok (.getfield 46, 3) := by decide +kernel
theorem dX4_plateOfTag_12 : decode cX4_plateOfTag 12 = .ok (.iload_n 1, 1) := by decide +kernel
theorem dX4_plateOfTag_13 : decode cX4_plateOfTag 13 = .ok (.iaload, 1) := by decide +kernel
theorem dX4_plateOfTag_14 : decode cX4_plateOfTag 14 = .ok (.goto 4, 3) := by decide +kernel
theorem dX4_plateOfTag_17 : decode cX4_plateOfTag 17 = .ok (.iconst (-1), 1) := by decide +kernel
theorem dX4_plateOfTag_18 : decode cX4_plateOfTag 18 = .ok (.ireturn, 1) := by decide +kernel
abbrev m_X4_plateOfTag : MD := (yX4_plateOfTag, cX4_plateOfTag, 2, (some .int))
theorem q_431 : Cond.code yX4_hasTag cX4_hasTag 2 (some .boolean) ∈ TS := ts_t 431 (by decide +kernel) (by decide +kernel)
theorem q_428 : Cond.methodLink RX4 62 yX4_hasTag ∈ TS := ts_t 428 (by decide +kernel) (by decide +kernel)
theorem q_430 : Cond.instanceMethod yX4_hasTag ∈ TS := ts_t 430 (by decide +kernel) (by decide +kernel)
theorem qs_7 : Cond.selects yX4_hasTag.cls yX4_hasTag yX4_hasTag ∈ TS := ts_s 7 (by decide +kernel) (by decide +kernel)
theorem k_X4_62 : LkV RX4 62 m_X4_hasTag 1 := ⟨q_428, q_430, qs_7, ⟨q_2, q_431, by decide, by decide, by decide +kernel⟩⟩
abbrev w_X4_plateOfTag (g : GT) (h0 h1 : Nat) (v0_0 v0_1 v0_2 v0_4 v0_5 v0_6 v0_7 v0_8 v0_9 v0_10 v0_12 : Value) (tags0 : Int32) (tagPlate1 : Nat → Int32) : va_W := [(h0, .inr (4, [v0_0, v0_1, v0_2, .int tags0, v0_4, v0_5, v0_6, v0_7, v0_8, v0_9, v0_10, .ref h1, v0_12])), (h1, aI g 12 tagPlate1)]
def f_X4_plateOfTag_b18 (F : Nat) (tags0 : Int32) (tagPlate1 : Nat → Int32) (s0 : Int32) : Option (Int32) :=
  some s0
def f_X4_plateOfTag (F : Nat) (p1 tags0 : Int32) (tagPlate1 : Nat → Int32) : Option (Int32) :=
  bd1 (f_X4_hasTag F p1 tags0) fun r1 =>
  if r1 = 0 then
    f_X4_plateOfTag_b18 F tags0 tagPlate1 (-1)
  else
    rd tagPlate1 12 p1 fun a4 =>
    f_X4_plateOfTag_b18 F tags0 tagPlate1 a4
set_option maxHeartbeats 4000000 in
set_option maxRecDepth 100000 in
theorem c_X4_plateOfTag (l : Launch) (g : GT) (F : Nat) (h0 h1 : Nat) (v0_0 v0_1 v0_2 v0_4 v0_5 v0_6 v0_7 v0_8 v0_9 v0_10 v0_12 : Value) (p1 tags0 : Int32) (tagPlate1 : Nat → Int32) (r : Int32) (sz : Nat) (hf : f_X4_plateOfTag F p1 tags0 tagPlate1 = some r) : CI l m_X4_plateOfTag (rml 1 0 0) g (w_X4_plateOfTag g h0 h1 v0_0 v0_1 v0_2 v0_4 v0_5 v0_6 v0_7 v0_8 v0_9 v0_10 v0_12 tags0 tagPlate1) (fun _ => w_X4_plateOfTag g h0 h1 v0_0 v0_1 v0_2 v0_4 v0_5 v0_6 v0_7 v0_8 v0_9 v0_10 v0_12 tags0 tagPlate1) sz [.ref h0, .int p1] r := by
  refine en_i (by decide) (Nat.le_of_ble_eq_true rfl) (fun p e s m args below meth c A ls C w hl => ?_)
  have C : Cx p s m args meth c RX4 m_X4_plateOfTag g A := C
  have hx := C.1
  have hb : c.code = cX4_plateOfTag := C.2.1
  have hl : lv_has ls 2 [(0, .ref h0), (1, .int p1)] := hl
  obtain ⟨Q, hQ⟩ : ∃ Q, Q = QI below args s g A (fun _ => w_X4_plateOfTag g h0 h1 v0_0 v0_1 v0_2 v0_4 v0_5 v0_6 v0_7 v0_8 v0_9 v0_10 v0_12 tags0 tagPlate1) r 0 0 := ⟨_, rfl⟩
  suffices hW : W p l e (rml 1 0 0) s m args below meth c s.heap [] 0 0 Q (F0 m 0 ls []) from (by rw [hQ] at hW; exact hW)
  unfold f_X4_plateOfTag at hf
  have b18 : ∀ (s0 : Int32) (H : Heap) (locs : List Loc) (ls : Array Slot), f_X4_plateOfTag_b18 F tags0 tagPlate1 s0 = some r → Wd g A (w_X4_plateOfTag g h0 h1 v0_0 v0_1 v0_2 v0_4 v0_5 v0_6 v0_7 v0_8 v0_9 v0_10 v0_12 tags0 tagPlate1) s.heap H locs → lv_has ls 2 [] → W p l e (rml 1 0 0) s m args below meth c H locs 0 0 Q (F0 m 18 ls [.int s0]) := by
    intro s0 H locs ls hf w hl
    unfold f_X4_plateOfTag_b18 at hf
    obtain e1 := tp1 hf
    rw [hQ]
    exact rt_i C w rfl (fun _ => 0) rfl e1 dX4_plateOfTag_18
  refine lv_aload_n hx hb dX4_plateOfTag_0 rfl (lv_at hl 0 rfl) ?_
  refine lv_iload_n hx hb dX4_plateOfTag_1 rfl (lv_at hl 1 rfl) ?_
  obtain ⟨r1, hc2, hf⟩ := bd1_some hf
  refine ca_iV C w (wn := fun _ => w_X4_plateOfTag g h0 h1 v0_0 v0_1 v0_2 v0_4 v0_5 v0_6 v0_7 v0_8 v0_9 v0_10 v0_12 tags0 tagPlate1) (pm_k [true, false] rfl rfl (fun _ => Nat.le_of_ble_eq_true rfl) (fun _ => rfl)) (c_X4_hasTag l g F h0 v0_0 v0_1 v0_2 v0_4 v0_5 v0_6 v0_7 v0_8 v0_9 v0_10 (.ref h1) v0_12 p1 tags0 r1 _ hc2) k_X4_62 (rm_le (by decide) (by decide)) 0 4 rfl rfl rfl rfl hl.1 rfl (Nat.le_of_ble_eq_true rfl) dX4_plateOfTag_2 ⟨Nat.le_of_ble_eq_true rfl, Nat.le_of_ble_eq_true rfl⟩ (cells2 := 0) (slots2 := 0) ⟨rfl, rfl⟩ (fun _ H locs w => ?_)
  refine lv_if_eq (tgt := 17) hx hb dX4_plateOfTag_5 (by decide) (fun c3 => ?_) (fun c3 => ?_)
  · replace hf := it_t c3 hf
    refine lv_iconst (v := -1) hx hb dX4_plateOfTag_17 (by decide) ?_
    exact b18 (-1) _ _ _ hf w (lv_sub hl [] rfl)
  · replace hf := it_f c3 hf
    refine lv_aload_n hx hb dX4_plateOfTag_8 rfl (lv_at hl 0 rfl) ?_
    refine g_X4_46 C w 0 rfl rfl dX4_plateOfTag_9 ?_
    refine lv_iload_n hx hb dX4_plateOfTag_12 rfl (lv_at hl 1 rfl) ?_
    obtain ⟨a4, hia4, haa4, hf⟩ := rd_some hf
    refine ial C w 1 rfl hia4 haa4 dX4_plateOfTag_13 ?_
    refine lv_goto (tgt := 18) hx hb dX4_plateOfTag_14 (by decide) ?_
    exact b18 a4 _ _ _ hf w (lv_sub hl [] rfl)

theorem dX4_axlesOfVehicle_0 : decode cX4_axlesOfVehicle 0 = .ok (.aload_n 0, 1) := by decide +kernel
theorem dX4_axlesOfVehicle_1 : decode cX4_axlesOfVehicle 1 = .ok (.iload_n 1, 1) := by decide +kernel
theorem dX4_axlesOfVehicle_2 : decode cX4_axlesOfVehicle 2 = .ok (.invokevirtual 65, 3) := by decide +kernel
theorem dX4_axlesOfVehicle_5 : decode cX4_axlesOfVehicle 5 = .ok (.istore_n 2, 1) := by decide +kernel
theorem dX4_axlesOfVehicle_6 : decode cX4_axlesOfVehicle 6 = .ok (.iload_n 2, 1) := by decide +kernel
theorem dX4_axlesOfVehicle_7 : decode cX4_axlesOfVehicle 7 = .ok (.iconst (-1), 1) := by decide +kernel
theorem dX4_axlesOfVehicle_8 : decode cX4_axlesOfVehicle 8 = .ok (.if_icmp .ne 7, 3) := by decide +kernel
theorem dX4_axlesOfVehicle_11 : decode cX4_axlesOfVehicle 11 = .ok (.iconst 2, 1) := by decide +kernel
theorem dX4_axlesOfVehicle_12 : decode cX4_axlesOfVehicle 12 = .ok (.goto 9, 3) := by decide +kernel
theorem dX4_axlesOfVehicle_15 : decode cX4_axlesOfVehicle 15 = .ok (.aload_n 0, 1) := by decide +kernel
theorem dX4_axlesOfVehicle_16 : decode cX4_axlesOfVehicle 16 = .ok (.getfield 49, 3) := by decide +kernel
theorem dX4_axlesOfVehicle_19 : decode cX4_axlesOfVehicle 19 = .ok (.iload_n 2, 1) := by decide +kernel
theorem dX4_axlesOfVehicle_20 : decode cX4_axlesOfVehicle 20 = .ok (.iaload, 1) := by decide +kernel
theorem dX4_axlesOfVehicle_21 : decode cX4_axlesOfVehicle 21 = .ok (.ireturn, 1) := by decide +kernel
abbrev m_X4_axlesOfVehicle : MD := (yX4_axlesOfVehicle, cX4_axlesOfVehicle, 3, (some .int))
theorem q_439 : Cond.code yX4_tagWithPlate cX4_tagWithPlate 3 (some .int) ∈ TS := ts_t 439 (by decide +kernel) (by decide +kernel)
theorem q_448 : Cond.methodLink RX4 65 yX4_tagWithPlate ∈ TS := ts_t 448 (by decide +kernel) (by decide +kernel)
theorem q_438 : Cond.instanceMethod yX4_tagWithPlate ∈ TS := ts_t 438 (by decide +kernel) (by decide +kernel)
theorem qs_9 : Cond.selects yX4_tagWithPlate.cls yX4_tagWithPlate yX4_tagWithPlate ∈ TS := ts_s 9 (by decide +kernel) (by decide +kernel)
theorem k_X4_65 : LkV RX4 65 m_X4_tagWithPlate 1 := ⟨q_448, q_438, qs_9, ⟨q_2, q_439, by decide, by decide, by decide +kernel⟩⟩
abbrev w_X4_axlesOfVehicle (g : GT) (h0 h1 h2 : Nat) (v0_0 v0_1 v0_2 v0_4 v0_5 v0_6 v0_7 v0_8 v0_9 v0_10 : Value) (tags0 : Int32) (tagAxles1 tagPlate2 : Nat → Int32) : va_W := [(h0, .inr (4, [v0_0, v0_1, v0_2, .int tags0, v0_4, v0_5, v0_6, v0_7, v0_8, v0_9, v0_10, .ref h2, .ref h1])), (h1, aI g 12 tagAxles1), (h2, aI g 12 tagPlate2)]
def f_X4_axlesOfVehicle_b21 (F : Nat) (tags0 : Int32) (tagAxles1 tagPlate2 : Nat → Int32) (s0 : Int32) : Option (Int32) :=
  some s0
def f_X4_axlesOfVehicle (F : Nat) (p1 tags0 : Int32) (tagAxles1 tagPlate2 : Nat → Int32) : Option (Int32) :=
  bd1 (f_X4_tagWithPlate F p1 tags0 tagPlate2) fun r1 =>
  if r1 = (-1) then
    f_X4_axlesOfVehicle_b21 F tags0 tagAxles1 tagPlate2 2
  else
    rd tagAxles1 12 r1 fun a4 =>
    f_X4_axlesOfVehicle_b21 F tags0 tagAxles1 tagPlate2 a4
set_option maxHeartbeats 4000000 in
set_option maxRecDepth 100000 in
theorem c_X4_axlesOfVehicle (l : Launch) (g : GT) (F : Nat) (h0 h1 h2 : Nat) (v0_0 v0_1 v0_2 v0_4 v0_5 v0_6 v0_7 v0_8 v0_9 v0_10 : Value) (p1 tags0 : Int32) (tagAxles1 tagPlate2 : Nat → Int32) (r : Int32) (sz : Nat) (hf : f_X4_axlesOfVehicle F p1 tags0 tagAxles1 tagPlate2 = some r) : CI l m_X4_axlesOfVehicle (rml 1 0 0) g (w_X4_axlesOfVehicle g h0 h1 h2 v0_0 v0_1 v0_2 v0_4 v0_5 v0_6 v0_7 v0_8 v0_9 v0_10 tags0 tagAxles1 tagPlate2) (fun _ => w_X4_axlesOfVehicle g h0 h1 h2 v0_0 v0_1 v0_2 v0_4 v0_5 v0_6 v0_7 v0_8 v0_9 v0_10 tags0 tagAxles1 tagPlate2) sz [.ref h0, .int p1] r := by
  refine en_i (by decide) (Nat.le_of_ble_eq_true rfl) (fun p e s m args below meth c A ls C w hl => ?_)
  have C : Cx p s m args meth c RX4 m_X4_axlesOfVehicle g A := C
  have hx := C.1
  have hb : c.code = cX4_axlesOfVehicle := C.2.1
  have hl : lv_has ls 3 [(0, .ref h0), (1, .int p1)] := hl
  obtain ⟨Q, hQ⟩ : ∃ Q, Q = QI below args s g A (fun _ => w_X4_axlesOfVehicle g h0 h1 h2 v0_0 v0_1 v0_2 v0_4 v0_5 v0_6 v0_7 v0_8 v0_9 v0_10 tags0 tagAxles1 tagPlate2) r 0 0 := ⟨_, rfl⟩
  suffices hW : W p l e (rml 1 0 0) s m args below meth c s.heap [] 0 0 Q (F0 m 0 ls []) from (by rw [hQ] at hW; exact hW)
  unfold f_X4_axlesOfVehicle at hf
  have b21 : ∀ (s0 : Int32) (H : Heap) (locs : List Loc) (ls : Array Slot), f_X4_axlesOfVehicle_b21 F tags0 tagAxles1 tagPlate2 s0 = some r → Wd g A (w_X4_axlesOfVehicle g h0 h1 h2 v0_0 v0_1 v0_2 v0_4 v0_5 v0_6 v0_7 v0_8 v0_9 v0_10 tags0 tagAxles1 tagPlate2) s.heap H locs → lv_has ls 3 [] → W p l e (rml 1 0 0) s m args below meth c H locs 0 0 Q (F0 m 21 ls [.int s0]) := by
    intro s0 H locs ls hf w hl
    unfold f_X4_axlesOfVehicle_b21 at hf
    obtain e1 := tp1 hf
    rw [hQ]
    exact rt_i C w rfl (fun _ => 0) rfl e1 dX4_axlesOfVehicle_21
  refine lv_aload_n hx hb dX4_axlesOfVehicle_0 rfl (lv_at hl 0 rfl) ?_
  refine lv_iload_n hx hb dX4_axlesOfVehicle_1 rfl (lv_at hl 1 rfl) ?_
  obtain ⟨r1, hc2, hf⟩ := bd1_some hf
  refine ca_iV C w (wn := fun _ => w_X4_axlesOfVehicle g h0 h1 h2 v0_0 v0_1 v0_2 v0_4 v0_5 v0_6 v0_7 v0_8 v0_9 v0_10 tags0 tagAxles1 tagPlate2) (pm_k [true, false, true] rfl rfl (fun _ => Nat.le_of_ble_eq_true rfl) (fun _ => rfl)) (c_X4_tagWithPlate l g F h0 h2 v0_0 v0_1 v0_2 v0_4 v0_5 v0_6 v0_7 v0_8 v0_9 v0_10 (.ref h1) p1 tags0 tagPlate2 r1 _ hc2) k_X4_65 (rm_le (by decide) (by decide)) 0 4 rfl rfl rfl rfl hl.1 rfl (Nat.le_of_ble_eq_true rfl) dX4_axlesOfVehicle_2 ⟨Nat.le_of_ble_eq_true rfl, Nat.le_of_ble_eq_true rfl⟩ (cells2 := 0) (slots2 := 0) ⟨rfl, rfl⟩ (fun _ H locs w => ?_)
  refine lv_istore_n (lv' := [(2, .int r1), (0, .ref h0), (1, .int p1)]) hx hb dX4_axlesOfVehicle_5 rfl hl (by decide) rfl (fun ls hl => ?_)
  refine lv_iload_n hx hb dX4_axlesOfVehicle_6 rfl (lv_at hl 0 rfl) ?_
  refine lv_iconst (v := -1) hx hb dX4_axlesOfVehicle_7 (by decide) ?_
  refine lv_icmp_ne (tgt := 15) hx hb dX4_axlesOfVehicle_8 (by decide) (fun c3 => ?_) (fun c3 => ?_)
  · replace hf := it_f c3 hf
    refine lv_aload_n hx hb dX4_axlesOfVehicle_15 rfl (lv_at hl 1 rfl) ?_
    refine g_X4_49 C w 0 rfl rfl dX4_axlesOfVehicle_16 ?_
    refine lv_iload_n hx hb dX4_axlesOfVehicle_19 rfl (lv_at hl 0 rfl) ?_
    obtain ⟨a4, hia4, haa4, hf⟩ := rd_some hf
    refine ial C w 1 rfl hia4 haa4 dX4_axlesOfVehicle_20 ?_
    exact b21 a4 _ _ _ hf w (lv_sub hl [] rfl)
  · replace hf := it_t c3 hf
    refine lv_iconst (v := 2) hx hb dX4_axlesOfVehicle_11 (by decide) ?_
    refine lv_goto (tgt := 21) hx hb dX4_axlesOfVehicle_12 (by decide) ?_
    exact b21 2 _ _ _ hf w (lv_sub hl [] rfl)

theorem dX4_feeFor_0 : decode cX4_feeFor 0 = .ok (.aload_n 0, 1) := by decide +kernel
theorem dX4_feeFor_1 : decode cX4_feeFor 1 = .ok (.iload_n 1, 1) := by decide +kernel
theorem dX4_feeFor_2 : decode cX4_feeFor 2 = .ok (.invokevirtual 65, 3) := by decide +kernel
theorem dX4_feeFor_5 : decode cX4_feeFor 5 = .ok (.iconst (-1), 1) := by decide +kernel
theorem dX4_feeFor_6 : decode cX4_feeFor 6 = .ok (.if_icmp .ne 10, 3) := by decide +kernel
theorem dX4_feeFor_9 : decode cX4_feeFor 9 = .ok (.aload_n 0, 1) := by decide +kernel
theorem dX4_feeFor_10 : decode cX4_feeFor 10 = .ok (.getfield 30, 3) := by decide +kernel
theorem dX4_feeFor_13 : decode cX4_feeFor 13 = .ok (.goto 4, 3) := by decide +kernel
theorem dX4_feeFor_16 : decode cX4_feeFor 16 = .ok (.iconst 0, 1) := by decide +kernel
theorem dX4_feeFor_17 : decode cX4_feeFor 17 = .ok (.ireturn, 1) := by decide +kernel
abbrev m_X4_feeFor : MD := (yX4_feeFor, cX4_feeFor, 2, (some .int))
theorem g_X4_30 {p : Program} {l : Launch} {e : Env} {R : Room} {s : State} {m : MethodId} {args : Array Value} {below : List Frame} {meth : Method} {c : Code} {H : Heap} {locs : List Loc} {cells slots : Nat} {Q : State → Prop} {d : MD} {g : GT} {A : Nat → Prop} {ws : va_W} {pc : Nat} {ls : Array Slot} {rest : List Value} (C : Cx p s m args meth c RX4 d g A) (w : Wd g A ws s.heap H locs) (q0 : Nat) {a : Nat} {fs : List Value} {v : Value} (he : ws[q0]? = some (a, .inr (4, fs))) (hv : fs[6]? = some v) (hd : decode d.2.1 pc = .ok (.getfield 30, 3)) (kk : W p l e R s m args below meth c H locs cells slots Q (F0 m (pc + 3) ls (v :: rest))) : W p l e R s m args below meth c H locs cells slots Q (F0 m pc ls (.ref a :: rest)) := fg C w inX4s (ref := RX4) rfl 6 (by decide) (ts_t (w := Cond.fieldLink RX4 30 RX4 (TX4 6).2.1 (TX4 6).2.2.1) 57 (by decide +kernel) (by decide +kernel)) rfl q0 he hv hd kk
abbrev w_X4_feeFor (g : GT) (h0 h1 : Nat) (v0_0 v0_1 v0_2 v0_4 v0_5 v0_7 v0_8 v0_9 v0_10 v0_12 : Value) (tags0 fee0 : Int32) (tagPlate1 : Nat → Int32) : va_W := [(h0, .inr (4, [v0_0, v0_1, v0_2, .int tags0, v0_4, v0_5, .int fee0, v0_7, v0_8, v0_9, v0_10, .ref h1, v0_12])), (h1, aI g 12 tagPlate1)]
def f_X4_feeFor_b17 (F : Nat) (tags0 fee0 : Int32) (tagPlate1 : Nat → Int32) (s0 : Int32) : Option (Int32) :=
  some s0
def f_X4_feeFor (F : Nat) (p1 tags0 fee0 : Int32) (tagPlate1 : Nat → Int32) : Option (Int32) :=
  bd1 (f_X4_tagWithPlate F p1 tags0 tagPlate1) fun r1 =>
  if r1 = (-1) then
    f_X4_feeFor_b17 F tags0 fee0 tagPlate1 fee0
  else
    f_X4_feeFor_b17 F tags0 fee0 tagPlate1 0
set_option maxHeartbeats 4000000 in
set_option maxRecDepth 100000 in
theorem c_X4_feeFor (l : Launch) (g : GT) (F : Nat) (h0 h1 : Nat) (v0_0 v0_1 v0_2 v0_4 v0_5 v0_7 v0_8 v0_9 v0_10 v0_12 : Value) (p1 tags0 fee0 : Int32) (tagPlate1 : Nat → Int32) (r : Int32) (sz : Nat) (hf : f_X4_feeFor F p1 tags0 fee0 tagPlate1 = some r) : CI l m_X4_feeFor (rml 1 0 0) g (w_X4_feeFor g h0 h1 v0_0 v0_1 v0_2 v0_4 v0_5 v0_7 v0_8 v0_9 v0_10 v0_12 tags0 fee0 tagPlate1) (fun _ => w_X4_feeFor g h0 h1 v0_0 v0_1 v0_2 v0_4 v0_5 v0_7 v0_8 v0_9 v0_10 v0_12 tags0 fee0 tagPlate1) sz [.ref h0, .int p1] r := by
  refine en_i (by decide) (Nat.le_of_ble_eq_true rfl) (fun p e s m args below meth c A ls C w hl => ?_)
  have C : Cx p s m args meth c RX4 m_X4_feeFor g A := C
  have hx := C.1
  have hb : c.code = cX4_feeFor := C.2.1
  have hl : lv_has ls 2 [(0, .ref h0), (1, .int p1)] := hl
  obtain ⟨Q, hQ⟩ : ∃ Q, Q = QI below args s g A (fun _ => w_X4_feeFor g h0 h1 v0_0 v0_1 v0_2 v0_4 v0_5 v0_7 v0_8 v0_9 v0_10 v0_12 tags0 fee0 tagPlate1) r 0 0 := ⟨_, rfl⟩
  suffices hW : W p l e (rml 1 0 0) s m args below meth c s.heap [] 0 0 Q (F0 m 0 ls []) from (by rw [hQ] at hW; exact hW)
  unfold f_X4_feeFor at hf
  have b17 : ∀ (s0 : Int32) (H : Heap) (locs : List Loc) (ls : Array Slot), f_X4_feeFor_b17 F tags0 fee0 tagPlate1 s0 = some r → Wd g A (w_X4_feeFor g h0 h1 v0_0 v0_1 v0_2 v0_4 v0_5 v0_7 v0_8 v0_9 v0_10 v0_12 tags0 fee0 tagPlate1) s.heap H locs → lv_has ls 2 [] → W p l e (rml 1 0 0) s m args below meth c H locs 0 0 Q (F0 m 17 ls [.int s0]) := by
    intro s0 H locs ls hf w hl
    unfold f_X4_feeFor_b17 at hf
    obtain e1 := tp1 hf
    rw [hQ]
    exact rt_i C w rfl (fun _ => 0) rfl e1 dX4_feeFor_17
  refine lv_aload_n hx hb dX4_feeFor_0 rfl (lv_at hl 0 rfl) ?_
  refine lv_iload_n hx hb dX4_feeFor_1 rfl (lv_at hl 1 rfl) ?_
  obtain ⟨r1, hc2, hf⟩ := bd1_some hf
  refine ca_iV C w (wn := fun _ => w_X4_feeFor g h0 h1 v0_0 v0_1 v0_2 v0_4 v0_5 v0_7 v0_8 v0_9 v0_10 v0_12 tags0 fee0 tagPlate1) (pm_k [true, true] rfl rfl (fun _ => Nat.le_of_ble_eq_true rfl) (fun _ => rfl)) (c_X4_tagWithPlate l g F h0 h1 v0_0 v0_1 v0_2 v0_4 v0_5 (.int fee0) v0_7 v0_8 v0_9 v0_10 v0_12 p1 tags0 tagPlate1 r1 _ hc2) k_X4_65 (rm_le (by decide) (by decide)) 0 4 rfl rfl rfl rfl hl.1 rfl (Nat.le_of_ble_eq_true rfl) dX4_feeFor_2 ⟨Nat.le_of_ble_eq_true rfl, Nat.le_of_ble_eq_true rfl⟩ (cells2 := 0) (slots2 := 0) ⟨rfl, rfl⟩ (fun _ H locs w => ?_)
  refine lv_iconst (v := -1) hx hb dX4_feeFor_5 (by decide) ?_
  refine lv_icmp_ne (tgt := 16) hx hb dX4_feeFor_6 (by decide) (fun c3 => ?_) (fun c3 => ?_)
  · replace hf := it_f c3 hf
    refine lv_iconst (v := 0) hx hb dX4_feeFor_16 (by decide) ?_
    exact b17 0 _ _ _ hf w (lv_sub hl [] rfl)
  · replace hf := it_t c3 hf
    refine lv_aload_n hx hb dX4_feeFor_9 rfl (lv_at hl 0 rfl) ?_
    refine g_X4_30 C w 0 rfl rfl dX4_feeFor_10 ?_
    refine lv_goto (tgt := 17) hx hb dX4_feeFor_13 (by decide) ?_
    exact b17 fee0 _ _ _ hf w (lv_sub hl [] rfl)

theorem dX4_lowerPrice_0 : decode cX4_lowerPrice 0 = .ok (.iload_n 1, 1) := by decide +kernel
theorem dX4_lowerPrice_1 : decode cX4_lowerPrice 1 = .ok (.ifCond .le 16, 3) := by decide +kernel
theorem dX4_lowerPrice_4 : decode cX4_lowerPrice 4 = .ok (.iload_n 0, 1) := by decide +kernel
theorem dX4_lowerPrice_5 : decode cX4_lowerPrice 5 = .ok (.ifCond .eq 8, 3) := by decide +kernel
theorem dX4_lowerPrice_8 : decode cX4_lowerPrice 8 = .ok (.iload_n 1, 1) := by decide +kernel
theorem dX4_lowerPrice_9 : decode cX4_lowerPrice 9 = .ok (.iload_n 0, 1) := by decide +kernel
theorem dX4_lowerPrice_10 : decode cX4_lowerPrice 10 = .ok (.if_icmp .ge 7, 3) := by decide +kernel
theorem dX4_lowerPrice_13 : decode cX4_lowerPrice 13 = .ok (.iload_n 1, 1) := by decide +kernel
theorem dX4_lowerPrice_14 : decode cX4_lowerPrice 14 = .ok (.goto 4, 3) := by decide +kernel
theorem dX4_lowerPrice_17 : decode cX4_lowerPrice 17 = .ok (.iload_n 0, 1) := by decide +kernel
theorem dX4_lowerPrice_18 : decode cX4_lowerPrice 18 = .ok (.ireturn, 1) := by decide +kernel
abbrev m_X4_lowerPrice : MD := (yX4_lowerPrice, cX4_lowerPrice, 2, (some .int))

abbrev w_X4_lowerPrice (g : GT) : va_W := []
def f_X4_lowerPrice_b18 (F : Nat) (s0 : Int32) : Option (Int32) :=
  some s0
def f_X4_lowerPrice_b17 (F : Nat) (x0 : Int32) : Option (Int32) :=
  f_X4_lowerPrice_b18 F x0
def f_X4_lowerPrice_b13 (F : Nat) (x1 : Int32) : Option (Int32) :=
  f_X4_lowerPrice_b18 F x1
def f_X4_lowerPrice (F : Nat) (p0 p1 : Int32) : Option (Int32) :=
  if p1 ≤ 0 then
    f_X4_lowerPrice_b17 F p0
  else
    if p0 = 0 then
      f_X4_lowerPrice_b13 F p1
    else
      if p0 ≤ p1 then
        f_X4_lowerPrice_b17 F p0
      else
        f_X4_lowerPrice_b13 F p1
set_option maxHeartbeats 4000000 in
set_option maxRecDepth 100000 in
theorem c_X4_lowerPrice (l : Launch) (g : GT) (F : Nat) (p0 p1 : Int32) (r : Int32) (sz : Nat) (hf : f_X4_lowerPrice F p0 p1 = some r) : CI l m_X4_lowerPrice (rml 0 0 0) g (w_X4_lowerPrice g) (fun _ => w_X4_lowerPrice g) sz [.int p0, .int p1] r := by
  refine en_i (by decide) (Nat.le_of_ble_eq_true rfl) (fun p e s m args below meth c A ls C w hl => ?_)
  have C : Cx p s m args meth c RX4 m_X4_lowerPrice g A := C
  have hx := C.1
  have hb : c.code = cX4_lowerPrice := C.2.1
  have hl : lv_has ls 2 [(0, .int p0), (1, .int p1)] := hl
  obtain ⟨Q, hQ⟩ : ∃ Q, Q = QI below args s g A (fun _ => w_X4_lowerPrice g) r 0 0 := ⟨_, rfl⟩
  suffices hW : W p l e (rml 0 0 0) s m args below meth c s.heap [] 0 0 Q (F0 m 0 ls []) from (by rw [hQ] at hW; exact hW)
  unfold f_X4_lowerPrice at hf
  have b18 : ∀ (s0 : Int32) (H : Heap) (locs : List Loc) (ls : Array Slot), f_X4_lowerPrice_b18 F s0 = some r → Wd g A (w_X4_lowerPrice g) s.heap H locs → lv_has ls 2 [] → W p l e (rml 0 0 0) s m args below meth c H locs 0 0 Q (F0 m 18 ls [.int s0]) := by
    intro s0 H locs ls hf w hl
    unfold f_X4_lowerPrice_b18 at hf
    obtain e1 := tp1 hf
    rw [hQ]
    exact rt_i C w rfl (fun _ => 0) rfl e1 dX4_lowerPrice_18
  have b17 : ∀ (x0 : Int32) (H : Heap) (locs : List Loc) (ls : Array Slot), f_X4_lowerPrice_b17 F x0 = some r → Wd g A (w_X4_lowerPrice g) s.heap H locs → lv_has ls 2 [(0, .int x0)] → W p l e (rml 0 0 0) s m args below meth c H locs 0 0 Q (F0 m 17 ls []) := by
    intro x0 H locs ls hf w hl
    unfold f_X4_lowerPrice_b17 at hf
    refine lv_iload_n hx hb dX4_lowerPrice_17 rfl (lv_at hl 0 rfl) ?_
    exact b18 x0 _ _ _ hf w (lv_sub hl [] rfl)
  have b13 : ∀ (x1 : Int32) (H : Heap) (locs : List Loc) (ls : Array Slot), f_X4_lowerPrice_b13 F x1 = some r → Wd g A (w_X4_lowerPrice g) s.heap H locs → lv_has ls 2 [(1, .int x1)] → W p l e (rml 0 0 0) s m args below meth c H locs 0 0 Q (F0 m 13 ls []) := by
    intro x1 H locs ls hf w hl
    unfold f_X4_lowerPrice_b13 at hf
    refine lv_iload_n hx hb dX4_lowerPrice_13 rfl (lv_at hl 0 rfl) ?_
    refine lv_goto (tgt := 18) hx hb dX4_lowerPrice_14 (by decide) ?_
    exact b18 x1 _ _ _ hf w (lv_sub hl [] rfl)
  refine lv_iload_n hx hb dX4_lowerPrice_0 rfl (lv_at hl 1 rfl) ?_
  refine lv_if_le (tgt := 17) hx hb dX4_lowerPrice_1 (by decide) (fun c1 => ?_) (fun c1 => ?_)
  · replace hf := it_t c1 hf
    exact b17 p0 _ _ _ hf w (lv_sub hl [0] rfl)
  · replace hf := it_f c1 hf
    refine lv_iload_n hx hb dX4_lowerPrice_4 rfl (lv_at hl 0 rfl) ?_
    refine lv_if_eq (tgt := 13) hx hb dX4_lowerPrice_5 (by decide) (fun c2 => ?_) (fun c2 => ?_)
    · replace hf := it_t c2 hf
      exact b13 p1 _ _ _ hf w (lv_sub hl [1] rfl)
    · replace hf := it_f c2 hf
      refine lv_iload_n hx hb dX4_lowerPrice_8 rfl (lv_at hl 1 rfl) ?_
      refine lv_iload_n hx hb dX4_lowerPrice_9 rfl (lv_at hl 0 rfl) ?_
      refine lv_icmp_ge (tgt := 17) hx hb dX4_lowerPrice_10 (by decide) (fun c3 => ?_) (fun c3 => ?_)
      · replace hf := it_t c3 hf
        exact b17 p0 _ _ _ hf w (lv_sub hl [0] rfl)
      · replace hf := it_f c3 hf
        exact b13 p1 _ _ _ hf w (lv_sub hl [1] rfl)

theorem dX4_lowestPriceAt_0 : decode cX4_lowestPriceAt 0 = .ok (.iconst 0, 1) := by decide +kernel
theorem dX4_lowestPriceAt_1 : decode cX4_lowestPriceAt 1 = .ok (.istore_n 2, 1) := by decide +kernel
theorem dX4_lowestPriceAt_2 : decode cX4_lowestPriceAt 2 = .ok (.iconst 0, 1) := by decide +kernel
theorem dX4_lowestPriceAt_3 : decode cX4_lowestPriceAt 3 = .ok (.istore_n 3, 1) := by decide +kernel
theorem dX4_lowestPriceAt_4 : decode cX4_lowestPriceAt 4 = .ok (.iload_n 3, 1) := by decide +kernel
theorem dX4_lowestPriceAt_5 : decode cX4_lowestPriceAt 5 = .ok (.aload_n 0, 1) := by decide +kernel
theorem dX4_lowestPriceAt_6 : decode cX4_lowestPriceAt 6 = .ok (.getfield 9, 3) := by decide +kernel
theorem dX4_lowestPriceAt_9 : decode cX4_lowestPriceAt 9 = .ok (.if_icmp .ge 31, 3) := by decide +kernel
theorem dX4_lowestPriceAt_12 : decode cX4_lowestPriceAt 12 = .ok (.iload_n 2, 1) := by decide +kernel
theorem dX4_lowestPriceAt_13 : decode cX4_lowestPriceAt 13 = .ok (.aload_n 0, 1) := by decide +kernel
theorem dX4_lowestPriceAt_14 : decode cX4_lowestPriceAt 14 = .ok (.iload_n 1, 1) := by decide +kernel
theorem dX4_lowestPriceAt_15 : decode cX4_lowestPriceAt 15 = .ok (.iload_n 3, 1) := by decide +kernel
theorem dX4_lowestPriceAt_16 : decode cX4_lowestPriceAt 16 = .ok (.invokevirtual 69, 3) := by decide +kernel
theorem dX4_lowestPriceAt_19 : decode cX4_lowestPriceAt 19 = .ok (.invokestatic 73, 3) := by decide +kernel
theorem dX4_lowestPriceAt_22 : decode cX4_lowestPriceAt 22 = .ok (.istore_n 2, 1) := by decide +kernel
theorem dX4_lowestPriceAt_23 : decode cX4_lowestPriceAt 23 = .ok (.iload_n 2, 1) := by decide +kernel
theorem dX4_lowestPriceAt_24 : decode cX4_lowestPriceAt 24 = .ok (.aload_n 0, 1) := by decide +kernel
theorem dX4_lowestPriceAt_25 : decode cX4_lowestPriceAt 25 = .ok (.iload_n 3, 1) := by decide +kernel
theorem dX4_lowestPriceAt_26 : decode cX4_lowestPriceAt 26 = .ok (.iload_n 1, 1) := by decide +kernel
theorem dX4_lowestPriceAt_27 : decode cX4_lowestPriceAt 27 = .ok (.invokevirtual 69, 3) := by decide +kernel
theorem dX4_lowestPriceAt_30 : decode cX4_lowestPriceAt 30 = .ok (.invokestatic 73, 3) := by decide +kernel
theorem dX4_lowestPriceAt_33 : decode cX4_lowestPriceAt 33 = .ok (.istore_n 2, 1) := by decide +kernel
theorem dX4_lowestPriceAt_34 : decode cX4_lowestPriceAt 34 = .ok (.iinc 3 1, 3) := by decide +kernel
theorem dX4_lowestPriceAt_37 : decode cX4_lowestPriceAt 37 = .ok (.goto (-33), 3) := by decide +kernel
theorem dX4_lowestPriceAt_40 : decode cX4_lowestPriceAt 40 = .ok (.iload_n 2, 1) := by decide +kernel
theorem dX4_lowestPriceAt_41 : decode cX4_lowestPriceAt 41 = .ok (.ireturn, 1) := by decide +kernel
abbrev m_X4_lowestPriceAt : MD := (yX4_lowestPriceAt, cX4_lowestPriceAt, 4, (some .int))
theorem q_808 : Cond.code yX4_priceOf cX4_priceOf 4 (some .int) ∈ TS := ts_t 808 (by decide +kernel) (by decide +kernel)
theorem q_963 : Cond.methodLink RX4 69 yX4_priceOf ∈ TS := ts_t 963 (by decide +kernel) (by decide +kernel)
theorem q_807 : Cond.instanceMethod yX4_priceOf ∈ TS := ts_t 807 (by decide +kernel) (by decide +kernel)
theorem qs_53 : Cond.selects yX4_priceOf.cls yX4_priceOf yX4_priceOf ∈ TS := ts_s 53 (by decide +kernel) (by decide +kernel)
theorem k_X4_69 : LkV RX4 69 m_X4_priceOf 2 := ⟨q_963, q_807, qs_53, ⟨q_2, q_808, by decide, by decide, by decide +kernel⟩⟩
theorem q_966 : Cond.code yX4_lowerPrice cX4_lowerPrice 2 (some .int) ∈ TS := ts_t 966 (by decide +kernel) (by decide +kernel)
theorem q_964 : Cond.methodLink RX4 73 yX4_lowerPrice ∈ TS := ts_t 964 (by decide +kernel) (by decide +kernel)
theorem q_965 : Cond.static yX4_lowerPrice ∈ TS := ts_t 965 (by decide +kernel) (by decide +kernel)
theorem k_X4_73 : LkS RX4 73 m_X4_lowerPrice 2 := ⟨q_964, q_965, ⟨q_2, q_966, by decide, by decide, by decide +kernel⟩⟩
abbrev w_X4_lowestPriceAt (g : GT) (h0 h1 : Nat) (v0_1 v0_2 v0_3 v0_4 v0_5 v0_6 v0_7 v0_9 v0_10 v0_11 v0_12 : Value) (gantries0 : Int32) (linkPrice1 : Nat → Int32) : va_W := [(h0, .inr (4, [.int gantries0, v0_1, v0_2, v0_3, v0_4, v0_5, v0_6, v0_7, .ref h1, v0_9, v0_10, v0_11, v0_12])), (h1, aI g 100 linkPrice1)]
def f_X4_lowestPriceAt_h4 (F : Nat) (gantries0 : Int32) (linkPrice1 : Nat → Int32) (k4 : (Int32 × Int32 × Int32) → Option (Int32)) (x1 x2 x3 : Int32) : Option (Int32) :=
  if gantries0 ≤ x3 then
    some x2
  else
    bd1 (f_X4_priceOf F x1 x3 gantries0 linkPrice1) fun r2 =>
    bd1 (f_X4_lowerPrice F x2 r2) fun r4 =>
    bd1 (f_X4_priceOf F x3 x1 gantries0 linkPrice1) fun r6 =>
    bd1 (f_X4_lowerPrice F r4 r6) fun r8 =>
    k4 (x1, r8, x3 + 1)
def f_X4_lowestPriceAt_L4 (F : Nat) (gantries0 : Int32) (linkPrice1 : Nat → Int32) (z : Int32 × Int32 × Int32) : Option (Int32) := lp (fun k z => f_X4_lowestPriceAt_h4 F gantries0 linkPrice1 k z.1 z.2.1 z.2.2) F z
def f_X4_lowestPriceAt (F : Nat) (p1 gantries0 : Int32) (linkPrice1 : Nat → Int32) : Option (Int32) :=
  f_X4_lowestPriceAt_L4 F gantries0 linkPrice1 (p1, 0, 0)
set_option maxHeartbeats 4000000 in
set_option maxRecDepth 100000 in
theorem c_X4_lowestPriceAt (l : Launch) (g : GT) (F : Nat) (h0 h1 : Nat) (v0_1 v0_2 v0_3 v0_4 v0_5 v0_6 v0_7 v0_9 v0_10 v0_11 v0_12 : Value) (p1 gantries0 : Int32) (linkPrice1 : Nat → Int32) (r : Int32) (sz : Nat) (hf : f_X4_lowestPriceAt F p1 gantries0 linkPrice1 = some r) : CI l m_X4_lowestPriceAt (rml 1 0 0) g (w_X4_lowestPriceAt g h0 h1 v0_1 v0_2 v0_3 v0_4 v0_5 v0_6 v0_7 v0_9 v0_10 v0_11 v0_12 gantries0 linkPrice1) (fun _ => w_X4_lowestPriceAt g h0 h1 v0_1 v0_2 v0_3 v0_4 v0_5 v0_6 v0_7 v0_9 v0_10 v0_11 v0_12 gantries0 linkPrice1) sz [.ref h0, .int p1] r := by
  refine en_i (by decide) (Nat.le_of_ble_eq_true rfl) (fun p e s m args below meth c A ls C w hl => ?_)
  have C : Cx p s m args meth c RX4 m_X4_lowestPriceAt g A := C
  have hx := C.1
  have hb : c.code = cX4_lowestPriceAt := C.2.1
  have hl : lv_has ls 4 [(0, .ref h0), (1, .int p1)] := hl
  obtain ⟨Q, hQ⟩ : ∃ Q, Q = QI below args s g A (fun _ => w_X4_lowestPriceAt g h0 h1 v0_1 v0_2 v0_3 v0_4 v0_5 v0_6 v0_7 v0_9 v0_10 v0_11 v0_12 gantries0 linkPrice1) r 0 0 := ⟨_, rfl⟩
  suffices hW : W p l e (rml 1 0 0) s m args below meth c s.heap [] 0 0 Q (F0 m 0 ls []) from (by rw [hQ] at hW; exact hW)
  unfold f_X4_lowestPriceAt at hf
  have L4 : ∀ (z : Int32 × Int32 × Int32), f_X4_lowestPriceAt_L4 F gantries0 linkPrice1 z = some r → ∀ (H : Heap) (locs : List Loc) (ls : Array Slot), Wd g A (w_X4_lowestPriceAt g h0 h1 v0_1 v0_2 v0_3 v0_4 v0_5 v0_6 v0_7 v0_9 v0_10 v0_11 v0_12 gantries0 linkPrice1) s.heap H locs → lv_has ls 4 [(0, .ref h0), (1, .int z.1), (2, .int z.2.1), (3, .int z.2.2)] → W p l e (rml 1 0 0) s m args below meth c H locs 0 0 Q (F0 m 4 ls []) := by
    intro z hf
    refine lp_W (r := r) (fun (z : Int32 × Int32 × Int32) => ∀ (H : Heap) (locs : List Loc) (ls : Array Slot), Wd g A (w_X4_lowestPriceAt g h0 h1 v0_1 v0_2 v0_3 v0_4 v0_5 v0_6 v0_7 v0_9 v0_10 v0_11 v0_12 gantries0 linkPrice1) s.heap H locs → lv_has ls 4 [(0, .ref h0), (1, .int z.1), (2, .int z.2.1), (3, .int z.2.2)] → W p l e (rml 1 0 0) s m args below meth c H locs 0 0 Q (F0 m 4 ls [])) (fun k4 z ih4 hf => ?_) F z hf
    obtain ⟨x1, x2, x3⟩ := z
    intro H locs ls w hl
    try dsimp only at hf w hl ⊢
    unfold f_X4_lowestPriceAt_h4 at hf
    refine lv_iload_n hx hb dX4_lowestPriceAt_4 rfl (lv_at hl 3 rfl) ?_
    refine lv_aload_n hx hb dX4_lowestPriceAt_5 rfl (lv_at hl 0 rfl) ?_
    refine g_X4_9 C w 0 rfl rfl dX4_lowestPriceAt_6 ?_
    refine lv_icmp_ge (tgt := 40) hx hb dX4_lowestPriceAt_9 (by decide) (fun c1 => ?_) (fun c1 => ?_)
    · replace hf := it_t c1 hf
      refine lv_iload_n hx hb dX4_lowestPriceAt_40 rfl (lv_at hl 2 rfl) ?_
      obtain e1 := tp1 hf
      rw [hQ]
      exact rt_i C w rfl (fun _ => 0) rfl e1 dX4_lowestPriceAt_41
    · replace hf := it_f c1 hf
      refine lv_iload_n hx hb dX4_lowestPriceAt_12 rfl (lv_at hl 2 rfl) ?_
      refine lv_aload_n hx hb dX4_lowestPriceAt_13 rfl (lv_at hl 0 rfl) ?_
      refine lv_iload_n hx hb dX4_lowestPriceAt_14 rfl (lv_at hl 1 rfl) ?_
      refine lv_iload_n hx hb dX4_lowestPriceAt_15 rfl (lv_at hl 3 rfl) ?_
      obtain ⟨r2, hc3, hf⟩ := bd1_some hf
      refine ca_iV C w (wn := fun _ => w_X4_lowestPriceAt g h0 h1 v0_1 v0_2 v0_3 v0_4 v0_5 v0_6 v0_7 v0_9 v0_10 v0_11 v0_12 gantries0 linkPrice1) (pm_k [true, true] rfl rfl (fun _ => Nat.le_of_ble_eq_true rfl) (fun _ => rfl)) (c_X4_priceOf l g F h0 h1 v0_1 v0_2 v0_3 v0_4 v0_5 v0_6 v0_7 v0_9 v0_10 v0_11 v0_12 x1 x3 gantries0 linkPrice1 r2 _ hc3) k_X4_69 (rm_le (by decide) (by decide)) 0 4 rfl rfl rfl rfl hl.1 rfl (Nat.le_of_ble_eq_true rfl) dX4_lowestPriceAt_16 ⟨Nat.le_of_ble_eq_true rfl, Nat.le_of_ble_eq_true rfl⟩ (cells2 := 0) (slots2 := 0) ⟨rfl, rfl⟩ (fun _ H locs w => ?_)
      obtain ⟨r4, hc5, hf⟩ := bd1_some hf
      refine ca_iS C w (wn := fun _ => w_X4_lowestPriceAt g h0 h1 v0_1 v0_2 v0_3 v0_4 v0_5 v0_6 v0_7 v0_9 v0_10 v0_11 v0_12 gantries0 linkPrice1) (pm_k [false, false] rfl rfl (fun _ => Nat.le_of_ble_eq_true rfl) (fun _ => rfl)) (c_X4_lowerPrice l g F x2 r2 r4 _ hc5) k_X4_73 (rm_le (by decide) (by decide)) rfl hl.1 rfl (Nat.le_of_ble_eq_true rfl) dX4_lowestPriceAt_19 ⟨Nat.le_of_ble_eq_true rfl, Nat.le_of_ble_eq_true rfl⟩ (cells2 := 0) (slots2 := 0) ⟨rfl, rfl⟩ (fun _ H locs w => ?_)
      refine lv_istore_n (lv' := [(2, .int r4), (0, .ref h0), (1, .int x1), (3, .int x3)]) hx hb dX4_lowestPriceAt_22 rfl hl (by decide) rfl (fun ls hl => ?_)
      refine lv_iload_n hx hb dX4_lowestPriceAt_23 rfl (lv_at hl 0 rfl) ?_
      refine lv_aload_n hx hb dX4_lowestPriceAt_24 rfl (lv_at hl 1 rfl) ?_
      refine lv_iload_n hx hb dX4_lowestPriceAt_25 rfl (lv_at hl 3 rfl) ?_
      refine lv_iload_n hx hb dX4_lowestPriceAt_26 rfl (lv_at hl 2 rfl) ?_
      obtain ⟨r6, hc7, hf⟩ := bd1_some hf
      refine ca_iV C w (wn := fun _ => w_X4_lowestPriceAt g h0 h1 v0_1 v0_2 v0_3 v0_4 v0_5 v0_6 v0_7 v0_9 v0_10 v0_11 v0_12 gantries0 linkPrice1) (pm_k [true, true] rfl rfl (fun _ => Nat.le_of_ble_eq_true rfl) (fun _ => rfl)) (c_X4_priceOf l g F h0 h1 v0_1 v0_2 v0_3 v0_4 v0_5 v0_6 v0_7 v0_9 v0_10 v0_11 v0_12 x3 x1 gantries0 linkPrice1 r6 _ hc7) k_X4_69 (rm_le (by decide) (by decide)) 0 4 rfl rfl rfl rfl hl.1 rfl (Nat.le_of_ble_eq_true rfl) dX4_lowestPriceAt_27 ⟨Nat.le_of_ble_eq_true rfl, Nat.le_of_ble_eq_true rfl⟩ (cells2 := 0) (slots2 := 0) ⟨rfl, rfl⟩ (fun _ H locs w => ?_)
      obtain ⟨r8, hc9, hf⟩ := bd1_some hf
      refine ca_iS C w (wn := fun _ => w_X4_lowestPriceAt g h0 h1 v0_1 v0_2 v0_3 v0_4 v0_5 v0_6 v0_7 v0_9 v0_10 v0_11 v0_12 gantries0 linkPrice1) (pm_k [false, false] rfl rfl (fun _ => Nat.le_of_ble_eq_true rfl) (fun _ => rfl)) (c_X4_lowerPrice l g F r4 r6 r8 _ hc9) k_X4_73 (rm_le (by decide) (by decide)) rfl hl.1 rfl (Nat.le_of_ble_eq_true rfl) dX4_lowestPriceAt_30 ⟨Nat.le_of_ble_eq_true rfl, Nat.le_of_ble_eq_true rfl⟩ (cells2 := 0) (slots2 := 0) ⟨rfl, rfl⟩ (fun _ H locs w => ?_)
      refine lv_istore_n (lv' := [(2, .int r8), (0, .ref h0), (1, .int x1), (3, .int x3)]) hx hb dX4_lowestPriceAt_33 rfl hl (by decide) rfl (fun ls hl => ?_)
      refine lv_iinc (v := x3 + 1) (lv' := [(3, .int (x3 + 1)), (2, .int r8), (0, .ref h0), (1, .int x1)]) hx hb dX4_lowestPriceAt_34 hl (k := 3) rfl rfl (by decide) rfl (fun ls hl => ?_)
      refine lv_goto (tgt := 4) hx hb dX4_lowestPriceAt_37 (by decide) ?_
      exact ih4 (x1, r8, x3 + 1) hf _ _ _ w (lv_sub hl [2, 3, 1, 0] rfl)
  refine lv_iconst (v := 0) hx hb dX4_lowestPriceAt_0 (by decide) ?_
  refine lv_istore_n (lv' := [(2, .int 0), (0, .ref h0), (1, .int p1)]) hx hb dX4_lowestPriceAt_1 rfl hl (by decide) rfl (fun ls hl => ?_)
  refine lv_iconst (v := 0) hx hb dX4_lowestPriceAt_2 (by decide) ?_
  refine lv_istore_n (lv' := [(3, .int 0), (2, .int 0), (0, .ref h0), (1, .int p1)]) hx hb dX4_lowestPriceAt_3 rfl hl (by decide) rfl (fun ls hl => ?_)
  exact L4 (p1, 0, 0) hf _ _ _ w (lv_sub hl [2, 3, 1, 0] rfl)
