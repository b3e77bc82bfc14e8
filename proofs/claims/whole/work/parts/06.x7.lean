theorem dX7_findDirect_0 : decode cX7_findDirect 0 = .ok (.aload_n 1, 1) := by decide +kernel
theorem dX7_findDirect_1 : decode cX7_findDirect 1 = .ok (.iload_n 2, 1) := by decide +kernel
theorem dX7_findDirect_2 : decode cX7_findDirect 2 = .ok (.iload_n 3, 1) := by decide +kernel
theorem dX7_findDirect_3 : decode cX7_findDirect 3 = .ok (.invokevirtual 32, 3) := by decide +kernel
theorem dX7_findDirect_6 : decode cX7_findDirect 6 = .ok (.istore 5, 2) := by decide +kernel
theorem dX7_findDirect_8 : decode cX7_findDirect 8 = .ok (.iload 5, 2) := by decide +kernel
theorem dX7_findDirect_10 : decode cX7_findDirect 10 = .ok (.ifCond .le 39, 3) := by decide +kernel
theorem dX7_findDirect_13 : decode cX7_findDirect 13 = .ok (.iload 5, 2) := by decide +kernel
theorem dX7_findDirect_15 : decode cX7_findDirect 15 = .ok (.iload 4, 2) := by decide +kernel
theorem dX7_findDirect_17 : decode cX7_findDirect 17 = .ok (.if_icmp .lt 32, 3) := by decide +kernel
theorem dX7_findDirect_20 : decode cX7_findDirect 20 = .ok (.aload_n 0, 1) := by decide +kernel
theorem dX7_findDirect_21 : decode cX7_findDirect 21 = .ok (.iconst 1, 1) := by decide +kernel
theorem dX7_findDirect_22 : decode cX7_findDirect 22 = .ok (.putfield 9, 3) := by decide +kernel
theorem dX7_findDirect_25 : decode cX7_findDirect 25 = .ok (.aload_n 0, 1) := by decide +kernel
theorem dX7_findDirect_26 : decode cX7_findDirect 26 = .ok (.aload_n 1, 1) := by decide +kernel
theorem dX7_findDirect_27 : decode cX7_findDirect 27 = .ok (.iload_n 2, 1) := by decide +kernel
theorem dX7_findDirect_28 : decode cX7_findDirect 28 = .ok (.iload_n 3, 1) := by decide +kernel
theorem dX7_findDirect_29 : decode cX7_findDirect 29 = .ok (.invokevirtual 38, 3) := by decide +kernel
theorem dX7_findDirect_32 : decode cX7_findDirect 32 = .ok (.putfield 15, 3) := by decide +kernel
theorem dX7_findDirect_35 : decode cX7_findDirect 35 = .ok (.aload_n 0, 1) := by decide +kernel
theorem dX7_findDirect_36 : decode cX7_findDirect 36 = .ok (.getfield 18, 3) := by decide +kernel
theorem dX7_findDirect_39 : decode cX7_findDirect 39 = .ok (.iconst 0, 1) := by decide +kernel
theorem dX7_findDirect_40 : decode cX7_findDirect 40 = .ok (.iload_n 2, 1) := by decide +kernel
theorem dX7_findDirect_41 : decode cX7_findDirect 41 = .ok (.iastore, 1) := by decide +kernel
theorem dX7_findDirect_42 : decode cX7_findDirect 42 = .ok (.aload_n 0, 1) := by decide +kernel
theorem dX7_findDirect_43 : decode cX7_findDirect 43 = .ok (.getfield 18, 3) := by decide +kernel
theorem dX7_findDirect_46 : decode cX7_findDirect 46 = .ok (.iconst 1, 1) := by decide +kernel
theorem dX7_findDirect_47 : decode cX7_findDirect 47 = .ok (.iload_n 3, 1) := by decide +kernel
theorem dX7_findDirect_48 : decode cX7_findDirect 48 = .ok (.iastore, 1) := by decide +kernel
theorem dX7_findDirect_49 : decode cX7_findDirect 49 = .ok (.return_, 1) := by decide +kernel
abbrev m_X7_findDirect : MD := (yX7_findDirect, cX7_findDirect, 6, none)
theorem inX7s : ∀ w ∈ u_ws RX7 TX7 3, w ∈ TS := by
  show ∀ w ∈ [u_lay RX7 TX7 0, u_lay RX7 TX7 1, u_lay RX7 TX7 2], w ∈ TS
  exact List.forall_mem_cons.mpr ⟨ts_t 150 (by decide +kernel) (by decide +kernel), List.forall_mem_cons.mpr ⟨ts_t 152 (by decide +kernel) (by decide +kernel), List.forall_mem_cons.mpr ⟨ts_t 154 (by decide +kernel) (by decide +kernel), fun _ h => absurd h List.not_mem_nil⟩⟩⟩
theorem g_X7_18 {p : Program} {l : Launch} {e : Env} {R : Room} {s : State} {m : MethodId} {args : Array Value} {below : List Frame} {meth : Method} {c : Code} {H : Heap} {locs : List Loc} {cells slots : Nat} {Q : State → Prop} {d : MD} {g : GT} {A : Nat → Prop} {ws : va_W} {pc : Nat} {ls : Array Slot} {rest : List Value} (C : Cx p s m args meth c RX7 d g A) (w : Wd g A ws s.heap H locs) (q0 : Nat) {a : Nat} {fs : List Value} {v : Value} (he : ws[q0]? = some (a, .inr (7, fs))) (hv : fs[2]? = some v) (hd : decode d.2.1 pc = .ok (.getfield 18, 3)) (kk : W p l e R s m args below meth c H locs cells slots Q (F0 m (pc + 3) ls (v :: rest))) : W p l e R s m args below meth c H locs cells slots Q (F0 m pc ls (.ref a :: rest)) := fg C w inX7s (ref := RX7) rfl 2 (by decide) (ts_t (w := Cond.fieldLink RX7 18 RX7 (TX7 2).2.1 (TX7 2).2.2.1) 149 (by decide +kernel) (by decide +kernel)) rfl q0 he hv hd kk
theorem p_X7_9 {p : Program} {l : Launch} {e : Env} {R : Room} {s : State} {m : MethodId} {args : Array Value} {below : List Frame} {meth : Method} {c : Code} {H : Heap} {locs : List Loc} {cells slots : Nat} {Q : State → Prop} {d : MD} {g : GT} {A : Nat → Prop} {ws : va_W} {pc : Nat} {ls : Array Slot} {rest : List Value} (C : Cx p s m args meth c RX7 d g A) (w : Wd g A ws s.heap H locs) (q0 : Nat) {a : Nat} {fs : List Value} {x : Int32} (he : ws[q0]? = some (a, .inr (7, fs))) (hlt : 0 < fs.length) {ws2 : va_W} (h2 : ws.set q0 (a, .inr (7, fs.set 0 (.int x))) = ws2) (hd : decode d.2.1 pc = .ok (.putfield 9, 3)) (kk : ∀ (H1 : Heap) (locs1 : List Loc), Wd g A ws2 s.heap H1 locs1 → W p l e R s m args below meth c H1 locs1 cells slots Q (F0 m (pc + 3) ls rest)) : W p l e R s m args below meth c H locs cells slots Q (F0 m pc ls (.int x :: .ref a :: rest)) := fp C w inX7s tyX7_ok nmX7 (ref := RX7) rfl 0 (by decide) (ts_t (w := Cond.fieldLink RX7 9 RX7 (TX7 0).2.1 (TX7 0).2.2.1) 144 (by decide +kernel) (by decide +kernel)) rfl rfl q0 he rfl rfl hlt h2 hd kk
theorem p_X7_15 {p : Program} {l : Launch} {e : Env} {R : Room} {s : State} {m : MethodId} {args : Array Value} {below : List Frame} {meth : Method} {c : Code} {H : Heap} {locs : List Loc} {cells slots : Nat} {Q : State → Prop} {d : MD} {g : GT} {A : Nat → Prop} {ws : va_W} {pc : Nat} {ls : Array Slot} {rest : List Value} (C : Cx p s m args meth c RX7 d g A) (w : Wd g A ws s.heap H locs) (q0 : Nat) {a : Nat} {fs : List Value} {x : Int32} (he : ws[q0]? = some (a, .inr (7, fs))) (hlt : 1 < fs.length) {ws2 : va_W} (h2 : ws.set q0 (a, .inr (7, fs.set 1 (.int x))) = ws2) (hd : decode d.2.1 pc = .ok (.putfield 15, 3)) (kk : ∀ (H1 : Heap) (locs1 : List Loc), Wd g A ws2 s.heap H1 locs1 → W p l e R s m args below meth c H1 locs1 cells slots Q (F0 m (pc + 3) ls rest)) : W p l e R s m args below meth c H locs cells slots Q (F0 m pc ls (.int x :: .ref a :: rest)) := fp C w inX7s tyX7_ok nmX7 (ref := RX7) rfl 1 (by decide) (ts_t (w := Cond.fieldLink RX7 15 RX7 (TX7 1).2.1 (TX7 1).2.2.1) 146 (by decide +kernel) (by decide +kernel)) rfl rfl q0 he rfl rfl hlt h2 hd kk
theorem q_700 : Cond.code yX4_minutesOf cX4_minutesOf 4 (some .int) ∈ TS := ts_t 700 (by decide +kernel) (by decide +kernel)
theorem q_699 : Cond.instanceMethod yX4_minutesOf ∈ TS := ts_t 699 (by decide +kernel) (by decide +kernel)
theorem qs_33 : Cond.selects yX4_minutesOf.cls yX4_minutesOf yX4_minutesOf ∈ TS := ts_s 33 (by decide +kernel) (by decide +kernel)
theorem k_X7_32 : LkN RX7 32 m_X4_minutesOf 2 := ⟨⟨"FreeFlowToll", nw_t 804 (by decide +kernel) rfl⟩, q_699, qs_33, ⟨q_2, q_700, by decide, by decide, by decide +kernel⟩⟩
theorem k_X7_38 : LkN RX7 38 m_X4_priceOf 2 := ⟨⟨"FreeFlowToll", nw_t 805 (by decide +kernel) rfl⟩, q_807, qs_53, ⟨q_2, q_808, by decide, by decide, by decide +kernel⟩⟩
abbrev w_X7_findDirect (g : GT) (h0 h1 h2 h3 h4 : Nat) (v2_1 v2_2 v2_3 v2_4 v2_5 v2_6 v2_9 v2_10 v2_11 v2_12 : Value) (links0 price0 : Int32) (stops1 : Nat → Int32) (gantries2 : Int32) (linkMinutes3 linkPrice4 : Nat → Int32) : va_W := [(h0, .inr (7, [.int links0, .int price0, .ref h1])), (h1, aI g 4 stops1), (h2, .inr (4, [.int gantries2, v2_1, v2_2, v2_3, v2_4, v2_5, v2_6, .ref h3, .ref h4, v2_9, v2_10, v2_11, v2_12])), (h3, aI g 100 linkMinutes3), (h4, aI g 100 linkPrice4)]
def f_X7_findDirect_b49 (F : Nat) (gantries2 : Int32) (linkMinutes3 linkPrice4 : Nat → Int32) (links0 price0 : Int32) (stops1 : Nat → Int32) : Option (Int32 × Int32 × (Nat → Int32)) :=
  some (links0, price0, stops1)
def f_X7_findDirect (F : Nat) (p2 p3 p4 links0 price0 : Int32) (stops1 : Nat → Int32) (gantries2 : Int32) (linkMinutes3 linkPrice4 : Nat → Int32) : Option (Int32 × Int32 × (Nat → Int32)) :=
  bd1 (f_X4_minutesOf F p2 p3 gantries2 linkMinutes3) fun r1 =>
  if r1 ≤ 0 then
    f_X7_findDirect_b49 F gantries2 linkMinutes3 linkPrice4 links0 price0 stops1
  else
    if r1 < p4 then
      f_X7_findDirect_b49 F gantries2 linkMinutes3 linkPrice4 links0 price0 stops1
    else
      bd1 (f_X4_priceOf F p2 p3 gantries2 linkPrice4) fun r5 =>
      wr stops1 4 0 p2 fun f7 =>
      wr f7 4 1 p3 fun f8 =>
      f_X7_findDirect_b49 F gantries2 linkMinutes3 linkPrice4 1 r5 f8
set_option maxHeartbeats 4000000 in
set_option maxRecDepth 100000 in
theorem c_X7_findDirect (l : Launch) (g : GT) (F : Nat) (h0 h1 h2 h3 h4 : Nat) (v2_1 v2_2 v2_3 v2_4 v2_5 v2_6 v2_9 v2_10 v2_11 v2_12 : Value) (p2 p3 p4 links0 price0 : Int32) (stops1 : Nat → Int32) (gantries2 : Int32) (linkMinutes3 linkPrice4 : Nat → Int32) (o_links0 o_price0 : Int32) (o_stops1 : Nat → Int32) (sz : Nat) (hf : f_X7_findDirect F p2 p3 p4 links0 price0 stops1 gantries2 linkMinutes3 linkPrice4 = some (o_links0, o_price0, o_stops1)) : CV l m_X7_findDirect (rml 1 0 0) g (w_X7_findDirect g h0 h1 h2 h3 h4 v2_1 v2_2 v2_3 v2_4 v2_5 v2_6 v2_9 v2_10 v2_11 v2_12 links0 price0 stops1 gantries2 linkMinutes3 linkPrice4) (fun _ => w_X7_findDirect g h0 h1 h2 h3 h4 v2_1 v2_2 v2_3 v2_4 v2_5 v2_6 v2_9 v2_10 v2_11 v2_12 o_links0 o_price0 o_stops1 gantries2 linkMinutes3 linkPrice4) sz [.ref h0, .ref h2, .int p2, .int p3, .int p4] := by
  refine en_v (by decide) (Nat.le_of_ble_eq_true rfl) (fun p e s m args below meth c A ls C w hl => ?_)
  have C : Cx p s m args meth c RX7 m_X7_findDirect g A := C
  have hx := C.1
  have hb : c.code = cX7_findDirect := C.2.1
  have hl : lv_has ls 6 [(0, .ref h0), (1, .ref h2), (2, .int p2), (3, .int p3), (4, .int p4)] := hl
  obtain ⟨Q, hQ⟩ : ∃ Q, Q = QV below args s g A (fun _ => w_X7_findDirect g h0 h1 h2 h3 h4 v2_1 v2_2 v2_3 v2_4 v2_5 v2_6 v2_9 v2_10 v2_11 v2_12 o_links0 o_price0 o_stops1 gantries2 linkMinutes3 linkPrice4) 0 0 := ⟨_, rfl⟩
  suffices hW : W p l e (rml 1 0 0) s m args below meth c s.heap [] 0 0 Q (F0 m 0 ls []) from (by rw [hQ] at hW; exact hW)
  unfold f_X7_findDirect at hf
  have b49 : ∀ (links0 price0 : Int32) (stops1 : Nat → Int32) (H : Heap) (locs : List Loc) (ls : Array Slot), f_X7_findDirect_b49 F gantries2 linkMinutes3 linkPrice4 links0 price0 stops1 = some (o_links0, o_price0, o_stops1) → Wd g A (w_X7_findDirect g h0 h1 h2 h3 h4 v2_1 v2_2 v2_3 v2_4 v2_5 v2_6 v2_9 v2_10 v2_11 v2_12 links0 price0 stops1 gantries2 linkMinutes3 linkPrice4) s.heap H locs → lv_has ls 6 [] → W p l e (rml 1 0 0) s m args below meth c H locs 0 0 Q (F0 m 49 ls []) := by
    intro links0 price0 stops1 H locs ls hf w hl
    unfold f_X7_findDirect_b49 at hf
    obtain ⟨e1, e2, e3⟩ := tp3 hf
    rw [hQ]
    exact rt_v C w rfl (fun _ => 0) (by rw [← e1, ← e2, ← e3]) dX7_findDirect_49
  refine lv_aload_n hx hb dX7_findDirect_0 rfl (lv_at hl 1 rfl) ?_
  refine lv_iload_n hx hb dX7_findDirect_1 rfl (lv_at hl 2 rfl) ?_
  refine lv_iload_n hx hb dX7_findDirect_2 rfl (lv_at hl 3 rfl) ?_
  obtain ⟨r1, hc2, hf⟩ := bd1_some hf
  refine ca_iN C w (wn := fun _ => w_X7_findDirect g h0 h1 h2 h3 h4 v2_1 v2_2 v2_3 v2_4 v2_5 v2_6 v2_9 v2_10 v2_11 v2_12 links0 price0 stops1 gantries2 linkMinutes3 linkPrice4) (pm_k [false, false, true, true, false] rfl rfl (fun _ => Nat.le_of_ble_eq_true rfl) (fun _ => rfl)) (c_X4_minutesOf l g F h2 h3 v2_1 v2_2 v2_3 v2_4 v2_5 v2_6 (.ref h4) v2_9 v2_10 v2_11 v2_12 p2 p3 gantries2 linkMinutes3 r1 _ hc2) k_X7_32 (rm_le (by decide) (by decide)) 2 4 rfl rfl rfl rfl hl.1 rfl (Nat.le_of_ble_eq_true rfl) dX7_findDirect_3 ⟨Nat.le_of_ble_eq_true rfl, Nat.le_of_ble_eq_true rfl⟩ (cells2 := 0) (slots2 := 0) ⟨rfl, rfl⟩ (fun _ H locs w => ?_)
  refine lv_istore (lv' := [(5, .int r1), (0, .ref h0), (1, .ref h2), (2, .int p2), (3, .int p3), (4, .int p4)]) hx hb dX7_findDirect_6 hl (by decide) rfl (fun ls hl => ?_)
  refine lv_iload hx hb dX7_findDirect_8 (lv_at hl 0 rfl) ?_
  refine lv_if_le (tgt := 49) hx hb dX7_findDirect_10 (by decide) (fun c3 => ?_) (fun c3 => ?_)
  · replace hf := it_t c3 hf
    exact b49 links0 price0 stops1 _ _ _ hf w (lv_sub hl [] rfl)
  · replace hf := it_f c3 hf
    refine lv_iload hx hb dX7_findDirect_13 (lv_at hl 0 rfl) ?_
    refine lv_iload hx hb dX7_findDirect_15 (lv_at hl 5 rfl) ?_
    refine lv_icmp_lt (tgt := 49) hx hb dX7_findDirect_17 (by decide) (fun c4 => ?_) (fun c4 => ?_)
    · replace hf := it_t c4 hf
      exact b49 links0 price0 stops1 _ _ _ hf w (lv_sub hl [] rfl)
    · replace hf := it_f c4 hf
      refine lv_aload_n hx hb dX7_findDirect_20 rfl (lv_at hl 1 rfl) ?_
      refine lv_iconst (v := 1) hx hb dX7_findDirect_21 (by decide) ?_
      refine p_X7_9 C w 0 rfl (Nat.le_of_ble_eq_true rfl) (ws2 := w_X7_findDirect g h0 h1 h2 h3 h4 v2_1 v2_2 v2_3 v2_4 v2_5 v2_6 v2_9 v2_10 v2_11 v2_12 1 price0 stops1 gantries2 linkMinutes3 linkPrice4) rfl dX7_findDirect_22 (fun H locs w => ?_)
      refine lv_aload_n hx hb dX7_findDirect_25 rfl (lv_at hl 1 rfl) ?_
      refine lv_aload_n hx hb dX7_findDirect_26 rfl (lv_at hl 2 rfl) ?_
      refine lv_iload_n hx hb dX7_findDirect_27 rfl (lv_at hl 3 rfl) ?_
      refine lv_iload_n hx hb dX7_findDirect_28 rfl (lv_at hl 4 rfl) ?_
      obtain ⟨r5, hc6, hf⟩ := bd1_some hf
      refine ca_iN C w (wn := fun _ => w_X7_findDirect g h0 h1 h2 h3 h4 v2_1 v2_2 v2_3 v2_4 v2_5 v2_6 v2_9 v2_10 v2_11 v2_12 1 price0 stops1 gantries2 linkMinutes3 linkPrice4) (pm_k [false, false, true, false, true] rfl rfl (fun _ => Nat.le_of_ble_eq_true rfl) (fun _ => rfl)) (c_X4_priceOf l g F h2 h4 v2_1 v2_2 v2_3 v2_4 v2_5 v2_6 (.ref h3) v2_9 v2_10 v2_11 v2_12 p2 p3 gantries2 linkPrice4 r5 _ hc6) k_X7_38 (rm_le (by decide) (by decide)) 2 4 rfl rfl rfl rfl hl.1 rfl (Nat.le_of_ble_eq_true rfl) dX7_findDirect_29 ⟨Nat.le_of_ble_eq_true rfl, Nat.le_of_ble_eq_true rfl⟩ (cells2 := 0) (slots2 := 0) ⟨rfl, rfl⟩ (fun _ H locs w => ?_)
      refine p_X7_15 C w 0 rfl (Nat.le_of_ble_eq_true rfl) (ws2 := w_X7_findDirect g h0 h1 h2 h3 h4 v2_1 v2_2 v2_3 v2_4 v2_5 v2_6 v2_9 v2_10 v2_11 v2_12 1 r5 stops1 gantries2 linkMinutes3 linkPrice4) rfl dX7_findDirect_32 (fun H locs w => ?_)
      refine lv_aload_n hx hb dX7_findDirect_35 rfl (lv_at hl 1 rfl) ?_
      refine g_X7_18 C w 0 rfl rfl dX7_findDirect_36 ?_
      refine lv_iconst (v := 0) hx hb dX7_findDirect_39 (by decide) ?_
      refine lv_iload_n hx hb dX7_findDirect_40 rfl (lv_at hl 3 rfl) ?_
      obtain ⟨f7, hif7, haf7, hf⟩ := wr_some hf
      refine ias C w 1 rfl hif7 haf7 (ws2 := w_X7_findDirect g h0 h1 h2 h3 h4 v2_1 v2_2 v2_3 v2_4 v2_5 v2_6 v2_9 v2_10 v2_11 v2_12 1 r5 f7 gantries2 linkMinutes3 linkPrice4) rfl dX7_findDirect_41 (fun H locs w => ?_)
      refine lv_aload_n hx hb dX7_findDirect_42 rfl (lv_at hl 1 rfl) ?_
      refine g_X7_18 C w 0 rfl rfl dX7_findDirect_43 ?_
      refine lv_iconst (v := 1) hx hb dX7_findDirect_46 (by decide) ?_
      refine lv_iload_n hx hb dX7_findDirect_47 rfl (lv_at hl 4 rfl) ?_
      obtain ⟨f8, hif8, haf8, hf⟩ := wr_some hf
      refine ias C w 1 rfl hif8 haf8 (ws2 := w_X7_findDirect g h0 h1 h2 h3 h4 v2_1 v2_2 v2_3 v2_4 v2_5 v2_6 v2_9 v2_10 v2_11 v2_12 1 r5 f8 gantries2 linkMinutes3 linkPrice4) rfl dX7_findDirect_48 (fun H locs w => ?_)
      exact b49 1 r5 f8 _ _ _ hf w (lv_sub hl [] rfl)

theorem dX7_findOverOne_0 : decode cX7_findOverOne 0 = .ok (.iconst 0, 1) := by decide +kernel
theorem dX7_findOverOne_1 : decode cX7_findOverOne 1 = .ok (.istore 5, 2) := by decide +kernel
theorem dX7_findOverOne_3 : decode cX7_findOverOne 3 = .ok (.iload 5, 2) := by decide +kernel
theorem dX7_findOverOne_5 : decode cX7_findOverOne 5 = .ok (.aload_n 1, 1) := by decide +kernel
theorem dX7_findOverOne_6 : decode cX7_findOverOne 6 = .ok (.getfield 41, 3) := by decide +kernel
theorem dX7_findOverOne_9 : decode cX7_findOverOne 9 = .ok (.if_icmp .ge 114, 3) := by decide +kernel
theorem dX7_findOverOne_12 : decode cX7_findOverOne 12 = .ok (.aload_n 1, 1) := by decide +kernel
theorem dX7_findOverOne_13 : decode cX7_findOverOne 13 = .ok (.iload_n 2, 1) := by decide +kernel
theorem dX7_findOverOne_14 : decode cX7_findOverOne 14 = .ok (.iload 5, 2) := by decide +kernel
theorem dX7_findOverOne_16 : decode cX7_findOverOne 16 = .ok (.invokevirtual 32, 3) := by decide +kernel
theorem dX7_findOverOne_19 : decode cX7_findOverOne 19 = .ok (.istore 6, 2) := by decide +kernel
theorem dX7_findOverOne_21 : decode cX7_findOverOne 21 = .ok (.aload_n 1, 1) := by decide +kernel
theorem dX7_findOverOne_22 : decode cX7_findOverOne 22 = .ok (.iload 5, 2) := by decide +kernel
theorem dX7_findOverOne_24 : decode cX7_findOverOne 24 = .ok (.iload_n 3, 1) := by decide +kernel
theorem dX7_findOverOne_25 : decode cX7_findOverOne 25 = .ok (.invokevirtual 32, 3) := by decide +kernel
theorem dX7_findOverOne_28 : decode cX7_findOverOne 28 = .ok (.istore 7, 2) := by decide +kernel
theorem dX7_findOverOne_30 : decode cX7_findOverOne 30 = .ok (.iload 6, 2) := by decide +kernel
theorem dX7_findOverOne_32 : decode cX7_findOverOne 32 = .ok (.ifCond .le 85, 3) := by decide +kernel
theorem dX7_findOverOne_35 : decode cX7_findOverOne 35 = .ok (.iload 7, 2) := by decide +kernel
theorem dX7_findOverOne_37 : decode cX7_findOverOne 37 = .ok (.ifCond .le 80, 3) := by decide +kernel
theorem dX7_findOverOne_40 : decode cX7_findOverOne 40 = .ok (.iload 6, 2) := by decide +kernel
theorem dX7_findOverOne_42 : decode cX7_findOverOne 42 = .ok (.iload 7, 2) := by decide +kernel
theorem dX7_findOverOne_44 : decode cX7_findOverOne 44 = .ok (.iadd, 1) := by decide +kernel
theorem dX7_findOverOne_45 : decode cX7_findOverOne 45 = .ok (.iload 4, 2) := by decide +kernel
theorem dX7_findOverOne_47 : decode cX7_findOverOne 47 = .ok (.if_icmp .lt 70, 3) := by decide +kernel
theorem dX7_findOverOne_50 : decode cX7_findOverOne 50 = .ok (.aload_n 1, 1) := by decide +kernel
theorem dX7_findOverOne_51 : decode cX7_findOverOne 51 = .ok (.iload_n 2, 1) := by decide +kernel
theorem dX7_findOverOne_52 : decode cX7_findOverOne 52 = .ok (.iload 5, 2) := by decide +kernel
theorem dX7_findOverOne_54 : decode cX7_findOverOne 54 = .ok (.invokevirtual 38, 3) := by decide +kernel
theorem dX7_findOverOne_57 : decode cX7_findOverOne 57 = .ok (.aload_n 1, 1) := by decide +kernel
theorem dX7_findOverOne_58 : decode cX7_findOverOne 58 = .ok (.iload 5, 2) := by decide +kernel
theorem dX7_findOverOne_60 : decode cX7_findOverOne 60 = .ok (.iload_n 3, 1) := by decide +kernel
theorem dX7_findOverOne_61 : decode cX7_findOverOne 61 = .ok (.invokevirtual 38, 3) := by decide +kernel
theorem dX7_findOverOne_64 : decode cX7_findOverOne 64 = .ok (.iadd, 1) := by decide +kernel
theorem dX7_findOverOne_65 : decode cX7_findOverOne 65 = .ok (.istore 8, 2) := by decide +kernel
theorem dX7_findOverOne_67 : decode cX7_findOverOne 67 = .ok (.aload_n 0, 1) := by decide +kernel
theorem dX7_findOverOne_68 : decode cX7_findOverOne 68 = .ok (.getfield 9, 3) := by decide +kernel
theorem dX7_findOverOne_71 : decode cX7_findOverOne 71 = .ok (.iconst (-1), 1) := by decide +kernel
theorem dX7_findOverOne_72 : decode cX7_findOverOne 72 = .ok (.if_icmp .eq 12, 3) := by decide +kernel
theorem dX7_findOverOne_75 : decode cX7_findOverOne 75 = .ok (.iload 8, 2) := by decide +kernel
theorem dX7_findOverOne_77 : decode cX7_findOverOne 77 = .ok (.aload_n 0, 1) := by decide +kernel
theorem dX7_findOverOne_78 : decode cX7_findOverOne 78 = .ok (.getfield 15, 3) := by decide +kernel
theorem dX7_findOverOne_81 : decode cX7_findOverOne 81 = .ok (.if_icmp .ge 36, 3) := by decide +kernel
theorem dX7_findOverOne_84 : decode cX7_findOverOne 84 = .ok (.aload_n 0, 1) := by decide +kernel
theorem dX7_findOverOne_85 : decode cX7_findOverOne 85 = .ok (.iconst 2, 1) := by decide +kernel
theorem dX7_findOverOne_86 : decode cX7_findOverOne 86 = .ok (.putfield 9, 3) := by decide +kernel
theorem dX7_findOverOne_89 : decode cX7_findOverOne 89 = .ok (.aload_n 0, 1) := by decide +kernel
theorem dX7_findOverOne_90 : decode cX7_findOverOne 90 = .ok (.iload 8, 2) := by decide +kernel
theorem dX7_findOverOne_92 : decode cX7_findOverOne 92 = .ok (.putfield 15, 3) := by decide +kernel
theorem dX7_findOverOne_95 : decode cX7_findOverOne 95 = .ok (.aload_n 0, 1) := by decide +kernel
theorem dX7_findOverOne_96 : decode cX7_findOverOne 96 = .ok (.getfield 18, 3) := by decide +kernel
theorem dX7_findOverOne_99 : decode cX7_findOverOne 99 = .ok (.iconst 0, 1) := by decide +kernel
theorem dX7_findOverOne_100 : decode cX7_findOverOne 100 = .ok (.iload_n 2, 1) := by decide +kernel
theorem dX7_findOverOne_101 : decode cX7_findOverOne 101 = .ok (.iastore, 1) := by decide +kernel
theorem dX7_findOverOne_102 : decode cX7_findOverOne 102 = .ok (.aload_n 0, 1) := by decide +kernel
theorem dX7_findOverOne_103 : decode cX7_findOverOne 103 = .ok (.getfield 18, 3) := by decide +kernel
theorem dX7_findOverOne_106 : decode cX7_findOverOne 106 = .ok (.iconst 1, 1) := by decide +kernel
theorem dX7_findOverOne_107 : decode cX7_findOverOne 107 = .ok (.iload 5, 2) := by decide +kernel
theorem dX7_findOverOne_109 : decode cX7_findOverOne 109 = .ok (.iastore, 1) := by decide +kernel
theorem dX7_findOverOne_110 : decode cX7_findOverOne 110 = .ok (.aload_n 0, 1) := by decide +kernel
theorem dX7_findOverOne_111 : decode cX7_findOverOne 111 = .ok (.getfield 18, 3) := by decide +kernel
theorem dX7_findOverOne_114 : decode cX7_findOverOne 114 = .ok (.iconst 2, 1) := by decide +kernel
theorem dX7_findOverOne_115 : decode cX7_findOverOne 115 = .ok (.iload_n 3, 1) := by decide +kernel
theorem dX7_findOverOne_116 : decode cX7_findOverOne 116 = .ok (.iastore, 1) := by decide +kernel
theorem dX7_findOverOne_117 : decode cX7_findOverOne 117 = .ok (.iinc 5 1, 3) := by decide +kernel
theorem dX7_findOverOne_120 : decode cX7_findOverOne 120 = .ok (.goto (-117), 3) := by decide +kernel
theorem dX7_findOverOne_123 : decode cX7_findOverOne 123 = .ok (.return_, 1) := by decide +kernel
abbrev m_X7_findOverOne : MD := (yX7_findOverOne, cX7_findOverOne, 9, none)
theorem g_X7_41 {p : Program} {l : Launch} {e : Env} {R : Room} {s : State} {m : MethodId} {args : Array Value} {below : List Frame} {meth : Method} {c : Code} {H : Heap} {locs : List Loc} {cells slots : Nat} {Q : State → Prop} {d : MD} {g : GT} {A : Nat → Prop} {ws : va_W} {pc : Nat} {ls : Array Slot} {rest : List Value} (C : Cx p s m args meth c RX7 d g A) (w : Wd g A ws s.heap H locs) (q0 : Nat) {a : Nat} {fs : List Value} {v : Value} (he : ws[q0]? = some (a, .inr (4, fs))) (hv : fs[0]? = some v) (hd : decode d.2.1 pc = .ok (.getfield 41, 3)) (kk : W p l e R s m args below meth c H locs cells slots Q (F0 m (pc + 3) ls (v :: rest))) : W p l e R s m args below meth c H locs cells slots Q (F0 m pc ls (.ref a :: rest)) := fgN C w inX4s (ref := RX4) rfl 0 (by decide) (nw_t (w := Cond.fieldLinkNest RX7 41 RX4 (TX4 0).2.1 (TX4 0).2.2.1 "FreeFlowToll") 42 (by decide +kernel) rfl) rfl q0 he hv hd kk
theorem g_X7_9 {p : Program} {l : Launch} {e : Env} {R : Room} {s : State} {m : MethodId} {args : Array Value} {below : List Frame} {meth : Method} {c : Code} {H : Heap} {locs : List Loc} {cells slots : Nat} {Q : State → Prop} {d : MD} {g : GT} {A : Nat → Prop} {ws : va_W} {pc : Nat} {ls : Array Slot} {rest : List Value} (C : Cx p s m args meth c RX7 d g A) (w : Wd g A ws s.heap H locs) (q0 : Nat) {a : Nat} {fs : List Value} {v : Value} (he : ws[q0]? = some (a, .inr (7, fs))) (hv : fs[0]? = some v) (hd : decode d.2.1 pc = .ok (.getfield 9, 3)) (kk : W p l e R s m args below meth c H locs cells slots Q (F0 m (pc + 3) ls (v :: rest))) : W p l e R s m args below meth c H locs cells slots Q (F0 m pc ls (.ref a :: rest)) := fg C w inX7s (ref := RX7) rfl 0 (by decide) (ts_t (w := Cond.fieldLink RX7 9 RX7 (TX7 0).2.1 (TX7 0).2.2.1) 144 (by decide +kernel) (by decide +kernel)) rfl q0 he hv hd kk
theorem g_X7_15 {p : Program} {l : Launch} {e : Env} {R : Room} {s : State} {m : MethodId} {args : Array Value} {below : List Frame} {meth : Method} {c : Code} {H : Heap} {locs : List Loc} {cells slots : Nat} {Q : State → Prop} {d : MD} {g : GT} {A : Nat → Prop} {ws : va_W} {pc : Nat} {ls : Array Slot} {rest : List Value} (C : Cx p s m args meth c RX7 d g A) (w : Wd g A ws s.heap H locs) (q0 : Nat) {a : Nat} {fs : List Value} {v : Value} (he : ws[q0]? = some (a, .inr (7, fs))) (hv : fs[1]? = some v) (hd : decode d.2.1 pc = .ok (.getfield 15, 3)) (kk : W p l e R s m args below meth c H locs cells slots Q (F0 m (pc + 3) ls (v :: rest))) : W p l e R s m args below meth c H locs cells slots Q (F0 m pc ls (.ref a :: rest)) := fg C w inX7s (ref := RX7) rfl 1 (by decide) (ts_t (w := Cond.fieldLink RX7 15 RX7 (TX7 1).2.1 (TX7 1).2.2.1) 146 (by decide +kernel) (by decide +kernel)) rfl q0 he hv hd kk
abbrev w_X7_findOverOne (g : GT) (h0 h1 h2 h3 h4 : Nat) (v2_1 v2_2 v2_3 v2_4 v2_5 v2_6 v2_9 v2_10 v2_11 v2_12 : Value) (links0 price0 : Int32) (stops1 : Nat → Int32) (gantries2 : Int32) (linkMinutes3 linkPrice4 : Nat → Int32) : va_W := [(h0, .inr (7, [.int links0, .int price0, .ref h1])), (h1, aI g 4 stops1), (h2, .inr (4, [.int gantries2, v2_1, v2_2, v2_3, v2_4, v2_5, v2_6, .ref h3, .ref h4, v2_9, v2_10, v2_11, v2_12])), (h3, aI g 100 linkMinutes3), (h4, aI g 100 linkPrice4)]
def f_X7_findOverOne_b117 (F : Nat) (k3 : (Int32 × Int32 × Int32 × Int32 × Int32 × Int32 × (Nat → Int32)) → Option (Int32 × Int32 × (Nat → Int32))) (gantries2 : Int32) (linkMinutes3 linkPrice4 : Nat → Int32) (x2 x3 x4 x5 links0 price0 : Int32) (stops1 : Nat → Int32) : Option (Int32 × Int32 × (Nat → Int32)) :=
  k3 (x2, x3, x4, x5 + 1, links0, price0, stops1)
def f_X7_findOverOne_b84 (F : Nat) (k3 : (Int32 × Int32 × Int32 × Int32 × Int32 × Int32 × (Nat → Int32)) → Option (Int32 × Int32 × (Nat → Int32))) (gantries2 : Int32) (linkMinutes3 linkPrice4 : Nat → Int32) (x2 x3 x4 x5 x8 links0 price0 : Int32) (stops1 : Nat → Int32) : Option (Int32 × Int32 × (Nat → Int32)) :=
  wr stops1 4 0 x2 fun f1 =>
  wr f1 4 1 x5 fun f2 =>
  wr f2 4 2 x3 fun f3 =>
  f_X7_findOverOne_b117 F k3 gantries2 linkMinutes3 linkPrice4 x2 x3 x4 x5 2 x8 f3
def f_X7_findOverOne_h3 (F : Nat) (gantries2 : Int32) (linkMinutes3 linkPrice4 : Nat → Int32) (k3 : (Int32 × Int32 × Int32 × Int32 × Int32 × Int32 × (Nat → Int32)) → Option (Int32 × Int32 × (Nat → Int32))) (x2 x3 x4 x5 links0 price0 : Int32) (stops1 : Nat → Int32) : Option (Int32 × Int32 × (Nat → Int32)) :=
  if gantries2 ≤ x5 then
    some (links0, price0, stops1)
  else
    bd1 (f_X4_minutesOf F x2 x5 gantries2 linkMinutes3) fun r5 =>
    bd1 (f_X4_minutesOf F x5 x3 gantries2 linkMinutes3) fun r7 =>
    if r5 ≤ 0 then
      f_X7_findOverOne_b117 F k3 gantries2 linkMinutes3 linkPrice4 x2 x3 x4 x5 links0 price0 stops1
    else
      if r7 ≤ 0 then
        f_X7_findOverOne_b117 F k3 gantries2 linkMinutes3 linkPrice4 x2 x3 x4 x5 links0 price0 stops1
      else
        if (r5 + r7) < x4 then
          f_X7_findOverOne_b117 F k3 gantries2 linkMinutes3 linkPrice4 x2 x3 x4 x5 links0 price0 stops1
        else
          bd1 (f_X4_priceOf F x2 x5 gantries2 linkPrice4) fun r12 =>
          bd1 (f_X4_priceOf F x5 x3 gantries2 linkPrice4) fun r14 =>
          if links0 = (-1) then
            f_X7_findOverOne_b84 F k3 gantries2 linkMinutes3 linkPrice4 x2 x3 x4 x5 (r12 + r14) links0 price0 stops1
          else
            if price0 ≤ (r12 + r14) then
              f_X7_findOverOne_b117 F k3 gantries2 linkMinutes3 linkPrice4 x2 x3 x4 x5 links0 price0 stops1
            else
              f_X7_findOverOne_b84 F k3 gantries2 linkMinutes3 linkPrice4 x2 x3 x4 x5 (r12 + r14) links0 price0 stops1
def f_X7_findOverOne_L3 (F : Nat) (gantries2 : Int32) (linkMinutes3 linkPrice4 : Nat → Int32) (z : Int32 × Int32 × Int32 × Int32 × Int32 × Int32 × (Nat → Int32)) : Option (Int32 × Int32 × (Nat → Int32)) := lp (fun k z => f_X7_findOverOne_h3 F gantries2 linkMinutes3 linkPrice4 k z.1 z.2.1 z.2.2.1 z.2.2.2.1 z.2.2.2.2.1 z.2.2.2.2.2.1 z.2.2.2.2.2.2) F z
def f_X7_findOverOne (F : Nat) (p2 p3 p4 links0 price0 : Int32) (stops1 : Nat → Int32) (gantries2 : Int32) (linkMinutes3 linkPrice4 : Nat → Int32) : Option (Int32 × Int32 × (Nat → Int32)) :=
  f_X7_findOverOne_L3 F gantries2 linkMinutes3 linkPrice4 (p2, p3, p4, 0, links0, price0, stops1)
set_option maxHeartbeats 4000000 in
set_option maxRecDepth 100000 in
theorem c_X7_findOverOne (l : Launch) (g : GT) (F : Nat) (h0 h1 h2 h3 h4 : Nat) (v2_1 v2_2 v2_3 v2_4 v2_5 v2_6 v2_9 v2_10 v2_11 v2_12 : Value) (p2 p3 p4 links0 price0 : Int32) (stops1 : Nat → Int32) (gantries2 : Int32) (linkMinutes3 linkPrice4 : Nat → Int32) (o_links0 o_price0 : Int32) (o_stops1 : Nat → Int32) (sz : Nat) (hf : f_X7_findOverOne F p2 p3 p4 links0 price0 stops1 gantries2 linkMinutes3 linkPrice4 = some (o_links0, o_price0, o_stops1)) : CV l m_X7_findOverOne (rml 1 0 0) g (w_X7_findOverOne g h0 h1 h2 h3 h4 v2_1 v2_2 v2_3 v2_4 v2_5 v2_6 v2_9 v2_10 v2_11 v2_12 links0 price0 stops1 gantries2 linkMinutes3 linkPrice4) (fun _ => w_X7_findOverOne g h0 h1 h2 h3 h4 v2_1 v2_2 v2_3 v2_4 v2_5 v2_6 v2_9 v2_10 v2_11 v2_12 o_links0 o_price0 o_stops1 gantries2 linkMinutes3 linkPrice4) sz [.ref h0, .ref h2, .int p2, .int p3, .int p4] := by
  refine en_v (by decide) (Nat.le_of_ble_eq_true rfl) (fun p e s m args below meth c A ls C w hl => ?_)
  have C : Cx p s m args meth c RX7 m_X7_findOverOne g A := C
  have hx := C.1
  have hb : c.code = cX7_findOverOne := C.2.1
  have hl : lv_has ls 9 [(0, .ref h0), (1, .ref h2), (2, .int p2), (3, .int p3), (4, .int p4)] := hl
  obtain ⟨Q, hQ⟩ : ∃ Q, Q = QV below args s g A (fun _ => w_X7_findOverOne g h0 h1 h2 h3 h4 v2_1 v2_2 v2_3 v2_4 v2_5 v2_6 v2_9 v2_10 v2_11 v2_12 o_links0 o_price0 o_stops1 gantries2 linkMinutes3 linkPrice4) 0 0 := ⟨_, rfl⟩
  suffices hW : W p l e (rml 1 0 0) s m args below meth c s.heap [] 0 0 Q (F0 m 0 ls []) from (by rw [hQ] at hW; exact hW)
  unfold f_X7_findOverOne at hf
  have L3 : ∀ (z : Int32 × Int32 × Int32 × Int32 × Int32 × Int32 × (Nat → Int32)), f_X7_findOverOne_L3 F gantries2 linkMinutes3 linkPrice4 z = some (o_links0, o_price0, o_stops1) → ∀ (H : Heap) (locs : List Loc) (ls : Array Slot), Wd g A (w_X7_findOverOne g h0 h1 h2 h3 h4 v2_1 v2_2 v2_3 v2_4 v2_5 v2_6 v2_9 v2_10 v2_11 v2_12 z.2.2.2.2.1 z.2.2.2.2.2.1 z.2.2.2.2.2.2 gantries2 linkMinutes3 linkPrice4) s.heap H locs → lv_has ls 9 [(0, .ref h0), (1, .ref h2), (2, .int z.1), (3, .int z.2.1), (4, .int z.2.2.1), (5, .int z.2.2.2.1)] → W p l e (rml 1 0 0) s m args below meth c H locs 0 0 Q (F0 m 3 ls []) := by
    intro z hf
    refine lp_W (r := (o_links0, o_price0, o_stops1)) (fun (z : Int32 × Int32 × Int32 × Int32 × Int32 × Int32 × (Nat → Int32)) => ∀ (H : Heap) (locs : List Loc) (ls : Array Slot), Wd g A (w_X7_findOverOne g h0 h1 h2 h3 h4 v2_1 v2_2 v2_3 v2_4 v2_5 v2_6 v2_9 v2_10 v2_11 v2_12 z.2.2.2.2.1 z.2.2.2.2.2.1 z.2.2.2.2.2.2 gantries2 linkMinutes3 linkPrice4) s.heap H locs → lv_has ls 9 [(0, .ref h0), (1, .ref h2), (2, .int z.1), (3, .int z.2.1), (4, .int z.2.2.1), (5, .int z.2.2.2.1)] → W p l e (rml 1 0 0) s m args below meth c H locs 0 0 Q (F0 m 3 ls [])) (fun k3 z ih3 hf => ?_) F z hf
    obtain ⟨x2, x3, x4, x5, links0, price0, stops1⟩ := z
    intro H locs ls w hl
    try dsimp only at hf w hl ⊢
    unfold f_X7_findOverOne_h3 at hf
    have b117 : ∀ (x2 x3 x4 x5 links0 price0 : Int32) (stops1 : Nat → Int32) (H : Heap) (locs : List Loc) (ls : Array Slot), f_X7_findOverOne_b117 F k3 gantries2 linkMinutes3 linkPrice4 x2 x3 x4 x5 links0 price0 stops1 = some (o_links0, o_price0, o_stops1) → Wd g A (w_X7_findOverOne g h0 h1 h2 h3 h4 v2_1 v2_2 v2_3 v2_4 v2_5 v2_6 v2_9 v2_10 v2_11 v2_12 links0 price0 stops1 gantries2 linkMinutes3 linkPrice4) s.heap H locs → lv_has ls 9 [(0, .ref h0), (1, .ref h2), (2, .int x2), (3, .int x3), (4, .int x4), (5, .int x5)] → W p l e (rml 1 0 0) s m args below meth c H locs 0 0 Q (F0 m 117 ls []) := by
      intro x2 x3 x4 x5 links0 price0 stops1 H locs ls hf w hl
      unfold f_X7_findOverOne_b117 at hf
      refine lv_iinc (v := x5 + 1) (lv' := [(5, .int (x5 + 1)), (0, .ref h0), (1, .ref h2), (2, .int x2), (3, .int x3), (4, .int x4)]) hx hb dX7_findOverOne_117 hl (k := 5) rfl rfl (by decide) rfl (fun ls hl => ?_)
      refine lv_goto (tgt := 3) hx hb dX7_findOverOne_120 (by decide) ?_
      exact ih3 (x2, x3, x4, x5 + 1, links0, price0, stops1) hf _ _ _ w (lv_sub hl [1, 2, 3, 4, 5, 0] rfl)
    have b84 : ∀ (x2 x3 x4 x5 x8 links0 price0 : Int32) (stops1 : Nat → Int32) (H : Heap) (locs : List Loc) (ls : Array Slot), f_X7_findOverOne_b84 F k3 gantries2 linkMinutes3 linkPrice4 x2 x3 x4 x5 x8 links0 price0 stops1 = some (o_links0, o_price0, o_stops1) → Wd g A (w_X7_findOverOne g h0 h1 h2 h3 h4 v2_1 v2_2 v2_3 v2_4 v2_5 v2_6 v2_9 v2_10 v2_11 v2_12 links0 price0 stops1 gantries2 linkMinutes3 linkPrice4) s.heap H locs → lv_has ls 9 [(0, .ref h0), (1, .ref h2), (2, .int x2), (3, .int x3), (4, .int x4), (5, .int x5), (8, .int x8)] → W p l e (rml 1 0 0) s m args below meth c H locs 0 0 Q (F0 m 84 ls []) := by
      intro x2 x3 x4 x5 x8 links0 price0 stops1 H locs ls hf w hl
      unfold f_X7_findOverOne_b84 at hf
      refine lv_aload_n hx hb dX7_findOverOne_84 rfl (lv_at hl 0 rfl) ?_
      refine lv_iconst (v := 2) hx hb dX7_findOverOne_85 (by decide) ?_
      refine p_X7_9 C w 0 rfl (Nat.le_of_ble_eq_true rfl) (ws2 := w_X7_findOverOne g h0 h1 h2 h3 h4 v2_1 v2_2 v2_3 v2_4 v2_5 v2_6 v2_9 v2_10 v2_11 v2_12 2 price0 stops1 gantries2 linkMinutes3 linkPrice4) rfl dX7_findOverOne_86 (fun H locs w => ?_)
      refine lv_aload_n hx hb dX7_findOverOne_89 rfl (lv_at hl 0 rfl) ?_
      refine lv_iload hx hb dX7_findOverOne_90 (lv_at hl 6 rfl) ?_
      refine p_X7_15 C w 0 rfl (Nat.le_of_ble_eq_true rfl) (ws2 := w_X7_findOverOne g h0 h1 h2 h3 h4 v2_1 v2_2 v2_3 v2_4 v2_5 v2_6 v2_9 v2_10 v2_11 v2_12 2 x8 stops1 gantries2 linkMinutes3 linkPrice4) rfl dX7_findOverOne_92 (fun H locs w => ?_)
      refine lv_aload_n hx hb dX7_findOverOne_95 rfl (lv_at hl 0 rfl) ?_
      refine g_X7_18 C w 0 rfl rfl dX7_findOverOne_96 ?_
      refine lv_iconst (v := 0) hx hb dX7_findOverOne_99 (by decide) ?_
      refine lv_iload_n hx hb dX7_findOverOne_100 rfl (lv_at hl 2 rfl) ?_
      obtain ⟨f1, hif1, haf1, hf⟩ := wr_some hf
      refine ias C w 1 rfl hif1 haf1 (ws2 := w_X7_findOverOne g h0 h1 h2 h3 h4 v2_1 v2_2 v2_3 v2_4 v2_5 v2_6 v2_9 v2_10 v2_11 v2_12 2 x8 f1 gantries2 linkMinutes3 linkPrice4) rfl dX7_findOverOne_101 (fun H locs w => ?_)
      refine lv_aload_n hx hb dX7_findOverOne_102 rfl (lv_at hl 0 rfl) ?_
      refine g_X7_18 C w 0 rfl rfl dX7_findOverOne_103 ?_
      refine lv_iconst (v := 1) hx hb dX7_findOverOne_106 (by decide) ?_
      refine lv_iload hx hb dX7_findOverOne_107 (lv_at hl 5 rfl) ?_
      obtain ⟨f2, hif2, haf2, hf⟩ := wr_some hf
      refine ias C w 1 rfl hif2 haf2 (ws2 := w_X7_findOverOne g h0 h1 h2 h3 h4 v2_1 v2_2 v2_3 v2_4 v2_5 v2_6 v2_9 v2_10 v2_11 v2_12 2 x8 f2 gantries2 linkMinutes3 linkPrice4) rfl dX7_findOverOne_109 (fun H locs w => ?_)
      refine lv_aload_n hx hb dX7_findOverOne_110 rfl (lv_at hl 0 rfl) ?_
      refine g_X7_18 C w 0 rfl rfl dX7_findOverOne_111 ?_
      refine lv_iconst (v := 2) hx hb dX7_findOverOne_114 (by decide) ?_
      refine lv_iload_n hx hb dX7_findOverOne_115 rfl (lv_at hl 3 rfl) ?_
      obtain ⟨f3, hif3, haf3, hf⟩ := wr_some hf
      refine ias C w 1 rfl hif3 haf3 (ws2 := w_X7_findOverOne g h0 h1 h2 h3 h4 v2_1 v2_2 v2_3 v2_4 v2_5 v2_6 v2_9 v2_10 v2_11 v2_12 2 x8 f3 gantries2 linkMinutes3 linkPrice4) rfl dX7_findOverOne_116 (fun H locs w => ?_)
      exact b117 x2 x3 x4 x5 2 x8 f3 _ _ _ hf w (lv_sub hl [0, 1, 2, 3, 4, 5] rfl)
    refine lv_iload hx hb dX7_findOverOne_3 (lv_at hl 5 rfl) ?_
    refine lv_aload_n hx hb dX7_findOverOne_5 rfl (lv_at hl 1 rfl) ?_
    refine g_X7_41 C w 2 rfl rfl dX7_findOverOne_6 ?_
    refine lv_icmp_ge (tgt := 123) hx hb dX7_findOverOne_9 (by decide) (fun c4 => ?_) (fun c4 => ?_)
    · replace hf := it_t c4 hf
      obtain ⟨e1, e2, e3⟩ := tp3 hf
      rw [hQ]
      exact rt_v C w rfl (fun _ => 0) (by rw [← e1, ← e2, ← e3]) dX7_findOverOne_123
    · replace hf := it_f c4 hf
      refine lv_aload_n hx hb dX7_findOverOne_12 rfl (lv_at hl 1 rfl) ?_
      refine lv_iload_n hx hb dX7_findOverOne_13 rfl (lv_at hl 2 rfl) ?_
      refine lv_iload hx hb dX7_findOverOne_14 (lv_at hl 5 rfl) ?_
      obtain ⟨r5, hc6, hf⟩ := bd1_some hf
      refine ca_iN C w (wn := fun _ => w_X7_findOverOne g h0 h1 h2 h3 h4 v2_1 v2_2 v2_3 v2_4 v2_5 v2_6 v2_9 v2_10 v2_11 v2_12 links0 price0 stops1 gantries2 linkMinutes3 linkPrice4) (pm_k [false, false, true, true, false] rfl rfl (fun _ => Nat.le_of_ble_eq_true rfl) (fun _ => rfl)) (c_X4_minutesOf l g F h2 h3 v2_1 v2_2 v2_3 v2_4 v2_5 v2_6 (.ref h4) v2_9 v2_10 v2_11 v2_12 x2 x5 gantries2 linkMinutes3 r5 _ hc6) k_X7_32 (rm_le (by decide) (by decide)) 2 4 rfl rfl rfl rfl hl.1 rfl (Nat.le_of_ble_eq_true rfl) dX7_findOverOne_16 ⟨Nat.le_of_ble_eq_true rfl, Nat.le_of_ble_eq_true rfl⟩ (cells2 := 0) (slots2 := 0) ⟨rfl, rfl⟩ (fun _ H locs w => ?_)
      refine lv_istore (lv' := [(6, .int r5), (0, .ref h0), (1, .ref h2), (2, .int x2), (3, .int x3), (4, .int x4), (5, .int x5)]) hx hb dX7_findOverOne_19 hl (by decide) rfl (fun ls hl => ?_)
      refine lv_aload_n hx hb dX7_findOverOne_21 rfl (lv_at hl 2 rfl) ?_
      refine lv_iload hx hb dX7_findOverOne_22 (lv_at hl 6 rfl) ?_
      refine lv_iload_n hx hb dX7_findOverOne_24 rfl (lv_at hl 4 rfl) ?_
      obtain ⟨r7, hc8, hf⟩ := bd1_some hf
      refine ca_iN C w (wn := fun _ => w_X7_findOverOne g h0 h1 h2 h3 h4 v2_1 v2_2 v2_3 v2_4 v2_5 v2_6 v2_9 v2_10 v2_11 v2_12 links0 price0 stops1 gantries2 linkMinutes3 linkPrice4) (pm_k [false, false, true, true, false] rfl rfl (fun _ => Nat.le_of_ble_eq_true rfl) (fun _ => rfl)) (c_X4_minutesOf l g F h2 h3 v2_1 v2_2 v2_3 v2_4 v2_5 v2_6 (.ref h4) v2_9 v2_10 v2_11 v2_12 x5 x3 gantries2 linkMinutes3 r7 _ hc8) k_X7_32 (rm_le (by decide) (by decide)) 2 4 rfl rfl rfl rfl hl.1 rfl (Nat.le_of_ble_eq_true rfl) dX7_findOverOne_25 ⟨Nat.le_of_ble_eq_true rfl, Nat.le_of_ble_eq_true rfl⟩ (cells2 := 0) (slots2 := 0) ⟨rfl, rfl⟩ (fun _ H locs w => ?_)
      refine lv_istore (lv' := [(7, .int r7), (6, .int r5), (0, .ref h0), (1, .ref h2), (2, .int x2), (3, .int x3), (4, .int x4), (5, .int x5)]) hx hb dX7_findOverOne_28 hl (by decide) rfl (fun ls hl => ?_)
      refine lv_iload hx hb dX7_findOverOne_30 (lv_at hl 1 rfl) ?_
      refine lv_if_le (tgt := 117) hx hb dX7_findOverOne_32 (by decide) (fun c9 => ?_) (fun c9 => ?_)
      · replace hf := it_t c9 hf
        exact b117 x2 x3 x4 x5 links0 price0 stops1 _ _ _ hf w (lv_sub hl [2, 3, 4, 5, 6, 7] rfl)
      · replace hf := it_f c9 hf
        refine lv_iload hx hb dX7_findOverOne_35 (lv_at hl 0 rfl) ?_
        refine lv_if_le (tgt := 117) hx hb dX7_findOverOne_37 (by decide) (fun c10 => ?_) (fun c10 => ?_)
        · replace hf := it_t c10 hf
          exact b117 x2 x3 x4 x5 links0 price0 stops1 _ _ _ hf w (lv_sub hl [2, 3, 4, 5, 6, 7] rfl)
        · replace hf := it_f c10 hf
          refine lv_iload hx hb dX7_findOverOne_40 (lv_at hl 1 rfl) ?_
          refine lv_iload hx hb dX7_findOverOne_42 (lv_at hl 0 rfl) ?_
          refine lv_iadd hx hb dX7_findOverOne_44 ?_
          refine lv_iload hx hb dX7_findOverOne_45 (lv_at hl 6 rfl) ?_
          refine lv_icmp_lt (tgt := 117) hx hb dX7_findOverOne_47 (by decide) (fun c11 => ?_) (fun c11 => ?_)
          · replace hf := it_t c11 hf
            exact b117 x2 x3 x4 x5 links0 price0 stops1 _ _ _ hf w (lv_sub hl [2, 3, 4, 5, 6, 7] rfl)
          · replace hf := it_f c11 hf
            refine lv_aload_n hx hb dX7_findOverOne_50 rfl (lv_at hl 3 rfl) ?_
            refine lv_iload_n hx hb dX7_findOverOne_51 rfl (lv_at hl 4 rfl) ?_
            refine lv_iload hx hb dX7_findOverOne_52 (lv_at hl 7 rfl) ?_
            obtain ⟨r12, hc13, hf⟩ := bd1_some hf
            refine ca_iN C w (wn := fun _ => w_X7_findOverOne g h0 h1 h2 h3 h4 v2_1 v2_2 v2_3 v2_4 v2_5 v2_6 v2_9 v2_10 v2_11 v2_12 links0 price0 stops1 gantries2 linkMinutes3 linkPrice4) (pm_k [false, false, true, false, true] rfl rfl (fun _ => Nat.le_of_ble_eq_true rfl) (fun _ => rfl)) (c_X4_priceOf l g F h2 h4 v2_1 v2_2 v2_3 v2_4 v2_5 v2_6 (.ref h3) v2_9 v2_10 v2_11 v2_12 x2 x5 gantries2 linkPrice4 r12 _ hc13) k_X7_38 (rm_le (by decide) (by decide)) 2 4 rfl rfl rfl rfl hl.1 rfl (Nat.le_of_ble_eq_true rfl) dX7_findOverOne_54 ⟨Nat.le_of_ble_eq_true rfl, Nat.le_of_ble_eq_true rfl⟩ (cells2 := 0) (slots2 := 0) ⟨rfl, rfl⟩ (fun _ H locs w => ?_)
            refine lv_aload_n hx hb dX7_findOverOne_57 rfl (lv_at hl 3 rfl) ?_
            refine lv_iload hx hb dX7_findOverOne_58 (lv_at hl 7 rfl) ?_
            refine lv_iload_n hx hb dX7_findOverOne_60 rfl (lv_at hl 5 rfl) ?_
            obtain ⟨r14, hc15, hf⟩ := bd1_some hf
            refine ca_iN C w (wn := fun _ => w_X7_findOverOne g h0 h1 h2 h3 h4 v2_1 v2_2 v2_3 v2_4 v2_5 v2_6 v2_9 v2_10 v2_11 v2_12 links0 price0 stops1 gantries2 linkMinutes3 linkPrice4) (pm_k [false, false, true, false, true] rfl rfl (fun _ => Nat.le_of_ble_eq_true rfl) (fun _ => rfl)) (c_X4_priceOf l g F h2 h4 v2_1 v2_2 v2_3 v2_4 v2_5 v2_6 (.ref h3) v2_9 v2_10 v2_11 v2_12 x5 x3 gantries2 linkPrice4 r14 _ hc15) k_X7_38 (rm_le (by decide) (by decide)) 2 4 rfl rfl rfl rfl hl.1 rfl (Nat.le_of_ble_eq_true rfl) dX7_findOverOne_61 ⟨Nat.le_of_ble_eq_true rfl, Nat.le_of_ble_eq_true rfl⟩ (cells2 := 0) (slots2 := 0) ⟨rfl, rfl⟩ (fun _ H locs w => ?_)
            refine lv_iadd hx hb dX7_findOverOne_64 ?_
            refine lv_istore (lv' := [(8, .int (r12 + r14)), (7, .int r7), (6, .int r5), (0, .ref h0), (1, .ref h2), (2, .int x2), (3, .int x3), (4, .int x4), (5, .int x5)]) hx hb dX7_findOverOne_65 hl (by decide) rfl (fun ls hl => ?_)
            refine lv_aload_n hx hb dX7_findOverOne_67 rfl (lv_at hl 3 rfl) ?_
            refine g_X7_9 C w 0 rfl rfl dX7_findOverOne_68 ?_
            refine lv_iconst (v := -1) hx hb dX7_findOverOne_71 (by decide) ?_
            refine lv_icmp_eq (tgt := 84) hx hb dX7_findOverOne_72 (by decide) (fun c16 => ?_) (fun c16 => ?_)
            · replace hf := it_t c16 hf
              exact b84 x2 x3 x4 x5 (r12 + r14) links0 price0 stops1 _ _ _ hf w (lv_sub hl [3, 4, 5, 6, 7, 8, 0] rfl)
            · replace hf := it_f c16 hf
              refine lv_iload hx hb dX7_findOverOne_75 (lv_at hl 0 rfl) ?_
              refine lv_aload_n hx hb dX7_findOverOne_77 rfl (lv_at hl 3 rfl) ?_
              refine g_X7_15 C w 0 rfl rfl dX7_findOverOne_78 ?_
              refine lv_icmp_ge (tgt := 117) hx hb dX7_findOverOne_81 (by decide) (fun c17 => ?_) (fun c17 => ?_)
              · replace hf := it_t c17 hf
                exact b117 x2 x3 x4 x5 links0 price0 stops1 _ _ _ hf w (lv_sub hl [3, 4, 5, 6, 7, 8] rfl)
              · replace hf := it_f c17 hf
                exact b84 x2 x3 x4 x5 (r12 + r14) links0 price0 stops1 _ _ _ hf w (lv_sub hl [3, 4, 5, 6, 7, 8, 0] rfl)
  refine lv_iconst (v := 0) hx hb dX7_findOverOne_0 (by decide) ?_
  refine lv_istore (lv' := [(5, .int 0), (0, .ref h0), (1, .ref h2), (2, .int p2), (3, .int p3), (4, .int p4)]) hx hb dX7_findOverOne_1 hl (by decide) rfl (fun ls hl => ?_)
  exact L3 (p2, p3, p4, 0, links0, price0, stops1) hf _ _ _ w (lv_sub hl [1, 2, 3, 4, 5, 0] rfl)

theorem dX7_offerThree_0 : decode cX7_offerThree 0 = .ok (.aload_n 1, 1) := by decide +kernel
theorem dX7_offerThree_1 : decode cX7_offerThree 1 = .ok (.iload_n 2, 1) := by decide +kernel
theorem dX7_offerThree_2 : decode cX7_offerThree 2 = .ok (.iload_n 3, 1) := by decide +kernel
theorem dX7_offerThree_3 : decode cX7_offerThree 3 = .ok (.invokevirtual 38, 3) := by decide +kernel
theorem dX7_offerThree_6 : decode cX7_offerThree 6 = .ok (.aload_n 1, 1) := by decide +kernel
theorem dX7_offerThree_7 : decode cX7_offerThree 7 = .ok (.iload_n 3, 1) := by decide +kernel
theorem dX7_offerThree_8 : decode cX7_offerThree 8 = .ok (.iload 4, 2) := by decide +kernel
theorem dX7_offerThree_10 : decode cX7_offerThree 10 = .ok (.invokevirtual 38, 3) := by decide +kernel
theorem dX7_offerThree_13 : decode cX7_offerThree 13 = .ok (.iadd, 1) := by decide +kernel
theorem dX7_offerThree_14 : decode cX7_offerThree 14 = .ok (.aload_n 1, 1) := by decide +kernel
theorem dX7_offerThree_15 : decode cX7_offerThree 15 = .ok (.iload 4, 2) := by decide +kernel
theorem dX7_offerThree_17 : decode cX7_offerThree 17 = .ok (.iload 5, 2) := by decide +kernel
theorem dX7_offerThree_19 : decode cX7_offerThree 19 = .ok (.invokevirtual 38, 3) := by decide +kernel
theorem dX7_offerThree_22 : decode cX7_offerThree 22 = .ok (.iadd, 1) := by decide +kernel
theorem dX7_offerThree_23 : decode cX7_offerThree 23 = .ok (.istore 6, 2) := by decide +kernel
theorem dX7_offerThree_25 : decode cX7_offerThree 25 = .ok (.aload_n 0, 1) := by decide +kernel
theorem dX7_offerThree_26 : decode cX7_offerThree 26 = .ok (.getfield 9, 3) := by decide +kernel
theorem dX7_offerThree_29 : decode cX7_offerThree 29 = .ok (.iconst (-1), 1) := by decide +kernel
theorem dX7_offerThree_30 : decode cX7_offerThree 30 = .ok (.if_icmp .eq 12, 3) := by decide +kernel
theorem dX7_offerThree_33 : decode cX7_offerThree 33 = .ok (.iload 6, 2) := by decide +kernel
theorem dX7_offerThree_35 : decode cX7_offerThree 35 = .ok (.aload_n 0, 1) := by decide +kernel
theorem dX7_offerThree_36 : decode cX7_offerThree 36 = .ok (.getfield 15, 3) := by decide +kernel
theorem dX7_offerThree_39 : decode cX7_offerThree 39 = .ok (.if_icmp .ge 44, 3) := by decide +kernel
theorem dX7_offerThree_42 : decode cX7_offerThree 42 = .ok (.aload_n 0, 1) := by decide +kernel
theorem dX7_offerThree_43 : decode cX7_offerThree 43 = .ok (.iconst 3, 1) := by decide +kernel
theorem dX7_offerThree_44 : decode cX7_offerThree 44 = .ok (.putfield 9, 3) := by decide +kernel
theorem dX7_offerThree_47 : decode cX7_offerThree 47 = .ok (.aload_n 0, 1) := by decide +kernel
theorem dX7_offerThree_48 : decode cX7_offerThree 48 = .ok (.iload 6, 2) := by decide +kernel
theorem dX7_offerThree_50 : decode cX7_offerThree 50 = .ok (.putfield 15, 3) := by decide +kernel
theorem dX7_offerThree_53 : decode cX7_offerThree 53 = .ok (.aload_n 0, 1) := by decide +kernel
theorem dX7_offerThree_54 : decode cX7_offerThree 54 = .ok (.getfield 18, 3) := by decide +kernel
theorem dX7_offerThree_57 : decode cX7_offerThree 57 = .ok (.iconst 0, 1) := by decide +kernel
theorem dX7_offerThree_58 : decode cX7_offerThree 58 = .ok (.iload_n 2, 1) := by decide +kernel
theorem dX7_offerThree_59 : decode cX7_offerThree 59 = .ok (.iastore, 1) := by decide +kernel
theorem dX7_offerThree_60 : decode cX7_offerThree 60 = .ok (.aload_n 0, 1) := by decide +kernel
theorem dX7_offerThree_61 : decode cX7_offerThree 61 = .ok (.getfield 18, 3) := by decide +kernel
theorem dX7_offerThree_64 : decode cX7_offerThree 64 = .ok (.iconst 1, 1) := by decide +kernel
theorem dX7_offerThree_65 : decode cX7_offerThree 65 = .ok (.iload_n 3, 1) := by decide +kernel
theorem dX7_offerThree_66 : decode cX7_offerThree 66 = .ok (.iastore, 1) := by decide +kernel
theorem dX7_offerThree_67 : decode cX7_offerThree 67 = .ok (.aload_n 0, 1) := by decide +kernel
theorem dX7_offerThree_68 : decode cX7_offerThree 68 = .ok (.getfield 18, 3) := by decide +kernel
theorem dX7_offerThree_71 : decode cX7_offerThree 71 = .ok (.iconst 2, 1) := by decide +kernel
theorem dX7_offerThree_72 : decode cX7_offerThree 72 = .ok (.iload 4, 2) := by decide +kernel
theorem dX7_offerThree_74 : decode cX7_offerThree 74 = .ok (.iastore, 1) := by decide +kernel
theorem dX7_offerThree_75 : decode cX7_offerThree 75 = .ok (.aload_n 0, 1) := by decide +kernel
theorem dX7_offerThree_76 : decode cX7_offerThree 76 = .ok (.getfield 18, 3) := by decide +kernel
theorem dX7_offerThree_79 : decode cX7_offerThree 79 = .ok (.iconst 3, 1) := by decide +kernel
theorem dX7_offerThree_80 : decode cX7_offerThree 80 = .ok (.iload 5, 2) := by decide +kernel
theorem dX7_offerThree_82 : decode cX7_offerThree 82 = .ok (.iastore, 1) := by decide +kernel
theorem dX7_offerThree_83 : decode cX7_offerThree 83 = .ok (.return_, 1) := by decide +kernel
abbrev m_X7_offerThree : MD := (yX7_offerThree, cX7_offerThree, 7, none)

abbrev w_X7_offerThree (g : GT) (h0 h1 h2 h3 : Nat) (v2_1 v2_2 v2_3 v2_4 v2_5 v2_6 v2_7 v2_9 v2_10 v2_11 v2_12 : Value) (links0 price0 : Int32) (stops1 : Nat → Int32) (gantries2 : Int32) (linkPrice3 : Nat → Int32) : va_W := [(h0, .inr (7, [.int links0, .int price0, .ref h1])), (h1, aI g 4 stops1), (h2, .inr (4, [.int gantries2, v2_1, v2_2, v2_3, v2_4, v2_5, v2_6, v2_7, .ref h3, v2_9, v2_10, v2_11, v2_12])), (h3, aI g 100 linkPrice3)]
def f_X7_offerThree_b83 (F : Nat) (gantries2 : Int32) (linkPrice3 : Nat → Int32) (links0 price0 : Int32) (stops1 : Nat → Int32) : Option (Int32 × Int32 × (Nat → Int32)) :=
  some (links0, price0, stops1)
def f_X7_offerThree_b42 (F : Nat) (gantries2 : Int32) (linkPrice3 : Nat → Int32) (x2 x3 x4 x5 x6 links0 price0 : Int32) (stops1 : Nat → Int32) : Option (Int32 × Int32 × (Nat → Int32)) :=
  wr stops1 4 0 x2 fun f1 =>
  wr f1 4 1 x3 fun f2 =>
  wr f2 4 2 x4 fun f3 =>
  wr f3 4 3 x5 fun f4 =>
  f_X7_offerThree_b83 F gantries2 linkPrice3 3 x6 f4
def f_X7_offerThree (F : Nat) (p2 p3 p4 p5 links0 price0 : Int32) (stops1 : Nat → Int32) (gantries2 : Int32) (linkPrice3 : Nat → Int32) : Option (Int32 × Int32 × (Nat → Int32)) :=
  bd1 (f_X4_priceOf F p2 p3 gantries2 linkPrice3) fun r5 =>
  bd1 (f_X4_priceOf F p3 p4 gantries2 linkPrice3) fun r7 =>
  bd1 (f_X4_priceOf F p4 p5 gantries2 linkPrice3) fun r9 =>
  if links0 = (-1) then
    f_X7_offerThree_b42 F gantries2 linkPrice3 p2 p3 p4 p5 ((r5 + r7) + r9) links0 price0 stops1
  else
    if price0 ≤ ((r5 + r7) + r9) then
      f_X7_offerThree_b83 F gantries2 linkPrice3 links0 price0 stops1
    else
      f_X7_offerThree_b42 F gantries2 linkPrice3 p2 p3 p4 p5 ((r5 + r7) + r9) links0 price0 stops1
set_option maxHeartbeats 4000000 in
set_option maxRecDepth 100000 in
theorem c_X7_offerThree (l : Launch) (g : GT) (F : Nat) (h0 h1 h2 h3 : Nat) (v2_1 v2_2 v2_3 v2_4 v2_5 v2_6 v2_7 v2_9 v2_10 v2_11 v2_12 : Value) (p2 p3 p4 p5 links0 price0 : Int32) (stops1 : Nat → Int32) (gantries2 : Int32) (linkPrice3 : Nat → Int32) (o_links0 o_price0 : Int32) (o_stops1 : Nat → Int32) (sz : Nat) (hf : f_X7_offerThree F p2 p3 p4 p5 links0 price0 stops1 gantries2 linkPrice3 = some (o_links0, o_price0, o_stops1)) : CV l m_X7_offerThree (rml 1 0 0) g (w_X7_offerThree g h0 h1 h2 h3 v2_1 v2_2 v2_3 v2_4 v2_5 v2_6 v2_7 v2_9 v2_10 v2_11 v2_12 links0 price0 stops1 gantries2 linkPrice3) (fun _ => w_X7_offerThree g h0 h1 h2 h3 v2_1 v2_2 v2_3 v2_4 v2_5 v2_6 v2_7 v2_9 v2_10 v2_11 v2_12 o_links0 o_price0 o_stops1 gantries2 linkPrice3) sz [.ref h0, .ref h2, .int p2, .int p3, .int p4, .int p5] := by
  refine en_v (by decide) (Nat.le_of_ble_eq_true rfl) (fun p e s m args below meth c A ls C w hl => ?_)
  have C : Cx p s m args meth c RX7 m_X7_offerThree g A := C
  have hx := C.1
  have hb : c.code = cX7_offerThree := C.2.1
  have hl : lv_has ls 7 [(0, .ref h0), (1, .ref h2), (2, .int p2), (3, .int p3), (4, .int p4), (5, .int p5)] := hl
  obtain ⟨Q, hQ⟩ : ∃ Q, Q = QV below args s g A (fun _ => w_X7_offerThree g h0 h1 h2 h3 v2_1 v2_2 v2_3 v2_4 v2_5 v2_6 v2_7 v2_9 v2_10 v2_11 v2_12 o_links0 o_price0 o_stops1 gantries2 linkPrice3) 0 0 := ⟨_, rfl⟩
  suffices hW : W p l e (rml 1 0 0) s m args below meth c s.heap [] 0 0 Q (F0 m 0 ls []) from (by rw [hQ] at hW; exact hW)
  unfold f_X7_offerThree at hf
  have b83 : ∀ (links0 price0 : Int32) (stops1 : Nat → Int32) (H : Heap) (locs : List Loc) (ls : Array Slot), f_X7_offerThree_b83 F gantries2 linkPrice3 links0 price0 stops1 = some (o_links0, o_price0, o_stops1) → Wd g A (w_X7_offerThree g h0 h1 h2 h3 v2_1 v2_2 v2_3 v2_4 v2_5 v2_6 v2_7 v2_9 v2_10 v2_11 v2_12 links0 price0 stops1 gantries2 linkPrice3) s.heap H locs → lv_has ls 7 [] → W p l e (rml 1 0 0) s m args below meth c H locs 0 0 Q (F0 m 83 ls []) := by
    intro links0 price0 stops1 H locs ls hf w hl
    unfold f_X7_offerThree_b83 at hf
    obtain ⟨e1, e2, e3⟩ := tp3 hf
    rw [hQ]
    exact rt_v C w rfl (fun _ => 0) (by rw [← e1, ← e2, ← e3]) dX7_offerThree_83
  have b42 : ∀ (x2 x3 x4 x5 x6 links0 price0 : Int32) (stops1 : Nat → Int32) (H : Heap) (locs : List Loc) (ls : Array Slot), f_X7_offerThree_b42 F gantries2 linkPrice3 x2 x3 x4 x5 x6 links0 price0 stops1 = some (o_links0, o_price0, o_stops1) → Wd g A (w_X7_offerThree g h0 h1 h2 h3 v2_1 v2_2 v2_3 v2_4 v2_5 v2_6 v2_7 v2_9 v2_10 v2_11 v2_12 links0 price0 stops1 gantries2 linkPrice3) s.heap H locs → lv_has ls 7 [(0, .ref h0), (2, .int x2), (3, .int x3), (4, .int x4), (5, .int x5), (6, .int x6)] → W p l e (rml 1 0 0) s m args below meth c H locs 0 0 Q (F0 m 42 ls []) := by
    intro x2 x3 x4 x5 x6 links0 price0 stops1 H locs ls hf w hl
    unfold f_X7_offerThree_b42 at hf
    refine lv_aload_n hx hb dX7_offerThree_42 rfl (lv_at hl 0 rfl) ?_
    refine lv_iconst (v := 3) hx hb dX7_offerThree_43 (by decide) ?_
    refine p_X7_9 C w 0 rfl (Nat.le_of_ble_eq_true rfl) (ws2 := w_X7_offerThree g h0 h1 h2 h3 v2_1 v2_2 v2_3 v2_4 v2_5 v2_6 v2_7 v2_9 v2_10 v2_11 v2_12 3 price0 stops1 gantries2 linkPrice3) rfl dX7_offerThree_44 (fun H locs w => ?_)
    refine lv_aload_n hx hb dX7_offerThree_47 rfl (lv_at hl 0 rfl) ?_
    refine lv_iload hx hb dX7_offerThree_48 (lv_at hl 5 rfl) ?_
    refine p_X7_15 C w 0 rfl (Nat.le_of_ble_eq_true rfl) (ws2 := w_X7_offerThree g h0 h1 h2 h3 v2_1 v2_2 v2_3 v2_4 v2_5 v2_6 v2_7 v2_9 v2_10 v2_11 v2_12 3 x6 stops1 gantries2 linkPrice3) rfl dX7_offerThree_50 (fun H locs w => ?_)
    refine lv_aload_n hx hb dX7_offerThree_53 rfl (lv_at hl 0 rfl) ?_
    refine g_X7_18 C w 0 rfl rfl dX7_offerThree_54 ?_
    refine lv_iconst (v := 0) hx hb dX7_offerThree_57 (by decide) ?_
    refine lv_iload_n hx hb dX7_offerThree_58 rfl (lv_at hl 1 rfl) ?_
    obtain ⟨f1, hif1, haf1, hf⟩ := wr_some hf
    refine ias C w 1 rfl hif1 haf1 (ws2 := w_X7_offerThree g h0 h1 h2 h3 v2_1 v2_2 v2_3 v2_4 v2_5 v2_6 v2_7 v2_9 v2_10 v2_11 v2_12 3 x6 f1 gantries2 linkPrice3) rfl dX7_offerThree_59 (fun H locs w => ?_)
    refine lv_aload_n hx hb dX7_offerThree_60 rfl (lv_at hl 0 rfl) ?_
    refine g_X7_18 C w 0 rfl rfl dX7_offerThree_61 ?_
    refine lv_iconst (v := 1) hx hb dX7_offerThree_64 (by decide) ?_
    refine lv_iload_n hx hb dX7_offerThree_65 rfl (lv_at hl 2 rfl) ?_
    obtain ⟨f2, hif2, haf2, hf⟩ := wr_some hf
    refine ias C w 1 rfl hif2 haf2 (ws2 := w_X7_offerThree g h0 h1 h2 h3 v2_1 v2_2 v2_3 v2_4 v2_5 v2_6 v2_7 v2_9 v2_10 v2_11 v2_12 3 x6 f2 gantries2 linkPrice3) rfl dX7_offerThree_66 (fun H locs w => ?_)
    refine lv_aload_n hx hb dX7_offerThree_67 rfl (lv_at hl 0 rfl) ?_
    refine g_X7_18 C w 0 rfl rfl dX7_offerThree_68 ?_
    refine lv_iconst (v := 2) hx hb dX7_offerThree_71 (by decide) ?_
    refine lv_iload hx hb dX7_offerThree_72 (lv_at hl 3 rfl) ?_
    obtain ⟨f3, hif3, haf3, hf⟩ := wr_some hf
    refine ias C w 1 rfl hif3 haf3 (ws2 := w_X7_offerThree g h0 h1 h2 h3 v2_1 v2_2 v2_3 v2_4 v2_5 v2_6 v2_7 v2_9 v2_10 v2_11 v2_12 3 x6 f3 gantries2 linkPrice3) rfl dX7_offerThree_74 (fun H locs w => ?_)
    refine lv_aload_n hx hb dX7_offerThree_75 rfl (lv_at hl 0 rfl) ?_
    refine g_X7_18 C w 0 rfl rfl dX7_offerThree_76 ?_
    refine lv_iconst (v := 3) hx hb dX7_offerThree_79 (by decide) ?_
    refine lv_iload hx hb dX7_offerThree_80 (lv_at hl 4 rfl) ?_
    obtain ⟨f4, hif4, haf4, hf⟩ := wr_some hf
    refine ias C w 1 rfl hif4 haf4 (ws2 := w_X7_offerThree g h0 h1 h2 h3 v2_1 v2_2 v2_3 v2_4 v2_5 v2_6 v2_7 v2_9 v2_10 v2_11 v2_12 3 x6 f4 gantries2 linkPrice3) rfl dX7_offerThree_82 (fun H locs w => ?_)
    exact b83 3 x6 f4 _ _ _ hf w (lv_sub hl [] rfl)
  refine lv_aload_n hx hb dX7_offerThree_0 rfl (lv_at hl 1 rfl) ?_
  refine lv_iload_n hx hb dX7_offerThree_1 rfl (lv_at hl 2 rfl) ?_
  refine lv_iload_n hx hb dX7_offerThree_2 rfl (lv_at hl 3 rfl) ?_
  obtain ⟨r5, hc6, hf⟩ := bd1_some hf
  refine ca_iN C w (wn := fun _ => w_X7_offerThree g h0 h1 h2 h3 v2_1 v2_2 v2_3 v2_4 v2_5 v2_6 v2_7 v2_9 v2_10 v2_11 v2_12 links0 price0 stops1 gantries2 linkPrice3) (pm_k [false, false, true, true] rfl rfl (fun _ => Nat.le_of_ble_eq_true rfl) (fun _ => rfl)) (c_X4_priceOf l g F h2 h3 v2_1 v2_2 v2_3 v2_4 v2_5 v2_6 v2_7 v2_9 v2_10 v2_11 v2_12 p2 p3 gantries2 linkPrice3 r5 _ hc6) k_X7_38 (rm_le (by decide) (by decide)) 2 4 rfl rfl rfl rfl hl.1 rfl (Nat.le_of_ble_eq_true rfl) dX7_offerThree_3 ⟨Nat.le_of_ble_eq_true rfl, Nat.le_of_ble_eq_true rfl⟩ (cells2 := 0) (slots2 := 0) ⟨rfl, rfl⟩ (fun _ H locs w => ?_)
  refine lv_aload_n hx hb dX7_offerThree_6 rfl (lv_at hl 1 rfl) ?_
  refine lv_iload_n hx hb dX7_offerThree_7 rfl (lv_at hl 3 rfl) ?_
  refine lv_iload hx hb dX7_offerThree_8 (lv_at hl 4 rfl) ?_
  obtain ⟨r7, hc8, hf⟩ := bd1_some hf
  refine ca_iN C w (wn := fun _ => w_X7_offerThree g h0 h1 h2 h3 v2_1 v2_2 v2_3 v2_4 v2_5 v2_6 v2_7 v2_9 v2_10 v2_11 v2_12 links0 price0 stops1 gantries2 linkPrice3) (pm_k [false, false, true, true] rfl rfl (fun _ => Nat.le_of_ble_eq_true rfl) (fun _ => rfl)) (c_X4_priceOf l g F h2 h3 v2_1 v2_2 v2_3 v2_4 v2_5 v2_6 v2_7 v2_9 v2_10 v2_11 v2_12 p3 p4 gantries2 linkPrice3 r7 _ hc8) k_X7_38 (rm_le (by decide) (by decide)) 2 4 rfl rfl rfl rfl hl.1 rfl (Nat.le_of_ble_eq_true rfl) dX7_offerThree_10 ⟨Nat.le_of_ble_eq_true rfl, Nat.le_of_ble_eq_true rfl⟩ (cells2 := 0) (slots2 := 0) ⟨rfl, rfl⟩ (fun _ H locs w => ?_)
  refine lv_iadd hx hb dX7_offerThree_13 ?_
  refine lv_aload_n hx hb dX7_offerThree_14 rfl (lv_at hl 1 rfl) ?_
  refine lv_iload hx hb dX7_offerThree_15 (lv_at hl 4 rfl) ?_
  refine lv_iload hx hb dX7_offerThree_17 (lv_at hl 5 rfl) ?_
  obtain ⟨r9, hc10, hf⟩ := bd1_some hf
  refine ca_iN C w (wn := fun _ => w_X7_offerThree g h0 h1 h2 h3 v2_1 v2_2 v2_3 v2_4 v2_5 v2_6 v2_7 v2_9 v2_10 v2_11 v2_12 links0 price0 stops1 gantries2 linkPrice3) (pm_k [false, false, true, true] rfl rfl (fun _ => Nat.le_of_ble_eq_true rfl) (fun _ => rfl)) (c_X4_priceOf l g F h2 h3 v2_1 v2_2 v2_3 v2_4 v2_5 v2_6 v2_7 v2_9 v2_10 v2_11 v2_12 p4 p5 gantries2 linkPrice3 r9 _ hc10) k_X7_38 (rm_le (by decide) (by decide)) 2 4 rfl rfl rfl rfl hl.1 rfl (Nat.le_of_ble_eq_true rfl) dX7_offerThree_19 ⟨Nat.le_of_ble_eq_true rfl, Nat.le_of_ble_eq_true rfl⟩ (cells2 := 0) (slots2 := 0) ⟨rfl, rfl⟩ (fun _ H locs w => ?_)
  refine lv_iadd hx hb dX7_offerThree_22 ?_
  refine lv_istore (lv' := [(6, .int ((r5 + r7) + r9)), (0, .ref h0), (1, .ref h2), (2, .int p2), (3, .int p3), (4, .int p4), (5, .int p5)]) hx hb dX7_offerThree_23 hl (by decide) rfl (fun ls hl => ?_)
  refine lv_aload_n hx hb dX7_offerThree_25 rfl (lv_at hl 1 rfl) ?_
  refine g_X7_9 C w 0 rfl rfl dX7_offerThree_26 ?_
  refine lv_iconst (v := -1) hx hb dX7_offerThree_29 (by decide) ?_
  refine lv_icmp_eq (tgt := 42) hx hb dX7_offerThree_30 (by decide) (fun c11 => ?_) (fun c11 => ?_)
  · replace hf := it_t c11 hf
    exact b42 p2 p3 p4 p5 ((r5 + r7) + r9) links0 price0 stops1 _ _ _ hf w (lv_sub hl [1, 3, 4, 5, 6, 0] rfl)
  · replace hf := it_f c11 hf
    refine lv_iload hx hb dX7_offerThree_33 (lv_at hl 0 rfl) ?_
    refine lv_aload_n hx hb dX7_offerThree_35 rfl (lv_at hl 1 rfl) ?_
    refine g_X7_15 C w 0 rfl rfl dX7_offerThree_36 ?_
    refine lv_icmp_ge (tgt := 83) hx hb dX7_offerThree_39 (by decide) (fun c12 => ?_) (fun c12 => ?_)
    · replace hf := it_t c12 hf
      exact b83 links0 price0 stops1 _ _ _ hf w (lv_sub hl [] rfl)
    · replace hf := it_f c12 hf
      exact b42 p2 p3 p4 p5 ((r5 + r7) + r9) links0 price0 stops1 _ _ _ hf w (lv_sub hl [1, 3, 4, 5, 6, 0] rfl)

theorem dX7_findOverTwo_0 : decode cX7_findOverTwo 0 = .ok (.iconst 0, 1) := by decide +kernel
theorem dX7_findOverTwo_1 : decode cX7_findOverTwo 1 = .ok (.istore 5, 2) := by decide +kernel
theorem dX7_findOverTwo_3 : decode cX7_findOverTwo 3 = .ok (.iload 5, 2) := by decide +kernel
theorem dX7_findOverTwo_5 : decode cX7_findOverTwo 5 = .ok (.aload_n 1, 1) := by decide +kernel
theorem dX7_findOverTwo_6 : decode cX7_findOverTwo 6 = .ok (.getfield 41, 3) := by decide +kernel
theorem dX7_findOverTwo_9 : decode cX7_findOverTwo 9 = .ok (.if_icmp .ge 94, 3) := by decide +kernel
theorem dX7_findOverTwo_12 : decode cX7_findOverTwo 12 = .ok (.aload_n 1, 1) := by decide +kernel
theorem dX7_findOverTwo_13 : decode cX7_findOverTwo 13 = .ok (.iload_n 2, 1) := by decide +kernel
theorem dX7_findOverTwo_14 : decode cX7_findOverTwo 14 = .ok (.iload 5, 2) := by decide +kernel
theorem dX7_findOverTwo_16 : decode cX7_findOverTwo 16 = .ok (.invokevirtual 32, 3) := by decide +kernel
theorem dX7_findOverTwo_19 : decode cX7_findOverTwo 19 = .ok (.istore 6, 2) := by decide +kernel
theorem dX7_findOverTwo_21 : decode cX7_findOverTwo 21 = .ok (.iconst 0, 1) := by decide +kernel
theorem dX7_findOverTwo_22 : decode cX7_findOverTwo 22 = .ok (.istore 7, 2) := by decide +kernel
theorem dX7_findOverTwo_24 : decode cX7_findOverTwo 24 = .ok (.iload 6, 2) := by decide +kernel
theorem dX7_findOverTwo_26 : decode cX7_findOverTwo 26 = .ok (.ifCond .le 71, 3) := by decide +kernel
theorem dX7_findOverTwo_29 : decode cX7_findOverTwo 29 = .ok (.iload 7, 2) := by decide +kernel
theorem dX7_findOverTwo_31 : decode cX7_findOverTwo 31 = .ok (.aload_n 1, 1) := by decide +kernel
theorem dX7_findOverTwo_32 : decode cX7_findOverTwo 32 = .ok (.getfield 41, 3) := by decide +kernel
theorem dX7_findOverTwo_35 : decode cX7_findOverTwo 35 = .ok (.if_icmp .ge 62, 3) := by decide +kernel
theorem dX7_findOverTwo_38 : decode cX7_findOverTwo 38 = .ok (.aload_n 1, 1) := by decide +kernel
theorem dX7_findOverTwo_39 : decode cX7_findOverTwo 39 = .ok (.iload 5, 2) := by decide +kernel
theorem dX7_findOverTwo_41 : decode cX7_findOverTwo 41 = .ok (.iload 7, 2) := by decide +kernel
theorem dX7_findOverTwo_43 : decode cX7_findOverTwo 43 = .ok (.invokevirtual 32, 3) := by decide +kernel
theorem dX7_findOverTwo_46 : decode cX7_findOverTwo 46 = .ok (.istore 8, 2) := by decide +kernel
theorem dX7_findOverTwo_48 : decode cX7_findOverTwo 48 = .ok (.aload_n 1, 1) := by decide +kernel
theorem dX7_findOverTwo_49 : decode cX7_findOverTwo 49 = .ok (.iload 7, 2) := by decide +kernel
theorem dX7_findOverTwo_51 : decode cX7_findOverTwo 51 = .ok (.iload_n 3, 1) := by decide +kernel
theorem dX7_findOverTwo_52 : decode cX7_findOverTwo 52 = .ok (.invokevirtual 32, 3) := by decide +kernel
theorem dX7_findOverTwo_55 : decode cX7_findOverTwo 55 = .ok (.istore 9, 2) := by decide +kernel
theorem dX7_findOverTwo_57 : decode cX7_findOverTwo 57 = .ok (.iload 8, 2) := by decide +kernel
theorem dX7_findOverTwo_59 : decode cX7_findOverTwo 59 = .ok (.ifCond .le 32, 3) := by decide +kernel
theorem dX7_findOverTwo_62 : decode cX7_findOverTwo 62 = .ok (.iload 9, 2) := by decide +kernel
theorem dX7_findOverTwo_64 : decode cX7_findOverTwo 64 = .ok (.ifCond .le 27, 3) := by decide +kernel
theorem dX7_findOverTwo_67 : decode cX7_findOverTwo 67 = .ok (.iload 6, 2) := by decide +kernel
theorem dX7_findOverTwo_69 : decode cX7_findOverTwo 69 = .ok (.iload 8, 2) := by decide +kernel
theorem dX7_findOverTwo_71 : decode cX7_findOverTwo 71 = .ok (.iadd, 1) := by decide +kernel
theorem dX7_findOverTwo_72 : decode cX7_findOverTwo 72 = .ok (.iload 9, 2) := by decide +kernel
theorem dX7_findOverTwo_74 : decode cX7_findOverTwo 74 = .ok (.iadd, 1) := by decide +kernel
theorem dX7_findOverTwo_75 : decode cX7_findOverTwo 75 = .ok (.iload 4, 2) := by decide +kernel
theorem dX7_findOverTwo_77 : decode cX7_findOverTwo 77 = .ok (.if_icmp .lt 14, 3) := by decide +kernel
theorem dX7_findOverTwo_80 : decode cX7_findOverTwo 80 = .ok (.aload_n 0, 1) := by decide +kernel
theorem dX7_findOverTwo_81 : decode cX7_findOverTwo 81 = .ok (.aload_n 1, 1) := by decide +kernel
theorem dX7_findOverTwo_82 : decode cX7_findOverTwo 82 = .ok (.iload_n 2, 1) := by decide +kernel
theorem dX7_findOverTwo_83 : decode cX7_findOverTwo 83 = .ok (.iload 5, 2) := by decide +kernel
theorem dX7_findOverTwo_85 : decode cX7_findOverTwo 85 = .ok (.iload 7, 2) := by decide +kernel
theorem dX7_findOverTwo_87 : decode cX7_findOverTwo 87 = .ok (.iload_n 3, 1) := by decide +kernel
theorem dX7_findOverTwo_88 : decode cX7_findOverTwo 88 = .ok (.invokevirtual 44, 3) := by decide +kernel
theorem dX7_findOverTwo_91 : decode cX7_findOverTwo 91 = .ok (.iinc 7 1, 3) := by decide +kernel
theorem dX7_findOverTwo_94 : decode cX7_findOverTwo 94 = .ok (.goto (-70), 3) := by decide +kernel
theorem dX7_findOverTwo_97 : decode cX7_findOverTwo 97 = .ok (.iinc 5 1, 3) := by decide +kernel
theorem dX7_findOverTwo_100 : decode cX7_findOverTwo 100 = .ok (.goto (-97), 3) := by decide +kernel
theorem dX7_findOverTwo_103 : decode cX7_findOverTwo 103 = .ok (.return_, 1) := by decide +kernel
abbrev m_X7_findOverTwo : MD := (yX7_findOverTwo, cX7_findOverTwo, 10, none)
theorem q_4 : Cond.initialized RX7 ∈ TS := ts_t 4 (by decide +kernel) (by decide +kernel)
theorem q_820 : Cond.code yX7_offerThree cX7_offerThree 7 none ∈ TS := ts_t 820 (by decide +kernel) (by decide +kernel)
theorem q_817 : Cond.methodLink RX7 44 yX7_offerThree ∈ TS := ts_t 817 (by decide +kernel) (by decide +kernel)
theorem q_819 : Cond.instanceMethod yX7_offerThree ∈ TS := ts_t 819 (by decide +kernel) (by decide +kernel)
theorem qs_56 : Cond.selects yX7_offerThree.cls yX7_offerThree yX7_offerThree ∈ TS := ts_s 56 (by decide +kernel) (by decide +kernel)
theorem k_X7_44 : LkV RX7 44 m_X7_offerThree 5 := ⟨q_817, q_819, qs_56, ⟨q_4, q_820, by decide, by decide, by decide +kernel⟩⟩
abbrev w_X7_findOverTwo (g : GT) (h0 h1 h2 h3 h4 : Nat) (v2_1 v2_2 v2_3 v2_4 v2_5 v2_6 v2_9 v2_10 v2_11 v2_12 : Value) (links0 price0 : Int32) (stops1 : Nat → Int32) (gantries2 : Int32) (linkMinutes3 linkPrice4 : Nat → Int32) : va_W := [(h0, .inr (7, [.int links0, .int price0, .ref h1])), (h1, aI g 4 stops1), (h2, .inr (4, [.int gantries2, v2_1, v2_2, v2_3, v2_4, v2_5, v2_6, .ref h3, .ref h4, v2_9, v2_10, v2_11, v2_12])), (h3, aI g 100 linkMinutes3), (h4, aI g 100 linkPrice4)]
def f_X7_findOverTwo_b97 (F : Nat) (k3 : (Int32 × Int32 × Int32 × Int32 × Int32 × Int32 × (Nat → Int32)) → Option (Int32 × Int32 × (Nat → Int32))) (gantries2 : Int32) (linkMinutes3 linkPrice4 : Nat → Int32) (x2 x3 x4 x5 links0 price0 : Int32) (stops1 : Nat → Int32) : Option (Int32 × Int32 × (Nat → Int32)) :=
  k3 (x2, x3, x4, x5 + 1, links0, price0, stops1)
def f_X7_findOverTwo_b91 (F : Nat) (k3 : (Int32 × Int32 × Int32 × Int32 × Int32 × Int32 × (Nat → Int32)) → Option (Int32 × Int32 × (Nat → Int32))) (k24 : (Int32 × Int32 × Int32 × Int32 × Int32 × Int32 × Int32 × Int32 × (Nat → Int32)) → Option (Int32 × Int32 × (Nat → Int32))) (gantries2 : Int32) (linkMinutes3 linkPrice4 : Nat → Int32) (x2 x3 x4 x5 x6 x7 links0 price0 : Int32) (stops1 : Nat → Int32) : Option (Int32 × Int32 × (Nat → Int32)) :=
  k24 (x2, x3, x4, x5, x6, x7 + 1, links0, price0, stops1)
def f_X7_findOverTwo_h24 (F : Nat) (k3 : (Int32 × Int32 × Int32 × Int32 × Int32 × Int32 × (Nat → Int32)) → Option (Int32 × Int32 × (Nat → Int32))) (gantries2 : Int32) (linkMinutes3 linkPrice4 : Nat → Int32) (k24 : (Int32 × Int32 × Int32 × Int32 × Int32 × Int32 × Int32 × Int32 × (Nat → Int32)) → Option (Int32 × Int32 × (Nat → Int32))) (x2 x3 x4 x5 x6 x7 links0 price0 : Int32) (stops1 : Nat → Int32) : Option (Int32 × Int32 × (Nat → Int32)) :=
  if x6 ≤ 0 then
    f_X7_findOverTwo_b97 F k3 gantries2 linkMinutes3 linkPrice4 x2 x3 x4 x5 links0 price0 stops1
  else
    if gantries2 ≤ x7 then
      f_X7_findOverTwo_b97 F k3 gantries2 linkMinutes3 linkPrice4 x2 x3 x4 x5 links0 price0 stops1
    else
      bd1 (f_X4_minutesOf F x5 x7 gantries2 linkMinutes3) fun r3 =>
      bd1 (f_X4_minutesOf F x7 x3 gantries2 linkMinutes3) fun r5 =>
      if r3 ≤ 0 then
        f_X7_findOverTwo_b91 F k3 k24 gantries2 linkMinutes3 linkPrice4 x2 x3 x4 x5 x6 x7 links0 price0 stops1
      else
        if r5 ≤ 0 then
          f_X7_findOverTwo_b91 F k3 k24 gantries2 linkMinutes3 linkPrice4 x2 x3 x4 x5 x6 x7 links0 price0 stops1
        else
          if ((x6 + r3) + r5) < x4 then
            f_X7_findOverTwo_b91 F k3 k24 gantries2 linkMinutes3 linkPrice4 x2 x3 x4 x5 x6 x7 links0 price0 stops1
          else
            bd3 (f_X7_offerThree F x2 x5 x7 x3 links0 price0 stops1 gantries2 linkPrice4) fun o10 o11 o12 =>
            f_X7_findOverTwo_b91 F k3 k24 gantries2 linkMinutes3 linkPrice4 x2 x3 x4 x5 x6 x7 o10 o11 o12
def f_X7_findOverTwo_L24 (F : Nat) (k3 : (Int32 × Int32 × Int32 × Int32 × Int32 × Int32 × (Nat → Int32)) → Option (Int32 × Int32 × (Nat → Int32))) (gantries2 : Int32) (linkMinutes3 linkPrice4 : Nat → Int32) (z : Int32 × Int32 × Int32 × Int32 × Int32 × Int32 × Int32 × Int32 × (Nat → Int32)) : Option (Int32 × Int32 × (Nat → Int32)) := lp (fun k z => f_X7_findOverTwo_h24 F k3 gantries2 linkMinutes3 linkPrice4 k z.1 z.2.1 z.2.2.1 z.2.2.2.1 z.2.2.2.2.1 z.2.2.2.2.2.1 z.2.2.2.2.2.2.1 z.2.2.2.2.2.2.2.1 z.2.2.2.2.2.2.2.2) F z
def f_X7_findOverTwo_h3 (F : Nat) (gantries2 : Int32) (linkMinutes3 linkPrice4 : Nat → Int32) (k3 : (Int32 × Int32 × Int32 × Int32 × Int32 × Int32 × (Nat → Int32)) → Option (Int32 × Int32 × (Nat → Int32))) (x2 x3 x4 x5 links0 price0 : Int32) (stops1 : Nat → Int32) : Option (Int32 × Int32 × (Nat → Int32)) :=
  if gantries2 ≤ x5 then
    some (links0, price0, stops1)
  else
    bd1 (f_X4_minutesOf F x2 x5 gantries2 linkMinutes3) fun r15 =>
    f_X7_findOverTwo_L24 F k3 gantries2 linkMinutes3 linkPrice4 (x2, x3, x4, x5, r15, 0, links0, price0, stops1)
def f_X7_findOverTwo_L3 (F : Nat) (gantries2 : Int32) (linkMinutes3 linkPrice4 : Nat → Int32) (z : Int32 × Int32 × Int32 × Int32 × Int32 × Int32 × (Nat → Int32)) : Option (Int32 × Int32 × (Nat → Int32)) := lp (fun k z => f_X7_findOverTwo_h3 F gantries2 linkMinutes3 linkPrice4 k z.1 z.2.1 z.2.2.1 z.2.2.2.1 z.2.2.2.2.1 z.2.2.2.2.2.1 z.2.2.2.2.2.2) F z
def f_X7_findOverTwo (F : Nat) (p2 p3 p4 links0 price0 : Int32) (stops1 : Nat → Int32) (gantries2 : Int32) (linkMinutes3 linkPrice4 : Nat → Int32) : Option (Int32 × Int32 × (Nat → Int32)) :=
  f_X7_findOverTwo_L3 F gantries2 linkMinutes3 linkPrice4 (p2, p3, p4, 0, links0, price0, stops1)
set_option maxHeartbeats 4000000 in
set_option maxRecDepth 100000 in
theorem c_X7_findOverTwo (l : Launch) (g : GT) (F : Nat) (h0 h1 h2 h3 h4 : Nat) (v2_1 v2_2 v2_3 v2_4 v2_5 v2_6 v2_9 v2_10 v2_11 v2_12 : Value) (p2 p3 p4 links0 price0 : Int32) (stops1 : Nat → Int32) (gantries2 : Int32) (linkMinutes3 linkPrice4 : Nat → Int32) (o_links0 o_price0 : Int32) (o_stops1 : Nat → Int32) (sz : Nat) (hf : f_X7_findOverTwo F p2 p3 p4 links0 price0 stops1 gantries2 linkMinutes3 linkPrice4 = some (o_links0, o_price0, o_stops1)) : CV l m_X7_findOverTwo (rml 2 0 0) g (w_X7_findOverTwo g h0 h1 h2 h3 h4 v2_1 v2_2 v2_3 v2_4 v2_5 v2_6 v2_9 v2_10 v2_11 v2_12 links0 price0 stops1 gantries2 linkMinutes3 linkPrice4) (fun _ => w_X7_findOverTwo g h0 h1 h2 h3 h4 v2_1 v2_2 v2_3 v2_4 v2_5 v2_6 v2_9 v2_10 v2_11 v2_12 o_links0 o_price0 o_stops1 gantries2 linkMinutes3 linkPrice4) sz [.ref h0, .ref h2, .int p2, .int p3, .int p4] := by
  refine en_v (by decide) (Nat.le_of_ble_eq_true rfl) (fun p e s m args below meth c A ls C w hl => ?_)
  have C : Cx p s m args meth c RX7 m_X7_findOverTwo g A := C
  have hx := C.1
  have hb : c.code = cX7_findOverTwo := C.2.1
  have hl : lv_has ls 10 [(0, .ref h0), (1, .ref h2), (2, .int p2), (3, .int p3), (4, .int p4)] := hl
  obtain ⟨Q, hQ⟩ : ∃ Q, Q = QV below args s g A (fun _ => w_X7_findOverTwo g h0 h1 h2 h3 h4 v2_1 v2_2 v2_3 v2_4 v2_5 v2_6 v2_9 v2_10 v2_11 v2_12 o_links0 o_price0 o_stops1 gantries2 linkMinutes3 linkPrice4) 0 0 := ⟨_, rfl⟩
  suffices hW : W p l e (rml 2 0 0) s m args below meth c s.heap [] 0 0 Q (F0 m 0 ls []) from (by rw [hQ] at hW; exact hW)
  unfold f_X7_findOverTwo at hf
  have L3 : ∀ (z : Int32 × Int32 × Int32 × Int32 × Int32 × Int32 × (Nat → Int32)), f_X7_findOverTwo_L3 F gantries2 linkMinutes3 linkPrice4 z = some (o_links0, o_price0, o_stops1) → ∀ (H : Heap) (locs : List Loc) (ls : Array Slot), Wd g A (w_X7_findOverTwo g h0 h1 h2 h3 h4 v2_1 v2_2 v2_3 v2_4 v2_5 v2_6 v2_9 v2_10 v2_11 v2_12 z.2.2.2.2.1 z.2.2.2.2.2.1 z.2.2.2.2.2.2 gantries2 linkMinutes3 linkPrice4) s.heap H locs → lv_has ls 10 [(0, .ref h0), (1, .ref h2), (2, .int z.1), (3, .int z.2.1), (4, .int z.2.2.1), (5, .int z.2.2.2.1)] → W p l e (rml 2 0 0) s m args below meth c H locs 0 0 Q (F0 m 3 ls []) := by
    intro z hf
    refine lp_W (r := (o_links0, o_price0, o_stops1)) (fun (z : Int32 × Int32 × Int32 × Int32 × Int32 × Int32 × (Nat → Int32)) => ∀ (H : Heap) (locs : List Loc) (ls : Array Slot), Wd g A (w_X7_findOverTwo g h0 h1 h2 h3 h4 v2_1 v2_2 v2_3 v2_4 v2_5 v2_6 v2_9 v2_10 v2_11 v2_12 z.2.2.2.2.1 z.2.2.2.2.2.1 z.2.2.2.2.2.2 gantries2 linkMinutes3 linkPrice4) s.heap H locs → lv_has ls 10 [(0, .ref h0), (1, .ref h2), (2, .int z.1), (3, .int z.2.1), (4, .int z.2.2.1), (5, .int z.2.2.2.1)] → W p l e (rml 2 0 0) s m args below meth c H locs 0 0 Q (F0 m 3 ls [])) (fun k3 z ih3 hf => ?_) F z hf
    obtain ⟨x2, x3, x4, x5, links0, price0, stops1⟩ := z
    intro H locs ls w hl
    try dsimp only at hf w hl ⊢
    unfold f_X7_findOverTwo_h3 at hf
    have b97 : ∀ (x2 x3 x4 x5 links0 price0 : Int32) (stops1 : Nat → Int32) (H : Heap) (locs : List Loc) (ls : Array Slot), f_X7_findOverTwo_b97 F k3 gantries2 linkMinutes3 linkPrice4 x2 x3 x4 x5 links0 price0 stops1 = some (o_links0, o_price0, o_stops1) → Wd g A (w_X7_findOverTwo g h0 h1 h2 h3 h4 v2_1 v2_2 v2_3 v2_4 v2_5 v2_6 v2_9 v2_10 v2_11 v2_12 links0 price0 stops1 gantries2 linkMinutes3 linkPrice4) s.heap H locs → lv_has ls 10 [(0, .ref h0), (1, .ref h2), (2, .int x2), (3, .int x3), (4, .int x4), (5, .int x5)] → W p l e (rml 2 0 0) s m args below meth c H locs 0 0 Q (F0 m 97 ls []) := by
      intro x2 x3 x4 x5 links0 price0 stops1 H locs ls hf w hl
      unfold f_X7_findOverTwo_b97 at hf
      refine lv_iinc (v := x5 + 1) (lv' := [(5, .int (x5 + 1)), (0, .ref h0), (1, .ref h2), (2, .int x2), (3, .int x3), (4, .int x4)]) hx hb dX7_findOverTwo_97 hl (k := 5) rfl rfl (by decide) rfl (fun ls hl => ?_)
      refine lv_goto (tgt := 3) hx hb dX7_findOverTwo_100 (by decide) ?_
      exact ih3 (x2, x3, x4, x5 + 1, links0, price0, stops1) hf _ _ _ w (lv_sub hl [1, 2, 3, 4, 5, 0] rfl)
    have L24 : ∀ (z : Int32 × Int32 × Int32 × Int32 × Int32 × Int32 × Int32 × Int32 × (Nat → Int32)), f_X7_findOverTwo_L24 F k3 gantries2 linkMinutes3 linkPrice4 z = some (o_links0, o_price0, o_stops1) → ∀ (H : Heap) (locs : List Loc) (ls : Array Slot), Wd g A (w_X7_findOverTwo g h0 h1 h2 h3 h4 v2_1 v2_2 v2_3 v2_4 v2_5 v2_6 v2_9 v2_10 v2_11 v2_12 z.2.2.2.2.2.2.1 z.2.2.2.2.2.2.2.1 z.2.2.2.2.2.2.2.2 gantries2 linkMinutes3 linkPrice4) s.heap H locs → lv_has ls 10 [(0, .ref h0), (1, .ref h2), (2, .int z.1), (3, .int z.2.1), (4, .int z.2.2.1), (5, .int z.2.2.2.1), (6, .int z.2.2.2.2.1), (7, .int z.2.2.2.2.2.1)] → W p l e (rml 2 0 0) s m args below meth c H locs 0 0 Q (F0 m 24 ls []) := by
      intro z hf
      refine lp_W (r := (o_links0, o_price0, o_stops1)) (fun (z : Int32 × Int32 × Int32 × Int32 × Int32 × Int32 × Int32 × Int32 × (Nat → Int32)) => ∀ (H : Heap) (locs : List Loc) (ls : Array Slot), Wd g A (w_X7_findOverTwo g h0 h1 h2 h3 h4 v2_1 v2_2 v2_3 v2_4 v2_5 v2_6 v2_9 v2_10 v2_11 v2_12 z.2.2.2.2.2.2.1 z.2.2.2.2.2.2.2.1 z.2.2.2.2.2.2.2.2 gantries2 linkMinutes3 linkPrice4) s.heap H locs → lv_has ls 10 [(0, .ref h0), (1, .ref h2), (2, .int z.1), (3, .int z.2.1), (4, .int z.2.2.1), (5, .int z.2.2.2.1), (6, .int z.2.2.2.2.1), (7, .int z.2.2.2.2.2.1)] → W p l e (rml 2 0 0) s m args below meth c H locs 0 0 Q (F0 m 24 ls [])) (fun k24 z ih24 hf => ?_) F z hf
      obtain ⟨x2, x3, x4, x5, x6, x7, links0, price0, stops1⟩ := z
      intro H locs ls w hl
      try dsimp only at hf w hl ⊢
      unfold f_X7_findOverTwo_h24 at hf
      have b91 : ∀ (x2 x3 x4 x5 x6 x7 links0 price0 : Int32) (stops1 : Nat → Int32) (H : Heap) (locs : List Loc) (ls : Array Slot), f_X7_findOverTwo_b91 F k3 k24 gantries2 linkMinutes3 linkPrice4 x2 x3 x4 x5 x6 x7 links0 price0 stops1 = some (o_links0, o_price0, o_stops1) → Wd g A (w_X7_findOverTwo g h0 h1 h2 h3 h4 v2_1 v2_2 v2_3 v2_4 v2_5 v2_6 v2_9 v2_10 v2_11 v2_12 links0 price0 stops1 gantries2 linkMinutes3 linkPrice4) s.heap H locs → lv_has ls 10 [(0, .ref h0), (1, .ref h2), (2, .int x2), (3, .int x3), (4, .int x4), (5, .int x5), (6, .int x6), (7, .int x7)] → W p l e (rml 2 0 0) s m args below meth c H locs 0 0 Q (F0 m 91 ls []) := by
        intro x2 x3 x4 x5 x6 x7 links0 price0 stops1 H locs ls hf w hl
        unfold f_X7_findOverTwo_b91 at hf
        refine lv_iinc (v := x7 + 1) (lv' := [(7, .int (x7 + 1)), (0, .ref h0), (1, .ref h2), (2, .int x2), (3, .int x3), (4, .int x4), (5, .int x5), (6, .int x6)]) hx hb dX7_findOverTwo_91 hl (k := 7) rfl rfl (by decide) rfl (fun ls hl => ?_)
        refine lv_goto (tgt := 24) hx hb dX7_findOverTwo_94 (by decide) ?_
        exact ih24 (x2, x3, x4, x5, x6, x7 + 1, links0, price0, stops1) hf _ _ _ w (lv_sub hl [1, 2, 3, 4, 5, 6, 7, 0] rfl)
      refine lv_iload hx hb dX7_findOverTwo_24 (lv_at hl 6 rfl) ?_
      refine lv_if_le (tgt := 97) hx hb dX7_findOverTwo_26 (by decide) (fun c1 => ?_) (fun c1 => ?_)
      · replace hf := it_t c1 hf
        exact b97 x2 x3 x4 x5 links0 price0 stops1 _ _ _ hf w (lv_sub hl [0, 1, 2, 3, 4, 5] rfl)
      · replace hf := it_f c1 hf
        refine lv_iload hx hb dX7_findOverTwo_29 (lv_at hl 7 rfl) ?_
        refine lv_aload_n hx hb dX7_findOverTwo_31 rfl (lv_at hl 1 rfl) ?_
        refine g_X7_41 C w 2 rfl rfl dX7_findOverTwo_32 ?_
        refine lv_icmp_ge (tgt := 97) hx hb dX7_findOverTwo_35 (by decide) (fun c2 => ?_) (fun c2 => ?_)
        · replace hf := it_t c2 hf
          exact b97 x2 x3 x4 x5 links0 price0 stops1 _ _ _ hf w (lv_sub hl [0, 1, 2, 3, 4, 5] rfl)
        · replace hf := it_f c2 hf
          refine lv_aload_n hx hb dX7_findOverTwo_38 rfl (lv_at hl 1 rfl) ?_
          refine lv_iload hx hb dX7_findOverTwo_39 (lv_at hl 5 rfl) ?_
          refine lv_iload hx hb dX7_findOverTwo_41 (lv_at hl 7 rfl) ?_
          obtain ⟨r3, hc4, hf⟩ := bd1_some hf
          refine ca_iN C w (wn := fun _ => w_X7_findOverTwo g h0 h1 h2 h3 h4 v2_1 v2_2 v2_3 v2_4 v2_5 v2_6 v2_9 v2_10 v2_11 v2_12 links0 price0 stops1 gantries2 linkMinutes3 linkPrice4) (pm_k [false, false, true, true, false] rfl rfl (fun _ => Nat.le_of_ble_eq_true rfl) (fun _ => rfl)) (c_X4_minutesOf l g F h2 h3 v2_1 v2_2 v2_3 v2_4 v2_5 v2_6 (.ref h4) v2_9 v2_10 v2_11 v2_12 x5 x7 gantries2 linkMinutes3 r3 _ hc4) k_X7_32 (rm_le (by decide) (by decide)) 2 4 rfl rfl rfl rfl hl.1 rfl (Nat.le_of_ble_eq_true rfl) dX7_findOverTwo_43 ⟨Nat.le_of_ble_eq_true rfl, Nat.le_of_ble_eq_true rfl⟩ (cells2 := 0) (slots2 := 0) ⟨rfl, rfl⟩ (fun _ H locs w => ?_)
          refine lv_istore (lv' := [(8, .int r3), (0, .ref h0), (1, .ref h2), (2, .int x2), (3, .int x3), (4, .int x4), (5, .int x5), (6, .int x6), (7, .int x7)]) hx hb dX7_findOverTwo_46 hl (by decide) rfl (fun ls hl => ?_)
          refine lv_aload_n hx hb dX7_findOverTwo_48 rfl (lv_at hl 2 rfl) ?_
          refine lv_iload hx hb dX7_findOverTwo_49 (lv_at hl 8 rfl) ?_
          refine lv_iload_n hx hb dX7_findOverTwo_51 rfl (lv_at hl 4 rfl) ?_
          obtain ⟨r5, hc6, hf⟩ := bd1_some hf
          refine ca_iN C w (wn := fun _ => w_X7_findOverTwo g h0 h1 h2 h3 h4 v2_1 v2_2 v2_3 v2_4 v2_5 v2_6 v2_9 v2_10 v2_11 v2_12 links0 price0 stops1 gantries2 linkMinutes3 linkPrice4) (pm_k [false, false, true, true, false] rfl rfl (fun _ => Nat.le_of_ble_eq_true rfl) (fun _ => rfl)) (c_X4_minutesOf l g F h2 h3 v2_1 v2_2 v2_3 v2_4 v2_5 v2_6 (.ref h4) v2_9 v2_10 v2_11 v2_12 x7 x3 gantries2 linkMinutes3 r5 _ hc6) k_X7_32 (rm_le (by decide) (by decide)) 2 4 rfl rfl rfl rfl hl.1 rfl (Nat.le_of_ble_eq_true rfl) dX7_findOverTwo_52 ⟨Nat.le_of_ble_eq_true rfl, Nat.le_of_ble_eq_true rfl⟩ (cells2 := 0) (slots2 := 0) ⟨rfl, rfl⟩ (fun _ H locs w => ?_)
          refine lv_istore (lv' := [(9, .int r5), (8, .int r3), (0, .ref h0), (1, .ref h2), (2, .int x2), (3, .int x3), (4, .int x4), (5, .int x5), (6, .int x6), (7, .int x7)]) hx hb dX7_findOverTwo_55 hl (by decide) rfl (fun ls hl => ?_)
          refine lv_iload hx hb dX7_findOverTwo_57 (lv_at hl 1 rfl) ?_
          refine lv_if_le (tgt := 91) hx hb dX7_findOverTwo_59 (by decide) (fun c7 => ?_) (fun c7 => ?_)
          · replace hf := it_t c7 hf
            exact b91 x2 x3 x4 x5 x6 x7 links0 price0 stops1 _ _ _ hf w (lv_sub hl [2, 3, 4, 5, 6, 7, 8, 9] rfl)
          · replace hf := it_f c7 hf
            refine lv_iload hx hb dX7_findOverTwo_62 (lv_at hl 0 rfl) ?_
            refine lv_if_le (tgt := 91) hx hb dX7_findOverTwo_64 (by decide) (fun c8 => ?_) (fun c8 => ?_)
            · replace hf := it_t c8 hf
              exact b91 x2 x3 x4 x5 x6 x7 links0 price0 stops1 _ _ _ hf w (lv_sub hl [2, 3, 4, 5, 6, 7, 8, 9] rfl)
            · replace hf := it_f c8 hf
              refine lv_iload hx hb dX7_findOverTwo_67 (lv_at hl 8 rfl) ?_
              refine lv_iload hx hb dX7_findOverTwo_69 (lv_at hl 1 rfl) ?_
              refine lv_iadd hx hb dX7_findOverTwo_71 ?_
              refine lv_iload hx hb dX7_findOverTwo_72 (lv_at hl 0 rfl) ?_
              refine lv_iadd hx hb dX7_findOverTwo_74 ?_
              refine lv_iload hx hb dX7_findOverTwo_75 (lv_at hl 6 rfl) ?_
              refine lv_icmp_lt (tgt := 91) hx hb dX7_findOverTwo_77 (by decide) (fun c9 => ?_) (fun c9 => ?_)
              · replace hf := it_t c9 hf
                exact b91 x2 x3 x4 x5 x6 x7 links0 price0 stops1 _ _ _ hf w (lv_sub hl [2, 3, 4, 5, 6, 7, 8, 9] rfl)
              · replace hf := it_f c9 hf
                refine lv_aload_n hx hb dX7_findOverTwo_80 rfl (lv_at hl 2 rfl) ?_
                refine lv_aload_n hx hb dX7_findOverTwo_81 rfl (lv_at hl 3 rfl) ?_
                refine lv_iload_n hx hb dX7_findOverTwo_82 rfl (lv_at hl 4 rfl) ?_
                refine lv_iload hx hb dX7_findOverTwo_83 (lv_at hl 7 rfl) ?_
                refine lv_iload hx hb dX7_findOverTwo_85 (lv_at hl 9 rfl) ?_
                refine lv_iload_n hx hb dX7_findOverTwo_87 rfl (lv_at hl 5 rfl) ?_
                obtain ⟨o10, o11, o12, hc13, hf⟩ := bd3_some hf
                refine ca_vV C w (wn := fun _ => w_X7_findOverTwo g h0 h1 h2 h3 h4 v2_1 v2_2 v2_3 v2_4 v2_5 v2_6 v2_9 v2_10 v2_11 v2_12 o10 o11 o12 gantries2 linkMinutes3 linkPrice4) (pm_k [true, true, true, false, true] rfl rfl (fun _ => Nat.le_of_ble_eq_true rfl) (fun _ => rfl)) (c_X7_offerThree l g F h0 h1 h2 h4 v2_1 v2_2 v2_3 v2_4 v2_5 v2_6 (.ref h3) v2_9 v2_10 v2_11 v2_12 x2 x5 x7 x3 links0 price0 stops1 gantries2 linkPrice4 o10 o11 o12 _ hc13) k_X7_44 (rm_le (by decide) (by decide)) 0 7 rfl rfl rfl rfl hl.1 rfl (Nat.le_of_ble_eq_true rfl) dX7_findOverTwo_88 ⟨Nat.le_of_ble_eq_true rfl, Nat.le_of_ble_eq_true rfl⟩ (cells2 := 0) (slots2 := 0) ⟨rfl, rfl⟩ (fun _ H locs w => ?_)
                exact b91 x2 x3 x4 x5 x6 x7 o10 o11 o12 _ _ _ hf w (lv_sub hl [2, 3, 4, 5, 6, 7, 8, 9] rfl)
    refine lv_iload hx hb dX7_findOverTwo_3 (lv_at hl 5 rfl) ?_
    refine lv_aload_n hx hb dX7_findOverTwo_5 rfl (lv_at hl 1 rfl) ?_
    refine g_X7_41 C w 2 rfl rfl dX7_findOverTwo_6 ?_
    refine lv_icmp_ge (tgt := 103) hx hb dX7_findOverTwo_9 (by decide) (fun c14 => ?_) (fun c14 => ?_)
    · replace hf := it_t c14 hf
      obtain ⟨e1, e2, e3⟩ := tp3 hf
      rw [hQ]
      exact rt_v C w rfl (fun _ => 0) (by rw [← e1, ← e2, ← e3]) dX7_findOverTwo_103
    · replace hf := it_f c14 hf
      refine lv_aload_n hx hb dX7_findOverTwo_12 rfl (lv_at hl 1 rfl) ?_
      refine lv_iload_n hx hb dX7_findOverTwo_13 rfl (lv_at hl 2 rfl) ?_
      refine lv_iload hx hb dX7_findOverTwo_14 (lv_at hl 5 rfl) ?_
      obtain ⟨r15, hc16, hf⟩ := bd1_some hf
      refine ca_iN C w (wn := fun _ => w_X7_findOverTwo g h0 h1 h2 h3 h4 v2_1 v2_2 v2_3 v2_4 v2_5 v2_6 v2_9 v2_10 v2_11 v2_12 links0 price0 stops1 gantries2 linkMinutes3 linkPrice4) (pm_k [false, false, true, true, false] rfl rfl (fun _ => Nat.le_of_ble_eq_true rfl) (fun _ => rfl)) (c_X4_minutesOf l g F h2 h3 v2_1 v2_2 v2_3 v2_4 v2_5 v2_6 (.ref h4) v2_9 v2_10 v2_11 v2_12 x2 x5 gantries2 linkMinutes3 r15 _ hc16) k_X7_32 (rm_le (by decide) (by decide)) 2 4 rfl rfl rfl rfl hl.1 rfl (Nat.le_of_ble_eq_true rfl) dX7_findOverTwo_16 ⟨Nat.le_of_ble_eq_true rfl, Nat.le_of_ble_eq_true rfl⟩ (cells2 := 0) (slots2 := 0) ⟨rfl, rfl⟩ (fun _ H locs w => ?_)
      refine lv_istore (lv' := [(6, .int r15), (0, .ref h0), (1, .ref h2), (2, .int x2), (3, .int x3), (4, .int x4), (5, .int x5)]) hx hb dX7_findOverTwo_19 hl (by decide) rfl (fun ls hl => ?_)
      refine lv_iconst (v := 0) hx hb dX7_findOverTwo_21 (by decide) ?_
      refine lv_istore (lv' := [(7, .int 0), (6, .int r15), (0, .ref h0), (1, .ref h2), (2, .int x2), (3, .int x3), (4, .int x4), (5, .int x5)]) hx hb dX7_findOverTwo_22 hl (by decide) rfl (fun ls hl => ?_)
      exact L24 (x2, x3, x4, x5, r15, 0, links0, price0, stops1) hf _ _ _ w (lv_sub hl [2, 3, 4, 5, 6, 7, 1, 0] rfl)
  refine lv_iconst (v := 0) hx hb dX7_findOverTwo_0 (by decide) ?_
  refine lv_istore (lv' := [(5, .int 0), (0, .ref h0), (1, .ref h2), (2, .int p2), (3, .int p3), (4, .int p4)]) hx hb dX7_findOverTwo_1 hl (by decide) rfl (fun ls hl => ?_)
  exact L3 (p2, p3, p4, 0, links0, price0, stops1) hf _ _ _ w (lv_sub hl [1, 2, 3, 4, 5, 0] rfl)

theorem dX7_find_0 : decode cX7_find 0 = .ok (.aload_n 0, 1) := by decide +kernel
theorem dX7_find_1 : decode cX7_find 1 = .ok (.iconst (-1), 1) := by decide +kernel
theorem dX7_find_2 : decode cX7_find 2 = .ok (.putfield 9, 3) := by decide +kernel
theorem dX7_find_5 : decode cX7_find 5 = .ok (.aload_n 0, 1) := by decide +kernel
theorem dX7_find_6 : decode cX7_find 6 = .ok (.iconst (-1), 1) := by decide +kernel
theorem dX7_find_7 : decode cX7_find 7 = .ok (.putfield 15, 3) := by decide +kernel
theorem dX7_find_10 : decode cX7_find 10 = .ok (.aload_n 0, 1) := by decide +kernel
theorem dX7_find_11 : decode cX7_find 11 = .ok (.aload_n 1, 1) := by decide +kernel
theorem dX7_find_12 : decode cX7_find 12 = .ok (.iload_n 2, 1) := by decide +kernel
theorem dX7_find_13 : decode cX7_find 13 = .ok (.iload_n 3, 1) := by decide +kernel
theorem dX7_find_14 : decode cX7_find 14 = .ok (.iload 4, 2) := by decide +kernel
theorem dX7_find_16 : decode cX7_find 16 = .ok (.invokevirtual 22, 3) := by decide +kernel
theorem dX7_find_19 : decode cX7_find 19 = .ok (.aload_n 0, 1) := by decide +kernel
theorem dX7_find_20 : decode cX7_find 20 = .ok (.getfield 9, 3) := by decide +kernel
theorem dX7_find_23 : decode cX7_find 23 = .ok (.iconst (-1), 1) := by decide +kernel
theorem dX7_find_24 : decode cX7_find 24 = .ok (.if_icmp .ne 12, 3) := by decide +kernel
theorem dX7_find_27 : decode cX7_find 27 = .ok (.aload_n 0, 1) := by decide +kernel
theorem dX7_find_28 : decode cX7_find 28 = .ok (.aload_n 1, 1) := by decide +kernel
theorem dX7_find_29 : decode cX7_find 29 = .ok (.iload_n 2, 1) := by decide +kernel
theorem dX7_find_30 : decode cX7_find 30 = .ok (.iload_n 3, 1) := by decide +kernel
theorem dX7_find_31 : decode cX7_find 31 = .ok (.iload 4, 2) := by decide +kernel
theorem dX7_find_33 : decode cX7_find 33 = .ok (.invokevirtual 26, 3) := by decide +kernel
theorem dX7_find_36 : decode cX7_find 36 = .ok (.aload_n 0, 1) := by decide +kernel
theorem dX7_find_37 : decode cX7_find 37 = .ok (.getfield 9, 3) := by decide +kernel
theorem dX7_find_40 : decode cX7_find 40 = .ok (.iconst (-1), 1) := by decide +kernel
theorem dX7_find_41 : decode cX7_find 41 = .ok (.if_icmp .ne 12, 3) := by decide +kernel
theorem dX7_find_44 : decode cX7_find 44 = .ok (.aload_n 0, 1) := by decide +kernel
theorem dX7_find_45 : decode cX7_find 45 = .ok (.aload_n 1, 1) := by decide +kernel
theorem dX7_find_46 : decode cX7_find 46 = .ok (.iload_n 2, 1) := by decide +kernel
theorem dX7_find_47 : decode cX7_find 47 = .ok (.iload_n 3, 1) := by decide +kernel
theorem dX7_find_48 : decode cX7_find 48 = .ok (.iload 4, 2) := by decide +kernel
theorem dX7_find_50 : decode cX7_find 50 = .ok (.invokevirtual 29, 3) := by decide +kernel
theorem dX7_find_53 : decode cX7_find 53 = .ok (.return_, 1) := by decide +kernel
abbrev m_X7_find : MD := (yX7_find, cX7_find, 5, none)
theorem q_816 : Cond.code yX7_findOverTwo cX7_findOverTwo 10 none ∈ TS := ts_t 816 (by decide +kernel) (by decide +kernel)
theorem q_813 : Cond.methodLink RX7 29 yX7_findOverTwo ∈ TS := ts_t 813 (by decide +kernel) (by decide +kernel)
theorem q_815 : Cond.instanceMethod yX7_findOverTwo ∈ TS := ts_t 815 (by decide +kernel) (by decide +kernel)
theorem qs_55 : Cond.selects yX7_findOverTwo.cls yX7_findOverTwo yX7_findOverTwo ∈ TS := ts_s 55 (by decide +kernel) (by decide +kernel)
theorem k_X7_29 : LkV RX7 29 m_X7_findOverTwo 4 := ⟨q_813, q_815, qs_55, ⟨q_4, q_816, by decide, by decide, by decide +kernel⟩⟩
theorem q_803 : Cond.code yX7_findDirect cX7_findDirect 6 none ∈ TS := ts_t 803 (by decide +kernel) (by decide +kernel)
theorem q_800 : Cond.methodLink RX7 22 yX7_findDirect ∈ TS := ts_t 800 (by decide +kernel) (by decide +kernel)
theorem q_802 : Cond.instanceMethod yX7_findDirect ∈ TS := ts_t 802 (by decide +kernel) (by decide +kernel)
theorem qs_52 : Cond.selects yX7_findDirect.cls yX7_findDirect yX7_findDirect ∈ TS := ts_s 52 (by decide +kernel) (by decide +kernel)
theorem k_X7_22 : LkV RX7 22 m_X7_findDirect 4 := ⟨q_800, q_802, qs_52, ⟨q_4, q_803, by decide, by decide, by decide +kernel⟩⟩
theorem q_812 : Cond.code yX7_findOverOne cX7_findOverOne 9 none ∈ TS := ts_t 812 (by decide +kernel) (by decide +kernel)
theorem q_809 : Cond.methodLink RX7 26 yX7_findOverOne ∈ TS := ts_t 809 (by decide +kernel) (by decide +kernel)
theorem q_811 : Cond.instanceMethod yX7_findOverOne ∈ TS := ts_t 811 (by decide +kernel) (by decide +kernel)
theorem qs_54 : Cond.selects yX7_findOverOne.cls yX7_findOverOne yX7_findOverOne ∈ TS := ts_s 54 (by decide +kernel) (by decide +kernel)
theorem k_X7_26 : LkV RX7 26 m_X7_findOverOne 4 := ⟨q_809, q_811, qs_54, ⟨q_4, q_812, by decide, by decide, by decide +kernel⟩⟩
abbrev w_X7_find (g : GT) (h0 h1 h2 h3 h4 : Nat) (v2_1 v2_2 v2_3 v2_4 v2_5 v2_6 v2_9 v2_10 v2_11 v2_12 : Value) (links0 price0 : Int32) (stops1 : Nat → Int32) (gantries2 : Int32) (linkMinutes3 linkPrice4 : Nat → Int32) : va_W := [(h0, .inr (7, [.int links0, .int price0, .ref h1])), (h1, aI g 4 stops1), (h2, .inr (4, [.int gantries2, v2_1, v2_2, v2_3, v2_4, v2_5, v2_6, .ref h3, .ref h4, v2_9, v2_10, v2_11, v2_12])), (h3, aI g 100 linkMinutes3), (h4, aI g 100 linkPrice4)]
def f_X7_find_b53 (F : Nat) (gantries2 : Int32) (linkMinutes3 linkPrice4 : Nat → Int32) (links0 price0 : Int32) (stops1 : Nat → Int32) : Option (Int32 × Int32 × (Nat → Int32)) :=
  some (links0, price0, stops1)
def f_X7_find_b36 (F : Nat) (gantries2 : Int32) (linkMinutes3 linkPrice4 : Nat → Int32) (x2 x3 x4 links0 price0 : Int32) (stops1 : Nat → Int32) : Option (Int32 × Int32 × (Nat → Int32)) :=
  if links0 = (-1) then
    bd3 (f_X7_findOverTwo F x2 x3 x4 links0 price0 stops1 gantries2 linkMinutes3 linkPrice4) fun o2 o3 o4 =>
    f_X7_find_b53 F gantries2 linkMinutes3 linkPrice4 o2 o3 o4
  else
    f_X7_find_b53 F gantries2 linkMinutes3 linkPrice4 links0 price0 stops1
def f_X7_find (F : Nat) (p2 p3 p4 links0 price0 : Int32) (stops1 : Nat → Int32) (gantries2 : Int32) (linkMinutes3 linkPrice4 : Nat → Int32) : Option (Int32 × Int32 × (Nat → Int32)) :=
  bd3 (f_X7_findDirect F p2 p3 p4 (-1) (-1) stops1 gantries2 linkMinutes3 linkPrice4) fun o6 o7 o8 =>
  if o6 = (-1) then
    bd3 (f_X7_findOverOne F p2 p3 p4 o6 o7 o8 gantries2 linkMinutes3 linkPrice4) fun o11 o12 o13 =>
    f_X7_find_b36 F gantries2 linkMinutes3 linkPrice4 p2 p3 p4 o11 o12 o13
  else
    f_X7_find_b36 F gantries2 linkMinutes3 linkPrice4 p2 p3 p4 o6 o7 o8
set_option maxHeartbeats 4000000 in
set_option maxRecDepth 100000 in
theorem c_X7_find (l : Launch) (g : GT) (F : Nat) (h0 h1 h2 h3 h4 : Nat) (v2_1 v2_2 v2_3 v2_4 v2_5 v2_6 v2_9 v2_10 v2_11 v2_12 : Value) (p2 p3 p4 links0 price0 : Int32) (stops1 : Nat → Int32) (gantries2 : Int32) (linkMinutes3 linkPrice4 : Nat → Int32) (o_links0 o_price0 : Int32) (o_stops1 : Nat → Int32) (sz : Nat) (hf : f_X7_find F p2 p3 p4 links0 price0 stops1 gantries2 linkMinutes3 linkPrice4 = some (o_links0, o_price0, o_stops1)) : CV l m_X7_find (rml 3 0 0) g (w_X7_find g h0 h1 h2 h3 h4 v2_1 v2_2 v2_3 v2_4 v2_5 v2_6 v2_9 v2_10 v2_11 v2_12 links0 price0 stops1 gantries2 linkMinutes3 linkPrice4) (fun _ => w_X7_find g h0 h1 h2 h3 h4 v2_1 v2_2 v2_3 v2_4 v2_5 v2_6 v2_9 v2_10 v2_11 v2_12 o_links0 o_price0 o_stops1 gantries2 linkMinutes3 linkPrice4) sz [.ref h0, .ref h2, .int p2, .int p3, .int p4] := by
  refine en_v (by decide) (Nat.le_of_ble_eq_true rfl) (fun p e s m args below meth c A ls C w hl => ?_)
  have C : Cx p s m args meth c RX7 m_X7_find g A := C
  have hx := C.1
  have hb : c.code = cX7_find := C.2.1
  have hl : lv_has ls 5 [(0, .ref h0), (1, .ref h2), (2, .int p2), (3, .int p3), (4, .int p4)] := hl
  obtain ⟨Q, hQ⟩ : ∃ Q, Q = QV below args s g A (fun _ => w_X7_find g h0 h1 h2 h3 h4 v2_1 v2_2 v2_3 v2_4 v2_5 v2_6 v2_9 v2_10 v2_11 v2_12 o_links0 o_price0 o_stops1 gantries2 linkMinutes3 linkPrice4) 0 0 := ⟨_, rfl⟩
  suffices hW : W p l e (rml 3 0 0) s m args below meth c s.heap [] 0 0 Q (F0 m 0 ls []) from (by rw [hQ] at hW; exact hW)
  unfold f_X7_find at hf
  have b53 : ∀ (links0 price0 : Int32) (stops1 : Nat → Int32) (H : Heap) (locs : List Loc) (ls : Array Slot), f_X7_find_b53 F gantries2 linkMinutes3 linkPrice4 links0 price0 stops1 = some (o_links0, o_price0, o_stops1) → Wd g A (w_X7_find g h0 h1 h2 h3 h4 v2_1 v2_2 v2_3 v2_4 v2_5 v2_6 v2_9 v2_10 v2_11 v2_12 links0 price0 stops1 gantries2 linkMinutes3 linkPrice4) s.heap H locs → lv_has ls 5 [] → W p l e (rml 3 0 0) s m args below meth c H locs 0 0 Q (F0 m 53 ls []) := by
    intro links0 price0 stops1 H locs ls hf w hl
    unfold f_X7_find_b53 at hf
    obtain ⟨e1, e2, e3⟩ := tp3 hf
    rw [hQ]
    exact rt_v C w rfl (fun _ => 0) (by rw [← e1, ← e2, ← e3]) dX7_find_53
  have b36 : ∀ (x2 x3 x4 links0 price0 : Int32) (stops1 : Nat → Int32) (H : Heap) (locs : List Loc) (ls : Array Slot), f_X7_find_b36 F gantries2 linkMinutes3 linkPrice4 x2 x3 x4 links0 price0 stops1 = some (o_links0, o_price0, o_stops1) → Wd g A (w_X7_find g h0 h1 h2 h3 h4 v2_1 v2_2 v2_3 v2_4 v2_5 v2_6 v2_9 v2_10 v2_11 v2_12 links0 price0 stops1 gantries2 linkMinutes3 linkPrice4) s.heap H locs → lv_has ls 5 [(0, .ref h0), (1, .ref h2), (2, .int x2), (3, .int x3), (4, .int x4)] → W p l e (rml 3 0 0) s m args below meth c H locs 0 0 Q (F0 m 36 ls []) := by
    intro x2 x3 x4 links0 price0 stops1 H locs ls hf w hl
    unfold f_X7_find_b36 at hf
    refine lv_aload_n hx hb dX7_find_36 rfl (lv_at hl 0 rfl) ?_
    refine g_X7_9 C w 0 rfl rfl dX7_find_37 ?_
    refine lv_iconst (v := -1) hx hb dX7_find_40 (by decide) ?_
    refine lv_icmp_ne (tgt := 53) hx hb dX7_find_41 (by decide) (fun c1 => ?_) (fun c1 => ?_)
    · replace hf := it_f c1 hf
      exact b53 links0 price0 stops1 _ _ _ hf w (lv_sub hl [] rfl)
    · replace hf := it_t c1 hf
      refine lv_aload_n hx hb dX7_find_44 rfl (lv_at hl 0 rfl) ?_
      refine lv_aload_n hx hb dX7_find_45 rfl (lv_at hl 1 rfl) ?_
      refine lv_iload_n hx hb dX7_find_46 rfl (lv_at hl 2 rfl) ?_
      refine lv_iload_n hx hb dX7_find_47 rfl (lv_at hl 3 rfl) ?_
      refine lv_iload hx hb dX7_find_48 (lv_at hl 4 rfl) ?_
      obtain ⟨o2, o3, o4, hc5, hf⟩ := bd3_some hf
      refine ca_vV C w (wn := fun _ => w_X7_find g h0 h1 h2 h3 h4 v2_1 v2_2 v2_3 v2_4 v2_5 v2_6 v2_9 v2_10 v2_11 v2_12 o2 o3 o4 gantries2 linkMinutes3 linkPrice4) (pm_k [true, true, true, true, true] rfl rfl (fun _ => Nat.le_of_ble_eq_true rfl) (fun _ => rfl)) (c_X7_findOverTwo l g F h0 h1 h2 h3 h4 v2_1 v2_2 v2_3 v2_4 v2_5 v2_6 v2_9 v2_10 v2_11 v2_12 x2 x3 x4 links0 price0 stops1 gantries2 linkMinutes3 linkPrice4 o2 o3 o4 _ hc5) k_X7_29 (rm_le (by decide) (by decide)) 0 7 rfl rfl rfl rfl hl.1 rfl (Nat.le_of_ble_eq_true rfl) dX7_find_50 ⟨Nat.le_of_ble_eq_true rfl, Nat.le_of_ble_eq_true rfl⟩ (cells2 := 0) (slots2 := 0) ⟨rfl, rfl⟩ (fun _ H locs w => ?_)
      exact b53 o2 o3 o4 _ _ _ hf w (lv_sub hl [] rfl)
  refine lv_aload_n hx hb dX7_find_0 rfl (lv_at hl 0 rfl) ?_
  refine lv_iconst (v := -1) hx hb dX7_find_1 (by decide) ?_
  refine p_X7_9 C w 0 rfl (Nat.le_of_ble_eq_true rfl) (ws2 := w_X7_find g h0 h1 h2 h3 h4 v2_1 v2_2 v2_3 v2_4 v2_5 v2_6 v2_9 v2_10 v2_11 v2_12 (-1) price0 stops1 gantries2 linkMinutes3 linkPrice4) rfl dX7_find_2 (fun H locs w => ?_)
  refine lv_aload_n hx hb dX7_find_5 rfl (lv_at hl 0 rfl) ?_
  refine lv_iconst (v := -1) hx hb dX7_find_6 (by decide) ?_
  refine p_X7_15 C w 0 rfl (Nat.le_of_ble_eq_true rfl) (ws2 := w_X7_find g h0 h1 h2 h3 h4 v2_1 v2_2 v2_3 v2_4 v2_5 v2_6 v2_9 v2_10 v2_11 v2_12 (-1) (-1) stops1 gantries2 linkMinutes3 linkPrice4) rfl dX7_find_7 (fun H locs w => ?_)
  refine lv_aload_n hx hb dX7_find_10 rfl (lv_at hl 0 rfl) ?_
  refine lv_aload_n hx hb dX7_find_11 rfl (lv_at hl 1 rfl) ?_
  refine lv_iload_n hx hb dX7_find_12 rfl (lv_at hl 2 rfl) ?_
  refine lv_iload_n hx hb dX7_find_13 rfl (lv_at hl 3 rfl) ?_
  refine lv_iload hx hb dX7_find_14 (lv_at hl 4 rfl) ?_
  obtain ⟨o6, o7, o8, hc9, hf⟩ := bd3_some hf
  refine ca_vV C w (wn := fun _ => w_X7_find g h0 h1 h2 h3 h4 v2_1 v2_2 v2_3 v2_4 v2_5 v2_6 v2_9 v2_10 v2_11 v2_12 o6 o7 o8 gantries2 linkMinutes3 linkPrice4) (pm_k [true, true, true, true, true] rfl rfl (fun _ => Nat.le_of_ble_eq_true rfl) (fun _ => rfl)) (c_X7_findDirect l g F h0 h1 h2 h3 h4 v2_1 v2_2 v2_3 v2_4 v2_5 v2_6 v2_9 v2_10 v2_11 v2_12 p2 p3 p4 (-1) (-1) stops1 gantries2 linkMinutes3 linkPrice4 o6 o7 o8 _ hc9) k_X7_22 (rm_le (by decide) (by decide)) 0 7 rfl rfl rfl rfl hl.1 rfl (Nat.le_of_ble_eq_true rfl) dX7_find_16 ⟨Nat.le_of_ble_eq_true rfl, Nat.le_of_ble_eq_true rfl⟩ (cells2 := 0) (slots2 := 0) ⟨rfl, rfl⟩ (fun _ H locs w => ?_)
  refine lv_aload_n hx hb dX7_find_19 rfl (lv_at hl 0 rfl) ?_
  refine g_X7_9 C w 0 rfl rfl dX7_find_20 ?_
  refine lv_iconst (v := -1) hx hb dX7_find_23 (by decide) ?_
  refine lv_icmp_ne (tgt := 36) hx hb dX7_find_24 (by decide) (fun c10 => ?_) (fun c10 => ?_)
  · replace hf := it_f c10 hf
    exact b36 p2 p3 p4 o6 o7 o8 _ _ _ hf w (lv_sub hl [0, 1, 2, 3, 4] rfl)
  · replace hf := it_t c10 hf
    refine lv_aload_n hx hb dX7_find_27 rfl (lv_at hl 0 rfl) ?_
    refine lv_aload_n hx hb dX7_find_28 rfl (lv_at hl 1 rfl) ?_
    refine lv_iload_n hx hb dX7_find_29 rfl (lv_at hl 2 rfl) ?_
    refine lv_iload_n hx hb dX7_find_30 rfl (lv_at hl 3 rfl) ?_
    refine lv_iload hx hb dX7_find_31 (lv_at hl 4 rfl) ?_
    obtain ⟨o11, o12, o13, hc14, hf⟩ := bd3_some hf
    refine ca_vV C w (wn := fun _ => w_X7_find g h0 h1 h2 h3 h4 v2_1 v2_2 v2_3 v2_4 v2_5 v2_6 v2_9 v2_10 v2_11 v2_12 o11 o12 o13 gantries2 linkMinutes3 linkPrice4) (pm_k [true, true, true, true, true] rfl rfl (fun _ => Nat.le_of_ble_eq_true rfl) (fun _ => rfl)) (c_X7_findOverOne l g F h0 h1 h2 h3 h4 v2_1 v2_2 v2_3 v2_4 v2_5 v2_6 v2_9 v2_10 v2_11 v2_12 p2 p3 p4 o6 o7 o8 gantries2 linkMinutes3 linkPrice4 o11 o12 o13 _ hc14) k_X7_26 (rm_le (by decide) (by decide)) 0 7 rfl rfl rfl rfl hl.1 rfl (Nat.le_of_ble_eq_true rfl) dX7_find_33 ⟨Nat.le_of_ble_eq_true rfl, Nat.le_of_ble_eq_true rfl⟩ (cells2 := 0) (slots2 := 0) ⟨rfl, rfl⟩ (fun _ H locs w => ?_)
    exact b36 p2 p3 p4 o11 o12 o13 _ _ _ hf w (lv_sub hl [0, 1, 2, 3, 4] rfl)

theorem dX7_stopAt_0 : decode cX7_stopAt 0 = .ok (.iload_n 1, 1) := by decide +kernel
theorem dX7_stopAt_1 : decode cX7_stopAt 1 = .ok (.ifCond .lt 20, 3) := by decide +kernel
theorem dX7_stopAt_4 : decode cX7_stopAt 4 = .ok (.iload_n 1, 1) := by decide +kernel
theorem dX7_stopAt_5 : decode cX7_stopAt 5 = .ok (.aload_n 0, 1) := by decide +kernel
theorem dX7_stopAt_6 : decode cX7_stopAt 6 = .ok (.getfield 9, 3) := by decide +kernel
theorem dX7_stopAt_9 : decode cX7_stopAt 9 = .ok (.if_icmp .gt 12, 3) := by decide +kernel
theorem dX7_stopAt_12 : decode cX7_stopAt 12 = .ok (.aload_n 0, 1) := by decide +kernel
theorem dX7_stopAt_13 : decode cX7_stopAt 13 = .ok (.getfield 18, 3) := by decide +kernel
theorem dX7_stopAt_16 : decode cX7_stopAt 16 = .ok (.iload_n 1, 1) := by decide +kernel
theorem dX7_stopAt_17 : decode cX7_stopAt 17 = .ok (.iaload, 1) := by decide +kernel
theorem dX7_stopAt_18 : decode cX7_stopAt 18 = .ok (.goto 4, 3) := by decide +kernel
theorem dX7_stopAt_21 : decode cX7_stopAt 21 = .ok (.iconst (-1), 1) := by decide +kernel
theorem dX7_stopAt_22 : decode cX7_stopAt 22 = .ok (.ireturn, 1) := by decide +kernel
abbrev m_X7_stopAt : MD := (yX7_stopAt, cX7_stopAt, 2, (some .int))

abbrev w_X7_stopAt (g : GT) (h0 h1 : Nat) (v0_1 : Value) (links0 : Int32) (stops1 : Nat → Int32) : va_W := [(h0, .inr (7, [.int links0, v0_1, .ref h1])), (h1, aI g 4 stops1)]
def f_X7_stopAt_b22 (F : Nat) (links0 : Int32) (stops1 : Nat → Int32) (s0 : Int32) : Option (Int32) :=
  some s0
def f_X7_stopAt_b21 (F : Nat) (links0 : Int32) (stops1 : Nat → Int32) : Option (Int32) :=
  f_X7_stopAt_b22 F links0 stops1 (-1)
def f_X7_stopAt (F : Nat) (p1 links0 : Int32) (stops1 : Nat → Int32) : Option (Int32) :=
  if p1 < 0 then
    f_X7_stopAt_b21 F links0 stops1
  else
    if links0 < p1 then
      f_X7_stopAt_b21 F links0 stops1
    else
      rd stops1 4 p1 fun a3 =>
      f_X7_stopAt_b22 F links0 stops1 a3
set_option maxHeartbeats 4000000 in
set_option maxRecDepth 100000 in
theorem c_X7_stopAt (l : Launch) (g : GT) (F : Nat) (h0 h1 : Nat) (v0_1 : Value) (p1 links0 : Int32) (stops1 : Nat → Int32) (r : Int32) (sz : Nat) (hf : f_X7_stopAt F p1 links0 stops1 = some r) : CI l m_X7_stopAt (rml 0 0 0) g (w_X7_stopAt g h0 h1 v0_1 links0 stops1) (fun _ => w_X7_stopAt g h0 h1 v0_1 links0 stops1) sz [.ref h0, .int p1] r := by
  refine en_i (by decide) (Nat.le_of_ble_eq_true rfl) (fun p e s m args below meth c A ls C w hl => ?_)
  have C : Cx p s m args meth c RX7 m_X7_stopAt g A := C
  have hx := C.1
  have hb : c.code = cX7_stopAt := C.2.1
  have hl : lv_has ls 2 [(0, .ref h0), (1, .int p1)] := hl
  obtain ⟨Q, hQ⟩ : ∃ Q, Q = QI below args s g A (fun _ => w_X7_stopAt g h0 h1 v0_1 links0 stops1) r 0 0 := ⟨_, rfl⟩
  suffices hW : W p l e (rml 0 0 0) s m args below meth c s.heap [] 0 0 Q (F0 m 0 ls []) from (by rw [hQ] at hW; exact hW)
  unfold f_X7_stopAt at hf
  have b22 : ∀ (s0 : Int32) (H : Heap) (locs : List Loc) (ls : Array Slot), f_X7_stopAt_b22 F links0 stops1 s0 = some r → Wd g A (w_X7_stopAt g h0 h1 v0_1 links0 stops1) s.heap H locs → lv_has ls 2 [] → W p l e (rml 0 0 0) s m args below meth c H locs 0 0 Q (F0 m 22 ls [.int s0]) := by
    intro s0 H locs ls hf w hl
    unfold f_X7_stopAt_b22 at hf
    obtain e1 := tp1 hf
    rw [hQ]
    exact rt_i C w rfl (fun _ => 0) rfl e1 dX7_stopAt_22
  have b21 : ∀ (H : Heap) (locs : List Loc) (ls : Array Slot), f_X7_stopAt_b21 F links0 stops1 = some r → Wd g A (w_X7_stopAt g h0 h1 v0_1 links0 stops1) s.heap H locs → lv_has ls 2 [] → W p l e (rml 0 0 0) s m args below meth c H locs 0 0 Q (F0 m 21 ls []) := by
    intro  H locs ls hf w hl
    unfold f_X7_stopAt_b21 at hf
    refine lv_iconst (v := -1) hx hb dX7_stopAt_21 (by decide) ?_
    exact b22 (-1) _ _ _ hf w (lv_sub hl [] rfl)
  refine lv_iload_n hx hb dX7_stopAt_0 rfl (lv_at hl 1 rfl) ?_
  refine lv_if_lt (tgt := 21) hx hb dX7_stopAt_1 (by decide) (fun c1 => ?_) (fun c1 => ?_)
  · replace hf := it_t c1 hf
    exact b21  _ _ _ hf w (lv_sub hl [] rfl)
  · replace hf := it_f c1 hf
    refine lv_iload_n hx hb dX7_stopAt_4 rfl (lv_at hl 1 rfl) ?_
    refine lv_aload_n hx hb dX7_stopAt_5 rfl (lv_at hl 0 rfl) ?_
    refine g_X7_9 C w 0 rfl rfl dX7_stopAt_6 ?_
    refine lv_icmp_gt (tgt := 21) hx hb dX7_stopAt_9 (by decide) (fun c2 => ?_) (fun c2 => ?_)
    · replace hf := it_t c2 hf
      exact b21  _ _ _ hf w (lv_sub hl [] rfl)
    · replace hf := it_f c2 hf
      refine lv_aload_n hx hb dX7_stopAt_12 rfl (lv_at hl 0 rfl) ?_
      refine g_X7_18 C w 0 rfl rfl dX7_stopAt_13 ?_
      refine lv_iload_n hx hb dX7_stopAt_16 rfl (lv_at hl 1 rfl) ?_
      obtain ⟨a3, hia3, haa3, hf⟩ := rd_some hf
      refine ial C w 1 rfl hia3 haa3 dX7_stopAt_17 ?_
      refine lv_goto (tgt := 22) hx hb dX7_stopAt_18 (by decide) ?_
      exact b22 a3 _ _ _ hf w (lv_sub hl [] rfl)
