theorem dX9_append_0 : decode cX9_append 0 = .ok (.aload_n 0, 1) := by decide +kernel
theorem dX9_append_1 : decode cX9_append 1 = .ok (.getfield 19, 3) := by decide +kernel
theorem dX9_append_4 : decode cX9_append 4 = .ok (.getfield 58, 3) := by decide +kernel
theorem dX9_append_7 : decode cX9_append 7 = .ok (.sipush 880, 3) := by decide +kernel
theorem dX9_append_10 : decode cX9_append 10 = .ok (.if_icmp .le 5, 3) := by decide +kernel
theorem dX9_append_13 : decode cX9_append 13 = .ok (.iconst (-1), 1) := by decide +kernel
theorem dX9_append_14 : decode cX9_append 14 = .ok (.ireturn, 1) := by decide +kernel
theorem dX9_append_15 : decode cX9_append 15 = .ok (.aload_n 0, 1) := by decide +kernel
theorem dX9_append_16 : decode cX9_append 16 = .ok (.getfield 19, 3) := by decide +kernel
theorem dX9_append_19 : decode cX9_append 19 = .ok (.iload_n 1, 1) := by decide +kernel
theorem dX9_append_20 : decode cX9_append 20 = .ok (.invokevirtual 62, 3) := by decide +kernel
theorem dX9_append_23 : decode cX9_append 23 = .ok (.aload_n 0, 1) := by decide +kernel
theorem dX9_append_24 : decode cX9_append 24 = .ok (.getfield 19, 3) := by decide +kernel
theorem dX9_append_27 : decode cX9_append 27 = .ok (.iload_n 2, 1) := by decide +kernel
theorem dX9_append_28 : decode cX9_append 28 = .ok (.invokevirtual 62, 3) := by decide +kernel
theorem dX9_append_31 : decode cX9_append 31 = .ok (.aload_n 0, 1) := by decide +kernel
theorem dX9_append_32 : decode cX9_append 32 = .ok (.getfield 19, 3) := by decide +kernel
theorem dX9_append_35 : decode cX9_append 35 = .ok (.iload_n 3, 1) := by decide +kernel
theorem dX9_append_36 : decode cX9_append 36 = .ok (.invokevirtual 62, 3) := by decide +kernel
theorem dX9_append_39 : decode cX9_append 39 = .ok (.aload_n 0, 1) := by decide +kernel
theorem dX9_append_40 : decode cX9_append 40 = .ok (.getfield 19, 3) := by decide +kernel
theorem dX9_append_43 : decode cX9_append 43 = .ok (.iload 4, 2) := by decide +kernel
theorem dX9_append_45 : decode cX9_append 45 = .ok (.invokevirtual 62, 3) := by decide +kernel
theorem dX9_append_48 : decode cX9_append 48 = .ok (.aload_n 0, 1) := by decide +kernel
theorem dX9_append_49 : decode cX9_append 49 = .ok (.getfield 19, 3) := by decide +kernel
theorem dX9_append_52 : decode cX9_append 52 = .ok (.iload 5, 2) := by decide +kernel
theorem dX9_append_54 : decode cX9_append 54 = .ok (.invokevirtual 62, 3) := by decide +kernel
theorem dX9_append_57 : decode cX9_append 57 = .ok (.aload_n 0, 1) := by decide +kernel
theorem dX9_append_58 : decode cX9_append 58 = .ok (.getfield 19, 3) := by decide +kernel
theorem dX9_append_61 : decode cX9_append 61 = .ok (.getfield 58, 3) := by decide +kernel
theorem dX9_append_64 : decode cX9_append 64 = .ok (.ireturn, 1) := by decide +kernel
abbrev m_X9_append : MD := (yX9_append, cX9_append, 6, (some .int))
theorem inX9s : ∀ w ∈ u_ws RX9 TX9 7, w ∈ TS := by
  show ∀ w ∈ [u_lay RX9 TX9 0, u_lay RX9 TX9 1, u_lay RX9 TX9 2, u_lay RX9 TX9 3, u_lay RX9 TX9 4, u_lay RX9 TX9 5, u_lay RX9 TX9 6], w ∈ TS
  exact List.forall_mem_cons.mpr ⟨ts_t 361 (by decide +kernel) (by decide +kernel), List.forall_mem_cons.mpr ⟨ts_t 363 (by decide +kernel) (by decide +kernel), List.forall_mem_cons.mpr ⟨ts_t 365 (by decide +kernel) (by decide +kernel), List.forall_mem_cons.mpr ⟨ts_t 367 (by decide +kernel) (by decide +kernel), List.forall_mem_cons.mpr ⟨ts_t 369 (by decide +kernel) (by decide +kernel), List.forall_mem_cons.mpr ⟨ts_t 371 (by decide +kernel) (by decide +kernel), List.forall_mem_cons.mpr ⟨ts_t 373 (by decide +kernel) (by decide +kernel), fun _ h => absurd h List.not_mem_nil⟩⟩⟩⟩⟩⟩⟩
theorem g_X9_19 {p : Program} {l : Launch} {e : Env} {R : Room} {s : State} {m : MethodId} {args : Array Value} {below : List Frame} {meth : Method} {c : Code} {H : Heap} {locs : List Loc} {cells slots : Nat} {Q : State → Prop} {d : MD} {g : GT} {A : Nat → Prop} {ws : va_W} {pc : Nat} {ls : Array Slot} {rest : List Value} (C : Cx p s m args meth c RX9 d g A) (w : Wd g A ws s.heap H locs) (q0 : Nat) {a : Nat} {fs : List Value} {v : Value} (he : ws[q0]? = some (a, .inr (9, fs))) (hv : fs[1]? = some v) (hd : decode d.2.1 pc = .ok (.getfield 19, 3)) (kk : W p l e R s m args below meth c H locs cells slots Q (F0 m (pc + 3) ls (v :: rest))) : W p l e R s m args below meth c H locs cells slots Q (F0 m pc ls (.ref a :: rest)) := fg C w inX9s (ref := RX9) rfl 1 (by decide) (ts_t (w := Cond.fieldLink RX9 19 RX9 (TX9 1).2.1 (TX9 1).2.2.1) 355 (by decide +kernel) (by decide +kernel)) rfl q0 he hv hd kk
theorem g_X9_58 {p : Program} {l : Launch} {e : Env} {R : Room} {s : State} {m : MethodId} {args : Array Value} {below : List Frame} {meth : Method} {c : Code} {H : Heap} {locs : List Loc} {cells slots : Nat} {Q : State → Prop} {d : MD} {g : GT} {A : Nat → Prop} {ws : va_W} {pc : Nat} {ls : Array Slot} {rest : List Value} (C : Cx p s m args meth c RX9 d g A) (w : Wd g A ws s.heap H locs) (q0 : Nat) {a : Nat} {fs : List Value} {v : Value} (he : ws[q0]? = some (a, .inr (5, fs))) (hv : fs[1]? = some v) (hd : decode d.2.1 pc = .ok (.getfield 58, 3)) (kk : W p l e R s m args below meth c H locs cells slots Q (F0 m (pc + 3) ls (v :: rest))) : W p l e R s m args below meth c H locs cells slots Q (F0 m pc ls (.ref a :: rest)) := fgN C w inX5s (ref := RX5) rfl 1 (by decide) (nw_t (w := Cond.fieldLinkNest RX9 58 RX5 (TX5 1).2.1 (TX5 1).2.2.1 "FreeFlowToll") 103 (by decide +kernel) rfl) rfl q0 he hv hd kk
theorem q_383 : Cond.code yX5_addWord cX5_addWord 3 none ∈ TS := ts_t 383 (by decide +kernel) (by decide +kernel)
theorem q_382 : Cond.instanceMethod yX5_addWord ∈ TS := ts_t 382 (by decide +kernel) (by decide +kernel)
theorem qs_0 : Cond.selects yX5_addWord.cls yX5_addWord yX5_addWord ∈ TS := ts_s 0 (by decide +kernel) (by decide +kernel)
theorem k_X9_62 : LkN RX9 62 m_X5_addWord 1 := ⟨⟨"FreeFlowToll", nw_t 380 (by decide +kernel) rfl⟩, q_382, qs_0, ⟨q_3, q_383, by decide, by decide, by decide +kernel⟩⟩
abbrev w_X9_append (g : GT) (h0 h1 h2 : Nat) (v0_0 v0_2 v0_3 v0_4 v0_5 v0_6 v1_2 v1_3 v1_4 v1_5 v1_6 v1_7 v1_8 v1_9 v1_10 : Value) (held1 : Int32) (text2 : Nat → Int32) : va_W := [(h0, .inr (9, [v0_0, .ref h1, v0_2, v0_3, v0_4, v0_5, v0_6])), (h1, .inr (5, [.ref h2, .int held1, v1_2, v1_3, v1_4, v1_5, v1_6, v1_7, v1_8, v1_9, v1_10])), (h2, aI g 900 text2)]
def f_X9_append (F : Nat) (p1 p2 p3 p4 p5 held1 : Int32) (text2 : Nat → Int32) : Option (Int32 × Int32 × (Nat → Int32)) :=
  if held1 ≤ 880 then
    bd2 (f_X5_addWord F p1 held1 text2) fun o2 o3 =>
    bd2 (f_X5_addWord F p2 o2 o3) fun o5 o6 =>
    bd2 (f_X5_addWord F p3 o5 o6) fun o8 o9 =>
    bd2 (f_X5_addWord F p4 o8 o9) fun o11 o12 =>
    bd2 (f_X5_addWord F p5 o11 o12) fun o14 o15 =>
    some (o14, o14, o15)
  else
    some ((-1), held1, text2)
set_option maxHeartbeats 4000000 in
set_option maxRecDepth 100000 in
theorem c_X9_append (l : Launch) (g : GT) (F : Nat) (h0 h1 h2 : Nat) (v0_0 v0_2 v0_3 v0_4 v0_5 v0_6 v1_2 v1_3 v1_4 v1_5 v1_6 v1_7 v1_8 v1_9 v1_10 : Value) (p1 p2 p3 p4 p5 held1 : Int32) (text2 : Nat → Int32) (r o_held1 : Int32) (o_text2 : Nat → Int32) (sz : Nat) (hf : f_X9_append F p1 p2 p3 p4 p5 held1 text2 = some (r, o_held1, o_text2)) : CI l m_X9_append (rml 1 0 0) g (w_X9_append g h0 h1 h2 v0_0 v0_2 v0_3 v0_4 v0_5 v0_6 v1_2 v1_3 v1_4 v1_5 v1_6 v1_7 v1_8 v1_9 v1_10 held1 text2) (fun _ => w_X9_append g h0 h1 h2 v0_0 v0_2 v0_3 v0_4 v0_5 v0_6 v1_2 v1_3 v1_4 v1_5 v1_6 v1_7 v1_8 v1_9 v1_10 o_held1 o_text2) sz [.ref h0, .int p1, .int p2, .int p3, .int p4, .int p5] r := by
  refine en_i (by decide) (Nat.le_of_ble_eq_true rfl) (fun p e s m args below meth c A ls C w hl => ?_)
  have C : Cx p s m args meth c RX9 m_X9_append g A := C
  have hx := C.1
  have hb : c.code = cX9_append := C.2.1
  have hl : lv_has ls 6 [(0, .ref h0), (1, .int p1), (2, .int p2), (3, .int p3), (4, .int p4), (5, .int p5)] := hl
  obtain ⟨Q, hQ⟩ : ∃ Q, Q = QI below args s g A (fun _ => w_X9_append g h0 h1 h2 v0_0 v0_2 v0_3 v0_4 v0_5 v0_6 v1_2 v1_3 v1_4 v1_5 v1_6 v1_7 v1_8 v1_9 v1_10 o_held1 o_text2) r 0 0 := ⟨_, rfl⟩
  suffices hW : W p l e (rml 1 0 0) s m args below meth c s.heap [] 0 0 Q (F0 m 0 ls []) from (by rw [hQ] at hW; exact hW)
  unfold f_X9_append at hf
  refine lv_aload_n hx hb dX9_append_0 rfl (lv_at hl 0 rfl) ?_
  refine g_X9_19 C w 0 rfl rfl dX9_append_1 ?_
  refine g_X9_58 C w 1 rfl rfl dX9_append_4 ?_
  refine lv_sipush (v := 880) hx hb dX9_append_7 (by decide) ?_
  refine lv_icmp_le (tgt := 15) hx hb dX9_append_10 (by decide) (fun c1 => ?_) (fun c1 => ?_)
  · replace hf := it_t c1 hf
    refine lv_aload_n hx hb dX9_append_15 rfl (lv_at hl 0 rfl) ?_
    refine g_X9_19 C w 0 rfl rfl dX9_append_16 ?_
    refine lv_iload_n hx hb dX9_append_19 rfl (lv_at hl 1 rfl) ?_
    obtain ⟨o2, o3, hc4, hf⟩ := bd2_some hf
    refine ca_vN C w (wn := fun _ => w_X9_append g h0 h1 h2 v0_0 v0_2 v0_3 v0_4 v0_5 v0_6 v1_2 v1_3 v1_4 v1_5 v1_6 v1_7 v1_8 v1_9 v1_10 o2 o3) (pm_k [false, true, true] rfl rfl (fun _ => Nat.le_of_ble_eq_true rfl) (fun _ => rfl)) (c_X5_addWord l g F h1 h2 v1_2 v1_3 v1_4 v1_5 v1_6 v1_7 v1_8 v1_9 v1_10 p1 held1 text2 o2 o3 _ hc4) k_X9_62 (rm_le (by decide) (by decide)) 1 5 rfl rfl rfl rfl hl.1 rfl (Nat.le_of_ble_eq_true rfl) dX9_append_20 ⟨Nat.le_of_ble_eq_true rfl, Nat.le_of_ble_eq_true rfl⟩ (cells2 := 0) (slots2 := 0) ⟨rfl, rfl⟩ (fun _ H locs w => ?_)
    refine lv_aload_n hx hb dX9_append_23 rfl (lv_at hl 0 rfl) ?_
    refine g_X9_19 C w 0 rfl rfl dX9_append_24 ?_
    refine lv_iload_n hx hb dX9_append_27 rfl (lv_at hl 2 rfl) ?_
    obtain ⟨o5, o6, hc7, hf⟩ := bd2_some hf
    refine ca_vN C w (wn := fun _ => w_X9_append g h0 h1 h2 v0_0 v0_2 v0_3 v0_4 v0_5 v0_6 v1_2 v1_3 v1_4 v1_5 v1_6 v1_7 v1_8 v1_9 v1_10 o5 o6) (pm_k [false, true, true] rfl rfl (fun _ => Nat.le_of_ble_eq_true rfl) (fun _ => rfl)) (c_X5_addWord l g F h1 h2 v1_2 v1_3 v1_4 v1_5 v1_6 v1_7 v1_8 v1_9 v1_10 p2 o2 o3 o5 o6 _ hc7) k_X9_62 (rm_le (by decide) (by decide)) 1 5 rfl rfl rfl rfl hl.1 rfl (Nat.le_of_ble_eq_true rfl) dX9_append_28 ⟨Nat.le_of_ble_eq_true rfl, Nat.le_of_ble_eq_true rfl⟩ (cells2 := 0) (slots2 := 0) ⟨rfl, rfl⟩ (fun _ H locs w => ?_)
    refine lv_aload_n hx hb dX9_append_31 rfl (lv_at hl 0 rfl) ?_
    refine g_X9_19 C w 0 rfl rfl dX9_append_32 ?_
    refine lv_iload_n hx hb dX9_append_35 rfl (lv_at hl 3 rfl) ?_
    obtain ⟨o8, o9, hc10, hf⟩ := bd2_some hf
    refine ca_vN C w (wn := fun _ => w_X9_append g h0 h1 h2 v0_0 v0_2 v0_3 v0_4 v0_5 v0_6 v1_2 v1_3 v1_4 v1_5 v1_6 v1_7 v1_8 v1_9 v1_10 o8 o9) (pm_k [false, true, true] rfl rfl (fun _ => Nat.le_of_ble_eq_true rfl) (fun _ => rfl)) (c_X5_addWord l g F h1 h2 v1_2 v1_3 v1_4 v1_5 v1_6 v1_7 v1_8 v1_9 v1_10 p3 o5 o6 o8 o9 _ hc10) k_X9_62 (rm_le (by decide) (by decide)) 1 5 rfl rfl rfl rfl hl.1 rfl (Nat.le_of_ble_eq_true rfl) dX9_append_36 ⟨Nat.le_of_ble_eq_true rfl, Nat.le_of_ble_eq_true rfl⟩ (cells2 := 0) (slots2 := 0) ⟨rfl, rfl⟩ (fun _ H locs w => ?_)
    refine lv_aload_n hx hb dX9_append_39 rfl (lv_at hl 0 rfl) ?_
    refine g_X9_19 C w 0 rfl rfl dX9_append_40 ?_
    refine lv_iload hx hb dX9_append_43 (lv_at hl 4 rfl) ?_
    obtain ⟨o11, o12, hc13, hf⟩ := bd2_some hf
    refine ca_vN C w (wn := fun _ => w_X9_append g h0 h1 h2 v0_0 v0_2 v0_3 v0_4 v0_5 v0_6 v1_2 v1_3 v1_4 v1_5 v1_6 v1_7 v1_8 v1_9 v1_10 o11 o12) (pm_k [false, true, true] rfl rfl (fun _ => Nat.le_of_ble_eq_true rfl) (fun _ => rfl)) (c_X5_addWord l g F h1 h2 v1_2 v1_3 v1_4 v1_5 v1_6 v1_7 v1_8 v1_9 v1_10 p4 o8 o9 o11 o12 _ hc13) k_X9_62 (rm_le (by decide) (by decide)) 1 5 rfl rfl rfl rfl hl.1 rfl (Nat.le_of_ble_eq_true rfl) dX9_append_45 ⟨Nat.le_of_ble_eq_true rfl, Nat.le_of_ble_eq_true rfl⟩ (cells2 := 0) (slots2 := 0) ⟨rfl, rfl⟩ (fun _ H locs w => ?_)
    refine lv_aload_n hx hb dX9_append_48 rfl (lv_at hl 0 rfl) ?_
    refine g_X9_19 C w 0 rfl rfl dX9_append_49 ?_
    refine lv_iload hx hb dX9_append_52 (lv_at hl 5 rfl) ?_
    obtain ⟨o14, o15, hc16, hf⟩ := bd2_some hf
    refine ca_vN C w (wn := fun _ => w_X9_append g h0 h1 h2 v0_0 v0_2 v0_3 v0_4 v0_5 v0_6 v1_2 v1_3 v1_4 v1_5 v1_6 v1_7 v1_8 v1_9 v1_10 o14 o15) (pm_k [false, true, true] rfl rfl (fun _ => Nat.le_of_ble_eq_true rfl) (fun _ => rfl)) (c_X5_addWord l g F h1 h2 v1_2 v1_3 v1_4 v1_5 v1_6 v1_7 v1_8 v1_9 v1_10 p5 o11 o12 o14 o15 _ hc16) k_X9_62 (rm_le (by decide) (by decide)) 1 5 rfl rfl rfl rfl hl.1 rfl (Nat.le_of_ble_eq_true rfl) dX9_append_54 ⟨Nat.le_of_ble_eq_true rfl, Nat.le_of_ble_eq_true rfl⟩ (cells2 := 0) (slots2 := 0) ⟨rfl, rfl⟩ (fun _ H locs w => ?_)
    refine lv_aload_n hx hb dX9_append_57 rfl (lv_at hl 0 rfl) ?_
    refine g_X9_19 C w 0 rfl rfl dX9_append_58 ?_
    refine g_X9_58 C w 1 rfl rfl dX9_append_61 ?_
    obtain ⟨e1, e2, e3⟩ := tp3 hf
    rw [hQ]
    exact rt_i C w rfl (fun _ => 0) (by rw [← e2, ← e3]) e1 dX9_append_64
  · replace hf := it_f c1 hf
    refine lv_iconst (v := -1) hx hb dX9_append_13 (by decide) ?_
    obtain ⟨e1, e2, e3⟩ := tp3 hf
    rw [hQ]
    exact rt_i C w rfl (fun _ => 0) (by rw [← e2, ← e3]) e1 dX9_append_14

theorem dX2_forget_0 : decode cX2_forget 0 = .ok (.aload_n 0, 1) := by decide +kernel
theorem dX2_forget_1 : decode cX2_forget 1 = .ok (.iconst 0, 1) := by decide +kernel
theorem dX2_forget_2 : decode cX2_forget 2 = .ok (.putfield 21, 3) := by decide +kernel
theorem dX2_forget_5 : decode cX2_forget 5 = .ok (.return_, 1) := by decide +kernel
abbrev m_X2_forget : MD := (yX2_forget, cX2_forget, 1, none)

abbrev w_X2_forget (g : GT) (h0 : Nat) (v0_0 v0_1 : Value) (depth0 : Int32) : va_W := [(h0, .inr (2, [v0_0, v0_1, .int depth0]))]
def f_X2_forget (F : Nat) (depth0 : Int32) : Option (Int32) :=
  some 0
set_option maxHeartbeats 4000000 in
set_option maxRecDepth 100000 in
theorem c_X2_forget (l : Launch) (g : GT) (F : Nat) (h0 : Nat) (v0_0 v0_1 : Value) (depth0 : Int32) (o_depth0 : Int32) (sz : Nat) (hf : f_X2_forget F depth0 = some o_depth0) : CV l m_X2_forget (rml 0 0 0) g (w_X2_forget g h0 v0_0 v0_1 depth0) (fun _ => w_X2_forget g h0 v0_0 v0_1 o_depth0) sz [.ref h0] := by
  refine en_v (by decide) (Nat.le_of_ble_eq_true rfl) (fun p e s m args below meth c A ls C w hl => ?_)
  have C : Cx p s m args meth c RX2 m_X2_forget g A := C
  have hx := C.1
  have hb : c.code = cX2_forget := C.2.1
  have hl : lv_has ls 1 [(0, .ref h0)] := hl
  obtain ⟨Q, hQ⟩ : ∃ Q, Q = QV below args s g A (fun _ => w_X2_forget g h0 v0_0 v0_1 o_depth0) 0 0 := ⟨_, rfl⟩
  suffices hW : W p l e (rml 0 0 0) s m args below meth c s.heap [] 0 0 Q (F0 m 0 ls []) from (by rw [hQ] at hW; exact hW)
  unfold f_X2_forget at hf
  refine lv_aload_n hx hb dX2_forget_0 rfl (lv_at hl 0 rfl) ?_
  refine lv_iconst (v := 0) hx hb dX2_forget_1 (by decide) ?_
  refine p_X2_21 C w 0 rfl (Nat.le_of_ble_eq_true rfl) (ws2 := w_X2_forget g h0 v0_0 v0_1 0) rfl dX2_forget_2 (fun H locs w => ?_)
  obtain e1 := tp1 hf
  rw [hQ]
  exact rt_v C w rfl (fun _ => 0) (by rw [← e1]) dX2_forget_5

theorem dX8_discard_0 : decode cX8_discard 0 = .ok (.iconst 0, 1) := by decide +kernel
theorem dX8_discard_1 : decode cX8_discard 1 = .ok (.istore_n 1, 1) := by decide +kernel
theorem dX8_discard_2 : decode cX8_discard 2 = .ok (.iload_n 1, 1) := by decide +kernel
theorem dX8_discard_3 : decode cX8_discard 3 = .ok (.iconst 2, 1) := by decide +kernel
theorem dX8_discard_4 : decode cX8_discard 4 = .ok (.if_icmp .ge 16, 3) := by decide +kernel
theorem dX8_discard_7 : decode cX8_discard 7 = .ok (.aload_n 0, 1) := by decide +kernel
theorem dX8_discard_8 : decode cX8_discard 8 = .ok (.getfield 17, 3) := by decide +kernel
theorem dX8_discard_11 : decode cX8_discard 11 = .ok (.iload_n 1, 1) := by decide +kernel
theorem dX8_discard_12 : decode cX8_discard 12 = .ok (.iconst 0, 1) := by decide +kernel
theorem dX8_discard_13 : decode cX8_discard 13 = .ok (.bastore, 1) := by decide +kernel
theorem dX8_discard_14 : decode cX8_discard 14 = .ok (.iinc 1 1, 3) := by decide +kernel
theorem dX8_discard_17 : decode cX8_discard 17 = .ok (.goto (-15), 3) := by decide +kernel
theorem dX8_discard_20 : decode cX8_discard 20 = .ok (.return_, 1) := by decide +kernel
abbrev m_X8_discard : MD := (yX8_discard, cX8_discard, 2, none)

abbrev w_X8_discard (g : GT) (h0 h1 : Nat) (v0_0 : Value) (full1 : Nat → Int32) : va_W := [(h0, .inr (8, [v0_0, .ref h1])), (h1, aZ g 2 full1)]
def f_X8_discard_h2 (F : Nat) (k2 : (Int32 × (Nat → Int32)) → Option ((Nat → Int32))) (x1 : Int32) (full1 : Nat → Int32) : Option ((Nat → Int32)) :=
  if 2 ≤ x1 then
    some full1
  else
    wr full1 2 x1 (vp_nar .boolean 0) fun f2 =>
    k2 (x1 + 1, f2)
def f_X8_discard_L2 (F : Nat) (z : Int32 × (Nat → Int32)) : Option ((Nat → Int32)) := lp (fun k z => f_X8_discard_h2 F k z.1 z.2) F z
def f_X8_discard (F : Nat) (full1 : Nat → Int32) : Option ((Nat → Int32)) :=
  f_X8_discard_L2 F (0, full1)
set_option maxHeartbeats 4000000 in
set_option maxRecDepth 100000 in
theorem c_X8_discard (l : Launch) (g : GT) (F : Nat) (h0 h1 : Nat) (v0_0 : Value) (full1 : Nat → Int32) (o_full1 : Nat → Int32) (sz : Nat) (hf : f_X8_discard F full1 = some o_full1) : CV l m_X8_discard (rml 0 0 0) g (w_X8_discard g h0 h1 v0_0 full1) (fun _ => w_X8_discard g h0 h1 v0_0 o_full1) sz [.ref h0] := by
  refine en_v (by decide) (Nat.le_of_ble_eq_true rfl) (fun p e s m args below meth c A ls C w hl => ?_)
  have C : Cx p s m args meth c RX8 m_X8_discard g A := C
  have hx := C.1
  have hb : c.code = cX8_discard := C.2.1
  have hl : lv_has ls 2 [(0, .ref h0)] := hl
  obtain ⟨Q, hQ⟩ : ∃ Q, Q = QV below args s g A (fun _ => w_X8_discard g h0 h1 v0_0 o_full1) 0 0 := ⟨_, rfl⟩
  suffices hW : W p l e (rml 0 0 0) s m args below meth c s.heap [] 0 0 Q (F0 m 0 ls []) from (by rw [hQ] at hW; exact hW)
  unfold f_X8_discard at hf
  have L2 : ∀ (z : Int32 × (Nat → Int32)), f_X8_discard_L2 F z = some o_full1 → ∀ (H : Heap) (locs : List Loc) (ls : Array Slot), Wd g A (w_X8_discard g h0 h1 v0_0 z.2) s.heap H locs → lv_has ls 2 [(0, .ref h0), (1, .int z.1)] → W p l e (rml 0 0 0) s m args below meth c H locs 0 0 Q (F0 m 2 ls []) := by
    intro z hf
    refine lp_W (r := o_full1) (fun (z : Int32 × (Nat → Int32)) => ∀ (H : Heap) (locs : List Loc) (ls : Array Slot), Wd g A (w_X8_discard g h0 h1 v0_0 z.2) s.heap H locs → lv_has ls 2 [(0, .ref h0), (1, .int z.1)] → W p l e (rml 0 0 0) s m args below meth c H locs 0 0 Q (F0 m 2 ls [])) (fun k2 z ih2 hf => ?_) F z hf
    obtain ⟨x1, full1⟩ := z
    intro H locs ls w hl
    try dsimp only at hf w hl ⊢
    unfold f_X8_discard_h2 at hf
    refine lv_iload_n hx hb dX8_discard_2 rfl (lv_at hl 1 rfl) ?_
    refine lv_iconst (v := 2) hx hb dX8_discard_3 (by decide) ?_
    refine lv_icmp_ge (tgt := 20) hx hb dX8_discard_4 (by decide) (fun c1 => ?_) (fun c1 => ?_)
    · replace hf := it_t c1 hf
      obtain e1 := tp1 hf
      rw [hQ]
      exact rt_v C w rfl (fun _ => 0) (by rw [← e1]) dX8_discard_20
    · replace hf := it_f c1 hf
      refine lv_aload_n hx hb dX8_discard_7 rfl (lv_at hl 0 rfl) ?_
      refine g_X8_17 C w 0 rfl rfl dX8_discard_8 ?_
      refine lv_iload_n hx hb dX8_discard_11 rfl (lv_at hl 1 rfl) ?_
      refine lv_iconst (v := 0) hx hb dX8_discard_12 (by decide) ?_
      obtain ⟨f2, hif2, haf2, hf⟩ := wr_some hf
      refine zas C w 1 rfl hif2 haf2 (ws2 := w_X8_discard g h0 h1 v0_0 f2) rfl dX8_discard_13 (fun H locs w => ?_)
      refine lv_iinc (v := x1 + 1) (lv' := [(1, .int (x1 + 1)), (0, .ref h0)]) hx hb dX8_discard_14 hl (k := 1) rfl rfl (by decide) rfl (fun ls hl => ?_)
      refine lv_goto (tgt := 2) hx hb dX8_discard_17 (by decide) ?_
      exact ih2 (x1 + 1, f2) hf _ _ _ w (lv_sub hl [1, 0] rfl)
  refine lv_iconst (v := 0) hx hb dX8_discard_0 (by decide) ?_
  refine lv_istore_n (lv' := [(1, .int 0), (0, .ref h0)]) hx hb dX8_discard_1 rfl hl (by decide) rfl (fun ls hl => ?_)
  exact L2 (0, full1) hf _ _ _ w (lv_sub hl [1, 0] rfl)

theorem dX9_parse_0 : decode cX9_parse 0 = .ok (.iload_n 1, 1) := by decide +kernel
theorem dX9_parse_1 : decode cX9_parse 1 = .ok (.ifCond .lt 14, 3) := by decide +kernel
theorem dX9_parse_4 : decode cX9_parse 4 = .ok (.iload_n 1, 1) := by decide +kernel
theorem dX9_parse_5 : decode cX9_parse 5 = .ok (.aload_n 0, 1) := by decide +kernel
theorem dX9_parse_6 : decode cX9_parse 6 = .ok (.getfield 19, 3) := by decide +kernel
theorem dX9_parse_9 : decode cX9_parse 9 = .ok (.getfield 58, 3) := by decide +kernel
theorem dX9_parse_12 : decode cX9_parse 12 = .ok (.if_icmp .le 13, 3) := by decide +kernel
theorem dX9_parse_15 : decode cX9_parse 15 = .ok (.new 66, 3) := by decide +kernel
theorem dX9_parse_18 : decode cX9_parse 18 = .ok (.dup, 1) := by decide +kernel
theorem dX9_parse_19 : decode cX9_parse 19 = .ok (.ldc 68, 2) := by decide +kernel
theorem dX9_parse_21 : decode cX9_parse 21 = .ok (.invokespecial 70, 3) := by decide +kernel
theorem dX9_parse_24 : decode cX9_parse 24 = .ok (.athrow, 1) := by decide +kernel
theorem dX9_parse_25 : decode cX9_parse 25 = .ok (.aload_n 0, 1) := by decide +kernel
theorem dX9_parse_26 : decode cX9_parse 26 = .ok (.getfield 19, 3) := by decide +kernel
theorem dX9_parse_29 : decode cX9_parse 29 = .ok (.iload_n 1, 1) := by decide +kernel
theorem dX9_parse_30 : decode cX9_parse 30 = .ok (.invokevirtual 73, 3) := by decide +kernel
theorem dX9_parse_33 : decode cX9_parse 33 = .ok (.aload_n 0, 1) := by decide +kernel
theorem dX9_parse_34 : decode cX9_parse 34 = .ok (.getfield 19, 3) := by decide +kernel
theorem dX9_parse_37 : decode cX9_parse 37 = .ok (.getfield 76, 3) := by decide +kernel
theorem dX9_parse_40 : decode cX9_parse 40 = .ok (.ifCond .eq 14, 3) := by decide +kernel
theorem dX9_parse_43 : decode cX9_parse 43 = .ok (.bipush (-2), 2) := by decide +kernel
theorem dX9_parse_45 : decode cX9_parse 45 = .ok (.aload_n 0, 1) := by decide +kernel
theorem dX9_parse_46 : decode cX9_parse 46 = .ok (.getfield 19, 3) := by decide +kernel
theorem dX9_parse_49 : decode cX9_parse 49 = .ok (.getfield 76, 3) := by decide +kernel
theorem dX9_parse_52 : decode cX9_parse 52 = .ok (.isub, 1) := by decide +kernel
theorem dX9_parse_53 : decode cX9_parse 53 = .ok (.ireturn, 1) := by decide +kernel
theorem dX9_parse_54 : decode cX9_parse 54 = .ok (.aload_n 0, 1) := by decide +kernel
theorem dX9_parse_55 : decode cX9_parse 55 = .ok (.getfield 12, 3) := by decide +kernel
theorem dX9_parse_58 : decode cX9_parse 58 = .ok (.astore_n 2, 1) := by decide +kernel
theorem dX9_parse_59 : decode cX9_parse 59 = .ok (.aload_n 0, 1) := by decide +kernel
theorem dX9_parse_60 : decode cX9_parse 60 = .ok (.aload_n 0, 1) := by decide +kernel
theorem dX9_parse_61 : decode cX9_parse 61 = .ok (.getfield 19, 3) := by decide +kernel
theorem dX9_parse_64 : decode cX9_parse 64 = .ok (.getfield 79, 3) := by decide +kernel
theorem dX9_parse_67 : decode cX9_parse 67 = .ok (.putfield 12, 3) := by decide +kernel
theorem dX9_parse_70 : decode cX9_parse 70 = .ok (.aload_n 0, 1) := by decide +kernel
theorem dX9_parse_71 : decode cX9_parse 71 = .ok (.getfield 19, 3) := by decide +kernel
theorem dX9_parse_74 : decode cX9_parse 74 = .ok (.aload_n 2, 1) := by decide +kernel
theorem dX9_parse_75 : decode cX9_parse 75 = .ok (.putfield 79, 3) := by decide +kernel
theorem dX9_parse_78 : decode cX9_parse 78 = .ok (.aload_n 0, 1) := by decide +kernel
theorem dX9_parse_79 : decode cX9_parse 79 = .ok (.getfield 40, 3) := by decide +kernel
theorem dX9_parse_82 : decode cX9_parse 82 = .ok (.invokevirtual 80, 3) := by decide +kernel
theorem dX9_parse_85 : decode cX9_parse 85 = .ok (.aload_n 0, 1) := by decide +kernel
theorem dX9_parse_86 : decode cX9_parse 86 = .ok (.getfield 47, 3) := by decide +kernel
theorem dX9_parse_89 : decode cX9_parse 89 = .ok (.invokevirtual 83, 3) := by decide +kernel
theorem dX9_parse_92 : decode cX9_parse 92 = .ok (.aload_n 0, 1) := by decide +kernel
theorem dX9_parse_93 : decode cX9_parse 93 = .ok (.getfield 54, 3) := by decide +kernel
theorem dX9_parse_96 : decode cX9_parse 96 = .ok (.invokevirtual 86, 3) := by decide +kernel
theorem dX9_parse_99 : decode cX9_parse 99 = .ok (.aload_n 0, 1) := by decide +kernel
theorem dX9_parse_100 : decode cX9_parse 100 = .ok (.getfield 12, 3) := by decide +kernel
theorem dX9_parse_103 : decode cX9_parse 103 = .ok (.getfield 89, 3) := by decide +kernel
theorem dX9_parse_106 : decode cX9_parse 106 = .ok (.ireturn, 1) := by decide +kernel
abbrev m_X9_parse : MD := (yX9_parse, cX9_parse, 3, (some .int))
theorem g_X9_76 {p : Program} {l : Launch} {e : Env} {R : Room} {s : State} {m : MethodId} {args : Array Value} {below : List Frame} {meth : Method} {c : Code} {H : Heap} {locs : List Loc} {cells slots : Nat} {Q : State → Prop} {d : MD} {g : GT} {A : Nat → Prop} {ws : va_W} {pc : Nat} {ls : Array Slot} {rest : List Value} (C : Cx p s m args meth c RX9 d g A) (w : Wd g A ws s.heap H locs) (q0 : Nat) {a : Nat} {fs : List Value} {v : Value} (he : ws[q0]? = some (a, .inr (5, fs))) (hv : fs[4]? = some v) (hd : decode d.2.1 pc = .ok (.getfield 76, 3)) (kk : W p l e R s m args below meth c H locs cells slots Q (F0 m (pc + 3) ls (v :: rest))) : W p l e R s m args below meth c H locs cells slots Q (F0 m pc ls (.ref a :: rest)) := fgN C w inX5s (ref := RX5) rfl 4 (by decide) (nw_t (w := Cond.fieldLinkNest RX9 76 RX5 (TX5 4).2.1 (TX5 4).2.2.1 "FreeFlowToll") 108 (by decide +kernel) rfl) rfl q0 he hv hd kk
theorem g_X9_12 {p : Program} {l : Launch} {e : Env} {R : Room} {s : State} {m : MethodId} {args : Array Value} {below : List Frame} {meth : Method} {c : Code} {H : Heap} {locs : List Loc} {cells slots : Nat} {Q : State → Prop} {d : MD} {g : GT} {A : Nat → Prop} {ws : va_W} {pc : Nat} {ls : Array Slot} {rest : List Value} (C : Cx p s m args meth c RX9 d g A) (w : Wd g A ws s.heap H locs) (q0 : Nat) {a : Nat} {fs : List Value} {v : Value} (he : ws[q0]? = some (a, .inr (9, fs))) (hv : fs[0]? = some v) (hd : decode d.2.1 pc = .ok (.getfield 12, 3)) (kk : W p l e R s m args below meth c H locs cells slots Q (F0 m (pc + 3) ls (v :: rest))) : W p l e R s m args below meth c H locs cells slots Q (F0 m pc ls (.ref a :: rest)) := fg C w inX9s (ref := RX9) rfl 0 (by decide) (ts_t (w := Cond.fieldLink RX9 12 RX9 (TX9 0).2.1 (TX9 0).2.2.1) 354 (by decide +kernel) (by decide +kernel)) rfl q0 he hv hd kk
theorem g_X9_79 {p : Program} {l : Launch} {e : Env} {R : Room} {s : State} {m : MethodId} {args : Array Value} {below : List Frame} {meth : Method} {c : Code} {H : Heap} {locs : List Loc} {cells slots : Nat} {Q : State → Prop} {d : MD} {g : GT} {A : Nat → Prop} {ws : va_W} {pc : Nat} {ls : Array Slot} {rest : List Value} (C : Cx p s m args meth c RX9 d g A) (w : Wd g A ws s.heap H locs) (q0 : Nat) {a : Nat} {fs : List Value} {v : Value} (he : ws[q0]? = some (a, .inr (5, fs))) (hv : fs[3]? = some v) (hd : decode d.2.1 pc = .ok (.getfield 79, 3)) (kk : W p l e R s m args below meth c H locs cells slots Q (F0 m (pc + 3) ls (v :: rest))) : W p l e R s m args below meth c H locs cells slots Q (F0 m pc ls (.ref a :: rest)) := fgN C w inX5s (ref := RX5) rfl 3 (by decide) (nw_t (w := Cond.fieldLinkNest RX9 79 RX5 (TX5 3).2.1 (TX5 3).2.2.1 "FreeFlowToll") 106 (by decide +kernel) rfl) rfl q0 he hv hd kk
theorem g_X9_40 {p : Program} {l : Launch} {e : Env} {R : Room} {s : State} {m : MethodId} {args : Array Value} {below : List Frame} {meth : Method} {c : Code} {H : Heap} {locs : List Loc} {cells slots : Nat} {Q : State → Prop} {d : MD} {g : GT} {A : Nat → Prop} {ws : va_W} {pc : Nat} {ls : Array Slot} {rest : List Value} (C : Cx p s m args meth c RX9 d g A) (w : Wd g A ws s.heap H locs) (q0 : Nat) {a : Nat} {fs : List Value} {v : Value} (he : ws[q0]? = some (a, .inr (9, fs))) (hv : fs[4]? = some v) (hd : decode d.2.1 pc = .ok (.getfield 40, 3)) (kk : W p l e R s m args below meth c H locs cells slots Q (F0 m (pc + 3) ls (v :: rest))) : W p l e R s m args below meth c H locs cells slots Q (F0 m pc ls (.ref a :: rest)) := fg C w inX9s (ref := RX9) rfl 4 (by decide) (ts_t (w := Cond.fieldLink RX9 40 RX9 (TX9 4).2.1 (TX9 4).2.2.1) 358 (by decide +kernel) (by decide +kernel)) rfl q0 he hv hd kk
theorem g_X9_47 {p : Program} {l : Launch} {e : Env} {R : Room} {s : State} {m : MethodId} {args : Array Value} {below : List Frame} {meth : Method} {c : Code} {H : Heap} {locs : List Loc} {cells slots : Nat} {Q : State → Prop} {d : MD} {g : GT} {A : Nat → Prop} {ws : va_W} {pc : Nat} {ls : Array Slot} {rest : List Value} (C : Cx p s m args meth c RX9 d g A) (w : Wd g A ws s.heap H locs) (q0 : Nat) {a : Nat} {fs : List Value} {v : Value} (he : ws[q0]? = some (a, .inr (9, fs))) (hv : fs[5]? = some v) (hd : decode d.2.1 pc = .ok (.getfield 47, 3)) (kk : W p l e R s m args below meth c H locs cells slots Q (F0 m (pc + 3) ls (v :: rest))) : W p l e R s m args below meth c H locs cells slots Q (F0 m pc ls (.ref a :: rest)) := fg C w inX9s (ref := RX9) rfl 5 (by decide) (ts_t (w := Cond.fieldLink RX9 47 RX9 (TX9 5).2.1 (TX9 5).2.2.1) 359 (by decide +kernel) (by decide +kernel)) rfl q0 he hv hd kk
theorem g_X9_54 {p : Program} {l : Launch} {e : Env} {R : Room} {s : State} {m : MethodId} {args : Array Value} {below : List Frame} {meth : Method} {c : Code} {H : Heap} {locs : List Loc} {cells slots : Nat} {Q : State → Prop} {d : MD} {g : GT} {A : Nat → Prop} {ws : va_W} {pc : Nat} {ls : Array Slot} {rest : List Value} (C : Cx p s m args meth c RX9 d g A) (w : Wd g A ws s.heap H locs) (q0 : Nat) {a : Nat} {fs : List Value} {v : Value} (he : ws[q0]? = some (a, .inr (9, fs))) (hv : fs[6]? = some v) (hd : decode d.2.1 pc = .ok (.getfield 54, 3)) (kk : W p l e R s m args below meth c H locs cells slots Q (F0 m (pc + 3) ls (v :: rest))) : W p l e R s m args below meth c H locs cells slots Q (F0 m pc ls (.ref a :: rest)) := fg C w inX9s (ref := RX9) rfl 6 (by decide) (ts_t (w := Cond.fieldLink RX9 54 RX9 (TX9 6).2.1 (TX9 6).2.2.1) 360 (by decide +kernel) (by decide +kernel)) rfl q0 he hv hd kk
theorem g_X9_89 {p : Program} {l : Launch} {e : Env} {R : Room} {s : State} {m : MethodId} {args : Array Value} {below : List Frame} {meth : Method} {c : Code} {H : Heap} {locs : List Loc} {cells slots : Nat} {Q : State → Prop} {d : MD} {g : GT} {A : Nat → Prop} {ws : va_W} {pc : Nat} {ls : Array Slot} {rest : List Value} (C : Cx p s m args meth c RX9 d g A) (w : Wd g A ws s.heap H locs) (q0 : Nat) {a : Nat} {fs : List Value} {v : Value} (he : ws[q0]? = some (a, .inr (4, fs))) (hv : fs[1]? = some v) (hd : decode d.2.1 pc = .ok (.getfield 89, 3)) (kk : W p l e R s m args below meth c H locs cells slots Q (F0 m (pc + 3) ls (v :: rest))) : W p l e R s m args below meth c H locs cells slots Q (F0 m pc ls (.ref a :: rest)) := fgN C w inX4s (ref := RX4) rfl 1 (by decide) (nw_t (w := Cond.fieldLinkNest RX9 89 RX4 (TX4 1).2.1 (TX4 1).2.2.1 "FreeFlowToll") 44 (by decide +kernel) rfl) rfl q0 he hv hd kk
theorem p_X9_12 {p : Program} {l : Launch} {e : Env} {R : Room} {s : State} {m : MethodId} {args : Array Value} {below : List Frame} {meth : Method} {c : Code} {H : Heap} {locs : List Loc} {cells slots : Nat} {Q : State → Prop} {d : MD} {g : GT} {A : Nat → Prop} {ws : va_W} {pc : Nat} {ls : Array Slot} {rest : List Value} (C : Cx p s m args meth c RX9 d g A) (w : Wd g A ws s.heap H locs) (q0 : Nat) {a : Nat} {fs : List Value} {x : Nat} (he : ws[q0]? = some (a, .inr (9, fs))) (hlt : 0 < fs.length) {ws2 : va_W} (h2 : ws.set q0 (a, .inr (9, fs.set 0 (.ref x))) = ws2) (hd : decode d.2.1 pc = .ok (.putfield 12, 3)) (kk : ∀ (H1 : Heap) (locs1 : List Loc), Wd g A ws2 s.heap H1 locs1 → W p l e R s m args below meth c H1 locs1 cells slots Q (F0 m (pc + 3) ls rest)) : W p l e R s m args below meth c H locs cells slots Q (F0 m pc ls (.ref x :: .ref a :: rest)) := fp C w inX9s tyX9_ok nmX9 (ref := RX9) rfl 0 (by decide) (ts_t (w := Cond.fieldLink RX9 12 RX9 (TX9 0).2.1 (TX9 0).2.2.1) 354 (by decide +kernel) (by decide +kernel)) rfl rfl q0 he rfl rfl hlt h2 hd kk
theorem p_X9_79 {p : Program} {l : Launch} {e : Env} {R : Room} {s : State} {m : MethodId} {args : Array Value} {below : List Frame} {meth : Method} {c : Code} {H : Heap} {locs : List Loc} {cells slots : Nat} {Q : State → Prop} {d : MD} {g : GT} {A : Nat → Prop} {ws : va_W} {pc : Nat} {ls : Array Slot} {rest : List Value} (C : Cx p s m args meth c RX9 d g A) (w : Wd g A ws s.heap H locs) (q0 : Nat) {a : Nat} {fs : List Value} {x : Nat} (he : ws[q0]? = some (a, .inr (5, fs))) (hlt : 3 < fs.length) {ws2 : va_W} (h2 : ws.set q0 (a, .inr (5, fs.set 3 (.ref x))) = ws2) (hd : decode d.2.1 pc = .ok (.putfield 79, 3)) (kk : ∀ (H1 : Heap) (locs1 : List Loc), Wd g A ws2 s.heap H1 locs1 → W p l e R s m args below meth c H1 locs1 cells slots Q (F0 m (pc + 3) ls rest)) : W p l e R s m args below meth c H locs cells slots Q (F0 m pc ls (.ref x :: .ref a :: rest)) := fpN C w inX5s tyX5_ok nmX5 (ref := RX5) rfl 3 (by decide) (nw_t (w := Cond.fieldLinkNest RX9 79 RX5 (TX5 3).2.1 (TX5 3).2.2.1 "FreeFlowToll") 106 (by decide +kernel) rfl) rfl rfl q0 he rfl rfl hlt h2 hd kk
theorem q_601 : Cond.code yX5_readText cX5_readText 3 none ∈ TS := ts_t 601 (by decide +kernel) (by decide +kernel)
theorem q_600 : Cond.instanceMethod yX5_readText ∈ TS := ts_t 600 (by decide +kernel) (by decide +kernel)
theorem qs_23 : Cond.selects yX5_readText.cls yX5_readText yX5_readText ∈ TS := ts_s 23 (by decide +kernel) (by decide +kernel)
theorem k_X9_73 : LkN RX9 73 m_X5_readText 1 := ⟨⟨"FreeFlowToll", nw_t 598 (by decide +kernel) rfl⟩, q_600, qs_23, ⟨q_3, q_601, by decide, by decide, by decide +kernel⟩⟩
theorem q_751 : Cond.code yX3_reset cX3_reset 1 none ∈ TS := ts_t 751 (by decide +kernel) (by decide +kernel)
theorem q_750 : Cond.instanceMethod yX3_reset ∈ TS := ts_t 750 (by decide +kernel) (by decide +kernel)
theorem qs_44 : Cond.selects yX3_reset.cls yX3_reset yX3_reset ∈ TS := ts_s 44 (by decide +kernel) (by decide +kernel)
theorem k_X9_80 : LkN RX9 80 m_X3_reset 0 := ⟨⟨"FreeFlowToll", nw_t 748 (by decide +kernel) rfl⟩, q_750, qs_44, ⟨q_6, q_751, by decide, by decide, by decide +kernel⟩⟩
theorem q_9 : Cond.initialized RX2 ∈ TS := ts_t 9 (by decide +kernel) (by decide +kernel)
theorem q_521 : Cond.code yX2_forget cX2_forget 1 none ∈ TS := ts_t 521 (by decide +kernel) (by decide +kernel)
theorem q_520 : Cond.instanceMethod yX2_forget ∈ TS := ts_t 520 (by decide +kernel) (by decide +kernel)
theorem qs_21 : Cond.selects yX2_forget.cls yX2_forget yX2_forget ∈ TS := ts_s 21 (by decide +kernel) (by decide +kernel)
theorem k_X9_83 : LkN RX9 83 m_X2_forget 0 := ⟨⟨"FreeFlowToll", nw_t 518 (by decide +kernel) rfl⟩, q_520, qs_21, ⟨q_9, q_521, by decide, by decide, by decide +kernel⟩⟩
theorem q_10 : Cond.initialized RX8 ∈ TS := ts_t 10 (by decide +kernel) (by decide +kernel)
theorem q_763 : Cond.code yX8_discard cX8_discard 2 none ∈ TS := ts_t 763 (by decide +kernel) (by decide +kernel)
theorem q_762 : Cond.instanceMethod yX8_discard ∈ TS := ts_t 762 (by decide +kernel) (by decide +kernel)
theorem qs_47 : Cond.selects yX8_discard.cls yX8_discard yX8_discard ∈ TS := ts_s 47 (by decide +kernel) (by decide +kernel)
theorem k_X9_86 : LkN RX9 86 m_X8_discard 0 := ⟨⟨"FreeFlowToll", nw_t 760 (by decide +kernel) rfl⟩, q_762, qs_47, ⟨q_10, q_763, by decide, by decide, by decide +kernel⟩⟩
abbrev w_X9_parse (g : GT) (h0 h1 h2 h3 h4 h5 h6 h7 h8 h9 h10 h11 h12 h13 h14 h15 h16 : Nat) (v0_2 v0_3 v1_0 v1_1 v3_2 v3_3 v3_4 v3_5 v3_6 v3_7 v3_8 v4_2 v4_3 v4_4 v4_5 v4_6 v4_7 v4_8 v4_9 v4_10 v4_11 v4_12 v5_0 v5_2 v5_3 v5_4 v5_5 v5_6 v5_7 v5_8 v5_9 v5_10 v5_11 v5_12 v15_0 : Value) (r0_network : Nat) (depth1 trips3 invoices3 count4 latestTime4 links5 held6 length6 : Int32) (r6_network : Nat) (failure6 token6 start6 end6 windowSeen6 confidenceSeen6 feeSeen6 gantries7 links7 classes7 tags7 window7 confidence7 fee7 : Int32) (classAxles8 classPercent9 linkMinutes10 linkPrice11 tagAxles12 tagPlate13 text14 full16 : Nat → Int32) : va_W := [(h0, .inr (9, [.ref r0_network, .ref h6, v0_2, v0_3, .ref h2, .ref h1, .ref h15])), (h1, .inr (2, [v1_0, v1_1, .int depth1])), (h2, .inr (3, [.ref h4, .ref h3])), (h3, .inr (1, [.int trips3, .int invoices3, v3_2, v3_3, v3_4, v3_5, v3_6, v3_7, v3_8])), (h4, .inr (6, [.int count4, .int latestTime4, v4_2, v4_3, v4_4, v4_5, v4_6, v4_7, v4_8, v4_9, v4_10, v4_11, v4_12])), (h5, .inr (4, [v5_0, .int links5, v5_2, v5_3, v5_4, v5_5, v5_6, v5_7, v5_8, v5_9, v5_10, v5_11, v5_12])), (h6, .inr (5, [.ref h14, .int held6, .int length6, .ref r6_network, .int failure6, .int token6, .int start6, .int end6, .int windowSeen6, .int confidenceSeen6, .int feeSeen6])), (h7, .inr (4, [.int gantries7, .int links7, .int classes7, .int tags7, .int window7, .int confidence7, .int fee7, .ref h10, .ref h11, .ref h8, .ref h9, .ref h13, .ref h12])), (h8, aI g 4 classAxles8), (h9, aI g 4 classPercent9), (h10, aI g 100 linkMinutes10), (h11, aI g 100 linkPrice11), (h12, aI g 12 tagAxles12), (h13, aI g 12 tagPlate13), (h14, aI g 900 text14), (h15, .inr (8, [v15_0, .ref h16])), (h16, aZ g 2 full16)]
def f_X9_parse_b15 (F : Nat) (links5 : Int32) (text14 : Nat → Int32) (r0_network : Nat) (depth1 trips3 invoices3 count4 latestTime4 held6 length6 : Int32) (r6_network : Nat) (failure6 token6 start6 end6 windowSeen6 confidenceSeen6 feeSeen6 gantries7 links7 classes7 tags7 window7 confidence7 fee7 : Int32) (classAxles8 classPercent9 linkMinutes10 linkPrice11 tagAxles12 tagPlate13 full16 : Nat → Int32) : Option (Nat × Int32 × Nat × Int32 × Int32 × Int32 × Int32 × Int32 × Int32 × Int32 × Nat × Int32 × Int32 × Int32 × Int32 × Int32 × Int32 × Int32 × Int32 × Int32 × Int32 × Int32 × Int32 × Int32 × Int32 × (Nat → Int32) × (Nat → Int32) × (Nat → Int32) × (Nat → Int32) × (Nat → Int32) × (Nat → Int32) × (Nat → Int32)) :=
  some (1, 0, r0_network, depth1, trips3, invoices3, count4, latestTime4, held6, length6, r6_network, failure6, token6, start6, end6, windowSeen6, confidenceSeen6, feeSeen6, gantries7, links7, classes7, tags7, window7, confidence7, fee7, classAxles8, classPercent9, linkMinutes10, linkPrice11, tagAxles12, tagPlate13, full16)
def f_X9_parse (F : Nat) (p1 : Int32) (r0_network : Nat) (depth1 trips3 invoices3 count4 latestTime4 links5 held6 length6 : Int32) (r6_network : Nat) (failure6 token6 start6 end6 windowSeen6 confidenceSeen6 feeSeen6 gantries7 links7 classes7 tags7 window7 confidence7 fee7 : Int32) (classAxles8 classPercent9 linkMinutes10 linkPrice11 tagAxles12 tagPlate13 text14 full16 : Nat → Int32) : Option (Nat × Int32 × Nat × Int32 × Int32 × Int32 × Int32 × Int32 × Int32 × Int32 × Nat × Int32 × Int32 × Int32 × Int32 × Int32 × Int32 × Int32 × Int32 × Int32 × Int32 × Int32 × Int32 × Int32 × Int32 × (Nat → Int32) × (Nat → Int32) × (Nat → Int32) × (Nat → Int32) × (Nat → Int32) × (Nat → Int32) × (Nat → Int32)) :=
  if p1 < 0 then
    f_X9_parse_b15 F links5 text14 r0_network depth1 trips3 invoices3 count4 latestTime4 held6 length6 r6_network failure6 token6 start6 end6 windowSeen6 confidenceSeen6 feeSeen6 gantries7 links7 classes7 tags7 window7 confidence7 fee7 classAxles8 classPercent9 linkMinutes10 linkPrice11 tagAxles12 tagPlate13 full16
  else
    if p1 ≤ held6 then
      bd22 (f_X5_readText F p1 held6 length6 failure6 token6 start6 end6 windowSeen6 confidenceSeen6 feeSeen6 gantries7 links7 classes7 tags7 window7 confidence7 fee7 classAxles8 classPercent9 linkMinutes10 linkPrice11 tagAxles12 tagPlate13 text14) fun o3 o4 o5 o6 o7 o8 o9 o10 o11 o12 o13 o14 o15 o16 o17 o18 o19 o20 o21 o22 o23 o24 =>
      if o5 = 0 then
        bd4 (f_X3_reset F trips3 invoices3 count4 latestTime4) fun o27 o28 o29 o30 =>
        bd1 (f_X2_forget F depth1) fun o32 =>
        bd1 (f_X8_discard F full16) fun o34 =>
        some (0, o13, r6_network, o32, o27, o28, o29, o30, o3, o4, r0_network, o5, o6, o7, o8, o9, o10, o11, o12, o13, o14, o15, o16, o17, o18, o19, o20, o21, o22, o23, o24, o34)
      else
        some (0, (-2) - o5, r0_network, depth1, trips3, invoices3, count4, latestTime4, o3, o4, r6_network, o5, o6, o7, o8, o9, o10, o11, o12, o13, o14, o15, o16, o17, o18, o19, o20, o21, o22, o23, o24, full16)
    else
      f_X9_parse_b15 F links5 text14 r0_network depth1 trips3 invoices3 count4 latestTime4 held6 length6 r6_network failure6 token6 start6 end6 windowSeen6 confidenceSeen6 feeSeen6 gantries7 links7 classes7 tags7 window7 confidence7 fee7 classAxles8 classPercent9 linkMinutes10 linkPrice11 tagAxles12 tagPlate13 full16
set_option maxHeartbeats 4000000 in
set_option maxRecDepth 100000 in
theorem c_X9_parse (l : Launch) (g : GT) (F : Nat) (h0 h1 h2 h3 h4 h5 h6 h7 h8 h9 h10 h11 h12 h13 h14 h15 h16 : Nat) (v0_2 v0_3 v1_0 v1_1 v3_2 v3_3 v3_4 v3_5 v3_6 v3_7 v3_8 v4_2 v4_3 v4_4 v4_5 v4_6 v4_7 v4_8 v4_9 v4_10 v4_11 v4_12 v5_0 v5_2 v5_3 v5_4 v5_5 v5_6 v5_7 v5_8 v5_9 v5_10 v5_11 v5_12 v15_0 : Value) (p1 depth1 trips3 invoices3 count4 latestTime4 links5 held6 length6 failure6 token6 start6 end6 windowSeen6 confidenceSeen6 feeSeen6 gantries7 links7 classes7 tags7 window7 confidence7 fee7 : Int32) (classAxles8 classPercent9 linkMinutes10 linkPrice11 tagAxles12 tagPlate13 text14 full16 : Nat → Int32) (x : Nat) (r : Int32) (o_r0_network : Nat) (o_depth1 o_trips3 o_invoices3 o_count4 o_latestTime4 o_held6 o_length6 : Int32) (o_r6_network : Nat) (o_failure6 o_token6 o_start6 o_end6 o_windowSeen6 o_confidenceSeen6 o_feeSeen6 o_gantries7 o_links7 o_classes7 o_tags7 o_window7 o_confidence7 o_fee7 : Int32) (o_classAxles8 o_classPercent9 o_linkMinutes10 o_linkPrice11 o_tagAxles12 o_tagPlate13 o_full16 : Nat → Int32) (hst : l.stackTraces = false) (sz : Nat) (hf : f_X9_parse F p1 h5 depth1 trips3 invoices3 count4 latestTime4 links5 held6 length6 h7 failure6 token6 start6 end6 windowSeen6 confidenceSeen6 feeSeen6 gantries7 links7 classes7 tags7 window7 confidence7 fee7 classAxles8 classPercent9 linkMinutes10 linkPrice11 tagAxles12 tagPlate13 text14 full16 = some (x, r, o_r0_network, o_depth1, o_trips3, o_invoices3, o_count4, o_latestTime4, o_held6, o_length6, o_r6_network, o_failure6, o_token6, o_start6, o_end6, o_windowSeen6, o_confidenceSeen6, o_feeSeen6, o_gantries7, o_links7, o_classes7, o_tags7, o_window7, o_confidence7, o_fee7, o_classAxles8, o_classPercent9, o_linkMinutes10, o_linkPrice11, o_tagAxles12, o_tagPlate13, o_full16)) : XI l m_X9_parse (rml 7 1 6) g (w_X9_parse g h0 h1 h2 h3 h4 h5 h6 h7 h8 h9 h10 h11 h12 h13 h14 h15 h16 v0_2 v0_3 v1_0 v1_1 v3_2 v3_3 v3_4 v3_5 v3_6 v3_7 v3_8 v4_2 v4_3 v4_4 v4_5 v4_6 v4_7 v4_8 v4_9 v4_10 v4_11 v4_12 v5_0 v5_2 v5_3 v5_4 v5_5 v5_6 v5_7 v5_8 v5_9 v5_10 v5_11 v5_12 v15_0 h5 depth1 trips3 invoices3 count4 latestTime4 links5 held6 length6 h7 failure6 token6 start6 end6 windowSeen6 confidenceSeen6 feeSeen6 gantries7 links7 classes7 tags7 window7 confidence7 fee7 classAxles8 classPercent9 linkMinutes10 linkPrice11 tagAxles12 tagPlate13 text14 full16) (fun _ => w_X9_parse g h0 h1 h2 h3 h4 h5 h6 h7 h8 h9 h10 h11 h12 h13 h14 h15 h16 v0_2 v0_3 v1_0 v1_1 v3_2 v3_3 v3_4 v3_5 v3_6 v3_7 v3_8 v4_2 v4_3 v4_4 v4_5 v4_6 v4_7 v4_8 v4_9 v4_10 v4_11 v4_12 v5_0 v5_2 v5_3 v5_4 v5_5 v5_6 v5_7 v5_8 v5_9 v5_10 v5_11 v5_12 v15_0 o_r0_network o_depth1 o_trips3 o_invoices3 o_count4 o_latestTime4 links5 o_held6 o_length6 o_r6_network o_failure6 o_token6 o_start6 o_end6 o_windowSeen6 o_confidenceSeen6 o_feeSeen6 o_gantries7 o_links7 o_classes7 o_tags7 o_window7 o_confidence7 o_fee7 o_classAxles8 o_classPercent9 o_linkMinutes10 o_linkPrice11 o_tagAxles12 o_tagPlate13 text14 o_full16) sz [.ref h0, .int p1] x r := by
  refine ex_i (by decide) (Nat.le_of_ble_eq_true rfl) (fun p e s m args below meth c A ls ht C w hl => ?_)
  have C : Cx p s m args meth c RX9 m_X9_parse g A := C
  have hx := C.1
  have hb : c.code = cX9_parse := C.2.1
  have hl : lv_has ls 3 [(0, .ref h0), (1, .int p1)] := hl
  obtain ⟨Q, hQ⟩ : ∃ Q, Q = QXI below args s g A (fun _ => w_X9_parse g h0 h1 h2 h3 h4 h5 h6 h7 h8 h9 h10 h11 h12 h13 h14 h15 h16 v0_2 v0_3 v1_0 v1_1 v3_2 v3_3 v3_4 v3_5 v3_6 v3_7 v3_8 v4_2 v4_3 v4_4 v4_5 v4_6 v4_7 v4_8 v4_9 v4_10 v4_11 v4_12 v5_0 v5_2 v5_3 v5_4 v5_5 v5_6 v5_7 v5_8 v5_9 v5_10 v5_11 v5_12 v15_0 o_r0_network o_depth1 o_trips3 o_invoices3 o_count4 o_latestTime4 links5 o_held6 o_length6 o_r6_network o_failure6 o_token6 o_start6 o_end6 o_windowSeen6 o_confidenceSeen6 o_feeSeen6 o_gantries7 o_links7 o_classes7 o_tags7 o_window7 o_confidence7 o_fee7 o_classAxles8 o_classPercent9 o_linkMinutes10 o_linkPrice11 o_tagAxles12 o_tagPlate13 text14 o_full16) x r 1 6 := ⟨_, rfl⟩
  suffices hW : W p l e (rml 7 1 6) s m args below meth c s.heap [] 0 0 Q (F0 m 0 ls []) from (by rw [hQ] at hW; exact hW)
  unfold f_X9_parse at hf
  have b15 : ∀ (r0_network : Nat) (depth1 trips3 invoices3 count4 latestTime4 held6 length6 : Int32) (r6_network : Nat) (failure6 token6 start6 end6 windowSeen6 confidenceSeen6 feeSeen6 gantries7 links7 classes7 tags7 window7 confidence7 fee7 : Int32) (classAxles8 classPercent9 linkMinutes10 linkPrice11 tagAxles12 tagPlate13 full16 : Nat → Int32) (H : Heap) (locs : List Loc) (ls : Array Slot), f_X9_parse_b15 F links5 text14 r0_network depth1 trips3 invoices3 count4 latestTime4 held6 length6 r6_network failure6 token6 start6 end6 windowSeen6 confidenceSeen6 feeSeen6 gantries7 links7 classes7 tags7 window7 confidence7 fee7 classAxles8 classPercent9 linkMinutes10 linkPrice11 tagAxles12 tagPlate13 full16 = some (x, r, o_r0_network, o_depth1, o_trips3, o_invoices3, o_count4, o_latestTime4, o_held6, o_length6, o_r6_network, o_failure6, o_token6, o_start6, o_end6, o_windowSeen6, o_confidenceSeen6, o_feeSeen6, o_gantries7, o_links7, o_classes7, o_tags7, o_window7, o_confidence7, o_fee7, o_classAxles8, o_classPercent9, o_linkMinutes10, o_linkPrice11, o_tagAxles12, o_tagPlate13, o_full16) → Wd g A (w_X9_parse g h0 h1 h2 h3 h4 h5 h6 h7 h8 h9 h10 h11 h12 h13 h14 h15 h16 v0_2 v0_3 v1_0 v1_1 v3_2 v3_3 v3_4 v3_5 v3_6 v3_7 v3_8 v4_2 v4_3 v4_4 v4_5 v4_6 v4_7 v4_8 v4_9 v4_10 v4_11 v4_12 v5_0 v5_2 v5_3 v5_4 v5_5 v5_6 v5_7 v5_8 v5_9 v5_10 v5_11 v5_12 v15_0 r0_network depth1 trips3 invoices3 count4 latestTime4 links5 held6 length6 r6_network failure6 token6 start6 end6 windowSeen6 confidenceSeen6 feeSeen6 gantries7 links7 classes7 tags7 window7 confidence7 fee7 classAxles8 classPercent9 linkMinutes10 linkPrice11 tagAxles12 tagPlate13 text14 full16) s.heap H locs → lv_has ls 3 [] → W p l e (rml 7 1 6) s m args below meth c H locs 0 0 Q (F0 m 15 ls []) := by
    intro r0_network depth1 trips3 invoices3 count4 latestTime4 held6 length6 r6_network failure6 token6 start6 end6 windowSeen6 confidenceSeen6 feeSeen6 gantries7 links7 classes7 tags7 window7 confidence7 fee7 classAxles8 classPercent9 linkMinutes10 linkPrice11 tagAxles12 tagPlate13 full16 H locs ls hf w hl
    unfold f_X9_parse_b15 at hf
    obtain ⟨e1, e2, e3, e4, e5, e6, e7, e8, e9, e10, e11, e12, e13, e14, e15, e16, e17, e18, e19, e20, e21, e22, e23, e24, e25, e26, e27, e28, e29, e30, e31, e32⟩ := tp32 hf
    rw [hQ]
    exact xt C ht w hst kl_1 (List.mem_of_getElem? (i := 0) rfl) at_1 hl.1 dX9_parse_15 dX9_parse_18 dX9_parse_19 dX9_parse_21 dX9_parse_24 (Nat.le_of_ble_eq_true rfl) (Nat.le_of_ble_eq_true rfl) (Nat.le_of_ble_eq_true rfl) (Nat.le_of_ble_eq_true rfl) (fun _ => 0) (by rw [← e3, ← e4, ← e5, ← e6, ← e7, ← e8, ← e9, ← e10, ← e11, ← e12, ← e13, ← e14, ← e15, ← e16, ← e17, ← e18, ← e19, ← e20, ← e21, ← e22, ← e23, ← e24, ← e25, ← e26, ← e27, ← e28, ← e29, ← e30, ← e31, ← e32]) e1 (Nat.le_of_ble_eq_true rfl) (Nat.le_of_ble_eq_true rfl)
  refine lv_iload_n hx hb dX9_parse_0 rfl (lv_at hl 1 rfl) ?_
  refine lv_if_lt (tgt := 15) hx hb dX9_parse_1 (by decide) (fun c1 => ?_) (fun c1 => ?_)
  · replace hf := it_t c1 hf
    exact b15 h5 depth1 trips3 invoices3 count4 latestTime4 held6 length6 h7 failure6 token6 start6 end6 windowSeen6 confidenceSeen6 feeSeen6 gantries7 links7 classes7 tags7 window7 confidence7 fee7 classAxles8 classPercent9 linkMinutes10 linkPrice11 tagAxles12 tagPlate13 full16 _ _ _ hf w (lv_sub hl [] rfl)
  · replace hf := it_f c1 hf
    refine lv_iload_n hx hb dX9_parse_4 rfl (lv_at hl 1 rfl) ?_
    refine lv_aload_n hx hb dX9_parse_5 rfl (lv_at hl 0 rfl) ?_
    refine g_X9_19 C w 0 rfl rfl dX9_parse_6 ?_
    refine g_X9_58 C w 6 rfl rfl dX9_parse_9 ?_
    refine lv_icmp_le (tgt := 25) hx hb dX9_parse_12 (by decide) (fun c2 => ?_) (fun c2 => ?_)
    · replace hf := it_t c2 hf
      refine lv_aload_n hx hb dX9_parse_25 rfl (lv_at hl 0 rfl) ?_
      refine g_X9_19 C w 0 rfl rfl dX9_parse_26 ?_
      refine lv_iload_n hx hb dX9_parse_29 rfl (lv_at hl 1 rfl) ?_
      obtain ⟨o3, o4, o5, o6, o7, o8, o9, o10, o11, o12, o13, o14, o15, o16, o17, o18, o19, o20, o21, o22, o23, o24, hc25, hf⟩ := bd22_some hf
      refine ca_vN C w (wn := fun _ => w_X9_parse g h0 h1 h2 h3 h4 h5 h6 h7 h8 h9 h10 h11 h12 h13 h14 h15 h16 v0_2 v0_3 v1_0 v1_1 v3_2 v3_3 v3_4 v3_5 v3_6 v3_7 v3_8 v4_2 v4_3 v4_4 v4_5 v4_6 v4_7 v4_8 v4_9 v4_10 v4_11 v4_12 v5_0 v5_2 v5_3 v5_4 v5_5 v5_6 v5_7 v5_8 v5_9 v5_10 v5_11 v5_12 v15_0 h5 depth1 trips3 invoices3 count4 latestTime4 links5 o3 o4 h7 o5 o6 o7 o8 o9 o10 o11 o12 o13 o14 o15 o16 o17 o18 o19 o20 o21 o22 o23 o24 text14 full16) (pm_k [false, false, false, false, false, false, true, true, true, true, true, true, true, true, true, false, false] rfl rfl (fun _ => Nat.le_of_ble_eq_true rfl) (fun _ => rfl)) (c_X5_readText l g F h6 h7 h8 h9 h10 h11 h12 h13 h14 p1 held6 length6 failure6 token6 start6 end6 windowSeen6 confidenceSeen6 feeSeen6 gantries7 links7 classes7 tags7 window7 confidence7 fee7 classAxles8 classPercent9 linkMinutes10 linkPrice11 tagAxles12 tagPlate13 text14 o3 o4 o5 o6 o7 o8 o9 o10 o11 o12 o13 o14 o15 o16 o17 o18 o19 o20 o21 o22 o23 o24 _ hc25) k_X9_73 (rm_le (by decide) (by decide)) 6 5 rfl rfl rfl rfl hl.1 rfl (Nat.le_of_ble_eq_true rfl) dX9_parse_30 ⟨Nat.le_of_ble_eq_true rfl, Nat.le_of_ble_eq_true rfl⟩ (cells2 := 0) (slots2 := 0) ⟨rfl, rfl⟩ (fun _ H locs w => ?_)
      refine lv_aload_n hx hb dX9_parse_33 rfl (lv_at hl 0 rfl) ?_
      refine g_X9_19 C w 0 rfl rfl dX9_parse_34 ?_
      refine g_X9_76 C w 6 rfl rfl dX9_parse_37 ?_
      refine lv_if_eq (tgt := 54) hx hb dX9_parse_40 (by decide) (fun c26 => ?_) (fun c26 => ?_)
      · replace hf := it_t c26 hf
        refine lv_aload_n hx hb dX9_parse_54 rfl (lv_at hl 0 rfl) ?_
        refine g_X9_12 C w 0 rfl rfl dX9_parse_55 ?_
        refine lv_astore_n (lv' := [(2, .ref h5), (0, .ref h0), (1, .int p1)]) hx hb dX9_parse_58 rfl hl (by decide) rfl (fun ls hl => ?_)
        refine lv_aload_n hx hb dX9_parse_59 rfl (lv_at hl 1 rfl) ?_
        refine lv_aload_n hx hb dX9_parse_60 rfl (lv_at hl 1 rfl) ?_
        refine g_X9_19 C w 0 rfl rfl dX9_parse_61 ?_
        refine g_X9_79 C w 6 rfl rfl dX9_parse_64 ?_
        refine p_X9_12 C w 0 rfl (Nat.le_of_ble_eq_true rfl) (ws2 := w_X9_parse g h0 h1 h2 h3 h4 h5 h6 h7 h8 h9 h10 h11 h12 h13 h14 h15 h16 v0_2 v0_3 v1_0 v1_1 v3_2 v3_3 v3_4 v3_5 v3_6 v3_7 v3_8 v4_2 v4_3 v4_4 v4_5 v4_6 v4_7 v4_8 v4_9 v4_10 v4_11 v4_12 v5_0 v5_2 v5_3 v5_4 v5_5 v5_6 v5_7 v5_8 v5_9 v5_10 v5_11 v5_12 v15_0 h7 depth1 trips3 invoices3 count4 latestTime4 links5 o3 o4 h7 o5 o6 o7 o8 o9 o10 o11 o12 o13 o14 o15 o16 o17 o18 o19 o20 o21 o22 o23 o24 text14 full16) rfl dX9_parse_67 (fun H locs w => ?_)
        refine lv_aload_n hx hb dX9_parse_70 rfl (lv_at hl 1 rfl) ?_
        refine g_X9_19 C w 0 rfl rfl dX9_parse_71 ?_
        refine lv_aload_n hx hb dX9_parse_74 rfl (lv_at hl 0 rfl) ?_
        refine p_X9_79 C w 6 rfl (Nat.le_of_ble_eq_true rfl) (ws2 := w_X9_parse g h0 h1 h2 h3 h4 h5 h6 h7 h8 h9 h10 h11 h12 h13 h14 h15 h16 v0_2 v0_3 v1_0 v1_1 v3_2 v3_3 v3_4 v3_5 v3_6 v3_7 v3_8 v4_2 v4_3 v4_4 v4_5 v4_6 v4_7 v4_8 v4_9 v4_10 v4_11 v4_12 v5_0 v5_2 v5_3 v5_4 v5_5 v5_6 v5_7 v5_8 v5_9 v5_10 v5_11 v5_12 v15_0 h7 depth1 trips3 invoices3 count4 latestTime4 links5 o3 o4 h5 o5 o6 o7 o8 o9 o10 o11 o12 o13 o14 o15 o16 o17 o18 o19 o20 o21 o22 o23 o24 text14 full16) rfl dX9_parse_75 (fun H locs w => ?_)
        refine lv_aload_n hx hb dX9_parse_78 rfl (lv_at hl 1 rfl) ?_
        refine g_X9_40 C w 0 rfl rfl dX9_parse_79 ?_
        obtain ⟨o27, o28, o29, o30, hc31, hf⟩ := bd4_some hf
        refine ca_vN C w (wn := fun _ => w_X9_parse g h0 h1 h2 h3 h4 h5 h6 h7 h8 h9 h10 h11 h12 h13 h14 h15 h16 v0_2 v0_3 v1_0 v1_1 v3_2 v3_3 v3_4 v3_5 v3_6 v3_7 v3_8 v4_2 v4_3 v4_4 v4_5 v4_6 v4_7 v4_8 v4_9 v4_10 v4_11 v4_12 v5_0 v5_2 v5_3 v5_4 v5_5 v5_6 v5_7 v5_8 v5_9 v5_10 v5_11 v5_12 v15_0 h7 depth1 o27 o28 o29 o30 links5 o3 o4 h5 o5 o6 o7 o8 o9 o10 o11 o12 o13 o14 o15 o16 o17 o18 o19 o20 o21 o22 o23 o24 text14 full16) (pm_k [false, false, true, true, true, false, false, false, false, false, false, false, false, false, false, false, false] rfl rfl (fun _ => Nat.le_of_ble_eq_true rfl) (fun _ => rfl)) (c_X3_reset l g F h2 h3 h4 v3_2 v3_3 v3_4 v3_5 v3_6 v3_7 v3_8 v4_2 v4_3 v4_4 v4_5 v4_6 v4_7 v4_8 v4_9 v4_10 v4_11 v4_12 trips3 invoices3 count4 latestTime4 o27 o28 o29 o30 _ hc31) k_X9_80 (rm_le (by decide) (by decide)) 2 3 rfl rfl rfl rfl hl.1 rfl (Nat.le_of_ble_eq_true rfl) dX9_parse_82 ⟨Nat.le_of_ble_eq_true rfl, Nat.le_of_ble_eq_true rfl⟩ (cells2 := 0) (slots2 := 0) ⟨rfl, rfl⟩ (fun _ H locs w => ?_)
        refine lv_aload_n hx hb dX9_parse_85 rfl (lv_at hl 1 rfl) ?_
        refine g_X9_47 C w 0 rfl rfl dX9_parse_86 ?_
        obtain ⟨o32, hc33, hf⟩ := bd1_some hf
        refine ca_vN C w (wn := fun _ => w_X9_parse g h0 h1 h2 h3 h4 h5 h6 h7 h8 h9 h10 h11 h12 h13 h14 h15 h16 v0_2 v0_3 v1_0 v1_1 v3_2 v3_3 v3_4 v3_5 v3_6 v3_7 v3_8 v4_2 v4_3 v4_4 v4_5 v4_6 v4_7 v4_8 v4_9 v4_10 v4_11 v4_12 v5_0 v5_2 v5_3 v5_4 v5_5 v5_6 v5_7 v5_8 v5_9 v5_10 v5_11 v5_12 v15_0 h7 o32 o27 o28 o29 o30 links5 o3 o4 h5 o5 o6 o7 o8 o9 o10 o11 o12 o13 o14 o15 o16 o17 o18 o19 o20 o21 o22 o23 o24 text14 full16) (pm_k [false, true, false, false, false, false, false, false, false, false, false, false, false, false, false, false, false] rfl rfl (fun _ => Nat.le_of_ble_eq_true rfl) (fun _ => rfl)) (c_X2_forget l g F h1 v1_0 v1_1 depth1 o32 _ hc33) k_X9_83 (rm_le (by decide) (by decide)) 1 2 rfl rfl rfl rfl hl.1 rfl (Nat.le_of_ble_eq_true rfl) dX9_parse_89 ⟨Nat.le_of_ble_eq_true rfl, Nat.le_of_ble_eq_true rfl⟩ (cells2 := 0) (slots2 := 0) ⟨rfl, rfl⟩ (fun _ H locs w => ?_)
        refine lv_aload_n hx hb dX9_parse_92 rfl (lv_at hl 1 rfl) ?_
        refine g_X9_54 C w 0 rfl rfl dX9_parse_93 ?_
        obtain ⟨o34, hc35, hf⟩ := bd1_some hf
        refine ca_vN C w (wn := fun _ => w_X9_parse g h0 h1 h2 h3 h4 h5 h6 h7 h8 h9 h10 h11 h12 h13 h14 h15 h16 v0_2 v0_3 v1_0 v1_1 v3_2 v3_3 v3_4 v3_5 v3_6 v3_7 v3_8 v4_2 v4_3 v4_4 v4_5 v4_6 v4_7 v4_8 v4_9 v4_10 v4_11 v4_12 v5_0 v5_2 v5_3 v5_4 v5_5 v5_6 v5_7 v5_8 v5_9 v5_10 v5_11 v5_12 v15_0 h7 o32 o27 o28 o29 o30 links5 o3 o4 h5 o5 o6 o7 o8 o9 o10 o11 o12 o13 o14 o15 o16 o17 o18 o19 o20 o21 o22 o23 o24 text14 o34) (pm_k [false, false, false, false, false, false, false, false, false, false, false, false, false, false, false, true, true] rfl rfl (fun _ => Nat.le_of_ble_eq_true rfl) (fun _ => rfl)) (c_X8_discard l g F h15 h16 v15_0 full16 o34 _ hc35) k_X9_86 (rm_le (by decide) (by decide)) 15 8 rfl rfl rfl rfl hl.1 rfl (Nat.le_of_ble_eq_true rfl) dX9_parse_96 ⟨Nat.le_of_ble_eq_true rfl, Nat.le_of_ble_eq_true rfl⟩ (cells2 := 0) (slots2 := 0) ⟨rfl, rfl⟩ (fun _ H locs w => ?_)
        refine lv_aload_n hx hb dX9_parse_99 rfl (lv_at hl 1 rfl) ?_
        refine g_X9_12 C w 0 rfl rfl dX9_parse_100 ?_
        refine g_X9_89 C w 7 rfl rfl dX9_parse_103 ?_
        obtain ⟨e1, e2, e3, e4, e5, e6, e7, e8, e9, e10, e11, e12, e13, e14, e15, e16, e17, e18, e19, e20, e21, e22, e23, e24, e25, e26, e27, e28, e29, e30, e31, e32⟩ := tp32 hf
        rw [hQ]
        exact xr_i C w rfl (fun _ => 0) (by rw [← e3, ← e4, ← e5, ← e6, ← e7, ← e8, ← e9, ← e10, ← e11, ← e12, ← e13, ← e14, ← e15, ← e16, ← e17, ← e18, ← e19, ← e20, ← e21, ← e22, ← e23, ← e24, ← e25, ← e26, ← e27, ← e28, ← e29, ← e30, ← e31, ← e32]) e1 e2 (Nat.le_of_ble_eq_true rfl) (Nat.le_of_ble_eq_true rfl) dX9_parse_106
      · replace hf := it_f c26 hf
        refine lv_bipush (v := -2) hx hb dX9_parse_43 (by decide) ?_
        refine lv_aload_n hx hb dX9_parse_45 rfl (lv_at hl 0 rfl) ?_
        refine g_X9_19 C w 0 rfl rfl dX9_parse_46 ?_
        refine g_X9_76 C w 6 rfl rfl dX9_parse_49 ?_
        refine lv_isub hx hb dX9_parse_52 ?_
        obtain ⟨e1, e2, e3, e4, e5, e6, e7, e8, e9, e10, e11, e12, e13, e14, e15, e16, e17, e18, e19, e20, e21, e22, e23, e24, e25, e26, e27, e28, e29, e30, e31, e32⟩ := tp32 hf
        rw [hQ]
        exact xr_i C w rfl (fun _ => 0) (by rw [← e3, ← e4, ← e5, ← e6, ← e7, ← e8, ← e9, ← e10, ← e11, ← e12, ← e13, ← e14, ← e15, ← e16, ← e17, ← e18, ← e19, ← e20, ← e21, ← e22, ← e23, ← e24, ← e25, ← e26, ← e27, ← e28, ← e29, ← e30, ← e31, ← e32]) e1 e2 (Nat.le_of_ble_eq_true rfl) (Nat.le_of_ble_eq_true rfl) dX9_parse_53
    · replace hf := it_f c2 hf
      exact b15 h5 depth1 trips3 invoices3 count4 latestTime4 held6 length6 h7 failure6 token6 start6 end6 windowSeen6 confidenceSeen6 feeSeen6 gantries7 links7 classes7 tags7 window7 confidence7 fee7 classAxles8 classPercent9 linkMinutes10 linkPrice11 tagAxles12 tagPlate13 full16 _ _ _ hf w (lv_sub hl [] rfl)

theorem dX9_gantryCount_0 : decode cX9_gantryCount 0 = .ok (.aload_n 0, 1) := by decide +kernel
theorem dX9_gantryCount_1 : decode cX9_gantryCount 1 = .ok (.getfield 12, 3) := by decide +kernel
theorem dX9_gantryCount_4 : decode cX9_gantryCount 4 = .ok (.getfield 92, 3) := by decide +kernel
theorem dX9_gantryCount_7 : decode cX9_gantryCount 7 = .ok (.ireturn, 1) := by decide +kernel
abbrev m_X9_gantryCount : MD := (yX9_gantryCount, cX9_gantryCount, 1, (some .int))
theorem g_X9_92 {p : Program} {l : Launch} {e : Env} {R : Room} {s : State} {m : MethodId} {args : Array Value} {below : List Frame} {meth : Method} {c : Code} {H : Heap} {locs : List Loc} {cells slots : Nat} {Q : State → Prop} {d : MD} {g : GT} {A : Nat → Prop} {ws : va_W} {pc : Nat} {ls : Array Slot} {rest : List Value} (C : Cx p s m args meth c RX9 d g A) (w : Wd g A ws s.heap H locs) (q0 : Nat) {a : Nat} {fs : List Value} {v : Value} (he : ws[q0]? = some (a, .inr (4, fs))) (hv : fs[0]? = some v) (hd : decode d.2.1 pc = .ok (.getfield 92, 3)) (kk : W p l e R s m args below meth c H locs cells slots Q (F0 m (pc + 3) ls (v :: rest))) : W p l e R s m args below meth c H locs cells slots Q (F0 m pc ls (.ref a :: rest)) := fgN C w inX4s (ref := RX4) rfl 0 (by decide) (nw_t (w := Cond.fieldLinkNest RX9 92 RX4 (TX4 0).2.1 (TX4 0).2.2.1 "FreeFlowToll") 40 (by decide +kernel) rfl) rfl q0 he hv hd kk
abbrev w_X9_gantryCount (g : GT) (h0 h1 : Nat) (v0_1 v0_2 v0_3 v0_4 v0_5 v0_6 v1_1 v1_2 v1_3 v1_4 v1_5 v1_6 v1_7 v1_8 v1_9 v1_10 v1_11 v1_12 : Value) (gantries1 : Int32) : va_W := [(h0, .inr (9, [.ref h1, v0_1, v0_2, v0_3, v0_4, v0_5, v0_6])), (h1, .inr (4, [.int gantries1, v1_1, v1_2, v1_3, v1_4, v1_5, v1_6, v1_7, v1_8, v1_9, v1_10, v1_11, v1_12]))]
def f_X9_gantryCount (F : Nat) (gantries1 : Int32) : Option (Int32) :=
  some gantries1
set_option maxHeartbeats 4000000 in
set_option maxRecDepth 100000 in
theorem c_X9_gantryCount (l : Launch) (g : GT) (F : Nat) (h0 h1 : Nat) (v0_1 v0_2 v0_3 v0_4 v0_5 v0_6 v1_1 v1_2 v1_3 v1_4 v1_5 v1_6 v1_7 v1_8 v1_9 v1_10 v1_11 v1_12 : Value) (gantries1 : Int32) (r : Int32) (sz : Nat) (hf : f_X9_gantryCount F gantries1 = some r) : CI l m_X9_gantryCount (rml 0 0 0) g (w_X9_gantryCount g h0 h1 v0_1 v0_2 v0_3 v0_4 v0_5 v0_6 v1_1 v1_2 v1_3 v1_4 v1_5 v1_6 v1_7 v1_8 v1_9 v1_10 v1_11 v1_12 gantries1) (fun _ => w_X9_gantryCount g h0 h1 v0_1 v0_2 v0_3 v0_4 v0_5 v0_6 v1_1 v1_2 v1_3 v1_4 v1_5 v1_6 v1_7 v1_8 v1_9 v1_10 v1_11 v1_12 gantries1) sz [.ref h0] r := by
  refine en_i (by decide) (Nat.le_of_ble_eq_true rfl) (fun p e s m args below meth c A ls C w hl => ?_)
  have C : Cx p s m args meth c RX9 m_X9_gantryCount g A := C
  have hx := C.1
  have hb : c.code = cX9_gantryCount := C.2.1
  have hl : lv_has ls 1 [(0, .ref h0)] := hl
  obtain ⟨Q, hQ⟩ : ∃ Q, Q = QI below args s g A (fun _ => w_X9_gantryCount g h0 h1 v0_1 v0_2 v0_3 v0_4 v0_5 v0_6 v1_1 v1_2 v1_3 v1_4 v1_5 v1_6 v1_7 v1_8 v1_9 v1_10 v1_11 v1_12 gantries1) r 0 0 := ⟨_, rfl⟩
  suffices hW : W p l e (rml 0 0 0) s m args below meth c s.heap [] 0 0 Q (F0 m 0 ls []) from (by rw [hQ] at hW; exact hW)
  unfold f_X9_gantryCount at hf
  refine lv_aload_n hx hb dX9_gantryCount_0 rfl (lv_at hl 0 rfl) ?_
  refine g_X9_12 C w 0 rfl rfl dX9_gantryCount_1 ?_
  refine g_X9_92 C w 1 rfl rfl dX9_gantryCount_4 ?_
  obtain e1 := tp1 hf
  rw [hQ]
  exact rt_i C w rfl (fun _ => 0) rfl e1 dX9_gantryCount_7

theorem dX9_tagCount_0 : decode cX9_tagCount 0 = .ok (.aload_n 0, 1) := by decide +kernel
theorem dX9_tagCount_1 : decode cX9_tagCount 1 = .ok (.getfield 12, 3) := by decide +kernel
theorem dX9_tagCount_4 : decode cX9_tagCount 4 = .ok (.getfield 95, 3) := by decide +kernel
theorem dX9_tagCount_7 : decode cX9_tagCount 7 = .ok (.ireturn, 1) := by decide +kernel
abbrev m_X9_tagCount : MD := (yX9_tagCount, cX9_tagCount, 1, (some .int))
theorem g_X9_95 {p : Program} {l : Launch} {e : Env} {R : Room} {s : State} {m : MethodId} {args : Array Value} {below : List Frame} {meth : Method} {c : Code} {H : Heap} {locs : List Loc} {cells slots : Nat} {Q : State → Prop} {d : MD} {g : GT} {A : Nat → Prop} {ws : va_W} {pc : Nat} {ls : Array Slot} {rest : List Value} (C : Cx p s m args meth c RX9 d g A) (w : Wd g A ws s.heap H locs) (q0 : Nat) {a : Nat} {fs : List Value} {v : Value} (he : ws[q0]? = some (a, .inr (4, fs))) (hv : fs[3]? = some v) (hd : decode d.2.1 pc = .ok (.getfield 95, 3)) (kk : W p l e R s m args below meth c H locs cells slots Q (F0 m (pc + 3) ls (v :: rest))) : W p l e R s m args below meth c H locs cells slots Q (F0 m pc ls (.ref a :: rest)) := fgN C w inX4s (ref := RX4) rfl 3 (by decide) (nw_t (w := Cond.fieldLinkNest RX9 95 RX4 (TX4 3).2.1 (TX4 3).2.2.1 "FreeFlowToll") 49 (by decide +kernel) rfl) rfl q0 he hv hd kk
abbrev w_X9_tagCount (g : GT) (h0 h1 : Nat) (v0_1 v0_2 v0_3 v0_4 v0_5 v0_6 v1_0 v1_1 v1_2 v1_4 v1_5 v1_6 v1_7 v1_8 v1_9 v1_10 v1_11 v1_12 : Value) (tags1 : Int32) : va_W := [(h0, .inr (9, [.ref h1, v0_1, v0_2, v0_3, v0_4, v0_5, v0_6])), (h1, .inr (4, [v1_0, v1_1, v1_2, .int tags1, v1_4, v1_5, v1_6, v1_7, v1_8, v1_9, v1_10, v1_11, v1_12]))]
def f_X9_tagCount (F : Nat) (tags1 : Int32) : Option (Int32) :=
  some tags1
set_option maxHeartbeats 4000000 in
set_option maxRecDepth 100000 in
theorem c_X9_tagCount (l : Launch) (g : GT) (F : Nat) (h0 h1 : Nat) (v0_1 v0_2 v0_3 v0_4 v0_5 v0_6 v1_0 v1_1 v1_2 v1_4 v1_5 v1_6 v1_7 v1_8 v1_9 v1_10 v1_11 v1_12 : Value) (tags1 : Int32) (r : Int32) (sz : Nat) (hf : f_X9_tagCount F tags1 = some r) : CI l m_X9_tagCount (rml 0 0 0) g (w_X9_tagCount g h0 h1 v0_1 v0_2 v0_3 v0_4 v0_5 v0_6 v1_0 v1_1 v1_2 v1_4 v1_5 v1_6 v1_7 v1_8 v1_9 v1_10 v1_11 v1_12 tags1) (fun _ => w_X9_tagCount g h0 h1 v0_1 v0_2 v0_3 v0_4 v0_5 v0_6 v1_0 v1_1 v1_2 v1_4 v1_5 v1_6 v1_7 v1_8 v1_9 v1_10 v1_11 v1_12 tags1) sz [.ref h0] r := by
  refine en_i (by decide) (Nat.le_of_ble_eq_true rfl) (fun p e s m args below meth c A ls C w hl => ?_)
  have C : Cx p s m args meth c RX9 m_X9_tagCount g A := C
  have hx := C.1
  have hb : c.code = cX9_tagCount := C.2.1
  have hl : lv_has ls 1 [(0, .ref h0)] := hl
  obtain ⟨Q, hQ⟩ : ∃ Q, Q = QI below args s g A (fun _ => w_X9_tagCount g h0 h1 v0_1 v0_2 v0_3 v0_4 v0_5 v0_6 v1_0 v1_1 v1_2 v1_4 v1_5 v1_6 v1_7 v1_8 v1_9 v1_10 v1_11 v1_12 tags1) r 0 0 := ⟨_, rfl⟩
  suffices hW : W p l e (rml 0 0 0) s m args below meth c s.heap [] 0 0 Q (F0 m 0 ls []) from (by rw [hQ] at hW; exact hW)
  unfold f_X9_tagCount at hf
  refine lv_aload_n hx hb dX9_tagCount_0 rfl (lv_at hl 0 rfl) ?_
  refine g_X9_12 C w 0 rfl rfl dX9_tagCount_1 ?_
  refine g_X9_95 C w 1 rfl rfl dX9_tagCount_4 ?_
  obtain e1 := tp1 hf
  rw [hQ]
  exact rt_i C w rfl (fun _ => 0) rfl e1 dX9_tagCount_7

theorem dX9_requireAxles_0 : decode cX9_requireAxles 0 = .ok (.iload_n 1, 1) := by decide +kernel
theorem dX9_requireAxles_1 : decode cX9_requireAxles 1 = .ok (.iconst 2, 1) := by decide +kernel
theorem dX9_requireAxles_2 : decode cX9_requireAxles 2 = .ok (.if_icmp .lt 9, 3) := by decide +kernel
theorem dX9_requireAxles_5 : decode cX9_requireAxles 5 = .ok (.iload_n 1, 1) := by decide +kernel
theorem dX9_requireAxles_6 : decode cX9_requireAxles 6 = .ok (.bipush 9, 2) := by decide +kernel
theorem dX9_requireAxles_8 : decode cX9_requireAxles 8 = .ok (.if_icmp .le 14, 3) := by decide +kernel
theorem dX9_requireAxles_11 : decode cX9_requireAxles 11 = .ok (.new 66, 3) := by decide +kernel
theorem dX9_requireAxles_14 : decode cX9_requireAxles 14 = .ok (.dup, 1) := by decide +kernel
theorem dX9_requireAxles_15 : decode cX9_requireAxles 15 = .ok (.ldc_w 328, 3) := by decide +kernel
theorem dX9_requireAxles_18 : decode cX9_requireAxles 18 = .ok (.invokespecial 70, 3) := by decide +kernel
theorem dX9_requireAxles_21 : decode cX9_requireAxles 21 = .ok (.athrow, 1) := by decide +kernel
theorem dX9_requireAxles_22 : decode cX9_requireAxles 22 = .ok (.return_, 1) := by decide +kernel
abbrev m_X9_requireAxles : MD := (yX9_requireAxles, cX9_requireAxles, 2, none)

abbrev w_X9_requireAxles (g : GT) : va_W := []
def f_X9_requireAxles_b11 (F : Nat) : Option (Nat) :=
  some 1
def f_X9_requireAxles (F : Nat) (p1 : Int32) : Option (Nat) :=
  if p1 < 2 then
    f_X9_requireAxles_b11 F
  else
    if p1 ≤ 9 then
      some 0
    else
      f_X9_requireAxles_b11 F
set_option maxHeartbeats 4000000 in
set_option maxRecDepth 100000 in
theorem c_X9_requireAxles (l : Launch) (g : GT) (F : Nat) (ha0 : Nat) (p1 : Int32) (x : Nat) (hst : l.stackTraces = false) (sz : Nat) (hf : f_X9_requireAxles F p1 = some x) : XV l m_X9_requireAxles (rml 1 1 6) g (w_X9_requireAxles g) (fun _ => w_X9_requireAxles g) sz [.ref ha0, .int p1] x := by
  refine ex_v (by decide) (Nat.le_of_ble_eq_true rfl) (fun p e s m args below meth c A ls ht C w hl => ?_)
  have C : Cx p s m args meth c RX9 m_X9_requireAxles g A := C
  have hx := C.1
  have hb : c.code = cX9_requireAxles := C.2.1
  have hl : lv_has ls 2 [(0, .ref ha0), (1, .int p1)] := hl
  obtain ⟨Q, hQ⟩ : ∃ Q, Q = QXV below args s g A (fun _ => w_X9_requireAxles g) x 1 6 := ⟨_, rfl⟩
  suffices hW : W p l e (rml 1 1 6) s m args below meth c s.heap [] 0 0 Q (F0 m 0 ls []) from (by rw [hQ] at hW; exact hW)
  unfold f_X9_requireAxles at hf
  have b11 : ∀ (H : Heap) (locs : List Loc) (ls : Array Slot), f_X9_requireAxles_b11 F = some x → Wd g A (w_X9_requireAxles g) s.heap H locs → lv_has ls 2 [] → W p l e (rml 1 1 6) s m args below meth c H locs 0 0 Q (F0 m 11 ls []) := by
    intro  H locs ls hf w hl
    unfold f_X9_requireAxles_b11 at hf
    obtain e1 := tp1 hf
    rw [hQ]
    exact xtw C ht w hst kl_1 (List.mem_of_getElem? (i := 8) rfl) at_1 hl.1 dX9_requireAxles_11 dX9_requireAxles_14 dX9_requireAxles_15 dX9_requireAxles_18 dX9_requireAxles_21 (Nat.le_of_ble_eq_true rfl) (Nat.le_of_ble_eq_true rfl) (Nat.le_of_ble_eq_true rfl) (Nat.le_of_ble_eq_true rfl) (fun _ => 0) rfl e1 (Nat.le_of_ble_eq_true rfl) (Nat.le_of_ble_eq_true rfl)
  refine lv_iload_n hx hb dX9_requireAxles_0 rfl (lv_at hl 1 rfl) ?_
  refine lv_iconst (v := 2) hx hb dX9_requireAxles_1 (by decide) ?_
  refine lv_icmp_lt (tgt := 11) hx hb dX9_requireAxles_2 (by decide) (fun c1 => ?_) (fun c1 => ?_)
  · replace hf := it_t c1 hf
    exact b11  _ _ _ hf w (lv_sub hl [] rfl)
  · replace hf := it_f c1 hf
    refine lv_iload_n hx hb dX9_requireAxles_5 rfl (lv_at hl 1 rfl) ?_
    refine lv_bipush (v := 9) hx hb dX9_requireAxles_6 (by decide) ?_
    refine lv_icmp_le (tgt := 22) hx hb dX9_requireAxles_8 (by decide) (fun c2 => ?_) (fun c2 => ?_)
    · replace hf := it_t c2 hf
      obtain e1 := tp1 hf
      rw [hQ]
      exact xr_v C w rfl (fun _ => 0) rfl e1 (Nat.le_of_ble_eq_true rfl) (Nat.le_of_ble_eq_true rfl) dX9_requireAxles_22
    · replace hf := it_f c2 hf
      exact b11  _ _ _ hf w (lv_sub hl [] rfl)

theorem dX9_classOf_0 : decode cX9_classOf 0 = .ok (.aload_n 0, 1) := by decide +kernel
theorem dX9_classOf_1 : decode cX9_classOf 1 = .ok (.iload_n 1, 1) := by decide +kernel
theorem dX9_classOf_2 : decode cX9_classOf 2 = .ok (.invokevirtual 98, 3) := by decide +kernel
theorem dX9_classOf_5 : decode cX9_classOf 5 = .ok (.aload_n 0, 1) := by decide +kernel
theorem dX9_classOf_6 : decode cX9_classOf 6 = .ok (.getfield 12, 3) := by decide +kernel
theorem dX9_classOf_9 : decode cX9_classOf 9 = .ok (.iload_n 1, 1) := by decide +kernel
theorem dX9_classOf_10 : decode cX9_classOf 10 = .ok (.invokevirtual 101, 3) := by decide +kernel
theorem dX9_classOf_13 : decode cX9_classOf 13 = .ok (.ireturn, 1) := by decide +kernel
abbrev m_X9_classOf : MD := (yX9_classOf, cX9_classOf, 2, (some .int))
theorem q_1 : Cond.initialized RX9 ∈ TS := ts_t 1 (by decide +kernel) (by decide +kernel)
theorem q_774 : Cond.code yX9_requireAxles cX9_requireAxles 2 none ∈ TS := ts_t 774 (by decide +kernel) (by decide +kernel)
theorem q_771 : Cond.methodLink RX9 98 yX9_requireAxles ∈ TS := ts_t 771 (by decide +kernel) (by decide +kernel)
theorem q_773 : Cond.instanceMethod yX9_requireAxles ∈ TS := ts_t 773 (by decide +kernel) (by decide +kernel)
theorem qs_48 : Cond.selects yX9_requireAxles.cls yX9_requireAxles yX9_requireAxles ∈ TS := ts_s 48 (by decide +kernel) (by decide +kernel)
theorem k_X9_98 : LkV RX9 98 m_X9_requireAxles 1 := ⟨q_771, q_773, qs_48, ⟨q_1, q_774, by decide, by decide, by decide +kernel⟩⟩
theorem k_X9_101 : LkN RX9 101 m_X4_classFor 1 := ⟨⟨"FreeFlowToll", nw_t 776 (by decide +kernel) rfl⟩, q_442, qs_10, ⟨q_2, q_443, by decide, by decide, by decide +kernel⟩⟩
abbrev w_X9_classOf (g : GT) (h0 h1 h2 : Nat) (v0_1 v0_2 v0_3 v0_4 v0_5 v0_6 v1_0 v1_1 v1_3 v1_4 v1_5 v1_6 v1_7 v1_8 v1_10 v1_11 v1_12 : Value) (classes1 : Int32) (classAxles2 : Nat → Int32) : va_W := [(h0, .inr (9, [.ref h1, v0_1, v0_2, v0_3, v0_4, v0_5, v0_6])), (h1, .inr (4, [v1_0, v1_1, .int classes1, v1_3, v1_4, v1_5, v1_6, v1_7, v1_8, .ref h2, v1_10, v1_11, v1_12])), (h2, aI g 4 classAxles2)]
def f_X9_classOf (F : Nat) (p1 classes1 : Int32) (classAxles2 : Nat → Int32) : Option (Nat × Int32) :=
  bd1 (f_X9_requireAxles F p1) fun x1 =>
  if x1 ≠ 0 then some (x1, 0) else
  bd1 (f_X4_classFor F p1 classes1 classAxles2) fun r4 =>
  some (0, r4)
set_option maxHeartbeats 4000000 in
set_option maxRecDepth 100000 in
theorem c_X9_classOf (l : Launch) (g : GT) (F : Nat) (h0 h1 h2 : Nat) (v0_1 v0_2 v0_3 v0_4 v0_5 v0_6 v1_0 v1_1 v1_3 v1_4 v1_5 v1_6 v1_7 v1_8 v1_10 v1_11 v1_12 : Value) (p1 classes1 : Int32) (classAxles2 : Nat → Int32) (x : Nat) (r : Int32) (hst : l.stackTraces = false) (sz : Nat) (hf : f_X9_classOf F p1 classes1 classAxles2 = some (x, r)) : XI l m_X9_classOf (rml 2 1 6) g (w_X9_classOf g h0 h1 h2 v0_1 v0_2 v0_3 v0_4 v0_5 v0_6 v1_0 v1_1 v1_3 v1_4 v1_5 v1_6 v1_7 v1_8 v1_10 v1_11 v1_12 classes1 classAxles2) (fun _ => w_X9_classOf g h0 h1 h2 v0_1 v0_2 v0_3 v0_4 v0_5 v0_6 v1_0 v1_1 v1_3 v1_4 v1_5 v1_6 v1_7 v1_8 v1_10 v1_11 v1_12 classes1 classAxles2) sz [.ref h0, .int p1] x r := by
  refine ex_i (by decide) (Nat.le_of_ble_eq_true rfl) (fun p e s m args below meth c A ls ht C w hl => ?_)
  have C : Cx p s m args meth c RX9 m_X9_classOf g A := C
  have hx := C.1
  have hb : c.code = cX9_classOf := C.2.1
  have hl : lv_has ls 2 [(0, .ref h0), (1, .int p1)] := hl
  obtain ⟨Q, hQ⟩ : ∃ Q, Q = QXI below args s g A (fun _ => w_X9_classOf g h0 h1 h2 v0_1 v0_2 v0_3 v0_4 v0_5 v0_6 v1_0 v1_1 v1_3 v1_4 v1_5 v1_6 v1_7 v1_8 v1_10 v1_11 v1_12 classes1 classAxles2) x r 1 6 := ⟨_, rfl⟩
  suffices hW : W p l e (rml 2 1 6) s m args below meth c s.heap [] 0 0 Q (F0 m 0 ls []) from (by rw [hQ] at hW; exact hW)
  unfold f_X9_classOf at hf
  refine lv_aload_n hx hb dX9_classOf_0 rfl (lv_at hl 0 rfl) ?_
  refine lv_iload_n hx hb dX9_classOf_1 rfl (lv_at hl 1 rfl) ?_
  obtain ⟨x1, hc2, hf⟩ := bd1_some hf
  refine cx_vV C w (wn := fun _ => w_X9_classOf g h0 h1 h2 v0_1 v0_2 v0_3 v0_4 v0_5 v0_6 v1_0 v1_1 v1_3 v1_4 v1_5 v1_6 v1_7 v1_8 v1_10 v1_11 v1_12 classes1 classAxles2) (pm_k [false, false, false] rfl rfl (fun _ => Nat.le_of_ble_eq_true rfl) (fun _ => rfl)) (c_X9_requireAxles l g F h0 p1 x1 hst _ hc2) k_X9_98 (rm_le (by decide) (by decide)) 0 9 rfl rfl rfl rfl hl.1 rfl (Nat.le_of_ble_eq_true rfl) dX9_classOf_2 ⟨Nat.le_of_ble_eq_true rfl, Nat.le_of_ble_eq_true rfl⟩ (cells2 := 1) (slots2 := 6) ⟨rfl, rfl⟩ (fun n3 _ H locs w q9 ce h1 h2 h3 => ?_) (fun n3 _ H locs w => ?_)
  · replace hf := it_t n3 hf
    obtain ⟨e1, e2⟩ := tp2 hf
    rw [hQ]
    exact xo C ht w (fun _ => 0) rfl e1 n3 h1 h2 h3 (Nat.le_of_ble_eq_true rfl) (Nat.le_of_ble_eq_true rfl)
  replace hf := it_f (fun h => h n3) hf
  refine lv_aload_n hx hb dX9_classOf_5 rfl (lv_at hl 0 rfl) ?_
  refine g_X9_12 C w 0 rfl rfl dX9_classOf_6 ?_
  refine lv_iload_n hx hb dX9_classOf_9 rfl (lv_at hl 1 rfl) ?_
  obtain ⟨r4, hc5, hf⟩ := bd1_some hf
  refine ca_iN C w (wn := fun _ => w_X9_classOf g h0 h1 h2 v0_1 v0_2 v0_3 v0_4 v0_5 v0_6 v1_0 v1_1 v1_3 v1_4 v1_5 v1_6 v1_7 v1_8 v1_10 v1_11 v1_12 classes1 classAxles2) (pm_k [false, true, true] rfl rfl (fun _ => Nat.le_of_ble_eq_true rfl) (fun _ => rfl)) (c_X4_classFor l g F h1 h2 v1_0 v1_1 v1_3 v1_4 v1_5 v1_6 v1_7 v1_8 v1_10 v1_11 v1_12 p1 classes1 classAxles2 r4 _ hc5) k_X9_101 (rm_le (by decide) (by decide)) 1 4 rfl rfl rfl rfl hl.1 rfl (Nat.le_of_ble_eq_true rfl) dX9_classOf_10 ⟨Nat.le_of_ble_eq_true rfl, Nat.le_of_ble_eq_true rfl⟩ (cells2 := 1) (slots2 := 6) ⟨rfl, rfl⟩ (fun _ H locs w => ?_)
  obtain ⟨e1, e2⟩ := tp2 hf
  rw [hQ]
  exact xr_i C w rfl (fun _ => 0) rfl e1 e2 (Nat.le_of_ble_eq_true rfl) (Nat.le_of_ble_eq_true rfl) dX9_classOf_13

theorem dX9_requireTime_0 : decode cX9_requireTime 0 = .ok (.iload_n 1, 1) := by decide +kernel
theorem dX9_requireTime_1 : decode cX9_requireTime 1 = .ok (.ifCond .lt 10, 3) := by decide +kernel
theorem dX9_requireTime_4 : decode cX9_requireTime 4 = .ok (.iload_n 1, 1) := by decide +kernel
theorem dX9_requireTime_5 : decode cX9_requireTime 5 = .ok (.ldc_w 323, 3) := by decide +kernel
theorem dX9_requireTime_8 : decode cX9_requireTime 8 = .ok (.if_icmp .le 14, 3) := by decide +kernel
theorem dX9_requireTime_11 : decode cX9_requireTime 11 = .ok (.new 66, 3) := by decide +kernel
theorem dX9_requireTime_14 : decode cX9_requireTime 14 = .ok (.dup, 1) := by decide +kernel
theorem dX9_requireTime_15 : decode cX9_requireTime 15 = .ok (.ldc_w 324, 3) := by decide +kernel
theorem dX9_requireTime_18 : decode cX9_requireTime 18 = .ok (.invokespecial 70, 3) := by decide +kernel
theorem dX9_requireTime_21 : decode cX9_requireTime 21 = .ok (.athrow, 1) := by decide +kernel
theorem dX9_requireTime_22 : decode cX9_requireTime 22 = .ok (.return_, 1) := by decide +kernel
abbrev m_X9_requireTime : MD := (yX9_requireTime, cX9_requireTime, 2, none)
theorem q_794 : Cond.constant RX9 323 99999 ∈ TS := ts_t 794 (by decide +kernel) (by decide +kernel)
abbrev w_X9_requireTime (g : GT) : va_W := []
def f_X9_requireTime_b11 (F : Nat) : Option (Nat) :=
  some 1
def f_X9_requireTime (F : Nat) (p1 : Int32) : Option (Nat) :=
  if p1 < 0 then
    f_X9_requireTime_b11 F
  else
    if p1 ≤ 99999 then
      some 0
    else
      f_X9_requireTime_b11 F
set_option maxHeartbeats 4000000 in
set_option maxRecDepth 100000 in
theorem c_X9_requireTime (l : Launch) (g : GT) (F : Nat) (ha0 : Nat) (p1 : Int32) (x : Nat) (hst : l.stackTraces = false) (sz : Nat) (hf : f_X9_requireTime F p1 = some x) : XV l m_X9_requireTime (rml 1 1 6) g (w_X9_requireTime g) (fun _ => w_X9_requireTime g) sz [.ref ha0, .int p1] x := by
  refine ex_v (by decide) (Nat.le_of_ble_eq_true rfl) (fun p e s m args below meth c A ls ht C w hl => ?_)
  have C : Cx p s m args meth c RX9 m_X9_requireTime g A := C
  have hx := C.1
  have hb : c.code = cX9_requireTime := C.2.1
  have hl : lv_has ls 2 [(0, .ref ha0), (1, .int p1)] := hl
  obtain ⟨Q, hQ⟩ : ∃ Q, Q = QXV below args s g A (fun _ => w_X9_requireTime g) x 1 6 := ⟨_, rfl⟩
  suffices hW : W p l e (rml 1 1 6) s m args below meth c s.heap [] 0 0 Q (F0 m 0 ls []) from (by rw [hQ] at hW; exact hW)
  unfold f_X9_requireTime at hf
  have b11 : ∀ (H : Heap) (locs : List Loc) (ls : Array Slot), f_X9_requireTime_b11 F = some x → Wd g A (w_X9_requireTime g) s.heap H locs → lv_has ls 2 [] → W p l e (rml 1 1 6) s m args below meth c H locs 0 0 Q (F0 m 11 ls []) := by
    intro  H locs ls hf w hl
    unfold f_X9_requireTime_b11 at hf
    obtain e1 := tp1 hf
    rw [hQ]
    exact xtw C ht w hst kl_1 (List.mem_of_getElem? (i := 10) rfl) at_1 hl.1 dX9_requireTime_11 dX9_requireTime_14 dX9_requireTime_15 dX9_requireTime_18 dX9_requireTime_21 (Nat.le_of_ble_eq_true rfl) (Nat.le_of_ble_eq_true rfl) (Nat.le_of_ble_eq_true rfl) (Nat.le_of_ble_eq_true rfl) (fun _ => 0) rfl e1 (Nat.le_of_ble_eq_true rfl) (Nat.le_of_ble_eq_true rfl)
  refine lv_iload_n hx hb dX9_requireTime_0 rfl (lv_at hl 1 rfl) ?_
  refine lv_if_lt (tgt := 11) hx hb dX9_requireTime_1 (by decide) (fun c1 => ?_) (fun c1 => ?_)
  · replace hf := it_t c1 hf
    exact b11  _ _ _ hf w (lv_sub hl [] rfl)
  · replace hf := it_f c1 hf
    refine lv_iload_n hx hb dX9_requireTime_4 rfl (lv_at hl 1 rfl) ?_
    refine lv_ldcw (v := 99999) hx hb C.2.2.2.1 (C.2.2.2.2.1 _ q_794) dX9_requireTime_5 ?_
    refine lv_icmp_le (tgt := 22) hx hb dX9_requireTime_8 (by decide) (fun c2 => ?_) (fun c2 => ?_)
    · replace hf := it_t c2 hf
      obtain e1 := tp1 hf
      rw [hQ]
      exact xr_v C w rfl (fun _ => 0) rfl e1 (Nat.le_of_ble_eq_true rfl) (Nat.le_of_ble_eq_true rfl) dX9_requireTime_22
    · replace hf := it_f c2 hf
      exact b11  _ _ _ hf w (lv_sub hl [] rfl)

theorem dX9_findRoute_0 : decode cX9_findRoute 0 = .ok (.aload_n 0, 1) := by decide +kernel
theorem dX9_findRoute_1 : decode cX9_findRoute 1 = .ok (.getfield 12, 3) := by decide +kernel
theorem dX9_findRoute_4 : decode cX9_findRoute 4 = .ok (.iload_n 1, 1) := by decide +kernel
theorem dX9_findRoute_5 : decode cX9_findRoute 5 = .ok (.invokevirtual 295, 3) := by decide +kernel
theorem dX9_findRoute_8 : decode cX9_findRoute 8 = .ok (.ifCond .eq 14, 3) := by decide +kernel
theorem dX9_findRoute_11 : decode cX9_findRoute 11 = .ok (.aload_n 0, 1) := by decide +kernel
theorem dX9_findRoute_12 : decode cX9_findRoute 12 = .ok (.getfield 12, 3) := by decide +kernel
theorem dX9_findRoute_15 : decode cX9_findRoute 15 = .ok (.iload_n 2, 1) := by decide +kernel
theorem dX9_findRoute_16 : decode cX9_findRoute 16 = .ok (.invokevirtual 295, 3) := by decide +kernel
theorem dX9_findRoute_19 : decode cX9_findRoute 19 = .ok (.ifCond .ne 14, 3) := by decide +kernel
theorem dX9_findRoute_22 : decode cX9_findRoute 22 = .ok (.new 66, 3) := by decide +kernel
theorem dX9_findRoute_25 : decode cX9_findRoute 25 = .ok (.dup, 1) := by decide +kernel
theorem dX9_findRoute_26 : decode cX9_findRoute 26 = .ok (.ldc_w 298, 3) := by decide +kernel
theorem dX9_findRoute_29 : decode cX9_findRoute 29 = .ok (.invokespecial 70, 3) := by decide +kernel
theorem dX9_findRoute_32 : decode cX9_findRoute 32 = .ok (.athrow, 1) := by decide +kernel
theorem dX9_findRoute_33 : decode cX9_findRoute 33 = .ok (.aload_n 0, 1) := by decide +kernel
theorem dX9_findRoute_34 : decode cX9_findRoute 34 = .ok (.iload_n 3, 1) := by decide +kernel
theorem dX9_findRoute_35 : decode cX9_findRoute 35 = .ok (.invokevirtual 166, 3) := by decide +kernel
theorem dX9_findRoute_38 : decode cX9_findRoute 38 = .ok (.aload_n 0, 1) := by decide +kernel
theorem dX9_findRoute_39 : decode cX9_findRoute 39 = .ok (.getfield 26, 3) := by decide +kernel
theorem dX9_findRoute_42 : decode cX9_findRoute 42 = .ok (.aload_n 0, 1) := by decide +kernel
theorem dX9_findRoute_43 : decode cX9_findRoute 43 = .ok (.getfield 12, 3) := by decide +kernel
theorem dX9_findRoute_46 : decode cX9_findRoute 46 = .ok (.iload_n 1, 1) := by decide +kernel
theorem dX9_findRoute_47 : decode cX9_findRoute 47 = .ok (.iload_n 2, 1) := by decide +kernel
theorem dX9_findRoute_48 : decode cX9_findRoute 48 = .ok (.iload_n 3, 1) := by decide +kernel
theorem dX9_findRoute_49 : decode cX9_findRoute 49 = .ok (.invokevirtual 300, 3) := by decide +kernel
theorem dX9_findRoute_52 : decode cX9_findRoute 52 = .ok (.return_, 1) := by decide +kernel
abbrev m_X9_findRoute : MD := (yX9_findRoute, cX9_findRoute, 4, none)
theorem g_X9_26 {p : Program} {l : Launch} {e : Env} {R : Room} {s : State} {m : MethodId} {args : Array Value} {below : List Frame} {meth : Method} {c : Code} {H : Heap} {locs : List Loc} {cells slots : Nat} {Q : State → Prop} {d : MD} {g : GT} {A : Nat → Prop} {ws : va_W} {pc : Nat} {ls : Array Slot} {rest : List Value} (C : Cx p s m args meth c RX9 d g A) (w : Wd g A ws s.heap H locs) (q0 : Nat) {a : Nat} {fs : List Value} {v : Value} (he : ws[q0]? = some (a, .inr (9, fs))) (hv : fs[2]? = some v) (hd : decode d.2.1 pc = .ok (.getfield 26, 3)) (kk : W p l e R s m args below meth c H locs cells slots Q (F0 m (pc + 3) ls (v :: rest))) : W p l e R s m args below meth c H locs cells slots Q (F0 m pc ls (.ref a :: rest)) := fg C w inX9s (ref := RX9) rfl 2 (by decide) (ts_t (w := Cond.fieldLink RX9 26 RX9 (TX9 2).2.1 (TX9 2).2.2.1) 356 (by decide +kernel) (by decide +kernel)) rfl q0 he hv hd kk
theorem k_X9_295 : LkN RX9 295 m_X4_hasGantry 1 := ⟨⟨"FreeFlowToll", nw_t 788 (by decide +kernel) rfl⟩, q_707, qs_35, ⟨q_2, q_708, by decide, by decide, by decide +kernel⟩⟩
theorem q_793 : Cond.code yX9_requireTime cX9_requireTime 2 none ∈ TS := ts_t 793 (by decide +kernel) (by decide +kernel)
theorem q_790 : Cond.methodLink RX9 166 yX9_requireTime ∈ TS := ts_t 790 (by decide +kernel) (by decide +kernel)
theorem q_792 : Cond.instanceMethod yX9_requireTime ∈ TS := ts_t 792 (by decide +kernel) (by decide +kernel)
theorem qs_50 : Cond.selects yX9_requireTime.cls yX9_requireTime yX9_requireTime ∈ TS := ts_s 50 (by decide +kernel) (by decide +kernel)
theorem k_X9_166 : LkV RX9 166 m_X9_requireTime 1 := ⟨q_790, q_792, qs_50, ⟨q_1, q_793, by decide, by decide, by decide +kernel⟩⟩
theorem k_X9_300 : LkN RX9 300 m_X7_find 4 := ⟨⟨"FreeFlowToll", nw_t 796 (by decide +kernel) rfl⟩, q_798, qs_51, ⟨q_4, q_799, by decide, by decide, by decide +kernel⟩⟩
abbrev w_X9_findRoute (g : GT) (h0 h1 h2 h3 h4 h5 : Nat) (v0_1 v0_3 v0_4 v0_5 v0_6 v1_1 v1_2 v1_3 v1_4 v1_5 v1_6 v1_9 v1_10 v1_11 v1_12 : Value) (gantries1 : Int32) (linkMinutes2 linkPrice3 : Nat → Int32) (links4 price4 : Int32) (stops5 : Nat → Int32) : va_W := [(h0, .inr (9, [.ref h1, v0_1, .ref h4, v0_3, v0_4, v0_5, v0_6])), (h1, .inr (4, [.int gantries1, v1_1, v1_2, v1_3, v1_4, v1_5, v1_6, .ref h2, .ref h3, v1_9, v1_10, v1_11, v1_12])), (h2, aI g 100 linkMinutes2), (h3, aI g 100 linkPrice3), (h4, .inr (7, [.int links4, .int price4, .ref h5])), (h5, aI g 4 stops5)]
def f_X9_findRoute_b22 (F : Nat) (gantries1 : Int32) (linkMinutes2 linkPrice3 : Nat → Int32) (links4 price4 : Int32) (stops5 : Nat → Int32) : Option (Nat × Int32 × Int32 × (Nat → Int32)) :=
  some (1, links4, price4, stops5)
def f_X9_findRoute (F : Nat) (p1 p2 p3 gantries1 : Int32) (linkMinutes2 linkPrice3 : Nat → Int32) (links4 price4 : Int32) (stops5 : Nat → Int32) : Option (Nat × Int32 × Int32 × (Nat → Int32)) :=
  bd1 (f_X4_hasGantry F p1 gantries1) fun r1 =>
  if r1 = 0 then
    f_X9_findRoute_b22 F gantries1 linkMinutes2 linkPrice3 links4 price4 stops5
  else
    bd1 (f_X4_hasGantry F p2 gantries1) fun r4 =>
    if r4 = 0 then
      f_X9_findRoute_b22 F gantries1 linkMinutes2 linkPrice3 links4 price4 stops5
    else
      bd1 (f_X9_requireTime F p3) fun x7 =>
      if x7 ≠ 0 then some (x7, links4, price4, stops5) else
      bd3 (f_X7_find F p1 p2 p3 links4 price4 stops5 gantries1 linkMinutes2 linkPrice3) fun o10 o11 o12 =>
      some (0, o10, o11, o12)
set_option maxHeartbeats 4000000 in
set_option maxRecDepth 100000 in
theorem c_X9_findRoute (l : Launch) (g : GT) (F : Nat) (h0 h1 h2 h3 h4 h5 : Nat) (v0_1 v0_3 v0_4 v0_5 v0_6 v1_1 v1_2 v1_3 v1_4 v1_5 v1_6 v1_9 v1_10 v1_11 v1_12 : Value) (p1 p2 p3 gantries1 : Int32) (linkMinutes2 linkPrice3 : Nat → Int32) (links4 price4 : Int32) (stops5 : Nat → Int32) (x : Nat) (o_links4 o_price4 : Int32) (o_stops5 : Nat → Int32) (hst : l.stackTraces = false) (sz : Nat) (hf : f_X9_findRoute F p1 p2 p3 gantries1 linkMinutes2 linkPrice3 links4 price4 stops5 = some (x, o_links4, o_price4, o_stops5)) : XV l m_X9_findRoute (rml 4 2 12) g (w_X9_findRoute g h0 h1 h2 h3 h4 h5 v0_1 v0_3 v0_4 v0_5 v0_6 v1_1 v1_2 v1_3 v1_4 v1_5 v1_6 v1_9 v1_10 v1_11 v1_12 gantries1 linkMinutes2 linkPrice3 links4 price4 stops5) (fun _ => w_X9_findRoute g h0 h1 h2 h3 h4 h5 v0_1 v0_3 v0_4 v0_5 v0_6 v1_1 v1_2 v1_3 v1_4 v1_5 v1_6 v1_9 v1_10 v1_11 v1_12 gantries1 linkMinutes2 linkPrice3 o_links4 o_price4 o_stops5) sz [.ref h0, .int p1, .int p2, .int p3] x := by
  refine ex_v (by decide) (Nat.le_of_ble_eq_true rfl) (fun p e s m args below meth c A ls ht C w hl => ?_)
  have C : Cx p s m args meth c RX9 m_X9_findRoute g A := C
  have hx := C.1
  have hb : c.code = cX9_findRoute := C.2.1
  have hl : lv_has ls 4 [(0, .ref h0), (1, .int p1), (2, .int p2), (3, .int p3)] := hl
  obtain ⟨Q, hQ⟩ : ∃ Q, Q = QXV below args s g A (fun _ => w_X9_findRoute g h0 h1 h2 h3 h4 h5 v0_1 v0_3 v0_4 v0_5 v0_6 v1_1 v1_2 v1_3 v1_4 v1_5 v1_6 v1_9 v1_10 v1_11 v1_12 gantries1 linkMinutes2 linkPrice3 o_links4 o_price4 o_stops5) x 2 12 := ⟨_, rfl⟩
  suffices hW : W p l e (rml 4 2 12) s m args below meth c s.heap [] 0 0 Q (F0 m 0 ls []) from (by rw [hQ] at hW; exact hW)
  unfold f_X9_findRoute at hf
  have b22 : ∀ (links4 price4 : Int32) (stops5 : Nat → Int32) (H : Heap) (locs : List Loc) (ls : Array Slot), f_X9_findRoute_b22 F gantries1 linkMinutes2 linkPrice3 links4 price4 stops5 = some (x, o_links4, o_price4, o_stops5) → Wd g A (w_X9_findRoute g h0 h1 h2 h3 h4 h5 v0_1 v0_3 v0_4 v0_5 v0_6 v1_1 v1_2 v1_3 v1_4 v1_5 v1_6 v1_9 v1_10 v1_11 v1_12 gantries1 linkMinutes2 linkPrice3 links4 price4 stops5) s.heap H locs → lv_has ls 4 [] → W p l e (rml 4 2 12) s m args below meth c H locs 0 0 Q (F0 m 22 ls []) := by
    intro links4 price4 stops5 H locs ls hf w hl
    unfold f_X9_findRoute_b22 at hf
    obtain ⟨e1, e2, e3, e4⟩ := tp4 hf
    rw [hQ]
    exact xtw C ht w hst kl_1 (List.mem_of_getElem? (i := 9) rfl) at_1 hl.1 dX9_findRoute_22 dX9_findRoute_25 dX9_findRoute_26 dX9_findRoute_29 dX9_findRoute_32 (Nat.le_of_ble_eq_true rfl) (Nat.le_of_ble_eq_true rfl) (Nat.le_of_ble_eq_true rfl) (Nat.le_of_ble_eq_true rfl) (fun _ => 0) (by rw [← e2, ← e3, ← e4]) e1 (Nat.le_of_ble_eq_true rfl) (Nat.le_of_ble_eq_true rfl)
  refine lv_aload_n hx hb dX9_findRoute_0 rfl (lv_at hl 0 rfl) ?_
  refine g_X9_12 C w 0 rfl rfl dX9_findRoute_1 ?_
  refine lv_iload_n hx hb dX9_findRoute_4 rfl (lv_at hl 1 rfl) ?_
  obtain ⟨r1, hc2, hf⟩ := bd1_some hf
  refine ca_iN C w (wn := fun _ => w_X9_findRoute g h0 h1 h2 h3 h4 h5 v0_1 v0_3 v0_4 v0_5 v0_6 v1_1 v1_2 v1_3 v1_4 v1_5 v1_6 v1_9 v1_10 v1_11 v1_12 gantries1 linkMinutes2 linkPrice3 links4 price4 stops5) (pm_k [false, true, false, false, false, false] rfl rfl (fun _ => Nat.le_of_ble_eq_true rfl) (fun _ => rfl)) (c_X4_hasGantry l g F h1 v1_1 v1_2 v1_3 v1_4 v1_5 v1_6 (.ref h2) (.ref h3) v1_9 v1_10 v1_11 v1_12 p1 gantries1 r1 _ hc2) k_X9_295 (rm_le (by decide) (by decide)) 1 4 rfl rfl rfl rfl hl.1 rfl (Nat.le_of_ble_eq_true rfl) dX9_findRoute_5 ⟨Nat.le_of_ble_eq_true rfl, Nat.le_of_ble_eq_true rfl⟩ (cells2 := 0) (slots2 := 0) ⟨rfl, rfl⟩ (fun _ H locs w => ?_)
  refine lv_if_eq (tgt := 22) hx hb dX9_findRoute_8 (by decide) (fun c3 => ?_) (fun c3 => ?_)
  · replace hf := it_t c3 hf
    exact b22 links4 price4 stops5 _ _ _ hf w (lv_sub hl [] rfl)
  · replace hf := it_f c3 hf
    refine lv_aload_n hx hb dX9_findRoute_11 rfl (lv_at hl 0 rfl) ?_
    refine g_X9_12 C w 0 rfl rfl dX9_findRoute_12 ?_
    refine lv_iload_n hx hb dX9_findRoute_15 rfl (lv_at hl 2 rfl) ?_
    obtain ⟨r4, hc5, hf⟩ := bd1_some hf
    refine ca_iN C w (wn := fun _ => w_X9_findRoute g h0 h1 h2 h3 h4 h5 v0_1 v0_3 v0_4 v0_5 v0_6 v1_1 v1_2 v1_3 v1_4 v1_5 v1_6 v1_9 v1_10 v1_11 v1_12 gantries1 linkMinutes2 linkPrice3 links4 price4 stops5) (pm_k [false, true, false, false, false, false] rfl rfl (fun _ => Nat.le_of_ble_eq_true rfl) (fun _ => rfl)) (c_X4_hasGantry l g F h1 v1_1 v1_2 v1_3 v1_4 v1_5 v1_6 (.ref h2) (.ref h3) v1_9 v1_10 v1_11 v1_12 p2 gantries1 r4 _ hc5) k_X9_295 (rm_le (by decide) (by decide)) 1 4 rfl rfl rfl rfl hl.1 rfl (Nat.le_of_ble_eq_true rfl) dX9_findRoute_16 ⟨Nat.le_of_ble_eq_true rfl, Nat.le_of_ble_eq_true rfl⟩ (cells2 := 0) (slots2 := 0) ⟨rfl, rfl⟩ (fun _ H locs w => ?_)
    refine lv_if_ne (tgt := 33) hx hb dX9_findRoute_19 (by decide) (fun c6 => ?_) (fun c6 => ?_)
    · replace hf := it_f c6 hf
      refine lv_aload_n hx hb dX9_findRoute_33 rfl (lv_at hl 0 rfl) ?_
      refine lv_iload_n hx hb dX9_findRoute_34 rfl (lv_at hl 3 rfl) ?_
      obtain ⟨x7, hc8, hf⟩ := bd1_some hf
      refine cx_vV C w (wn := fun _ => w_X9_findRoute g h0 h1 h2 h3 h4 h5 v0_1 v0_3 v0_4 v0_5 v0_6 v1_1 v1_2 v1_3 v1_4 v1_5 v1_6 v1_9 v1_10 v1_11 v1_12 gantries1 linkMinutes2 linkPrice3 links4 price4 stops5) (pm_k [false, false, false, false, false, false] rfl rfl (fun _ => Nat.le_of_ble_eq_true rfl) (fun _ => rfl)) (c_X9_requireTime l g F h0 p3 x7 hst _ hc8) k_X9_166 (rm_le (by decide) (by decide)) 0 9 rfl rfl rfl rfl hl.1 rfl (Nat.le_of_ble_eq_true rfl) dX9_findRoute_35 ⟨Nat.le_of_ble_eq_true rfl, Nat.le_of_ble_eq_true rfl⟩ (cells2 := 1) (slots2 := 6) ⟨rfl, rfl⟩ (fun n9 _ H locs w q9 ce h1 h2 h3 => ?_) (fun n9 _ H locs w => ?_)
      · replace hf := it_t n9 hf
        obtain ⟨e1, e2, e3, e4⟩ := tp4 hf
        rw [hQ]
        exact xo C ht w (fun _ => 0) (by rw [← e2, ← e3, ← e4]) e1 n9 h1 h2 h3 (Nat.le_of_ble_eq_true rfl) (Nat.le_of_ble_eq_true rfl)
      replace hf := it_f (fun h => h n9) hf
      refine lv_aload_n hx hb dX9_findRoute_38 rfl (lv_at hl 0 rfl) ?_
      refine g_X9_26 C w 0 rfl rfl dX9_findRoute_39 ?_
      refine lv_aload_n hx hb dX9_findRoute_42 rfl (lv_at hl 0 rfl) ?_
      refine g_X9_12 C w 0 rfl rfl dX9_findRoute_43 ?_
      refine lv_iload_n hx hb dX9_findRoute_46 rfl (lv_at hl 1 rfl) ?_
      refine lv_iload_n hx hb dX9_findRoute_47 rfl (lv_at hl 2 rfl) ?_
      refine lv_iload_n hx hb dX9_findRoute_48 rfl (lv_at hl 3 rfl) ?_
      obtain ⟨o10, o11, o12, hc13, hf⟩ := bd3_some hf
      refine ca_vN C w (wn := fun _ => w_X9_findRoute g h0 h1 h2 h3 h4 h5 v0_1 v0_3 v0_4 v0_5 v0_6 v1_1 v1_2 v1_3 v1_4 v1_5 v1_6 v1_9 v1_10 v1_11 v1_12 gantries1 linkMinutes2 linkPrice3 o10 o11 o12) (pm_q 6 6 [4, 5, 1, 2, 3] [0] [0, 3, 4, 5, 1, 2] rfl (by decide +kernel) rfl (fun _ => rfl) (by decide +kernel) (fun _ => rfl)) (c_X7_find l g F h4 h5 h1 h2 h3 v1_1 v1_2 v1_3 v1_4 v1_5 v1_6 v1_9 v1_10 v1_11 v1_12 p1 p2 p3 links4 price4 stops5 gantries1 linkMinutes2 linkPrice3 o10 o11 o12 _ hc13) k_X9_300 (rm_le (by decide) (by decide)) 4 7 rfl rfl rfl rfl hl.1 rfl (Nat.le_of_ble_eq_true rfl) dX9_findRoute_49 ⟨Nat.le_of_ble_eq_true rfl, Nat.le_of_ble_eq_true rfl⟩ (cells2 := 1) (slots2 := 6) ⟨rfl, rfl⟩ (fun _ H locs w => ?_)
      obtain ⟨e1, e2, e3, e4⟩ := tp4 hf
      rw [hQ]
      exact xr_v C w rfl (fun _ => 0) (by rw [← e2, ← e3, ← e4]) e1 (Nat.le_of_ble_eq_true rfl) (Nat.le_of_ble_eq_true rfl) dX9_findRoute_52
    · replace hf := it_t c6 hf
      exact b22 links4 price4 stops5 _ _ _ hf w (lv_sub hl [] rfl)

theorem dX9_routeLinks_0 : decode cX9_routeLinks 0 = .ok (.aload_n 0, 1) := by decide +kernel
theorem dX9_routeLinks_1 : decode cX9_routeLinks 1 = .ok (.iload_n 1, 1) := by decide +kernel
theorem dX9_routeLinks_2 : decode cX9_routeLinks 2 = .ok (.iload_n 2, 1) := by decide +kernel
theorem dX9_routeLinks_3 : decode cX9_routeLinks 3 = .ok (.iload_n 3, 1) := by decide +kernel
theorem dX9_routeLinks_4 : decode cX9_routeLinks 4 = .ok (.invokevirtual 105, 3) := by decide +kernel
theorem dX9_routeLinks_7 : decode cX9_routeLinks 7 = .ok (.aload_n 0, 1) := by decide +kernel
theorem dX9_routeLinks_8 : decode cX9_routeLinks 8 = .ok (.getfield 26, 3) := by decide +kernel
theorem dX9_routeLinks_11 : decode cX9_routeLinks 11 = .ok (.getfield 109, 3) := by decide +kernel
theorem dX9_routeLinks_14 : decode cX9_routeLinks 14 = .ok (.ireturn, 1) := by decide +kernel
abbrev m_X9_routeLinks : MD := (yX9_routeLinks, cX9_routeLinks, 4, (some .int))
theorem g_X9_109 {p : Program} {l : Launch} {e : Env} {R : Room} {s : State} {m : MethodId} {args : Array Value} {below : List Frame} {meth : Method} {c : Code} {H : Heap} {locs : List Loc} {cells slots : Nat} {Q : State → Prop} {d : MD} {g : GT} {A : Nat → Prop} {ws : va_W} {pc : Nat} {ls : Array Slot} {rest : List Value} (C : Cx p s m args meth c RX9 d g A) (w : Wd g A ws s.heap H locs) (q0 : Nat) {a : Nat} {fs : List Value} {v : Value} (he : ws[q0]? = some (a, .inr (7, fs))) (hv : fs[0]? = some v) (hd : decode d.2.1 pc = .ok (.getfield 109, 3)) (kk : W p l e R s m args below meth c H locs cells slots Q (F0 m (pc + 3) ls (v :: rest))) : W p l e R s m args below meth c H locs cells slots Q (F0 m pc ls (.ref a :: rest)) := fgN C w inX7s (ref := RX7) rfl 0 (by decide) (nw_t (w := Cond.fieldLinkNest RX9 109 RX7 (TX7 0).2.1 (TX7 0).2.2.1 "FreeFlowToll") 145 (by decide +kernel) rfl) rfl q0 he hv hd kk
theorem q_787 : Cond.code yX9_findRoute cX9_findRoute 4 none ∈ TS := ts_t 787 (by decide +kernel) (by decide +kernel)
theorem q_784 : Cond.methodLink RX9 105 yX9_findRoute ∈ TS := ts_t 784 (by decide +kernel) (by decide +kernel)
theorem q_786 : Cond.instanceMethod yX9_findRoute ∈ TS := ts_t 786 (by decide +kernel) (by decide +kernel)
theorem qs_49 : Cond.selects yX9_findRoute.cls yX9_findRoute yX9_findRoute ∈ TS := ts_s 49 (by decide +kernel) (by decide +kernel)
theorem k_X9_105 : LkV RX9 105 m_X9_findRoute 3 := ⟨q_784, q_786, qs_49, ⟨q_1, q_787, by decide, by decide, by decide +kernel⟩⟩
abbrev w_X9_routeLinks (g : GT) (h0 h1 h2 h3 h4 h5 : Nat) (v0_1 v0_3 v0_4 v0_5 v0_6 v1_1 v1_2 v1_3 v1_4 v1_5 v1_6 v1_9 v1_10 v1_11 v1_12 : Value) (gantries1 : Int32) (linkMinutes2 linkPrice3 : Nat → Int32) (links4 price4 : Int32) (stops5 : Nat → Int32) : va_W := [(h0, .inr (9, [.ref h1, v0_1, .ref h4, v0_3, v0_4, v0_5, v0_6])), (h1, .inr (4, [.int gantries1, v1_1, v1_2, v1_3, v1_4, v1_5, v1_6, .ref h2, .ref h3, v1_9, v1_10, v1_11, v1_12])), (h2, aI g 100 linkMinutes2), (h3, aI g 100 linkPrice3), (h4, .inr (7, [.int links4, .int price4, .ref h5])), (h5, aI g 4 stops5)]
def f_X9_routeLinks (F : Nat) (p1 p2 p3 gantries1 : Int32) (linkMinutes2 linkPrice3 : Nat → Int32) (links4 price4 : Int32) (stops5 : Nat → Int32) : Option (Nat × Int32 × Int32 × Int32 × (Nat → Int32)) :=
  bd4 (f_X9_findRoute F p1 p2 p3 gantries1 linkMinutes2 linkPrice3 links4 price4 stops5) fun x1 o2 o3 o4 =>
  if x1 ≠ 0 then some (x1, 0, o2, o3, o4) else
  some (0, o2, o2, o3, o4)
set_option maxHeartbeats 4000000 in
set_option maxRecDepth 100000 in
theorem c_X9_routeLinks (l : Launch) (g : GT) (F : Nat) (h0 h1 h2 h3 h4 h5 : Nat) (v0_1 v0_3 v0_4 v0_5 v0_6 v1_1 v1_2 v1_3 v1_4 v1_5 v1_6 v1_9 v1_10 v1_11 v1_12 : Value) (p1 p2 p3 gantries1 : Int32) (linkMinutes2 linkPrice3 : Nat → Int32) (links4 price4 : Int32) (stops5 : Nat → Int32) (x : Nat) (r o_links4 o_price4 : Int32) (o_stops5 : Nat → Int32) (hst : l.stackTraces = false) (sz : Nat) (hf : f_X9_routeLinks F p1 p2 p3 gantries1 linkMinutes2 linkPrice3 links4 price4 stops5 = some (x, r, o_links4, o_price4, o_stops5)) : XI l m_X9_routeLinks (rml 5 2 12) g (w_X9_routeLinks g h0 h1 h2 h3 h4 h5 v0_1 v0_3 v0_4 v0_5 v0_6 v1_1 v1_2 v1_3 v1_4 v1_5 v1_6 v1_9 v1_10 v1_11 v1_12 gantries1 linkMinutes2 linkPrice3 links4 price4 stops5) (fun _ => w_X9_routeLinks g h0 h1 h2 h3 h4 h5 v0_1 v0_3 v0_4 v0_5 v0_6 v1_1 v1_2 v1_3 v1_4 v1_5 v1_6 v1_9 v1_10 v1_11 v1_12 gantries1 linkMinutes2 linkPrice3 o_links4 o_price4 o_stops5) sz [.ref h0, .int p1, .int p2, .int p3] x r := by
  refine ex_i (by decide) (Nat.le_of_ble_eq_true rfl) (fun p e s m args below meth c A ls ht C w hl => ?_)
  have C : Cx p s m args meth c RX9 m_X9_routeLinks g A := C
  have hx := C.1
  have hb : c.code = cX9_routeLinks := C.2.1
  have hl : lv_has ls 4 [(0, .ref h0), (1, .int p1), (2, .int p2), (3, .int p3)] := hl
  obtain ⟨Q, hQ⟩ : ∃ Q, Q = QXI below args s g A (fun _ => w_X9_routeLinks g h0 h1 h2 h3 h4 h5 v0_1 v0_3 v0_4 v0_5 v0_6 v1_1 v1_2 v1_3 v1_4 v1_5 v1_6 v1_9 v1_10 v1_11 v1_12 gantries1 linkMinutes2 linkPrice3 o_links4 o_price4 o_stops5) x r 2 12 := ⟨_, rfl⟩
  suffices hW : W p l e (rml 5 2 12) s m args below meth c s.heap [] 0 0 Q (F0 m 0 ls []) from (by rw [hQ] at hW; exact hW)
  unfold f_X9_routeLinks at hf
  refine lv_aload_n hx hb dX9_routeLinks_0 rfl (lv_at hl 0 rfl) ?_
  refine lv_iload_n hx hb dX9_routeLinks_1 rfl (lv_at hl 1 rfl) ?_
  refine lv_iload_n hx hb dX9_routeLinks_2 rfl (lv_at hl 2 rfl) ?_
  refine lv_iload_n hx hb dX9_routeLinks_3 rfl (lv_at hl 3 rfl) ?_
  obtain ⟨x1, o2, o3, o4, hc5, hf⟩ := bd4_some hf
  refine cx_vV C w (wn := fun _ => w_X9_routeLinks g h0 h1 h2 h3 h4 h5 v0_1 v0_3 v0_4 v0_5 v0_6 v1_1 v1_2 v1_3 v1_4 v1_5 v1_6 v1_9 v1_10 v1_11 v1_12 gantries1 linkMinutes2 linkPrice3 o2 o3 o4) (pm_k [true, true, true, true, true, true] rfl rfl (fun _ => Nat.le_of_ble_eq_true rfl) (fun _ => rfl)) (c_X9_findRoute l g F h0 h1 h2 h3 h4 h5 v0_1 v0_3 v0_4 v0_5 v0_6 v1_1 v1_2 v1_3 v1_4 v1_5 v1_6 v1_9 v1_10 v1_11 v1_12 p1 p2 p3 gantries1 linkMinutes2 linkPrice3 links4 price4 stops5 x1 o2 o3 o4 hst _ hc5) k_X9_105 (rm_le (by decide) (by decide)) 0 9 rfl rfl rfl rfl hl.1 rfl (Nat.le_of_ble_eq_true rfl) dX9_routeLinks_4 ⟨Nat.le_of_ble_eq_true rfl, Nat.le_of_ble_eq_true rfl⟩ (cells2 := 2) (slots2 := 12) ⟨rfl, rfl⟩ (fun n6 _ H locs w q9 ce h1 h2 h3 => ?_) (fun n6 _ H locs w => ?_)
  · replace hf := it_t n6 hf
    obtain ⟨e1, e2, e3, e4, e5⟩ := tp5 hf
    rw [hQ]
    exact xo C ht w (fun _ => 0) (by rw [← e3, ← e4, ← e5]) e1 n6 h1 h2 h3 (Nat.le_of_ble_eq_true rfl) (Nat.le_of_ble_eq_true rfl)
  replace hf := it_f (fun h => h n6) hf
  refine lv_aload_n hx hb dX9_routeLinks_7 rfl (lv_at hl 0 rfl) ?_
  refine g_X9_26 C w 0 rfl rfl dX9_routeLinks_8 ?_
  refine g_X9_109 C w 4 rfl rfl dX9_routeLinks_11 ?_
  obtain ⟨e1, e2, e3, e4, e5⟩ := tp5 hf
  rw [hQ]
  exact xr_i C w rfl (fun _ => 0) (by rw [← e3, ← e4, ← e5]) e1 e2 (Nat.le_of_ble_eq_true rfl) (Nat.le_of_ble_eq_true rfl) dX9_routeLinks_14

theorem dX9_routePrice_0 : decode cX9_routePrice 0 = .ok (.aload_n 0, 1) := by decide +kernel
theorem dX9_routePrice_1 : decode cX9_routePrice 1 = .ok (.iload_n 1, 1) := by decide +kernel
theorem dX9_routePrice_2 : decode cX9_routePrice 2 = .ok (.iload_n 2, 1) := by decide +kernel
theorem dX9_routePrice_3 : decode cX9_routePrice 3 = .ok (.iload_n 3, 1) := by decide +kernel
theorem dX9_routePrice_4 : decode cX9_routePrice 4 = .ok (.invokevirtual 105, 3) := by decide +kernel
theorem dX9_routePrice_7 : decode cX9_routePrice 7 = .ok (.aload_n 0, 1) := by decide +kernel
theorem dX9_routePrice_8 : decode cX9_routePrice 8 = .ok (.getfield 26, 3) := by decide +kernel
theorem dX9_routePrice_11 : decode cX9_routePrice 11 = .ok (.getfield 110, 3) := by decide +kernel
theorem dX9_routePrice_14 : decode cX9_routePrice 14 = .ok (.ireturn, 1) := by decide +kernel
abbrev m_X9_routePrice : MD := (yX9_routePrice, cX9_routePrice, 4, (some .int))
theorem g_X9_110 {p : Program} {l : Launch} {e : Env} {R : Room} {s : State} {m : MethodId} {args : Array Value} {below : List Frame} {meth : Method} {c : Code} {H : Heap} {locs : List Loc} {cells slots : Nat} {Q : State → Prop} {d : MD} {g : GT} {A : Nat → Prop} {ws : va_W} {pc : Nat} {ls : Array Slot} {rest : List Value} (C : Cx p s m args meth c RX9 d g A) (w : Wd g A ws s.heap H locs) (q0 : Nat) {a : Nat} {fs : List Value} {v : Value} (he : ws[q0]? = some (a, .inr (7, fs))) (hv : fs[1]? = some v) (hd : decode d.2.1 pc = .ok (.getfield 110, 3)) (kk : W p l e R s m args below meth c H locs cells slots Q (F0 m (pc + 3) ls (v :: rest))) : W p l e R s m args below meth c H locs cells slots Q (F0 m pc ls (.ref a :: rest)) := fgN C w inX7s (ref := RX7) rfl 1 (by decide) (nw_t (w := Cond.fieldLinkNest RX9 110 RX7 (TX7 1).2.1 (TX7 1).2.2.1 "FreeFlowToll") 148 (by decide +kernel) rfl) rfl q0 he hv hd kk
abbrev w_X9_routePrice (g : GT) (h0 h1 h2 h3 h4 h5 : Nat) (v0_1 v0_3 v0_4 v0_5 v0_6 v1_1 v1_2 v1_3 v1_4 v1_5 v1_6 v1_9 v1_10 v1_11 v1_12 : Value) (gantries1 : Int32) (linkMinutes2 linkPrice3 : Nat → Int32) (links4 price4 : Int32) (stops5 : Nat → Int32) : va_W := [(h0, .inr (9, [.ref h1, v0_1, .ref h4, v0_3, v0_4, v0_5, v0_6])), (h1, .inr (4, [.int gantries1, v1_1, v1_2, v1_3, v1_4, v1_5, v1_6, .ref h2, .ref h3, v1_9, v1_10, v1_11, v1_12])), (h2, aI g 100 linkMinutes2), (h3, aI g 100 linkPrice3), (h4, .inr (7, [.int links4, .int price4, .ref h5])), (h5, aI g 4 stops5)]
def f_X9_routePrice (F : Nat) (p1 p2 p3 gantries1 : Int32) (linkMinutes2 linkPrice3 : Nat → Int32) (links4 price4 : Int32) (stops5 : Nat → Int32) : Option (Nat × Int32 × Int32 × Int32 × (Nat → Int32)) :=
  bd4 (f_X9_findRoute F p1 p2 p3 gantries1 linkMinutes2 linkPrice3 links4 price4 stops5) fun x1 o2 o3 o4 =>
  if x1 ≠ 0 then some (x1, 0, o2, o3, o4) else
  some (0, o3, o2, o3, o4)
set_option maxHeartbeats 4000000 in
set_option maxRecDepth 100000 in
theorem c_X9_routePrice (l : Launch) (g : GT) (F : Nat) (h0 h1 h2 h3 h4 h5 : Nat) (v0_1 v0_3 v0_4 v0_5 v0_6 v1_1 v1_2 v1_3 v1_4 v1_5 v1_6 v1_9 v1_10 v1_11 v1_12 : Value) (p1 p2 p3 gantries1 : Int32) (linkMinutes2 linkPrice3 : Nat → Int32) (links4 price4 : Int32) (stops5 : Nat → Int32) (x : Nat) (r o_links4 o_price4 : Int32) (o_stops5 : Nat → Int32) (hst : l.stackTraces = false) (sz : Nat) (hf : f_X9_routePrice F p1 p2 p3 gantries1 linkMinutes2 linkPrice3 links4 price4 stops5 = some (x, r, o_links4, o_price4, o_stops5)) : XI l m_X9_routePrice (rml 5 2 12) g (w_X9_routePrice g h0 h1 h2 h3 h4 h5 v0_1 v0_3 v0_4 v0_5 v0_6 v1_1 v1_2 v1_3 v1_4 v1_5 v1_6 v1_9 v1_10 v1_11 v1_12 gantries1 linkMinutes2 linkPrice3 links4 price4 stops5) (fun _ => w_X9_routePrice g h0 h1 h2 h3 h4 h5 v0_1 v0_3 v0_4 v0_5 v0_6 v1_1 v1_2 v1_3 v1_4 v1_5 v1_6 v1_9 v1_10 v1_11 v1_12 gantries1 linkMinutes2 linkPrice3 o_links4 o_price4 o_stops5) sz [.ref h0, .int p1, .int p2, .int p3] x r := by
  refine ex_i (by decide) (Nat.le_of_ble_eq_true rfl) (fun p e s m args below meth c A ls ht C w hl => ?_)
  have C : Cx p s m args meth c RX9 m_X9_routePrice g A := C
  have hx := C.1
  have hb : c.code = cX9_routePrice := C.2.1
  have hl : lv_has ls 4 [(0, .ref h0), (1, .int p1), (2, .int p2), (3, .int p3)] := hl
  obtain ⟨Q, hQ⟩ : ∃ Q, Q = QXI below args s g A (fun _ => w_X9_routePrice g h0 h1 h2 h3 h4 h5 v0_1 v0_3 v0_4 v0_5 v0_6 v1_1 v1_2 v1_3 v1_4 v1_5 v1_6 v1_9 v1_10 v1_11 v1_12 gantries1 linkMinutes2 linkPrice3 o_links4 o_price4 o_stops5) x r 2 12 := ⟨_, rfl⟩
  suffices hW : W p l e (rml 5 2 12) s m args below meth c s.heap [] 0 0 Q (F0 m 0 ls []) from (by rw [hQ] at hW; exact hW)
  unfold f_X9_routePrice at hf
  refine lv_aload_n hx hb dX9_routePrice_0 rfl (lv_at hl 0 rfl) ?_
  refine lv_iload_n hx hb dX9_routePrice_1 rfl (lv_at hl 1 rfl) ?_
  refine lv_iload_n hx hb dX9_routePrice_2 rfl (lv_at hl 2 rfl) ?_
  refine lv_iload_n hx hb dX9_routePrice_3 rfl (lv_at hl 3 rfl) ?_
  obtain ⟨x1, o2, o3, o4, hc5, hf⟩ := bd4_some hf
  refine cx_vV C w (wn := fun _ => w_X9_routePrice g h0 h1 h2 h3 h4 h5 v0_1 v0_3 v0_4 v0_5 v0_6 v1_1 v1_2 v1_3 v1_4 v1_5 v1_6 v1_9 v1_10 v1_11 v1_12 gantries1 linkMinutes2 linkPrice3 o2 o3 o4) (pm_k [true, true, true, true, true, true] rfl rfl (fun _ => Nat.le_of_ble_eq_true rfl) (fun _ => rfl)) (c_X9_findRoute l g F h0 h1 h2 h3 h4 h5 v0_1 v0_3 v0_4 v0_5 v0_6 v1_1 v1_2 v1_3 v1_4 v1_5 v1_6 v1_9 v1_10 v1_11 v1_12 p1 p2 p3 gantries1 linkMinutes2 linkPrice3 links4 price4 stops5 x1 o2 o3 o4 hst _ hc5) k_X9_105 (rm_le (by decide) (by decide)) 0 9 rfl rfl rfl rfl hl.1 rfl (Nat.le_of_ble_eq_true rfl) dX9_routePrice_4 ⟨Nat.le_of_ble_eq_true rfl, Nat.le_of_ble_eq_true rfl⟩ (cells2 := 2) (slots2 := 12) ⟨rfl, rfl⟩ (fun n6 _ H locs w q9 ce h1 h2 h3 => ?_) (fun n6 _ H locs w => ?_)
  · replace hf := it_t n6 hf
    obtain ⟨e1, e2, e3, e4, e5⟩ := tp5 hf
    rw [hQ]
    exact xo C ht w (fun _ => 0) (by rw [← e3, ← e4, ← e5]) e1 n6 h1 h2 h3 (Nat.le_of_ble_eq_true rfl) (Nat.le_of_ble_eq_true rfl)
  replace hf := it_f (fun h => h n6) hf
  refine lv_aload_n hx hb dX9_routePrice_7 rfl (lv_at hl 0 rfl) ?_
  refine g_X9_26 C w 0 rfl rfl dX9_routePrice_8 ?_
  refine g_X9_110 C w 4 rfl rfl dX9_routePrice_11 ?_
  obtain ⟨e1, e2, e3, e4, e5⟩ := tp5 hf
  rw [hQ]
  exact xr_i C w rfl (fun _ => 0) (by rw [← e3, ← e4, ← e5]) e1 e2 (Nat.le_of_ble_eq_true rfl) (Nat.le_of_ble_eq_true rfl) dX9_routePrice_14

theorem dX9_routeGantry_0 : decode cX9_routeGantry 0 = .ok (.aload_n 0, 1) := by decide +kernel
theorem dX9_routeGantry_1 : decode cX9_routeGantry 1 = .ok (.iload_n 1, 1) := by decide +kernel
theorem dX9_routeGantry_2 : decode cX9_routeGantry 2 = .ok (.iload_n 2, 1) := by decide +kernel
theorem dX9_routeGantry_3 : decode cX9_routeGantry 3 = .ok (.iload_n 3, 1) := by decide +kernel
theorem dX9_routeGantry_4 : decode cX9_routeGantry 4 = .ok (.invokevirtual 105, 3) := by decide +kernel
theorem dX9_routeGantry_7 : decode cX9_routeGantry 7 = .ok (.aload_n 0, 1) := by decide +kernel
theorem dX9_routeGantry_8 : decode cX9_routeGantry 8 = .ok (.getfield 26, 3) := by decide +kernel
theorem dX9_routeGantry_11 : decode cX9_routeGantry 11 = .ok (.iload 4, 2) := by decide +kernel
theorem dX9_routeGantry_13 : decode cX9_routeGantry 13 = .ok (.invokevirtual 113, 3) := by decide +kernel
theorem dX9_routeGantry_16 : decode cX9_routeGantry 16 = .ok (.ireturn, 1) := by decide +kernel
abbrev m_X9_routeGantry : MD := (yX9_routeGantry, cX9_routeGantry, 5, (some .int))
theorem q_838 : Cond.code yX7_stopAt cX7_stopAt 2 (some .int) ∈ TS := ts_t 838 (by decide +kernel) (by decide +kernel)
theorem q_837 : Cond.instanceMethod yX7_stopAt ∈ TS := ts_t 837 (by decide +kernel) (by decide +kernel)
theorem qs_57 : Cond.selects yX7_stopAt.cls yX7_stopAt yX7_stopAt ∈ TS := ts_s 57 (by decide +kernel) (by decide +kernel)
theorem k_X9_113 : LkN RX9 113 m_X7_stopAt 1 := ⟨⟨"FreeFlowToll", nw_t 835 (by decide +kernel) rfl⟩, q_837, qs_57, ⟨q_4, q_838, by decide, by decide, by decide +kernel⟩⟩
abbrev w_X9_routeGantry (g : GT) (h0 h1 h2 h3 h4 h5 : Nat) (v0_1 v0_3 v0_4 v0_5 v0_6 v1_1 v1_2 v1_3 v1_4 v1_5 v1_6 v1_9 v1_10 v1_11 v1_12 : Value) (gantries1 : Int32) (linkMinutes2 linkPrice3 : Nat → Int32) (links4 price4 : Int32) (stops5 : Nat → Int32) : va_W := [(h0, .inr (9, [.ref h1, v0_1, .ref h4, v0_3, v0_4, v0_5, v0_6])), (h1, .inr (4, [.int gantries1, v1_1, v1_2, v1_3, v1_4, v1_5, v1_6, .ref h2, .ref h3, v1_9, v1_10, v1_11, v1_12])), (h2, aI g 100 linkMinutes2), (h3, aI g 100 linkPrice3), (h4, .inr (7, [.int links4, .int price4, .ref h5])), (h5, aI g 4 stops5)]
def f_X9_routeGantry (F : Nat) (p1 p2 p3 p4 gantries1 : Int32) (linkMinutes2 linkPrice3 : Nat → Int32) (links4 price4 : Int32) (stops5 : Nat → Int32) : Option (Nat × Int32 × Int32 × Int32 × (Nat → Int32)) :=
  bd4 (f_X9_findRoute F p1 p2 p3 gantries1 linkMinutes2 linkPrice3 links4 price4 stops5) fun x1 o2 o3 o4 =>
  if x1 ≠ 0 then some (x1, 0, o2, o3, o4) else
  bd1 (f_X7_stopAt F p4 o2 o4) fun r7 =>
  some (0, r7, o2, o3, o4)
set_option maxHeartbeats 4000000 in
set_option maxRecDepth 100000 in
theorem c_X9_routeGantry (l : Launch) (g : GT) (F : Nat) (h0 h1 h2 h3 h4 h5 : Nat) (v0_1 v0_3 v0_4 v0_5 v0_6 v1_1 v1_2 v1_3 v1_4 v1_5 v1_6 v1_9 v1_10 v1_11 v1_12 : Value) (p1 p2 p3 p4 gantries1 : Int32) (linkMinutes2 linkPrice3 : Nat → Int32) (links4 price4 : Int32) (stops5 : Nat → Int32) (x : Nat) (r o_links4 o_price4 : Int32) (o_stops5 : Nat → Int32) (hst : l.stackTraces = false) (sz : Nat) (hf : f_X9_routeGantry F p1 p2 p3 p4 gantries1 linkMinutes2 linkPrice3 links4 price4 stops5 = some (x, r, o_links4, o_price4, o_stops5)) : XI l m_X9_routeGantry (rml 5 2 12) g (w_X9_routeGantry g h0 h1 h2 h3 h4 h5 v0_1 v0_3 v0_4 v0_5 v0_6 v1_1 v1_2 v1_3 v1_4 v1_5 v1_6 v1_9 v1_10 v1_11 v1_12 gantries1 linkMinutes2 linkPrice3 links4 price4 stops5) (fun _ => w_X9_routeGantry g h0 h1 h2 h3 h4 h5 v0_1 v0_3 v0_4 v0_5 v0_6 v1_1 v1_2 v1_3 v1_4 v1_5 v1_6 v1_9 v1_10 v1_11 v1_12 gantries1 linkMinutes2 linkPrice3 o_links4 o_price4 o_stops5) sz [.ref h0, .int p1, .int p2, .int p3, .int p4] x r := by
  refine ex_i (by decide) (Nat.le_of_ble_eq_true rfl) (fun p e s m args below meth c A ls ht C w hl => ?_)
  have C : Cx p s m args meth c RX9 m_X9_routeGantry g A := C
  have hx := C.1
  have hb : c.code = cX9_routeGantry := C.2.1
  have hl : lv_has ls 5 [(0, .ref h0), (1, .int p1), (2, .int p2), (3, .int p3), (4, .int p4)] := hl
  obtain ⟨Q, hQ⟩ : ∃ Q, Q = QXI below args s g A (fun _ => w_X9_routeGantry g h0 h1 h2 h3 h4 h5 v0_1 v0_3 v0_4 v0_5 v0_6 v1_1 v1_2 v1_3 v1_4 v1_5 v1_6 v1_9 v1_10 v1_11 v1_12 gantries1 linkMinutes2 linkPrice3 o_links4 o_price4 o_stops5) x r 2 12 := ⟨_, rfl⟩
  suffices hW : W p l e (rml 5 2 12) s m args below meth c s.heap [] 0 0 Q (F0 m 0 ls []) from (by rw [hQ] at hW; exact hW)
  unfold f_X9_routeGantry at hf
  refine lv_aload_n hx hb dX9_routeGantry_0 rfl (lv_at hl 0 rfl) ?_
  refine lv_iload_n hx hb dX9_routeGantry_1 rfl (lv_at hl 1 rfl) ?_
  refine lv_iload_n hx hb dX9_routeGantry_2 rfl (lv_at hl 2 rfl) ?_
  refine lv_iload_n hx hb dX9_routeGantry_3 rfl (lv_at hl 3 rfl) ?_
  obtain ⟨x1, o2, o3, o4, hc5, hf⟩ := bd4_some hf
  refine cx_vV C w (wn := fun _ => w_X9_routeGantry g h0 h1 h2 h3 h4 h5 v0_1 v0_3 v0_4 v0_5 v0_6 v1_1 v1_2 v1_3 v1_4 v1_5 v1_6 v1_9 v1_10 v1_11 v1_12 gantries1 linkMinutes2 linkPrice3 o2 o3 o4) (pm_k [true, true, true, true, true, true] rfl rfl (fun _ => Nat.le_of_ble_eq_true rfl) (fun _ => rfl)) (c_X9_findRoute l g F h0 h1 h2 h3 h4 h5 v0_1 v0_3 v0_4 v0_5 v0_6 v1_1 v1_2 v1_3 v1_4 v1_5 v1_6 v1_9 v1_10 v1_11 v1_12 p1 p2 p3 gantries1 linkMinutes2 linkPrice3 links4 price4 stops5 x1 o2 o3 o4 hst _ hc5) k_X9_105 (rm_le (by decide) (by decide)) 0 9 rfl rfl rfl rfl hl.1 rfl (Nat.le_of_ble_eq_true rfl) dX9_routeGantry_4 ⟨Nat.le_of_ble_eq_true rfl, Nat.le_of_ble_eq_true rfl⟩ (cells2 := 2) (slots2 := 12) ⟨rfl, rfl⟩ (fun n6 _ H locs w q9 ce h1 h2 h3 => ?_) (fun n6 _ H locs w => ?_)
  · replace hf := it_t n6 hf
    obtain ⟨e1, e2, e3, e4, e5⟩ := tp5 hf
    rw [hQ]
    exact xo C ht w (fun _ => 0) (by rw [← e3, ← e4, ← e5]) e1 n6 h1 h2 h3 (Nat.le_of_ble_eq_true rfl) (Nat.le_of_ble_eq_true rfl)
  replace hf := it_f (fun h => h n6) hf
  refine lv_aload_n hx hb dX9_routeGantry_7 rfl (lv_at hl 0 rfl) ?_
  refine g_X9_26 C w 0 rfl rfl dX9_routeGantry_8 ?_
  refine lv_iload hx hb dX9_routeGantry_11 (lv_at hl 4 rfl) ?_
  obtain ⟨r7, hc8, hf⟩ := bd1_some hf
  refine ca_iN C w (wn := fun _ => w_X9_routeGantry g h0 h1 h2 h3 h4 h5 v0_1 v0_3 v0_4 v0_5 v0_6 v1_1 v1_2 v1_3 v1_4 v1_5 v1_6 v1_9 v1_10 v1_11 v1_12 gantries1 linkMinutes2 linkPrice3 o2 o3 o4) (pm_k [false, false, false, false, true, true] rfl rfl (fun _ => Nat.le_of_ble_eq_true rfl) (fun _ => rfl)) (c_X7_stopAt l g F h4 h5 (.int o3) p4 o2 o4 r7 _ hc8) k_X9_113 (rm_le (by decide) (by decide)) 4 7 rfl rfl rfl rfl hl.1 rfl (Nat.le_of_ble_eq_true rfl) dX9_routeGantry_13 ⟨Nat.le_of_ble_eq_true rfl, Nat.le_of_ble_eq_true rfl⟩ (cells2 := 2) (slots2 := 12) ⟨rfl, rfl⟩ (fun _ H locs w => ?_)
  obtain ⟨e1, e2, e3, e4, e5⟩ := tp5 hf
  rw [hQ]
  exact xr_i C w rfl (fun _ => 0) (by rw [← e3, ← e4, ← e5]) e1 e2 (Nat.le_of_ble_eq_true rfl) (Nat.le_of_ble_eq_true rfl) dX9_routeGantry_16

theorem dX9_passageCount_0 : decode cX9_passageCount 0 = .ok (.aload_n 0, 1) := by decide +kernel
theorem dX9_passageCount_1 : decode cX9_passageCount 1 = .ok (.getfield 40, 3) := by decide +kernel
theorem dX9_passageCount_4 : decode cX9_passageCount 4 = .ok (.getfield 116, 3) := by decide +kernel
theorem dX9_passageCount_7 : decode cX9_passageCount 7 = .ok (.getfield 120, 3) := by decide +kernel
theorem dX9_passageCount_10 : decode cX9_passageCount 10 = .ok (.ireturn, 1) := by decide +kernel
abbrev m_X9_passageCount : MD := (yX9_passageCount, cX9_passageCount, 1, (some .int))
theorem g_X9_116 {p : Program} {l : Launch} {e : Env} {R : Room} {s : State} {m : MethodId} {args : Array Value} {below : List Frame} {meth : Method} {c : Code} {H : Heap} {locs : List Loc} {cells slots : Nat} {Q : State → Prop} {d : MD} {g : GT} {A : Nat → Prop} {ws : va_W} {pc : Nat} {ls : Array Slot} {rest : List Value} (C : Cx p s m args meth c RX9 d g A) (w : Wd g A ws s.heap H locs) (q0 : Nat) {a : Nat} {fs : List Value} {v : Value} (he : ws[q0]? = some (a, .inr (3, fs))) (hv : fs[0]? = some v) (hd : decode d.2.1 pc = .ok (.getfield 116, 3)) (kk : W p l e R s m args below meth c H locs cells slots Q (F0 m (pc + 3) ls (v :: rest))) : W p l e R s m args below meth c H locs cells slots Q (F0 m pc ls (.ref a :: rest)) := fgN C w inX3s (ref := RX3) rfl 0 (by decide) (nw_t (w := Cond.fieldLinkNest RX9 116 RX3 (TX3 0).2.1 (TX3 0).2.2.1 "FreeFlowToll") 312 (by decide +kernel) rfl) rfl q0 he hv hd kk
theorem g_X9_120 {p : Program} {l : Launch} {e : Env} {R : Room} {s : State} {m : MethodId} {args : Array Value} {below : List Frame} {meth : Method} {c : Code} {H : Heap} {locs : List Loc} {cells slots : Nat} {Q : State → Prop} {d : MD} {g : GT} {A : Nat → Prop} {ws : va_W} {pc : Nat} {ls : Array Slot} {rest : List Value} (C : Cx p s m args meth c RX9 d g A) (w : Wd g A ws s.heap H locs) (q0 : Nat) {a : Nat} {fs : List Value} {v : Value} (he : ws[q0]? = some (a, .inr (6, fs))) (hv : fs[0]? = some v) (hd : decode d.2.1 pc = .ok (.getfield 120, 3)) (kk : W p l e R s m args below meth c H locs cells slots Q (F0 m (pc + 3) ls (v :: rest))) : W p l e R s m args below meth c H locs cells slots Q (F0 m pc ls (.ref a :: rest)) := fgN C w inX6s (ref := RX6) rfl 0 (by decide) (nw_t (w := Cond.fieldLinkNest RX9 120 RX6 (TX6 0).2.1 (TX6 0).2.2.1 "FreeFlowToll") 213 (by decide +kernel) rfl) rfl q0 he hv hd kk
abbrev w_X9_passageCount (g : GT) (h0 h1 h2 : Nat) (v0_0 v0_1 v0_2 v0_3 v0_5 v0_6 v1_1 v2_1 v2_2 v2_3 v2_4 v2_5 v2_6 v2_7 v2_8 v2_9 v2_10 v2_11 v2_12 : Value) (count2 : Int32) : va_W := [(h0, .inr (9, [v0_0, v0_1, v0_2, v0_3, .ref h1, v0_5, v0_6])), (h1, .inr (3, [.ref h2, v1_1])), (h2, .inr (6, [.int count2, v2_1, v2_2, v2_3, v2_4, v2_5, v2_6, v2_7, v2_8, v2_9, v2_10, v2_11, v2_12]))]
def f_X9_passageCount (F : Nat) (count2 : Int32) : Option (Int32) :=
  some count2
set_option maxHeartbeats 4000000 in
set_option maxRecDepth 100000 in
theorem c_X9_passageCount (l : Launch) (g : GT) (F : Nat) (h0 h1 h2 : Nat) (v0_0 v0_1 v0_2 v0_3 v0_5 v0_6 v1_1 v2_1 v2_2 v2_3 v2_4 v2_5 v2_6 v2_7 v2_8 v2_9 v2_10 v2_11 v2_12 : Value) (count2 : Int32) (r : Int32) (sz : Nat) (hf : f_X9_passageCount F count2 = some r) : CI l m_X9_passageCount (rml 0 0 0) g (w_X9_passageCount g h0 h1 h2 v0_0 v0_1 v0_2 v0_3 v0_5 v0_6 v1_1 v2_1 v2_2 v2_3 v2_4 v2_5 v2_6 v2_7 v2_8 v2_9 v2_10 v2_11 v2_12 count2) (fun _ => w_X9_passageCount g h0 h1 h2 v0_0 v0_1 v0_2 v0_3 v0_5 v0_6 v1_1 v2_1 v2_2 v2_3 v2_4 v2_5 v2_6 v2_7 v2_8 v2_9 v2_10 v2_11 v2_12 count2) sz [.ref h0] r := by
  refine en_i (by decide) (Nat.le_of_ble_eq_true rfl) (fun p e s m args below meth c A ls C w hl => ?_)
  have C : Cx p s m args meth c RX9 m_X9_passageCount g A := C
  have hx := C.1
  have hb : c.code = cX9_passageCount := C.2.1
  have hl : lv_has ls 1 [(0, .ref h0)] := hl
  obtain ⟨Q, hQ⟩ : ∃ Q, Q = QI below args s g A (fun _ => w_X9_passageCount g h0 h1 h2 v0_0 v0_1 v0_2 v0_3 v0_5 v0_6 v1_1 v2_1 v2_2 v2_3 v2_4 v2_5 v2_6 v2_7 v2_8 v2_9 v2_10 v2_11 v2_12 count2) r 0 0 := ⟨_, rfl⟩
  suffices hW : W p l e (rml 0 0 0) s m args below meth c s.heap [] 0 0 Q (F0 m 0 ls []) from (by rw [hQ] at hW; exact hW)
  unfold f_X9_passageCount at hf
  refine lv_aload_n hx hb dX9_passageCount_0 rfl (lv_at hl 0 rfl) ?_
  refine g_X9_40 C w 0 rfl rfl dX9_passageCount_1 ?_
  refine g_X9_116 C w 1 rfl rfl dX9_passageCount_4 ?_
  refine g_X9_120 C w 2 rfl rfl dX9_passageCount_7 ?_
  obtain e1 := tp1 hf
  rw [hQ]
  exact rt_i C w rfl (fun _ => 0) rfl e1 dX9_passageCount_10

theorem dX9_requirePassage_0 : decode cX9_requirePassage 0 = .ok (.iload_n 1, 1) := by decide +kernel
theorem dX9_requirePassage_1 : decode cX9_requirePassage 1 = .ok (.ifCond .lt 17, 3) := by decide +kernel
theorem dX9_requirePassage_4 : decode cX9_requirePassage 4 = .ok (.iload_n 1, 1) := by decide +kernel
theorem dX9_requirePassage_5 : decode cX9_requirePassage 5 = .ok (.aload_n 0, 1) := by decide +kernel
theorem dX9_requirePassage_6 : decode cX9_requirePassage 6 = .ok (.getfield 40, 3) := by decide +kernel
theorem dX9_requirePassage_9 : decode cX9_requirePassage 9 = .ok (.getfield 116, 3) := by decide +kernel
theorem dX9_requirePassage_12 : decode cX9_requirePassage 12 = .ok (.getfield 120, 3) := by decide +kernel
theorem dX9_requirePassage_15 : decode cX9_requirePassage 15 = .ok (.if_icmp .lt 14, 3) := by decide +kernel
theorem dX9_requirePassage_18 : decode cX9_requirePassage 18 = .ok (.new 330, 3) := by decide +kernel
theorem dX9_requirePassage_21 : decode cX9_requirePassage 21 = .ok (.dup, 1) := by decide +kernel
theorem dX9_requirePassage_22 : decode cX9_requirePassage 22 = .ok (.ldc_w 332, 3) := by decide +kernel
theorem dX9_requirePassage_25 : decode cX9_requirePassage 25 = .ok (.invokespecial 334, 3) := by decide +kernel
theorem dX9_requirePassage_28 : decode cX9_requirePassage 28 = .ok (.athrow, 1) := by decide +kernel
theorem dX9_requirePassage_29 : decode cX9_requirePassage 29 = .ok (.return_, 1) := by decide +kernel
abbrev m_X9_requirePassage : MD := (yX9_requirePassage, cX9_requirePassage, 2, none)

abbrev w_X9_requirePassage (g : GT) (h0 h1 h2 : Nat) (v0_0 v0_1 v0_2 v0_3 v0_5 v0_6 v1_1 v2_1 v2_2 v2_3 v2_4 v2_5 v2_6 v2_7 v2_8 v2_9 v2_10 v2_11 v2_12 : Value) (count2 : Int32) : va_W := [(h0, .inr (9, [v0_0, v0_1, v0_2, v0_3, .ref h1, v0_5, v0_6])), (h1, .inr (3, [.ref h2, v1_1])), (h2, .inr (6, [.int count2, v2_1, v2_2, v2_3, v2_4, v2_5, v2_6, v2_7, v2_8, v2_9, v2_10, v2_11, v2_12]))]
def f_X9_requirePassage_b18 (F : Nat) (count2 : Int32) : Option (Nat) :=
  some 2
def f_X9_requirePassage (F : Nat) (p1 count2 : Int32) : Option (Nat) :=
  if p1 < 0 then
    f_X9_requirePassage_b18 F count2
  else
    if p1 < count2 then
      some 0
    else
      f_X9_requirePassage_b18 F count2
set_option maxHeartbeats 4000000 in
set_option maxRecDepth 100000 in
theorem c_X9_requirePassage (l : Launch) (g : GT) (F : Nat) (h0 h1 h2 : Nat) (v0_0 v0_1 v0_2 v0_3 v0_5 v0_6 v1_1 v2_1 v2_2 v2_3 v2_4 v2_5 v2_6 v2_7 v2_8 v2_9 v2_10 v2_11 v2_12 : Value) (p1 count2 : Int32) (x : Nat) (hst : l.stackTraces = false) (sz : Nat) (hf : f_X9_requirePassage F p1 count2 = some x) : XV l m_X9_requirePassage (rml 1 1 6) g (w_X9_requirePassage g h0 h1 h2 v0_0 v0_1 v0_2 v0_3 v0_5 v0_6 v1_1 v2_1 v2_2 v2_3 v2_4 v2_5 v2_6 v2_7 v2_8 v2_9 v2_10 v2_11 v2_12 count2) (fun _ => w_X9_requirePassage g h0 h1 h2 v0_0 v0_1 v0_2 v0_3 v0_5 v0_6 v1_1 v2_1 v2_2 v2_3 v2_4 v2_5 v2_6 v2_7 v2_8 v2_9 v2_10 v2_11 v2_12 count2) sz [.ref h0, .int p1] x := by
  refine ex_v (by decide) (Nat.le_of_ble_eq_true rfl) (fun p e s m args below meth c A ls ht C w hl => ?_)
  have C : Cx p s m args meth c RX9 m_X9_requirePassage g A := C
  have hx := C.1
  have hb : c.code = cX9_requirePassage := C.2.1
  have hl : lv_has ls 2 [(0, .ref h0), (1, .int p1)] := hl
  obtain ⟨Q, hQ⟩ : ∃ Q, Q = QXV below args s g A (fun _ => w_X9_requirePassage g h0 h1 h2 v0_0 v0_1 v0_2 v0_3 v0_5 v0_6 v1_1 v2_1 v2_2 v2_3 v2_4 v2_5 v2_6 v2_7 v2_8 v2_9 v2_10 v2_11 v2_12 count2) x 1 6 := ⟨_, rfl⟩
  suffices hW : W p l e (rml 1 1 6) s m args below meth c s.heap [] 0 0 Q (F0 m 0 ls []) from (by rw [hQ] at hW; exact hW)
  unfold f_X9_requirePassage at hf
  have b18 : ∀ (H : Heap) (locs : List Loc) (ls : Array Slot), f_X9_requirePassage_b18 F count2 = some x → Wd g A (w_X9_requirePassage g h0 h1 h2 v0_0 v0_1 v0_2 v0_3 v0_5 v0_6 v1_1 v2_1 v2_2 v2_3 v2_4 v2_5 v2_6 v2_7 v2_8 v2_9 v2_10 v2_11 v2_12 count2) s.heap H locs → lv_has ls 2 [] → W p l e (rml 1 1 6) s m args below meth c H locs 0 0 Q (F0 m 18 ls []) := by
    intro  H locs ls hf w hl
    unfold f_X9_requirePassage_b18 at hf
    obtain e1 := tp1 hf
    rw [hQ]
    exact xtw C ht w hst kl_2 (List.mem_of_getElem? (i := 11) rfl) at_2 hl.1 dX9_requirePassage_18 dX9_requirePassage_21 dX9_requirePassage_22 dX9_requirePassage_25 dX9_requirePassage_28 (Nat.le_of_ble_eq_true rfl) (Nat.le_of_ble_eq_true rfl) (Nat.le_of_ble_eq_true rfl) (Nat.le_of_ble_eq_true rfl) (fun _ => 0) rfl e1 (Nat.le_of_ble_eq_true rfl) (Nat.le_of_ble_eq_true rfl)
  refine lv_iload_n hx hb dX9_requirePassage_0 rfl (lv_at hl 1 rfl) ?_
  refine lv_if_lt (tgt := 18) hx hb dX9_requirePassage_1 (by decide) (fun c1 => ?_) (fun c1 => ?_)
  · replace hf := it_t c1 hf
    exact b18  _ _ _ hf w (lv_sub hl [] rfl)
  · replace hf := it_f c1 hf
    refine lv_iload_n hx hb dX9_requirePassage_4 rfl (lv_at hl 1 rfl) ?_
    refine lv_aload_n hx hb dX9_requirePassage_5 rfl (lv_at hl 0 rfl) ?_
    refine g_X9_40 C w 0 rfl rfl dX9_requirePassage_6 ?_
    refine g_X9_116 C w 1 rfl rfl dX9_requirePassage_9 ?_
    refine g_X9_120 C w 2 rfl rfl dX9_requirePassage_12 ?_
    refine lv_icmp_lt (tgt := 29) hx hb dX9_requirePassage_15 (by decide) (fun c2 => ?_) (fun c2 => ?_)
    · replace hf := it_t c2 hf
      obtain e1 := tp1 hf
      rw [hQ]
      exact xr_v C w rfl (fun _ => 0) rfl e1 (Nat.le_of_ble_eq_true rfl) (Nat.le_of_ble_eq_true rfl) dX9_requirePassage_29
    · replace hf := it_f c2 hf
      exact b18  _ _ _ hf w (lv_sub hl [] rfl)

theorem dX9_passageGantry_0 : decode cX9_passageGantry 0 = .ok (.aload_n 0, 1) := by decide +kernel
theorem dX9_passageGantry_1 : decode cX9_passageGantry 1 = .ok (.iload_n 1, 1) := by decide +kernel
theorem dX9_passageGantry_2 : decode cX9_passageGantry 2 = .ok (.invokevirtual 125, 3) := by decide +kernel
theorem dX9_passageGantry_5 : decode cX9_passageGantry 5 = .ok (.aload_n 0, 1) := by decide +kernel
theorem dX9_passageGantry_6 : decode cX9_passageGantry 6 = .ok (.getfield 40, 3) := by decide +kernel
theorem dX9_passageGantry_9 : decode cX9_passageGantry 9 = .ok (.getfield 116, 3) := by decide +kernel
theorem dX9_passageGantry_12 : decode cX9_passageGantry 12 = .ok (.getfield 128, 3) := by decide +kernel
theorem dX9_passageGantry_15 : decode cX9_passageGantry 15 = .ok (.iload_n 1, 1) := by decide +kernel
theorem dX9_passageGantry_16 : decode cX9_passageGantry 16 = .ok (.iaload, 1) := by decide +kernel
theorem dX9_passageGantry_17 : decode cX9_passageGantry 17 = .ok (.ireturn, 1) := by decide +kernel
abbrev m_X9_passageGantry : MD := (yX9_passageGantry, cX9_passageGantry, 2, (some .int))
theorem g_X9_128 {p : Program} {l : Launch} {e : Env} {R : Room} {s : State} {m : MethodId} {args : Array Value} {below : List Frame} {meth : Method} {c : Code} {H : Heap} {locs : List Loc} {cells slots : Nat} {Q : State → Prop} {d : MD} {g : GT} {A : Nat → Prop} {ws : va_W} {pc : Nat} {ls : Array Slot} {rest : List Value} (C : Cx p s m args meth c RX9 d g A) (w : Wd g A ws s.heap H locs) (q0 : Nat) {a : Nat} {fs : List Value} {v : Value} (he : ws[q0]? = some (a, .inr (6, fs))) (hv : fs[2]? = some v) (hd : decode d.2.1 pc = .ok (.getfield 128, 3)) (kk : W p l e R s m args below meth c H locs cells slots Q (F0 m (pc + 3) ls (v :: rest))) : W p l e R s m args below meth c H locs cells slots Q (F0 m pc ls (.ref a :: rest)) := fgN C w inX6s (ref := RX6) rfl 2 (by decide) (nw_t (w := Cond.fieldLinkNest RX9 128 RX6 (TX6 2).2.1 (TX6 2).2.2.1 "FreeFlowToll") 218 (by decide +kernel) rfl) rfl q0 he hv hd kk
theorem q_850 : Cond.code yX9_requirePassage cX9_requirePassage 2 none ∈ TS := ts_t 850 (by decide +kernel) (by decide +kernel)
theorem q_847 : Cond.methodLink RX9 125 yX9_requirePassage ∈ TS := ts_t 847 (by decide +kernel) (by decide +kernel)
theorem q_849 : Cond.instanceMethod yX9_requirePassage ∈ TS := ts_t 849 (by decide +kernel) (by decide +kernel)
theorem qs_58 : Cond.selects yX9_requirePassage.cls yX9_requirePassage yX9_requirePassage ∈ TS := ts_s 58 (by decide +kernel) (by decide +kernel)
theorem k_X9_125 : LkV RX9 125 m_X9_requirePassage 1 := ⟨q_847, q_849, qs_58, ⟨q_1, q_850, by decide, by decide, by decide +kernel⟩⟩
abbrev w_X9_passageGantry (g : GT) (h0 h1 h2 h3 : Nat) (v0_0 v0_1 v0_2 v0_3 v0_5 v0_6 v1_1 v2_1 v2_3 v2_4 v2_5 v2_6 v2_7 v2_8 v2_9 v2_10 v2_11 v2_12 : Value) (count2 : Int32) (gantry3 : Nat → Int32) : va_W := [(h0, .inr (9, [v0_0, v0_1, v0_2, v0_3, .ref h1, v0_5, v0_6])), (h1, .inr (3, [.ref h2, v1_1])), (h2, .inr (6, [.int count2, v2_1, .ref h3, v2_3, v2_4, v2_5, v2_6, v2_7, v2_8, v2_9, v2_10, v2_11, v2_12])), (h3, aI g 80 gantry3)]
def f_X9_passageGantry (F : Nat) (p1 count2 : Int32) (gantry3 : Nat → Int32) : Option (Nat × Int32) :=
  bd1 (f_X9_requirePassage F p1 count2) fun x1 =>
  if x1 ≠ 0 then some (x1, 0) else
  rd gantry3 80 p1 fun a4 =>
  some (0, a4)
set_option maxHeartbeats 4000000 in
set_option maxRecDepth 100000 in
theorem c_X9_passageGantry (l : Launch) (g : GT) (F : Nat) (h0 h1 h2 h3 : Nat) (v0_0 v0_1 v0_2 v0_3 v0_5 v0_6 v1_1 v2_1 v2_3 v2_4 v2_5 v2_6 v2_7 v2_8 v2_9 v2_10 v2_11 v2_12 : Value) (p1 count2 : Int32) (gantry3 : Nat → Int32) (x : Nat) (r : Int32) (hst : l.stackTraces = false) (sz : Nat) (hf : f_X9_passageGantry F p1 count2 gantry3 = some (x, r)) : XI l m_X9_passageGantry (rml 2 1 6) g (w_X9_passageGantry g h0 h1 h2 h3 v0_0 v0_1 v0_2 v0_3 v0_5 v0_6 v1_1 v2_1 v2_3 v2_4 v2_5 v2_6 v2_7 v2_8 v2_9 v2_10 v2_11 v2_12 count2 gantry3) (fun _ => w_X9_passageGantry g h0 h1 h2 h3 v0_0 v0_1 v0_2 v0_3 v0_5 v0_6 v1_1 v2_1 v2_3 v2_4 v2_5 v2_6 v2_7 v2_8 v2_9 v2_10 v2_11 v2_12 count2 gantry3) sz [.ref h0, .int p1] x r := by
  refine ex_i (by decide) (Nat.le_of_ble_eq_true rfl) (fun p e s m args below meth c A ls ht C w hl => ?_)
  have C : Cx p s m args meth c RX9 m_X9_passageGantry g A := C
  have hx := C.1
  have hb : c.code = cX9_passageGantry := C.2.1
  have hl : lv_has ls 2 [(0, .ref h0), (1, .int p1)] := hl
  obtain ⟨Q, hQ⟩ : ∃ Q, Q = QXI below args s g A (fun _ => w_X9_passageGantry g h0 h1 h2 h3 v0_0 v0_1 v0_2 v0_3 v0_5 v0_6 v1_1 v2_1 v2_3 v2_4 v2_5 v2_6 v2_7 v2_8 v2_9 v2_10 v2_11 v2_12 count2 gantry3) x r 1 6 := ⟨_, rfl⟩
  suffices hW : W p l e (rml 2 1 6) s m args below meth c s.heap [] 0 0 Q (F0 m 0 ls []) from (by rw [hQ] at hW; exact hW)
  unfold f_X9_passageGantry at hf
  refine lv_aload_n hx hb dX9_passageGantry_0 rfl (lv_at hl 0 rfl) ?_
  refine lv_iload_n hx hb dX9_passageGantry_1 rfl (lv_at hl 1 rfl) ?_
  obtain ⟨x1, hc2, hf⟩ := bd1_some hf
  refine cx_vV C w (wn := fun _ => w_X9_passageGantry g h0 h1 h2 h3 v0_0 v0_1 v0_2 v0_3 v0_5 v0_6 v1_1 v2_1 v2_3 v2_4 v2_5 v2_6 v2_7 v2_8 v2_9 v2_10 v2_11 v2_12 count2 gantry3) (pm_k [true, true, true, false] rfl rfl (fun _ => Nat.le_of_ble_eq_true rfl) (fun _ => rfl)) (c_X9_requirePassage l g F h0 h1 h2 v0_0 v0_1 v0_2 v0_3 v0_5 v0_6 v1_1 v2_1 (.ref h3) v2_3 v2_4 v2_5 v2_6 v2_7 v2_8 v2_9 v2_10 v2_11 v2_12 p1 count2 x1 hst _ hc2) k_X9_125 (rm_le (by decide) (by decide)) 0 9 rfl rfl rfl rfl hl.1 rfl (Nat.le_of_ble_eq_true rfl) dX9_passageGantry_2 ⟨Nat.le_of_ble_eq_true rfl, Nat.le_of_ble_eq_true rfl⟩ (cells2 := 1) (slots2 := 6) ⟨rfl, rfl⟩ (fun n3 _ H locs w q9 ce h1 h2 h3 => ?_) (fun n3 _ H locs w => ?_)
  · replace hf := it_t n3 hf
    obtain ⟨e1, e2⟩ := tp2 hf
    rw [hQ]
    exact xo C ht w (fun _ => 0) rfl e1 n3 h1 h2 h3 (Nat.le_of_ble_eq_true rfl) (Nat.le_of_ble_eq_true rfl)
  replace hf := it_f (fun h => h n3) hf
  refine lv_aload_n hx hb dX9_passageGantry_5 rfl (lv_at hl 0 rfl) ?_
  refine g_X9_40 C w 0 rfl rfl dX9_passageGantry_6 ?_
  refine g_X9_116 C w 1 rfl rfl dX9_passageGantry_9 ?_
  refine g_X9_128 C w 2 rfl rfl dX9_passageGantry_12 ?_
  refine lv_iload_n hx hb dX9_passageGantry_15 rfl (lv_at hl 1 rfl) ?_
  obtain ⟨a4, hia4, haa4, hf⟩ := rd_some hf
  refine ial C w 3 rfl hia4 haa4 dX9_passageGantry_16 ?_
  obtain ⟨e1, e2⟩ := tp2 hf
  rw [hQ]
  exact xr_i C w rfl (fun _ => 0) rfl e1 e2 (Nat.le_of_ble_eq_true rfl) (Nat.le_of_ble_eq_true rfl) dX9_passageGantry_17

theorem dX9_passageTime_0 : decode cX9_passageTime 0 = .ok (.aload_n 0, 1) := by decide +kernel
theorem dX9_passageTime_1 : decode cX9_passageTime 1 = .ok (.iload_n 1, 1) := by decide +kernel
theorem dX9_passageTime_2 : decode cX9_passageTime 2 = .ok (.invokevirtual 125, 3) := by decide +kernel
theorem dX9_passageTime_5 : decode cX9_passageTime 5 = .ok (.aload_n 0, 1) := by decide +kernel
theorem dX9_passageTime_6 : decode cX9_passageTime 6 = .ok (.getfield 40, 3) := by decide +kernel
theorem dX9_passageTime_9 : decode cX9_passageTime 9 = .ok (.getfield 116, 3) := by decide +kernel
theorem dX9_passageTime_12 : decode cX9_passageTime 12 = .ok (.getfield 132, 3) := by decide +kernel
theorem dX9_passageTime_15 : decode cX9_passageTime 15 = .ok (.iload_n 1, 1) := by decide +kernel
theorem dX9_passageTime_16 : decode cX9_passageTime 16 = .ok (.iaload, 1) := by decide +kernel
theorem dX9_passageTime_17 : decode cX9_passageTime 17 = .ok (.ireturn, 1) := by decide +kernel
abbrev m_X9_passageTime : MD := (yX9_passageTime, cX9_passageTime, 2, (some .int))
theorem g_X9_132 {p : Program} {l : Launch} {e : Env} {R : Room} {s : State} {m : MethodId} {args : Array Value} {below : List Frame} {meth : Method} {c : Code} {H : Heap} {locs : List Loc} {cells slots : Nat} {Q : State → Prop} {d : MD} {g : GT} {A : Nat → Prop} {ws : va_W} {pc : Nat} {ls : Array Slot} {rest : List Value} (C : Cx p s m args meth c RX9 d g A) (w : Wd g A ws s.heap H locs) (q0 : Nat) {a : Nat} {fs : List Value} {v : Value} (he : ws[q0]? = some (a, .inr (6, fs))) (hv : fs[4]? = some v) (hd : decode d.2.1 pc = .ok (.getfield 132, 3)) (kk : W p l e R s m args below meth c H locs cells slots Q (F0 m (pc + 3) ls (v :: rest))) : W p l e R s m args below meth c H locs cells slots Q (F0 m pc ls (.ref a :: rest)) := fgN C w inX6s (ref := RX6) rfl 4 (by decide) (nw_t (w := Cond.fieldLinkNest RX9 132 RX6 (TX6 4).2.1 (TX6 4).2.2.1 "FreeFlowToll") 222 (by decide +kernel) rfl) rfl q0 he hv hd kk
abbrev w_X9_passageTime (g : GT) (h0 h1 h2 h3 : Nat) (v0_0 v0_1 v0_2 v0_3 v0_5 v0_6 v1_1 v2_1 v2_2 v2_3 v2_5 v2_6 v2_7 v2_8 v2_9 v2_10 v2_11 v2_12 : Value) (count2 : Int32) (time3 : Nat → Int32) : va_W := [(h0, .inr (9, [v0_0, v0_1, v0_2, v0_3, .ref h1, v0_5, v0_6])), (h1, .inr (3, [.ref h2, v1_1])), (h2, .inr (6, [.int count2, v2_1, v2_2, v2_3, .ref h3, v2_5, v2_6, v2_7, v2_8, v2_9, v2_10, v2_11, v2_12])), (h3, aI g 80 time3)]
def f_X9_passageTime (F : Nat) (p1 count2 : Int32) (time3 : Nat → Int32) : Option (Nat × Int32) :=
  bd1 (f_X9_requirePassage F p1 count2) fun x1 =>
  if x1 ≠ 0 then some (x1, 0) else
  rd time3 80 p1 fun a4 =>
  some (0, a4)
set_option maxHeartbeats 4000000 in
set_option maxRecDepth 100000 in
theorem c_X9_passageTime (l : Launch) (g : GT) (F : Nat) (h0 h1 h2 h3 : Nat) (v0_0 v0_1 v0_2 v0_3 v0_5 v0_6 v1_1 v2_1 v2_2 v2_3 v2_5 v2_6 v2_7 v2_8 v2_9 v2_10 v2_11 v2_12 : Value) (p1 count2 : Int32) (time3 : Nat → Int32) (x : Nat) (r : Int32) (hst : l.stackTraces = false) (sz : Nat) (hf : f_X9_passageTime F p1 count2 time3 = some (x, r)) : XI l m_X9_passageTime (rml 2 1 6) g (w_X9_passageTime g h0 h1 h2 h3 v0_0 v0_1 v0_2 v0_3 v0_5 v0_6 v1_1 v2_1 v2_2 v2_3 v2_5 v2_6 v2_7 v2_8 v2_9 v2_10 v2_11 v2_12 count2 time3) (fun _ => w_X9_passageTime g h0 h1 h2 h3 v0_0 v0_1 v0_2 v0_3 v0_5 v0_6 v1_1 v2_1 v2_2 v2_3 v2_5 v2_6 v2_7 v2_8 v2_9 v2_10 v2_11 v2_12 count2 time3) sz [.ref h0, .int p1] x r := by
  refine ex_i (by decide) (Nat.le_of_ble_eq_true rfl) (fun p e s m args below meth c A ls ht C w hl => ?_)
  have C : Cx p s m args meth c RX9 m_X9_passageTime g A := C
  have hx := C.1
  have hb : c.code = cX9_passageTime := C.2.1
  have hl : lv_has ls 2 [(0, .ref h0), (1, .int p1)] := hl
  obtain ⟨Q, hQ⟩ : ∃ Q, Q = QXI below args s g A (fun _ => w_X9_passageTime g h0 h1 h2 h3 v0_0 v0_1 v0_2 v0_3 v0_5 v0_6 v1_1 v2_1 v2_2 v2_3 v2_5 v2_6 v2_7 v2_8 v2_9 v2_10 v2_11 v2_12 count2 time3) x r 1 6 := ⟨_, rfl⟩
  suffices hW : W p l e (rml 2 1 6) s m args below meth c s.heap [] 0 0 Q (F0 m 0 ls []) from (by rw [hQ] at hW; exact hW)
  unfold f_X9_passageTime at hf
  refine lv_aload_n hx hb dX9_passageTime_0 rfl (lv_at hl 0 rfl) ?_
  refine lv_iload_n hx hb dX9_passageTime_1 rfl (lv_at hl 1 rfl) ?_
  obtain ⟨x1, hc2, hf⟩ := bd1_some hf
  refine cx_vV C w (wn := fun _ => w_X9_passageTime g h0 h1 h2 h3 v0_0 v0_1 v0_2 v0_3 v0_5 v0_6 v1_1 v2_1 v2_2 v2_3 v2_5 v2_6 v2_7 v2_8 v2_9 v2_10 v2_11 v2_12 count2 time3) (pm_k [true, true, true, false] rfl rfl (fun _ => Nat.le_of_ble_eq_true rfl) (fun _ => rfl)) (c_X9_requirePassage l g F h0 h1 h2 v0_0 v0_1 v0_2 v0_3 v0_5 v0_6 v1_1 v2_1 v2_2 v2_3 (.ref h3) v2_5 v2_6 v2_7 v2_8 v2_9 v2_10 v2_11 v2_12 p1 count2 x1 hst _ hc2) k_X9_125 (rm_le (by decide) (by decide)) 0 9 rfl rfl rfl rfl hl.1 rfl (Nat.le_of_ble_eq_true rfl) dX9_passageTime_2 ⟨Nat.le_of_ble_eq_true rfl, Nat.le_of_ble_eq_true rfl⟩ (cells2 := 1) (slots2 := 6) ⟨rfl, rfl⟩ (fun n3 _ H locs w q9 ce h1 h2 h3 => ?_) (fun n3 _ H locs w => ?_)
  · replace hf := it_t n3 hf
    obtain ⟨e1, e2⟩ := tp2 hf
    rw [hQ]
    exact xo C ht w (fun _ => 0) rfl e1 n3 h1 h2 h3 (Nat.le_of_ble_eq_true rfl) (Nat.le_of_ble_eq_true rfl)
  replace hf := it_f (fun h => h n3) hf
  refine lv_aload_n hx hb dX9_passageTime_5 rfl (lv_at hl 0 rfl) ?_
  refine g_X9_40 C w 0 rfl rfl dX9_passageTime_6 ?_
  refine g_X9_116 C w 1 rfl rfl dX9_passageTime_9 ?_
  refine g_X9_132 C w 2 rfl rfl dX9_passageTime_12 ?_
  refine lv_iload_n hx hb dX9_passageTime_15 rfl (lv_at hl 1 rfl) ?_
  obtain ⟨a4, hia4, haa4, hf⟩ := rd_some hf
  refine ial C w 3 rfl hia4 haa4 dX9_passageTime_16 ?_
  obtain ⟨e1, e2⟩ := tp2 hf
  rw [hQ]
  exact xr_i C w rfl (fun _ => 0) rfl e1 e2 (Nat.le_of_ble_eq_true rfl) (Nat.le_of_ble_eq_true rfl) dX9_passageTime_17

theorem dX9_passageTag_0 : decode cX9_passageTag 0 = .ok (.aload_n 0, 1) := by decide +kernel
theorem dX9_passageTag_1 : decode cX9_passageTag 1 = .ok (.iload_n 1, 1) := by decide +kernel
theorem dX9_passageTag_2 : decode cX9_passageTag 2 = .ok (.invokevirtual 125, 3) := by decide +kernel
theorem dX9_passageTag_5 : decode cX9_passageTag 5 = .ok (.aload_n 0, 1) := by decide +kernel
theorem dX9_passageTag_6 : decode cX9_passageTag 6 = .ok (.getfield 40, 3) := by decide +kernel
theorem dX9_passageTag_9 : decode cX9_passageTag 9 = .ok (.getfield 116, 3) := by decide +kernel
theorem dX9_passageTag_12 : decode cX9_passageTag 12 = .ok (.getfield 135, 3) := by decide +kernel
theorem dX9_passageTag_15 : decode cX9_passageTag 15 = .ok (.iload_n 1, 1) := by decide +kernel
theorem dX9_passageTag_16 : decode cX9_passageTag 16 = .ok (.iaload, 1) := by decide +kernel
theorem dX9_passageTag_17 : decode cX9_passageTag 17 = .ok (.ireturn, 1) := by decide +kernel
abbrev m_X9_passageTag : MD := (yX9_passageTag, cX9_passageTag, 2, (some .int))
theorem g_X9_135 {p : Program} {l : Launch} {e : Env} {R : Room} {s : State} {m : MethodId} {args : Array Value} {below : List Frame} {meth : Method} {c : Code} {H : Heap} {locs : List Loc} {cells slots : Nat} {Q : State → Prop} {d : MD} {g : GT} {A : Nat → Prop} {ws : va_W} {pc : Nat} {ls : Array Slot} {rest : List Value} (C : Cx p s m args meth c RX9 d g A) (w : Wd g A ws s.heap H locs) (q0 : Nat) {a : Nat} {fs : List Value} {v : Value} (he : ws[q0]? = some (a, .inr (6, fs))) (hv : fs[5]? = some v) (hd : decode d.2.1 pc = .ok (.getfield 135, 3)) (kk : W p l e R s m args below meth c H locs cells slots Q (F0 m (pc + 3) ls (v :: rest))) : W p l e R s m args below meth c H locs cells slots Q (F0 m pc ls (.ref a :: rest)) := fgN C w inX6s (ref := RX6) rfl 5 (by decide) (nw_t (w := Cond.fieldLinkNest RX9 135 RX6 (TX6 5).2.1 (TX6 5).2.2.1 "FreeFlowToll") 224 (by decide +kernel) rfl) rfl q0 he hv hd kk
abbrev w_X9_passageTag (g : GT) (h0 h1 h2 h3 : Nat) (v0_0 v0_1 v0_2 v0_3 v0_5 v0_6 v1_1 v2_1 v2_2 v2_3 v2_4 v2_6 v2_7 v2_8 v2_9 v2_10 v2_11 v2_12 : Value) (count2 : Int32) (tag3 : Nat → Int32) : va_W := [(h0, .inr (9, [v0_0, v0_1, v0_2, v0_3, .ref h1, v0_5, v0_6])), (h1, .inr (3, [.ref h2, v1_1])), (h2, .inr (6, [.int count2, v2_1, v2_2, v2_3, v2_4, .ref h3, v2_6, v2_7, v2_8, v2_9, v2_10, v2_11, v2_12])), (h3, aI g 80 tag3)]
def f_X9_passageTag (F : Nat) (p1 count2 : Int32) (tag3 : Nat → Int32) : Option (Nat × Int32) :=
  bd1 (f_X9_requirePassage F p1 count2) fun x1 =>
  if x1 ≠ 0 then some (x1, 0) else
  rd tag3 80 p1 fun a4 =>
  some (0, a4)
set_option maxHeartbeats 4000000 in
set_option maxRecDepth 100000 in
theorem c_X9_passageTag (l : Launch) (g : GT) (F : Nat) (h0 h1 h2 h3 : Nat) (v0_0 v0_1 v0_2 v0_3 v0_5 v0_6 v1_1 v2_1 v2_2 v2_3 v2_4 v2_6 v2_7 v2_8 v2_9 v2_10 v2_11 v2_12 : Value) (p1 count2 : Int32) (tag3 : Nat → Int32) (x : Nat) (r : Int32) (hst : l.stackTraces = false) (sz : Nat) (hf : f_X9_passageTag F p1 count2 tag3 = some (x, r)) : XI l m_X9_passageTag (rml 2 1 6) g (w_X9_passageTag g h0 h1 h2 h3 v0_0 v0_1 v0_2 v0_3 v0_5 v0_6 v1_1 v2_1 v2_2 v2_3 v2_4 v2_6 v2_7 v2_8 v2_9 v2_10 v2_11 v2_12 count2 tag3) (fun _ => w_X9_passageTag g h0 h1 h2 h3 v0_0 v0_1 v0_2 v0_3 v0_5 v0_6 v1_1 v2_1 v2_2 v2_3 v2_4 v2_6 v2_7 v2_8 v2_9 v2_10 v2_11 v2_12 count2 tag3) sz [.ref h0, .int p1] x r := by
  refine ex_i (by decide) (Nat.le_of_ble_eq_true rfl) (fun p e s m args below meth c A ls ht C w hl => ?_)
  have C : Cx p s m args meth c RX9 m_X9_passageTag g A := C
  have hx := C.1
  have hb : c.code = cX9_passageTag := C.2.1
  have hl : lv_has ls 2 [(0, .ref h0), (1, .int p1)] := hl
  obtain ⟨Q, hQ⟩ : ∃ Q, Q = QXI below args s g A (fun _ => w_X9_passageTag g h0 h1 h2 h3 v0_0 v0_1 v0_2 v0_3 v0_5 v0_6 v1_1 v2_1 v2_2 v2_3 v2_4 v2_6 v2_7 v2_8 v2_9 v2_10 v2_11 v2_12 count2 tag3) x r 1 6 := ⟨_, rfl⟩
  suffices hW : W p l e (rml 2 1 6) s m args below meth c s.heap [] 0 0 Q (F0 m 0 ls []) from (by rw [hQ] at hW; exact hW)
  unfold f_X9_passageTag at hf
  refine lv_aload_n hx hb dX9_passageTag_0 rfl (lv_at hl 0 rfl) ?_
  refine lv_iload_n hx hb dX9_passageTag_1 rfl (lv_at hl 1 rfl) ?_
  obtain ⟨x1, hc2, hf⟩ := bd1_some hf
  refine cx_vV C w (wn := fun _ => w_X9_passageTag g h0 h1 h2 h3 v0_0 v0_1 v0_2 v0_3 v0_5 v0_6 v1_1 v2_1 v2_2 v2_3 v2_4 v2_6 v2_7 v2_8 v2_9 v2_10 v2_11 v2_12 count2 tag3) (pm_k [true, true, true, false] rfl rfl (fun _ => Nat.le_of_ble_eq_true rfl) (fun _ => rfl)) (c_X9_requirePassage l g F h0 h1 h2 v0_0 v0_1 v0_2 v0_3 v0_5 v0_6 v1_1 v2_1 v2_2 v2_3 v2_4 (.ref h3) v2_6 v2_7 v2_8 v2_9 v2_10 v2_11 v2_12 p1 count2 x1 hst _ hc2) k_X9_125 (rm_le (by decide) (by decide)) 0 9 rfl rfl rfl rfl hl.1 rfl (Nat.le_of_ble_eq_true rfl) dX9_passageTag_2 ⟨Nat.le_of_ble_eq_true rfl, Nat.le_of_ble_eq_true rfl⟩ (cells2 := 1) (slots2 := 6) ⟨rfl, rfl⟩ (fun n3 _ H locs w q9 ce h1 h2 h3 => ?_) (fun n3 _ H locs w => ?_)
  · replace hf := it_t n3 hf
    obtain ⟨e1, e2⟩ := tp2 hf
    rw [hQ]
    exact xo C ht w (fun _ => 0) rfl e1 n3 h1 h2 h3 (Nat.le_of_ble_eq_true rfl) (Nat.le_of_ble_eq_true rfl)
  replace hf := it_f (fun h => h n3) hf
  refine lv_aload_n hx hb dX9_passageTag_5 rfl (lv_at hl 0 rfl) ?_
  refine g_X9_40 C w 0 rfl rfl dX9_passageTag_6 ?_
  refine g_X9_116 C w 1 rfl rfl dX9_passageTag_9 ?_
  refine g_X9_135 C w 2 rfl rfl dX9_passageTag_12 ?_
  refine lv_iload_n hx hb dX9_passageTag_15 rfl (lv_at hl 1 rfl) ?_
  obtain ⟨a4, hia4, haa4, hf⟩ := rd_some hf
  refine ial C w 3 rfl hia4 haa4 dX9_passageTag_16 ?_
  obtain ⟨e1, e2⟩ := tp2 hf
  rw [hQ]
  exact xr_i C w rfl (fun _ => 0) rfl e1 e2 (Nat.le_of_ble_eq_true rfl) (Nat.le_of_ble_eq_true rfl) dX9_passageTag_17

theorem dX9_passagePlate_0 : decode cX9_passagePlate 0 = .ok (.aload_n 0, 1) := by decide +kernel
theorem dX9_passagePlate_1 : decode cX9_passagePlate 1 = .ok (.iload_n 1, 1) := by decide +kernel
theorem dX9_passagePlate_2 : decode cX9_passagePlate 2 = .ok (.invokevirtual 125, 3) := by decide +kernel
theorem dX9_passagePlate_5 : decode cX9_passagePlate 5 = .ok (.aload_n 0, 1) := by decide +kernel
theorem dX9_passagePlate_6 : decode cX9_passagePlate 6 = .ok (.getfield 40, 3) := by decide +kernel
theorem dX9_passagePlate_9 : decode cX9_passagePlate 9 = .ok (.getfield 116, 3) := by decide +kernel
theorem dX9_passagePlate_12 : decode cX9_passagePlate 12 = .ok (.iload_n 1, 1) := by decide +kernel
theorem dX9_passagePlate_13 : decode cX9_passagePlate 13 = .ok (.aload_n 0, 1) := by decide +kernel
theorem dX9_passagePlate_14 : decode cX9_passagePlate 14 = .ok (.getfield 12, 3) := by decide +kernel
theorem dX9_passagePlate_17 : decode cX9_passagePlate 17 = .ok (.invokevirtual 138, 3) := by decide +kernel
theorem dX9_passagePlate_20 : decode cX9_passagePlate 20 = .ok (.ireturn, 1) := by decide +kernel
abbrev m_X9_passagePlate : MD := (yX9_passagePlate, cX9_passagePlate, 2, (some .int))
theorem k_X9_138 : LkN RX9 138 m_X6_plateOf 2 := ⟨⟨"FreeFlowToll", nw_t 888 (by decide +kernel) rfl⟩, q_422, qs_5, ⟨q_7, q_423, by decide, by decide, by decide +kernel⟩⟩
abbrev w_X9_passagePlate (g : GT) (h0 h1 h2 h3 h4 h5 h6 : Nat) (v0_1 v0_2 v0_3 v0_5 v0_6 v1_1 v2_1 v2_2 v2_3 v2_4 v2_5 v2_7 v2_8 v2_9 v2_12 v6_0 v6_1 v6_2 v6_3 v6_4 v6_6 v6_7 v6_8 v6_9 v6_10 v6_11 v6_12 : Value) (count2 : Int32) (handPlate3 plateSums4 readPlates5 : Nat → Int32) (confidence6 : Int32) : va_W := [(h0, .inr (9, [.ref h6, v0_1, v0_2, v0_3, .ref h1, v0_5, v0_6])), (h1, .inr (3, [.ref h2, v1_1])), (h2, .inr (6, [.int count2, v2_1, v2_2, v2_3, v2_4, v2_5, .ref h3, v2_7, v2_8, v2_9, .ref h5, .ref h4, v2_12])), (h3, aI g 80 handPlate3), (h4, aI g 320 plateSums4), (h5, aI g 320 readPlates5), (h6, .inr (4, [v6_0, v6_1, v6_2, v6_3, v6_4, .int confidence6, v6_6, v6_7, v6_8, v6_9, v6_10, v6_11, v6_12]))]
def f_X9_passagePlate (F : Nat) (p1 count2 : Int32) (handPlate3 plateSums4 readPlates5 : Nat → Int32) (confidence6 : Int32) : Option (Nat × Int32) :=
  bd1 (f_X9_requirePassage F p1 count2) fun x1 =>
  if x1 ≠ 0 then some (x1, 0) else
  bd1 (f_X6_plateOf F p1 handPlate3 plateSums4 readPlates5 confidence6) fun r4 =>
  some (0, r4)
set_option maxHeartbeats 4000000 in
set_option maxRecDepth 100000 in
theorem c_X9_passagePlate (l : Launch) (g : GT) (F : Nat) (h0 h1 h2 h3 h4 h5 h6 : Nat) (v0_1 v0_2 v0_3 v0_5 v0_6 v1_1 v2_1 v2_2 v2_3 v2_4 v2_5 v2_7 v2_8 v2_9 v2_12 v6_0 v6_1 v6_2 v6_3 v6_4 v6_6 v6_7 v6_8 v6_9 v6_10 v6_11 v6_12 : Value) (p1 count2 : Int32) (handPlate3 plateSums4 readPlates5 : Nat → Int32) (confidence6 : Int32) (x : Nat) (r : Int32) (hst : l.stackTraces = false) (sz : Nat) (hf : f_X9_passagePlate F p1 count2 handPlate3 plateSums4 readPlates5 confidence6 = some (x, r)) : XI l m_X9_passagePlate (rml 2 1 6) g (w_X9_passagePlate g h0 h1 h2 h3 h4 h5 h6 v0_1 v0_2 v0_3 v0_5 v0_6 v1_1 v2_1 v2_2 v2_3 v2_4 v2_5 v2_7 v2_8 v2_9 v2_12 v6_0 v6_1 v6_2 v6_3 v6_4 v6_6 v6_7 v6_8 v6_9 v6_10 v6_11 v6_12 count2 handPlate3 plateSums4 readPlates5 confidence6) (fun _ => w_X9_passagePlate g h0 h1 h2 h3 h4 h5 h6 v0_1 v0_2 v0_3 v0_5 v0_6 v1_1 v2_1 v2_2 v2_3 v2_4 v2_5 v2_7 v2_8 v2_9 v2_12 v6_0 v6_1 v6_2 v6_3 v6_4 v6_6 v6_7 v6_8 v6_9 v6_10 v6_11 v6_12 count2 handPlate3 plateSums4 readPlates5 confidence6) sz [.ref h0, .int p1] x r := by
  refine ex_i (by decide) (Nat.le_of_ble_eq_true rfl) (fun p e s m args below meth c A ls ht C w hl => ?_)
  have C : Cx p s m args meth c RX9 m_X9_passagePlate g A := C
  have hx := C.1
  have hb : c.code = cX9_passagePlate := C.2.1
  have hl : lv_has ls 2 [(0, .ref h0), (1, .int p1)] := hl
  obtain ⟨Q, hQ⟩ : ∃ Q, Q = QXI below args s g A (fun _ => w_X9_passagePlate g h0 h1 h2 h3 h4 h5 h6 v0_1 v0_2 v0_3 v0_5 v0_6 v1_1 v2_1 v2_2 v2_3 v2_4 v2_5 v2_7 v2_8 v2_9 v2_12 v6_0 v6_1 v6_2 v6_3 v6_4 v6_6 v6_7 v6_8 v6_9 v6_10 v6_11 v6_12 count2 handPlate3 plateSums4 readPlates5 confidence6) x r 1 6 := ⟨_, rfl⟩
  suffices hW : W p l e (rml 2 1 6) s m args below meth c s.heap [] 0 0 Q (F0 m 0 ls []) from (by rw [hQ] at hW; exact hW)
  unfold f_X9_passagePlate at hf
  refine lv_aload_n hx hb dX9_passagePlate_0 rfl (lv_at hl 0 rfl) ?_
  refine lv_iload_n hx hb dX9_passagePlate_1 rfl (lv_at hl 1 rfl) ?_
  obtain ⟨x1, hc2, hf⟩ := bd1_some hf
  refine cx_vV C w (wn := fun _ => w_X9_passagePlate g h0 h1 h2 h3 h4 h5 h6 v0_1 v0_2 v0_3 v0_5 v0_6 v1_1 v2_1 v2_2 v2_3 v2_4 v2_5 v2_7 v2_8 v2_9 v2_12 v6_0 v6_1 v6_2 v6_3 v6_4 v6_6 v6_7 v6_8 v6_9 v6_10 v6_11 v6_12 count2 handPlate3 plateSums4 readPlates5 confidence6) (pm_k [true, true, true, false, false, false, false] rfl rfl (fun _ => Nat.le_of_ble_eq_true rfl) (fun _ => rfl)) (c_X9_requirePassage l g F h0 h1 h2 (.ref h6) v0_1 v0_2 v0_3 v0_5 v0_6 v1_1 v2_1 v2_2 v2_3 v2_4 v2_5 (.ref h3) v2_7 v2_8 v2_9 (.ref h5) (.ref h4) v2_12 p1 count2 x1 hst _ hc2) k_X9_125 (rm_le (by decide) (by decide)) 0 9 rfl rfl rfl rfl hl.1 rfl (Nat.le_of_ble_eq_true rfl) dX9_passagePlate_2 ⟨Nat.le_of_ble_eq_true rfl, Nat.le_of_ble_eq_true rfl⟩ (cells2 := 1) (slots2 := 6) ⟨rfl, rfl⟩ (fun n3 _ H locs w q9 ce h1 h2 h3 => ?_) (fun n3 _ H locs w => ?_)
  · replace hf := it_t n3 hf
    obtain ⟨e1, e2⟩ := tp2 hf
    rw [hQ]
    exact xo C ht w (fun _ => 0) rfl e1 n3 h1 h2 h3 (Nat.le_of_ble_eq_true rfl) (Nat.le_of_ble_eq_true rfl)
  replace hf := it_f (fun h => h n3) hf
  refine lv_aload_n hx hb dX9_passagePlate_5 rfl (lv_at hl 0 rfl) ?_
  refine g_X9_40 C w 0 rfl rfl dX9_passagePlate_6 ?_
  refine g_X9_116 C w 1 rfl rfl dX9_passagePlate_9 ?_
  refine lv_iload_n hx hb dX9_passagePlate_12 rfl (lv_at hl 1 rfl) ?_
  refine lv_aload_n hx hb dX9_passagePlate_13 rfl (lv_at hl 0 rfl) ?_
  refine g_X9_12 C w 0 rfl rfl dX9_passagePlate_14 ?_
  obtain ⟨r4, hc5, hf⟩ := bd1_some hf
  refine ca_iN C w (wn := fun _ => w_X9_passagePlate g h0 h1 h2 h3 h4 h5 h6 v0_1 v0_2 v0_3 v0_5 v0_6 v1_1 v2_1 v2_2 v2_3 v2_4 v2_5 v2_7 v2_8 v2_9 v2_12 v6_0 v6_1 v6_2 v6_3 v6_4 v6_6 v6_7 v6_8 v6_9 v6_10 v6_11 v6_12 count2 handPlate3 plateSums4 readPlates5 confidence6) (pm_k [false, false, true, true, true, true, true] rfl rfl (fun _ => Nat.le_of_ble_eq_true rfl) (fun _ => rfl)) (c_X6_plateOf l g F h2 h3 h4 h5 h6 (.int count2) v2_1 v2_2 v2_3 v2_4 v2_5 v2_7 v2_8 v2_9 v2_12 v6_0 v6_1 v6_2 v6_3 v6_4 v6_6 v6_7 v6_8 v6_9 v6_10 v6_11 v6_12 p1 handPlate3 plateSums4 readPlates5 confidence6 r4 _ hc5) k_X9_138 (rm_le (by decide) (by decide)) 2 6 rfl rfl rfl rfl hl.1 rfl (Nat.le_of_ble_eq_true rfl) dX9_passagePlate_17 ⟨Nat.le_of_ble_eq_true rfl, Nat.le_of_ble_eq_true rfl⟩ (cells2 := 1) (slots2 := 6) ⟨rfl, rfl⟩ (fun _ H locs w => ?_)
  obtain ⟨e1, e2⟩ := tp2 hf
  rw [hQ]
  exact xr_i C w rfl (fun _ => 0) rfl e1 e2 (Nat.le_of_ble_eq_true rfl) (Nat.le_of_ble_eq_true rfl) dX9_passagePlate_20

theorem dX9_passageAxles_0 : decode cX9_passageAxles 0 = .ok (.aload_n 0, 1) := by decide +kernel
theorem dX9_passageAxles_1 : decode cX9_passageAxles 1 = .ok (.iload_n 1, 1) := by decide +kernel
theorem dX9_passageAxles_2 : decode cX9_passageAxles 2 = .ok (.invokevirtual 125, 3) := by decide +kernel
theorem dX9_passageAxles_5 : decode cX9_passageAxles 5 = .ok (.aload_n 0, 1) := by decide +kernel
theorem dX9_passageAxles_6 : decode cX9_passageAxles 6 = .ok (.getfield 40, 3) := by decide +kernel
theorem dX9_passageAxles_9 : decode cX9_passageAxles 9 = .ok (.getfield 116, 3) := by decide +kernel
theorem dX9_passageAxles_12 : decode cX9_passageAxles 12 = .ok (.iload_n 1, 1) := by decide +kernel
theorem dX9_passageAxles_13 : decode cX9_passageAxles 13 = .ok (.invokevirtual 142, 3) := by decide +kernel
theorem dX9_passageAxles_16 : decode cX9_passageAxles 16 = .ok (.ireturn, 1) := by decide +kernel
abbrev m_X9_passageAxles : MD := (yX9_passageAxles, cX9_passageAxles, 2, (some .int))
theorem k_X9_142 : LkN RX9 142 m_X6_axlesOf 1 := ⟨⟨"FreeFlowToll", nw_t 896 (by decide +kernel) rfl⟩, q_434, qs_8, ⟨q_7, q_435, by decide, by decide, by decide +kernel⟩⟩
abbrev w_X9_passageAxles (g : GT) (h0 h1 h2 h3 h4 : Nat) (v0_0 v0_1 v0_2 v0_3 v0_5 v0_6 v1_1 v2_1 v2_2 v2_3 v2_4 v2_5 v2_6 v2_8 v2_9 v2_10 v2_11 : Value) (count2 : Int32) (axleReadings3 handAxles4 : Nat → Int32) : va_W := [(h0, .inr (9, [v0_0, v0_1, v0_2, v0_3, .ref h1, v0_5, v0_6])), (h1, .inr (3, [.ref h2, v1_1])), (h2, .inr (6, [.int count2, v2_1, v2_2, v2_3, v2_4, v2_5, v2_6, .ref h4, v2_8, v2_9, v2_10, v2_11, .ref h3])), (h3, aI g 640 axleReadings3), (h4, aI g 80 handAxles4)]
def f_X9_passageAxles (F : Nat) (p1 count2 : Int32) (axleReadings3 handAxles4 : Nat → Int32) : Option (Nat × Int32) :=
  bd1 (f_X9_requirePassage F p1 count2) fun x1 =>
  if x1 ≠ 0 then some (x1, 0) else
  bd1 (f_X6_axlesOf F p1 axleReadings3 handAxles4) fun r4 =>
  some (0, r4)
set_option maxHeartbeats 4000000 in
set_option maxRecDepth 100000 in
theorem c_X9_passageAxles (l : Launch) (g : GT) (F : Nat) (h0 h1 h2 h3 h4 : Nat) (v0_0 v0_1 v0_2 v0_3 v0_5 v0_6 v1_1 v2_1 v2_2 v2_3 v2_4 v2_5 v2_6 v2_8 v2_9 v2_10 v2_11 : Value) (p1 count2 : Int32) (axleReadings3 handAxles4 : Nat → Int32) (x : Nat) (r : Int32) (hst : l.stackTraces = false) (sz : Nat) (hf : f_X9_passageAxles F p1 count2 axleReadings3 handAxles4 = some (x, r)) : XI l m_X9_passageAxles (rml 2 1 6) g (w_X9_passageAxles g h0 h1 h2 h3 h4 v0_0 v0_1 v0_2 v0_3 v0_5 v0_6 v1_1 v2_1 v2_2 v2_3 v2_4 v2_5 v2_6 v2_8 v2_9 v2_10 v2_11 count2 axleReadings3 handAxles4) (fun _ => w_X9_passageAxles g h0 h1 h2 h3 h4 v0_0 v0_1 v0_2 v0_3 v0_5 v0_6 v1_1 v2_1 v2_2 v2_3 v2_4 v2_5 v2_6 v2_8 v2_9 v2_10 v2_11 count2 axleReadings3 handAxles4) sz [.ref h0, .int p1] x r := by
  refine ex_i (by decide) (Nat.le_of_ble_eq_true rfl) (fun p e s m args below meth c A ls ht C w hl => ?_)
  have C : Cx p s m args meth c RX9 m_X9_passageAxles g A := C
  have hx := C.1
  have hb : c.code = cX9_passageAxles := C.2.1
  have hl : lv_has ls 2 [(0, .ref h0), (1, .int p1)] := hl
  obtain ⟨Q, hQ⟩ : ∃ Q, Q = QXI below args s g A (fun _ => w_X9_passageAxles g h0 h1 h2 h3 h4 v0_0 v0_1 v0_2 v0_3 v0_5 v0_6 v1_1 v2_1 v2_2 v2_3 v2_4 v2_5 v2_6 v2_8 v2_9 v2_10 v2_11 count2 axleReadings3 handAxles4) x r 1 6 := ⟨_, rfl⟩
  suffices hW : W p l e (rml 2 1 6) s m args below meth c s.heap [] 0 0 Q (F0 m 0 ls []) from (by rw [hQ] at hW; exact hW)
  unfold f_X9_passageAxles at hf
  refine lv_aload_n hx hb dX9_passageAxles_0 rfl (lv_at hl 0 rfl) ?_
  refine lv_iload_n hx hb dX9_passageAxles_1 rfl (lv_at hl 1 rfl) ?_
  obtain ⟨x1, hc2, hf⟩ := bd1_some hf
  refine cx_vV C w (wn := fun _ => w_X9_passageAxles g h0 h1 h2 h3 h4 v0_0 v0_1 v0_2 v0_3 v0_5 v0_6 v1_1 v2_1 v2_2 v2_3 v2_4 v2_5 v2_6 v2_8 v2_9 v2_10 v2_11 count2 axleReadings3 handAxles4) (pm_k [true, true, true, false, false] rfl rfl (fun _ => Nat.le_of_ble_eq_true rfl) (fun _ => rfl)) (c_X9_requirePassage l g F h0 h1 h2 v0_0 v0_1 v0_2 v0_3 v0_5 v0_6 v1_1 v2_1 v2_2 v2_3 v2_4 v2_5 v2_6 (.ref h4) v2_8 v2_9 v2_10 v2_11 (.ref h3) p1 count2 x1 hst _ hc2) k_X9_125 (rm_le (by decide) (by decide)) 0 9 rfl rfl rfl rfl hl.1 rfl (Nat.le_of_ble_eq_true rfl) dX9_passageAxles_2 ⟨Nat.le_of_ble_eq_true rfl, Nat.le_of_ble_eq_true rfl⟩ (cells2 := 1) (slots2 := 6) ⟨rfl, rfl⟩ (fun n3 _ H locs w q9 ce h1 h2 h3 => ?_) (fun n3 _ H locs w => ?_)
  · replace hf := it_t n3 hf
    obtain ⟨e1, e2⟩ := tp2 hf
    rw [hQ]
    exact xo C ht w (fun _ => 0) rfl e1 n3 h1 h2 h3 (Nat.le_of_ble_eq_true rfl) (Nat.le_of_ble_eq_true rfl)
  replace hf := it_f (fun h => h n3) hf
  refine lv_aload_n hx hb dX9_passageAxles_5 rfl (lv_at hl 0 rfl) ?_
  refine g_X9_40 C w 0 rfl rfl dX9_passageAxles_6 ?_
  refine g_X9_116 C w 1 rfl rfl dX9_passageAxles_9 ?_
  refine lv_iload_n hx hb dX9_passageAxles_12 rfl (lv_at hl 1 rfl) ?_
  obtain ⟨r4, hc5, hf⟩ := bd1_some hf
  refine ca_iN C w (wn := fun _ => w_X9_passageAxles g h0 h1 h2 h3 h4 v0_0 v0_1 v0_2 v0_3 v0_5 v0_6 v1_1 v2_1 v2_2 v2_3 v2_4 v2_5 v2_6 v2_8 v2_9 v2_10 v2_11 count2 axleReadings3 handAxles4) (pm_k [false, false, true, true, true] rfl rfl (fun _ => Nat.le_of_ble_eq_true rfl) (fun _ => rfl)) (c_X6_axlesOf l g F h2 h3 h4 (.int count2) v2_1 v2_2 v2_3 v2_4 v2_5 v2_6 v2_8 v2_9 v2_10 v2_11 p1 axleReadings3 handAxles4 r4 _ hc5) k_X9_142 (rm_le (by decide) (by decide)) 2 6 rfl rfl rfl rfl hl.1 rfl (Nat.le_of_ble_eq_true rfl) dX9_passageAxles_13 ⟨Nat.le_of_ble_eq_true rfl, Nat.le_of_ble_eq_true rfl⟩ (cells2 := 1) (slots2 := 6) ⟨rfl, rfl⟩ (fun _ H locs w => ?_)
  obtain ⟨e1, e2⟩ := tp2 hf
  rw [hQ]
  exact xr_i C w rfl (fun _ => 0) rfl e1 e2 (Nat.le_of_ble_eq_true rfl) (Nat.le_of_ble_eq_true rfl) dX9_passageAxles_16

theorem dX9_votes_0 : decode cX9_votes 0 = .ok (.aload_n 0, 1) := by decide +kernel
theorem dX9_votes_1 : decode cX9_votes 1 = .ok (.iload_n 1, 1) := by decide +kernel
theorem dX9_votes_2 : decode cX9_votes 2 = .ok (.invokevirtual 125, 3) := by decide +kernel
theorem dX9_votes_5 : decode cX9_votes 5 = .ok (.aload_n 0, 1) := by decide +kernel
theorem dX9_votes_6 : decode cX9_votes 6 = .ok (.getfield 40, 3) := by decide +kernel
theorem dX9_votes_9 : decode cX9_votes 9 = .ok (.getfield 116, 3) := by decide +kernel
theorem dX9_votes_12 : decode cX9_votes 12 = .ok (.iload_n 1, 1) := by decide +kernel
theorem dX9_votes_13 : decode cX9_votes 13 = .ok (.iload_n 2, 1) := by decide +kernel
theorem dX9_votes_14 : decode cX9_votes 14 = .ok (.invokevirtual 145, 3) := by decide +kernel
theorem dX9_votes_17 : decode cX9_votes 17 = .ok (.ireturn, 1) := by decide +kernel
abbrev m_X9_votes : MD := (yX9_votes, cX9_votes, 3, (some .int))
theorem q_907 : Cond.code yX6_sumFor cX6_sumFor 4 (some .int) ∈ TS := ts_t 907 (by decide +kernel) (by decide +kernel)
theorem q_906 : Cond.instanceMethod yX6_sumFor ∈ TS := ts_t 906 (by decide +kernel) (by decide +kernel)
theorem qs_59 : Cond.selects yX6_sumFor.cls yX6_sumFor yX6_sumFor ∈ TS := ts_s 59 (by decide +kernel) (by decide +kernel)
theorem k_X9_145 : LkN RX9 145 m_X6_sumFor 2 := ⟨⟨"FreeFlowToll", nw_t 904 (by decide +kernel) rfl⟩, q_906, qs_59, ⟨q_7, q_907, by decide, by decide, by decide +kernel⟩⟩
abbrev w_X9_votes (g : GT) (h0 h1 h2 h3 h4 : Nat) (v0_0 v0_1 v0_2 v0_3 v0_5 v0_6 v1_1 v2_1 v2_2 v2_3 v2_4 v2_5 v2_6 v2_7 v2_8 v2_9 v2_12 : Value) (count2 : Int32) (plateSums3 readPlates4 : Nat → Int32) : va_W := [(h0, .inr (9, [v0_0, v0_1, v0_2, v0_3, .ref h1, v0_5, v0_6])), (h1, .inr (3, [.ref h2, v1_1])), (h2, .inr (6, [.int count2, v2_1, v2_2, v2_3, v2_4, v2_5, v2_6, v2_7, v2_8, v2_9, .ref h4, .ref h3, v2_12])), (h3, aI g 320 plateSums3), (h4, aI g 320 readPlates4)]
def f_X9_votes (F : Nat) (p1 p2 count2 : Int32) (plateSums3 readPlates4 : Nat → Int32) : Option (Nat × Int32) :=
  bd1 (f_X9_requirePassage F p1 count2) fun x1 =>
  if x1 ≠ 0 then some (x1, 0) else
  bd1 (f_X6_sumFor F p1 p2 plateSums3 readPlates4) fun r4 =>
  some (0, r4)
set_option maxHeartbeats 4000000 in
set_option maxRecDepth 100000 in
theorem c_X9_votes (l : Launch) (g : GT) (F : Nat) (h0 h1 h2 h3 h4 : Nat) (v0_0 v0_1 v0_2 v0_3 v0_5 v0_6 v1_1 v2_1 v2_2 v2_3 v2_4 v2_5 v2_6 v2_7 v2_8 v2_9 v2_12 : Value) (p1 p2 count2 : Int32) (plateSums3 readPlates4 : Nat → Int32) (x : Nat) (r : Int32) (hst : l.stackTraces = false) (sz : Nat) (hf : f_X9_votes F p1 p2 count2 plateSums3 readPlates4 = some (x, r)) : XI l m_X9_votes (rml 2 1 6) g (w_X9_votes g h0 h1 h2 h3 h4 v0_0 v0_1 v0_2 v0_3 v0_5 v0_6 v1_1 v2_1 v2_2 v2_3 v2_4 v2_5 v2_6 v2_7 v2_8 v2_9 v2_12 count2 plateSums3 readPlates4) (fun _ => w_X9_votes g h0 h1 h2 h3 h4 v0_0 v0_1 v0_2 v0_3 v0_5 v0_6 v1_1 v2_1 v2_2 v2_3 v2_4 v2_5 v2_6 v2_7 v2_8 v2_9 v2_12 count2 plateSums3 readPlates4) sz [.ref h0, .int p1, .int p2] x r := by
  refine ex_i (by decide) (Nat.le_of_ble_eq_true rfl) (fun p e s m args below meth c A ls ht C w hl => ?_)
  have C : Cx p s m args meth c RX9 m_X9_votes g A := C
  have hx := C.1
  have hb : c.code = cX9_votes := C.2.1
  have hl : lv_has ls 3 [(0, .ref h0), (1, .int p1), (2, .int p2)] := hl
  obtain ⟨Q, hQ⟩ : ∃ Q, Q = QXI below args s g A (fun _ => w_X9_votes g h0 h1 h2 h3 h4 v0_0 v0_1 v0_2 v0_3 v0_5 v0_6 v1_1 v2_1 v2_2 v2_3 v2_4 v2_5 v2_6 v2_7 v2_8 v2_9 v2_12 count2 plateSums3 readPlates4) x r 1 6 := ⟨_, rfl⟩
  suffices hW : W p l e (rml 2 1 6) s m args below meth c s.heap [] 0 0 Q (F0 m 0 ls []) from (by rw [hQ] at hW; exact hW)
  unfold f_X9_votes at hf
  refine lv_aload_n hx hb dX9_votes_0 rfl (lv_at hl 0 rfl) ?_
  refine lv_iload_n hx hb dX9_votes_1 rfl (lv_at hl 1 rfl) ?_
  obtain ⟨x1, hc2, hf⟩ := bd1_some hf
  refine cx_vV C w (wn := fun _ => w_X9_votes g h0 h1 h2 h3 h4 v0_0 v0_1 v0_2 v0_3 v0_5 v0_6 v1_1 v2_1 v2_2 v2_3 v2_4 v2_5 v2_6 v2_7 v2_8 v2_9 v2_12 count2 plateSums3 readPlates4) (pm_k [true, true, true, false, false] rfl rfl (fun _ => Nat.le_of_ble_eq_true rfl) (fun _ => rfl)) (c_X9_requirePassage l g F h0 h1 h2 v0_0 v0_1 v0_2 v0_3 v0_5 v0_6 v1_1 v2_1 v2_2 v2_3 v2_4 v2_5 v2_6 v2_7 v2_8 v2_9 (.ref h4) (.ref h3) v2_12 p1 count2 x1 hst _ hc2) k_X9_125 (rm_le (by decide) (by decide)) 0 9 rfl rfl rfl rfl hl.1 rfl (Nat.le_of_ble_eq_true rfl) dX9_votes_2 ⟨Nat.le_of_ble_eq_true rfl, Nat.le_of_ble_eq_true rfl⟩ (cells2 := 1) (slots2 := 6) ⟨rfl, rfl⟩ (fun n3 _ H locs w q9 ce h1 h2 h3 => ?_) (fun n3 _ H locs w => ?_)
  · replace hf := it_t n3 hf
    obtain ⟨e1, e2⟩ := tp2 hf
    rw [hQ]
    exact xo C ht w (fun _ => 0) rfl e1 n3 h1 h2 h3 (Nat.le_of_ble_eq_true rfl) (Nat.le_of_ble_eq_true rfl)
  replace hf := it_f (fun h => h n3) hf
  refine lv_aload_n hx hb dX9_votes_5 rfl (lv_at hl 0 rfl) ?_
  refine g_X9_40 C w 0 rfl rfl dX9_votes_6 ?_
  refine g_X9_116 C w 1 rfl rfl dX9_votes_9 ?_
  refine lv_iload_n hx hb dX9_votes_12 rfl (lv_at hl 1 rfl) ?_
  refine lv_iload_n hx hb dX9_votes_13 rfl (lv_at hl 2 rfl) ?_
  obtain ⟨r4, hc5, hf⟩ := bd1_some hf
  refine ca_iN C w (wn := fun _ => w_X9_votes g h0 h1 h2 h3 h4 v0_0 v0_1 v0_2 v0_3 v0_5 v0_6 v1_1 v2_1 v2_2 v2_3 v2_4 v2_5 v2_6 v2_7 v2_8 v2_9 v2_12 count2 plateSums3 readPlates4) (pm_k [false, false, true, true, true] rfl rfl (fun _ => Nat.le_of_ble_eq_true rfl) (fun _ => rfl)) (c_X6_sumFor l g F h2 h3 h4 (.int count2) v2_1 v2_2 v2_3 v2_4 v2_5 v2_6 v2_7 v2_8 v2_9 v2_12 p1 p2 plateSums3 readPlates4 r4 _ hc5) k_X9_145 (rm_le (by decide) (by decide)) 2 6 rfl rfl rfl rfl hl.1 rfl (Nat.le_of_ble_eq_true rfl) dX9_votes_14 ⟨Nat.le_of_ble_eq_true rfl, Nat.le_of_ble_eq_true rfl⟩ (cells2 := 1) (slots2 := 6) ⟨rfl, rfl⟩ (fun _ H locs w => ?_)
  obtain ⟨e1, e2⟩ := tp2 hf
  rw [hQ]
  exact xr_i C w rfl (fun _ => 0) rfl e1 e2 (Nat.le_of_ble_eq_true rfl) (Nat.le_of_ble_eq_true rfl) dX9_votes_17

theorem dX9_exceptions_0 : decode cX9_exceptions 0 = .ok (.aload_n 0, 1) := by decide +kernel
theorem dX9_exceptions_1 : decode cX9_exceptions 1 = .ok (.iload_n 1, 1) := by decide +kernel
theorem dX9_exceptions_2 : decode cX9_exceptions 2 = .ok (.invokevirtual 125, 3) := by decide +kernel
theorem dX9_exceptions_5 : decode cX9_exceptions 5 = .ok (.aload_n 0, 1) := by decide +kernel
theorem dX9_exceptions_6 : decode cX9_exceptions 6 = .ok (.getfield 40, 3) := by decide +kernel
theorem dX9_exceptions_9 : decode cX9_exceptions 9 = .ok (.getfield 116, 3) := by decide +kernel
theorem dX9_exceptions_12 : decode cX9_exceptions 12 = .ok (.iload_n 1, 1) := by decide +kernel
theorem dX9_exceptions_13 : decode cX9_exceptions 13 = .ok (.aload_n 0, 1) := by decide +kernel
theorem dX9_exceptions_14 : decode cX9_exceptions 14 = .ok (.getfield 12, 3) := by decide +kernel
theorem dX9_exceptions_17 : decode cX9_exceptions 17 = .ok (.invokevirtual 149, 3) := by decide +kernel
theorem dX9_exceptions_20 : decode cX9_exceptions 20 = .ok (.ireturn, 1) := by decide +kernel
abbrev m_X9_exceptions : MD := (yX9_exceptions, cX9_exceptions, 2, (some .int))
theorem k_X9_149 : LkN RX9 149 m_X6_exceptionsOf 2 := ⟨⟨"FreeFlowToll", nw_t 915 (by decide +kernel) rfl⟩, q_414, qs_3, ⟨q_7, q_415, by decide, by decide, by decide +kernel⟩⟩
abbrev w_X9_exceptions (g : GT) (h0 h1 h2 h3 h4 h5 h6 h7 h8 h9 h10 h11 h12 : Nat) (v0_1 v0_2 v0_3 v0_5 v0_6 v1_1 v2_1 v2_2 v2_3 v2_4 v2_8 v2_9 v9_0 v9_1 v9_4 v9_6 v9_7 v9_8 v9_10 : Value) (count2 : Int32) (axleReadings3 handAxles4 handPlate5 plateSums6 readPlates7 tag8 : Nat → Int32) (classes9 tags9 confidence9 : Int32) (classAxles10 tagAxles11 tagPlate12 : Nat → Int32) : va_W := [(h0, .inr (9, [.ref h9, v0_1, v0_2, v0_3, .ref h1, v0_5, v0_6])), (h1, .inr (3, [.ref h2, v1_1])), (h2, .inr (6, [.int count2, v2_1, v2_2, v2_3, v2_4, .ref h8, .ref h5, .ref h4, v2_8, v2_9, .ref h7, .ref h6, .ref h3])), (h3, aI g 640 axleReadings3), (h4, aI g 80 handAxles4), (h5, aI g 80 handPlate5), (h6, aI g 320 plateSums6), (h7, aI g 320 readPlates7), (h8, aI g 80 tag8), (h9, .inr (4, [v9_0, v9_1, .int classes9, .int tags9, v9_4, .int confidence9, v9_6, v9_7, v9_8, .ref h10, v9_10, .ref h12, .ref h11])), (h10, aI g 4 classAxles10), (h11, aI g 12 tagAxles11), (h12, aI g 12 tagPlate12)]
def f_X9_exceptions (F : Nat) (p1 count2 : Int32) (axleReadings3 handAxles4 handPlate5 plateSums6 readPlates7 tag8 : Nat → Int32) (classes9 tags9 confidence9 : Int32) (classAxles10 tagAxles11 tagPlate12 : Nat → Int32) : Option (Nat × Int32) :=
  bd1 (f_X9_requirePassage F p1 count2) fun x1 =>
  if x1 ≠ 0 then some (x1, 0) else
  bd1 (f_X6_exceptionsOf F p1 axleReadings3 handAxles4 handPlate5 plateSums6 readPlates7 tag8 classes9 tags9 confidence9 classAxles10 tagAxles11 tagPlate12) fun r4 =>
  some (0, r4)
set_option maxHeartbeats 4000000 in
set_option maxRecDepth 100000 in
theorem c_X9_exceptions (l : Launch) (g : GT) (F : Nat) (h0 h1 h2 h3 h4 h5 h6 h7 h8 h9 h10 h11 h12 : Nat) (v0_1 v0_2 v0_3 v0_5 v0_6 v1_1 v2_1 v2_2 v2_3 v2_4 v2_8 v2_9 v9_0 v9_1 v9_4 v9_6 v9_7 v9_8 v9_10 : Value) (p1 count2 : Int32) (axleReadings3 handAxles4 handPlate5 plateSums6 readPlates7 tag8 : Nat → Int32) (classes9 tags9 confidence9 : Int32) (classAxles10 tagAxles11 tagPlate12 : Nat → Int32) (x : Nat) (r : Int32) (hst : l.stackTraces = false) (sz : Nat) (hf : f_X9_exceptions F p1 count2 axleReadings3 handAxles4 handPlate5 plateSums6 readPlates7 tag8 classes9 tags9 confidence9 classAxles10 tagAxles11 tagPlate12 = some (x, r)) : XI l m_X9_exceptions (rml 4 1 6) g (w_X9_exceptions g h0 h1 h2 h3 h4 h5 h6 h7 h8 h9 h10 h11 h12 v0_1 v0_2 v0_3 v0_5 v0_6 v1_1 v2_1 v2_2 v2_3 v2_4 v2_8 v2_9 v9_0 v9_1 v9_4 v9_6 v9_7 v9_8 v9_10 count2 axleReadings3 handAxles4 handPlate5 plateSums6 readPlates7 tag8 classes9 tags9 confidence9 classAxles10 tagAxles11 tagPlate12) (fun _ => w_X9_exceptions g h0 h1 h2 h3 h4 h5 h6 h7 h8 h9 h10 h11 h12 v0_1 v0_2 v0_3 v0_5 v0_6 v1_1 v2_1 v2_2 v2_3 v2_4 v2_8 v2_9 v9_0 v9_1 v9_4 v9_6 v9_7 v9_8 v9_10 count2 axleReadings3 handAxles4 handPlate5 plateSums6 readPlates7 tag8 classes9 tags9 confidence9 classAxles10 tagAxles11 tagPlate12) sz [.ref h0, .int p1] x r := by
  refine ex_i (by decide) (Nat.le_of_ble_eq_true rfl) (fun p e s m args below meth c A ls ht C w hl => ?_)
  have C : Cx p s m args meth c RX9 m_X9_exceptions g A := C
  have hx := C.1
  have hb : c.code = cX9_exceptions := C.2.1
  have hl : lv_has ls 2 [(0, .ref h0), (1, .int p1)] := hl
  obtain ⟨Q, hQ⟩ : ∃ Q, Q = QXI below args s g A (fun _ => w_X9_exceptions g h0 h1 h2 h3 h4 h5 h6 h7 h8 h9 h10 h11 h12 v0_1 v0_2 v0_3 v0_5 v0_6 v1_1 v2_1 v2_2 v2_3 v2_4 v2_8 v2_9 v9_0 v9_1 v9_4 v9_6 v9_7 v9_8 v9_10 count2 axleReadings3 handAxles4 handPlate5 plateSums6 readPlates7 tag8 classes9 tags9 confidence9 classAxles10 tagAxles11 tagPlate12) x r 1 6 := ⟨_, rfl⟩
  suffices hW : W p l e (rml 4 1 6) s m args below meth c s.heap [] 0 0 Q (F0 m 0 ls []) from (by rw [hQ] at hW; exact hW)
  unfold f_X9_exceptions at hf
  refine lv_aload_n hx hb dX9_exceptions_0 rfl (lv_at hl 0 rfl) ?_
  refine lv_iload_n hx hb dX9_exceptions_1 rfl (lv_at hl 1 rfl) ?_
  obtain ⟨x1, hc2, hf⟩ := bd1_some hf
  refine cx_vV C w (wn := fun _ => w_X9_exceptions g h0 h1 h2 h3 h4 h5 h6 h7 h8 h9 h10 h11 h12 v0_1 v0_2 v0_3 v0_5 v0_6 v1_1 v2_1 v2_2 v2_3 v2_4 v2_8 v2_9 v9_0 v9_1 v9_4 v9_6 v9_7 v9_8 v9_10 count2 axleReadings3 handAxles4 handPlate5 plateSums6 readPlates7 tag8 classes9 tags9 confidence9 classAxles10 tagAxles11 tagPlate12) (pm_k [true, true, true, false, false, false, false, false, false, false, false, false, false] rfl rfl (fun _ => Nat.le_of_ble_eq_true rfl) (fun _ => rfl)) (c_X9_requirePassage l g F h0 h1 h2 (.ref h9) v0_1 v0_2 v0_3 v0_5 v0_6 v1_1 v2_1 v2_2 v2_3 v2_4 (.ref h8) (.ref h5) (.ref h4) v2_8 v2_9 (.ref h7) (.ref h6) (.ref h3) p1 count2 x1 hst _ hc2) k_X9_125 (rm_le (by decide) (by decide)) 0 9 rfl rfl rfl rfl hl.1 rfl (Nat.le_of_ble_eq_true rfl) dX9_exceptions_2 ⟨Nat.le_of_ble_eq_true rfl, Nat.le_of_ble_eq_true rfl⟩ (cells2 := 1) (slots2 := 6) ⟨rfl, rfl⟩ (fun n3 _ H locs w q9 ce h1 h2 h3 => ?_) (fun n3 _ H locs w => ?_)
  · replace hf := it_t n3 hf
    obtain ⟨e1, e2⟩ := tp2 hf
    rw [hQ]
    exact xo C ht w (fun _ => 0) rfl e1 n3 h1 h2 h3 (Nat.le_of_ble_eq_true rfl) (Nat.le_of_ble_eq_true rfl)
  replace hf := it_f (fun h => h n3) hf
  refine lv_aload_n hx hb dX9_exceptions_5 rfl (lv_at hl 0 rfl) ?_
  refine g_X9_40 C w 0 rfl rfl dX9_exceptions_6 ?_
  refine g_X9_116 C w 1 rfl rfl dX9_exceptions_9 ?_
  refine lv_iload_n hx hb dX9_exceptions_12 rfl (lv_at hl 1 rfl) ?_
  refine lv_aload_n hx hb dX9_exceptions_13 rfl (lv_at hl 0 rfl) ?_
  refine g_X9_12 C w 0 rfl rfl dX9_exceptions_14 ?_
  obtain ⟨r4, hc5, hf⟩ := bd1_some hf
  refine ca_iN C w (wn := fun _ => w_X9_exceptions g h0 h1 h2 h3 h4 h5 h6 h7 h8 h9 h10 h11 h12 v0_1 v0_2 v0_3 v0_5 v0_6 v1_1 v2_1 v2_2 v2_3 v2_4 v2_8 v2_9 v9_0 v9_1 v9_4 v9_6 v9_7 v9_8 v9_10 count2 axleReadings3 handAxles4 handPlate5 plateSums6 readPlates7 tag8 classes9 tags9 confidence9 classAxles10 tagAxles11 tagPlate12) (pm_k [false, false, true, true, true, true, true, true, true, true, true, true, true] rfl rfl (fun _ => Nat.le_of_ble_eq_true rfl) (fun _ => rfl)) (c_X6_exceptionsOf l g F h2 h3 h4 h5 h6 h7 h8 h9 h10 h11 h12 (.int count2) v2_1 v2_2 v2_3 v2_4 v2_8 v2_9 v9_0 v9_1 v9_4 v9_6 v9_7 v9_8 v9_10 p1 axleReadings3 handAxles4 handPlate5 plateSums6 readPlates7 tag8 classes9 tags9 confidence9 classAxles10 tagAxles11 tagPlate12 r4 _ hc5) k_X9_149 (rm_le (by decide) (by decide)) 2 6 rfl rfl rfl rfl hl.1 rfl (Nat.le_of_ble_eq_true rfl) dX9_exceptions_17 ⟨Nat.le_of_ble_eq_true rfl, Nat.le_of_ble_eq_true rfl⟩ (cells2 := 1) (slots2 := 6) ⟨rfl, rfl⟩ (fun _ H locs w => ?_)
  obtain ⟨e1, e2⟩ := tp2 hf
  rw [hQ]
  exact xr_i C w rfl (fun _ => 0) rfl e1 e2 (Nat.le_of_ble_eq_true rfl) (Nat.le_of_ble_eq_true rfl) dX9_exceptions_20

theorem dX9_passageState_0 : decode cX9_passageState 0 = .ok (.aload_n 0, 1) := by decide +kernel
theorem dX9_passageState_1 : decode cX9_passageState 1 = .ok (.iload_n 1, 1) := by decide +kernel
theorem dX9_passageState_2 : decode cX9_passageState 2 = .ok (.invokevirtual 125, 3) := by decide +kernel
theorem dX9_passageState_5 : decode cX9_passageState 5 = .ok (.aload_n 0, 1) := by decide +kernel
theorem dX9_passageState_6 : decode cX9_passageState 6 = .ok (.getfield 40, 3) := by decide +kernel
theorem dX9_passageState_9 : decode cX9_passageState 9 = .ok (.getfield 116, 3) := by decide +kernel
theorem dX9_passageState_12 : decode cX9_passageState 12 = .ok (.getfield 152, 3) := by decide +kernel
theorem dX9_passageState_15 : decode cX9_passageState 15 = .ok (.iload_n 1, 1) := by decide +kernel
theorem dX9_passageState_16 : decode cX9_passageState 16 = .ok (.iaload, 1) := by decide +kernel
theorem dX9_passageState_17 : decode cX9_passageState 17 = .ok (.ireturn, 1) := by decide +kernel
abbrev m_X9_passageState : MD := (yX9_passageState, cX9_passageState, 2, (some .int))
theorem g_X9_152 {p : Program} {l : Launch} {e : Env} {R : Room} {s : State} {m : MethodId} {args : Array Value} {below : List Frame} {meth : Method} {c : Code} {H : Heap} {locs : List Loc} {cells slots : Nat} {Q : State → Prop} {d : MD} {g : GT} {A : Nat → Prop} {ws : va_W} {pc : Nat} {ls : Array Slot} {rest : List Value} (C : Cx p s m args meth c RX9 d g A) (w : Wd g A ws s.heap H locs) (q0 : Nat) {a : Nat} {fs : List Value} {v : Value} (he : ws[q0]? = some (a, .inr (6, fs))) (hv : fs[8]? = some v) (hd : decode d.2.1 pc = .ok (.getfield 152, 3)) (kk : W p l e R s m args below meth c H locs cells slots Q (F0 m (pc + 3) ls (v :: rest))) : W p l e R s m args below meth c H locs cells slots Q (F0 m pc ls (.ref a :: rest)) := fgN C w inX6s (ref := RX6) rfl 8 (by decide) (nw_t (w := Cond.fieldLinkNest RX9 152 RX6 (TX6 8).2.1 (TX6 8).2.2.1 "FreeFlowToll") 231 (by decide +kernel) rfl) rfl q0 he hv hd kk
abbrev w_X9_passageState (g : GT) (h0 h1 h2 h3 : Nat) (v0_0 v0_1 v0_2 v0_3 v0_5 v0_6 v1_1 v2_1 v2_2 v2_3 v2_4 v2_5 v2_6 v2_7 v2_9 v2_10 v2_11 v2_12 : Value) (count2 : Int32) (state3 : Nat → Int32) : va_W := [(h0, .inr (9, [v0_0, v0_1, v0_2, v0_3, .ref h1, v0_5, v0_6])), (h1, .inr (3, [.ref h2, v1_1])), (h2, .inr (6, [.int count2, v2_1, v2_2, v2_3, v2_4, v2_5, v2_6, v2_7, .ref h3, v2_9, v2_10, v2_11, v2_12])), (h3, aI g 80 state3)]
def f_X9_passageState (F : Nat) (p1 count2 : Int32) (state3 : Nat → Int32) : Option (Nat × Int32) :=
  bd1 (f_X9_requirePassage F p1 count2) fun x1 =>
  if x1 ≠ 0 then some (x1, 0) else
  rd state3 80 p1 fun a4 =>
  some (0, a4)
set_option maxHeartbeats 4000000 in
set_option maxRecDepth 100000 in
theorem c_X9_passageState (l : Launch) (g : GT) (F : Nat) (h0 h1 h2 h3 : Nat) (v0_0 v0_1 v0_2 v0_3 v0_5 v0_6 v1_1 v2_1 v2_2 v2_3 v2_4 v2_5 v2_6 v2_7 v2_9 v2_10 v2_11 v2_12 : Value) (p1 count2 : Int32) (state3 : Nat → Int32) (x : Nat) (r : Int32) (hst : l.stackTraces = false) (sz : Nat) (hf : f_X9_passageState F p1 count2 state3 = some (x, r)) : XI l m_X9_passageState (rml 2 1 6) g (w_X9_passageState g h0 h1 h2 h3 v0_0 v0_1 v0_2 v0_3 v0_5 v0_6 v1_1 v2_1 v2_2 v2_3 v2_4 v2_5 v2_6 v2_7 v2_9 v2_10 v2_11 v2_12 count2 state3) (fun _ => w_X9_passageState g h0 h1 h2 h3 v0_0 v0_1 v0_2 v0_3 v0_5 v0_6 v1_1 v2_1 v2_2 v2_3 v2_4 v2_5 v2_6 v2_7 v2_9 v2_10 v2_11 v2_12 count2 state3) sz [.ref h0, .int p1] x r := by
  refine ex_i (by decide) (Nat.le_of_ble_eq_true rfl) (fun p e s m args below meth c A ls ht C w hl => ?_)
  have C : Cx p s m args meth c RX9 m_X9_passageState g A := C
  have hx := C.1
  have hb : c.code = cX9_passageState := C.2.1
  have hl : lv_has ls 2 [(0, .ref h0), (1, .int p1)] := hl
  obtain ⟨Q, hQ⟩ : ∃ Q, Q = QXI below args s g A (fun _ => w_X9_passageState g h0 h1 h2 h3 v0_0 v0_1 v0_2 v0_3 v0_5 v0_6 v1_1 v2_1 v2_2 v2_3 v2_4 v2_5 v2_6 v2_7 v2_9 v2_10 v2_11 v2_12 count2 state3) x r 1 6 := ⟨_, rfl⟩
  suffices hW : W p l e (rml 2 1 6) s m args below meth c s.heap [] 0 0 Q (F0 m 0 ls []) from (by rw [hQ] at hW; exact hW)
  unfold f_X9_passageState at hf
  refine lv_aload_n hx hb dX9_passageState_0 rfl (lv_at hl 0 rfl) ?_
  refine lv_iload_n hx hb dX9_passageState_1 rfl (lv_at hl 1 rfl) ?_
  obtain ⟨x1, hc2, hf⟩ := bd1_some hf
  refine cx_vV C w (wn := fun _ => w_X9_passageState g h0 h1 h2 h3 v0_0 v0_1 v0_2 v0_3 v0_5 v0_6 v1_1 v2_1 v2_2 v2_3 v2_4 v2_5 v2_6 v2_7 v2_9 v2_10 v2_11 v2_12 count2 state3) (pm_k [true, true, true, false] rfl rfl (fun _ => Nat.le_of_ble_eq_true rfl) (fun _ => rfl)) (c_X9_requirePassage l g F h0 h1 h2 v0_0 v0_1 v0_2 v0_3 v0_5 v0_6 v1_1 v2_1 v2_2 v2_3 v2_4 v2_5 v2_6 v2_7 (.ref h3) v2_9 v2_10 v2_11 v2_12 p1 count2 x1 hst _ hc2) k_X9_125 (rm_le (by decide) (by decide)) 0 9 rfl rfl rfl rfl hl.1 rfl (Nat.le_of_ble_eq_true rfl) dX9_passageState_2 ⟨Nat.le_of_ble_eq_true rfl, Nat.le_of_ble_eq_true rfl⟩ (cells2 := 1) (slots2 := 6) ⟨rfl, rfl⟩ (fun n3 _ H locs w q9 ce h1 h2 h3 => ?_) (fun n3 _ H locs w => ?_)
  · replace hf := it_t n3 hf
    obtain ⟨e1, e2⟩ := tp2 hf
    rw [hQ]
    exact xo C ht w (fun _ => 0) rfl e1 n3 h1 h2 h3 (Nat.le_of_ble_eq_true rfl) (Nat.le_of_ble_eq_true rfl)
  replace hf := it_f (fun h => h n3) hf
  refine lv_aload_n hx hb dX9_passageState_5 rfl (lv_at hl 0 rfl) ?_
  refine g_X9_40 C w 0 rfl rfl dX9_passageState_6 ?_
  refine g_X9_116 C w 1 rfl rfl dX9_passageState_9 ?_
  refine g_X9_152 C w 2 rfl rfl dX9_passageState_12 ?_
  refine lv_iload_n hx hb dX9_passageState_15 rfl (lv_at hl 1 rfl) ?_
  obtain ⟨a4, hia4, haa4, hf⟩ := rd_some hf
  refine ial C w 3 rfl hia4 haa4 dX9_passageState_16 ?_
  obtain ⟨e1, e2⟩ := tp2 hf
  rw [hQ]
  exact xr_i C w rfl (fun _ => 0) rfl e1 e2 (Nat.le_of_ble_eq_true rfl) (Nat.le_of_ble_eq_true rfl) dX9_passageState_17

theorem dX9_tripOf_0 : decode cX9_tripOf 0 = .ok (.aload_n 0, 1) := by decide +kernel
theorem dX9_tripOf_1 : decode cX9_tripOf 1 = .ok (.iload_n 1, 1) := by decide +kernel
theorem dX9_tripOf_2 : decode cX9_tripOf 2 = .ok (.invokevirtual 125, 3) := by decide +kernel
theorem dX9_tripOf_5 : decode cX9_tripOf 5 = .ok (.aload_n 0, 1) := by decide +kernel
theorem dX9_tripOf_6 : decode cX9_tripOf 6 = .ok (.getfield 40, 3) := by decide +kernel
theorem dX9_tripOf_9 : decode cX9_tripOf 9 = .ok (.getfield 116, 3) := by decide +kernel
theorem dX9_tripOf_12 : decode cX9_tripOf 12 = .ok (.getfield 155, 3) := by decide +kernel
theorem dX9_tripOf_15 : decode cX9_tripOf 15 = .ok (.iload_n 1, 1) := by decide +kernel
theorem dX9_tripOf_16 : decode cX9_tripOf 16 = .ok (.iaload, 1) := by decide +kernel
theorem dX9_tripOf_17 : decode cX9_tripOf 17 = .ok (.ireturn, 1) := by decide +kernel
abbrev m_X9_tripOf : MD := (yX9_tripOf, cX9_tripOf, 2, (some .int))
theorem g_X9_155 {p : Program} {l : Launch} {e : Env} {R : Room} {s : State} {m : MethodId} {args : Array Value} {below : List Frame} {meth : Method} {c : Code} {H : Heap} {locs : List Loc} {cells slots : Nat} {Q : State → Prop} {d : MD} {g : GT} {A : Nat → Prop} {ws : va_W} {pc : Nat} {ls : Array Slot} {rest : List Value} (C : Cx p s m args meth c RX9 d g A) (w : Wd g A ws s.heap H locs) (q0 : Nat) {a : Nat} {fs : List Value} {v : Value} (he : ws[q0]? = some (a, .inr (6, fs))) (hv : fs[9]? = some v) (hd : decode d.2.1 pc = .ok (.getfield 155, 3)) (kk : W p l e R s m args below meth c H locs cells slots Q (F0 m (pc + 3) ls (v :: rest))) : W p l e R s m args below meth c H locs cells slots Q (F0 m pc ls (.ref a :: rest)) := fgN C w inX6s (ref := RX6) rfl 9 (by decide) (nw_t (w := Cond.fieldLinkNest RX9 155 RX6 (TX6 9).2.1 (TX6 9).2.2.1 "FreeFlowToll") 234 (by decide +kernel) rfl) rfl q0 he hv hd kk
abbrev w_X9_tripOf (g : GT) (h0 h1 h2 h3 : Nat) (v0_0 v0_1 v0_2 v0_3 v0_5 v0_6 v1_1 v2_1 v2_2 v2_3 v2_4 v2_5 v2_6 v2_7 v2_8 v2_10 v2_11 v2_12 : Value) (count2 : Int32) (trip3 : Nat → Int32) : va_W := [(h0, .inr (9, [v0_0, v0_1, v0_2, v0_3, .ref h1, v0_5, v0_6])), (h1, .inr (3, [.ref h2, v1_1])), (h2, .inr (6, [.int count2, v2_1, v2_2, v2_3, v2_4, v2_5, v2_6, v2_7, v2_8, .ref h3, v2_10, v2_11, v2_12])), (h3, aI g 80 trip3)]
def f_X9_tripOf (F : Nat) (p1 count2 : Int32) (trip3 : Nat → Int32) : Option (Nat × Int32) :=
  bd1 (f_X9_requirePassage F p1 count2) fun x1 =>
  if x1 ≠ 0 then some (x1, 0) else
  rd trip3 80 p1 fun a4 =>
  some (0, a4)
set_option maxHeartbeats 4000000 in
set_option maxRecDepth 100000 in
theorem c_X9_tripOf (l : Launch) (g : GT) (F : Nat) (h0 h1 h2 h3 : Nat) (v0_0 v0_1 v0_2 v0_3 v0_5 v0_6 v1_1 v2_1 v2_2 v2_3 v2_4 v2_5 v2_6 v2_7 v2_8 v2_10 v2_11 v2_12 : Value) (p1 count2 : Int32) (trip3 : Nat → Int32) (x : Nat) (r : Int32) (hst : l.stackTraces = false) (sz : Nat) (hf : f_X9_tripOf F p1 count2 trip3 = some (x, r)) : XI l m_X9_tripOf (rml 2 1 6) g (w_X9_tripOf g h0 h1 h2 h3 v0_0 v0_1 v0_2 v0_3 v0_5 v0_6 v1_1 v2_1 v2_2 v2_3 v2_4 v2_5 v2_6 v2_7 v2_8 v2_10 v2_11 v2_12 count2 trip3) (fun _ => w_X9_tripOf g h0 h1 h2 h3 v0_0 v0_1 v0_2 v0_3 v0_5 v0_6 v1_1 v2_1 v2_2 v2_3 v2_4 v2_5 v2_6 v2_7 v2_8 v2_10 v2_11 v2_12 count2 trip3) sz [.ref h0, .int p1] x r := by
  refine ex_i (by decide) (Nat.le_of_ble_eq_true rfl) (fun p e s m args below meth c A ls ht C w hl => ?_)
  have C : Cx p s m args meth c RX9 m_X9_tripOf g A := C
  have hx := C.1
  have hb : c.code = cX9_tripOf := C.2.1
  have hl : lv_has ls 2 [(0, .ref h0), (1, .int p1)] := hl
  obtain ⟨Q, hQ⟩ : ∃ Q, Q = QXI below args s g A (fun _ => w_X9_tripOf g h0 h1 h2 h3 v0_0 v0_1 v0_2 v0_3 v0_5 v0_6 v1_1 v2_1 v2_2 v2_3 v2_4 v2_5 v2_6 v2_7 v2_8 v2_10 v2_11 v2_12 count2 trip3) x r 1 6 := ⟨_, rfl⟩
  suffices hW : W p l e (rml 2 1 6) s m args below meth c s.heap [] 0 0 Q (F0 m 0 ls []) from (by rw [hQ] at hW; exact hW)
  unfold f_X9_tripOf at hf
  refine lv_aload_n hx hb dX9_tripOf_0 rfl (lv_at hl 0 rfl) ?_
  refine lv_iload_n hx hb dX9_tripOf_1 rfl (lv_at hl 1 rfl) ?_
  obtain ⟨x1, hc2, hf⟩ := bd1_some hf
  refine cx_vV C w (wn := fun _ => w_X9_tripOf g h0 h1 h2 h3 v0_0 v0_1 v0_2 v0_3 v0_5 v0_6 v1_1 v2_1 v2_2 v2_3 v2_4 v2_5 v2_6 v2_7 v2_8 v2_10 v2_11 v2_12 count2 trip3) (pm_k [true, true, true, false] rfl rfl (fun _ => Nat.le_of_ble_eq_true rfl) (fun _ => rfl)) (c_X9_requirePassage l g F h0 h1 h2 v0_0 v0_1 v0_2 v0_3 v0_5 v0_6 v1_1 v2_1 v2_2 v2_3 v2_4 v2_5 v2_6 v2_7 v2_8 (.ref h3) v2_10 v2_11 v2_12 p1 count2 x1 hst _ hc2) k_X9_125 (rm_le (by decide) (by decide)) 0 9 rfl rfl rfl rfl hl.1 rfl (Nat.le_of_ble_eq_true rfl) dX9_tripOf_2 ⟨Nat.le_of_ble_eq_true rfl, Nat.le_of_ble_eq_true rfl⟩ (cells2 := 1) (slots2 := 6) ⟨rfl, rfl⟩ (fun n3 _ H locs w q9 ce h1 h2 h3 => ?_) (fun n3 _ H locs w => ?_)
  · replace hf := it_t n3 hf
    obtain ⟨e1, e2⟩ := tp2 hf
    rw [hQ]
    exact xo C ht w (fun _ => 0) rfl e1 n3 h1 h2 h3 (Nat.le_of_ble_eq_true rfl) (Nat.le_of_ble_eq_true rfl)
  replace hf := it_f (fun h => h n3) hf
  refine lv_aload_n hx hb dX9_tripOf_5 rfl (lv_at hl 0 rfl) ?_
  refine g_X9_40 C w 0 rfl rfl dX9_tripOf_6 ?_
  refine g_X9_116 C w 1 rfl rfl dX9_tripOf_9 ?_
  refine g_X9_155 C w 2 rfl rfl dX9_tripOf_12 ?_
  refine lv_iload_n hx hb dX9_tripOf_15 rfl (lv_at hl 1 rfl) ?_
  obtain ⟨a4, hia4, haa4, hf⟩ := rd_some hf
  refine ial C w 3 rfl hia4 haa4 dX9_tripOf_16 ?_
  obtain ⟨e1, e2⟩ := tp2 hf
  rw [hQ]
  exact xr_i C w rfl (fun _ => 0) rfl e1 e2 (Nat.le_of_ble_eq_true rfl) (Nat.le_of_ble_eq_true rfl) dX9_tripOf_17

theorem dX9_openPassages_0 : decode cX9_openPassages 0 = .ok (.aload_n 0, 1) := by decide +kernel
theorem dX9_openPassages_1 : decode cX9_openPassages 1 = .ok (.getfield 40, 3) := by decide +kernel
theorem dX9_openPassages_4 : decode cX9_openPassages 4 = .ok (.getfield 116, 3) := by decide +kernel
theorem dX9_openPassages_7 : decode cX9_openPassages 7 = .ok (.invokevirtual 158, 3) := by decide +kernel
theorem dX9_openPassages_10 : decode cX9_openPassages 10 = .ok (.ireturn, 1) := by decide +kernel
abbrev m_X9_openPassages : MD := (yX9_openPassages, cX9_openPassages, 1, (some .int))
theorem q_403 : Cond.code yX6_openCount cX6_openCount 3 (some .int) ∈ TS := ts_t 403 (by decide +kernel) (by decide +kernel)
theorem q_402 : Cond.instanceMethod yX6_openCount ∈ TS := ts_t 402 (by decide +kernel) (by decide +kernel)
theorem qs_1 : Cond.selects yX6_openCount.cls yX6_openCount yX6_openCount ∈ TS := ts_s 1 (by decide +kernel) (by decide +kernel)
theorem k_X9_158 : LkN RX9 158 m_X6_openCount 0 := ⟨⟨"FreeFlowToll", nw_t 400 (by decide +kernel) rfl⟩, q_402, qs_1, ⟨q_7, q_403, by decide, by decide, by decide +kernel⟩⟩
abbrev w_X9_openPassages (g : GT) (h0 h1 h2 h3 : Nat) (v0_0 v0_1 v0_2 v0_3 v0_5 v0_6 v1_1 v2_1 v2_2 v2_3 v2_4 v2_5 v2_6 v2_7 v2_9 v2_10 v2_11 v2_12 : Value) (count2 : Int32) (state3 : Nat → Int32) : va_W := [(h0, .inr (9, [v0_0, v0_1, v0_2, v0_3, .ref h1, v0_5, v0_6])), (h1, .inr (3, [.ref h2, v1_1])), (h2, .inr (6, [.int count2, v2_1, v2_2, v2_3, v2_4, v2_5, v2_6, v2_7, .ref h3, v2_9, v2_10, v2_11, v2_12])), (h3, aI g 80 state3)]
def f_X9_openPassages (F : Nat) (count2 : Int32) (state3 : Nat → Int32) : Option (Int32) :=
  bd1 (f_X6_openCount F count2 state3) fun r1 =>
  some r1
set_option maxHeartbeats 4000000 in
set_option maxRecDepth 100000 in
theorem c_X9_openPassages (l : Launch) (g : GT) (F : Nat) (h0 h1 h2 h3 : Nat) (v0_0 v0_1 v0_2 v0_3 v0_5 v0_6 v1_1 v2_1 v2_2 v2_3 v2_4 v2_5 v2_6 v2_7 v2_9 v2_10 v2_11 v2_12 : Value) (count2 : Int32) (state3 : Nat → Int32) (r : Int32) (sz : Nat) (hf : f_X9_openPassages F count2 state3 = some r) : CI l m_X9_openPassages (rml 1 0 0) g (w_X9_openPassages g h0 h1 h2 h3 v0_0 v0_1 v0_2 v0_3 v0_5 v0_6 v1_1 v2_1 v2_2 v2_3 v2_4 v2_5 v2_6 v2_7 v2_9 v2_10 v2_11 v2_12 count2 state3) (fun _ => w_X9_openPassages g h0 h1 h2 h3 v0_0 v0_1 v0_2 v0_3 v0_5 v0_6 v1_1 v2_1 v2_2 v2_3 v2_4 v2_5 v2_6 v2_7 v2_9 v2_10 v2_11 v2_12 count2 state3) sz [.ref h0] r := by
  refine en_i (by decide) (Nat.le_of_ble_eq_true rfl) (fun p e s m args below meth c A ls C w hl => ?_)
  have C : Cx p s m args meth c RX9 m_X9_openPassages g A := C
  have hx := C.1
  have hb : c.code = cX9_openPassages := C.2.1
  have hl : lv_has ls 1 [(0, .ref h0)] := hl
  obtain ⟨Q, hQ⟩ : ∃ Q, Q = QI below args s g A (fun _ => w_X9_openPassages g h0 h1 h2 h3 v0_0 v0_1 v0_2 v0_3 v0_5 v0_6 v1_1 v2_1 v2_2 v2_3 v2_4 v2_5 v2_6 v2_7 v2_9 v2_10 v2_11 v2_12 count2 state3) r 0 0 := ⟨_, rfl⟩
  suffices hW : W p l e (rml 1 0 0) s m args below meth c s.heap [] 0 0 Q (F0 m 0 ls []) from (by rw [hQ] at hW; exact hW)
  unfold f_X9_openPassages at hf
  refine lv_aload_n hx hb dX9_openPassages_0 rfl (lv_at hl 0 rfl) ?_
  refine g_X9_40 C w 0 rfl rfl dX9_openPassages_1 ?_
  refine g_X9_116 C w 1 rfl rfl dX9_openPassages_4 ?_
  obtain ⟨r1, hc2, hf⟩ := bd1_some hf
  refine ca_iN C w (wn := fun _ => w_X9_openPassages g h0 h1 h2 h3 v0_0 v0_1 v0_2 v0_3 v0_5 v0_6 v1_1 v2_1 v2_2 v2_3 v2_4 v2_5 v2_6 v2_7 v2_9 v2_10 v2_11 v2_12 count2 state3) (pm_k [false, false, true, true] rfl rfl (fun _ => Nat.le_of_ble_eq_true rfl) (fun _ => rfl)) (c_X6_openCount l g F h2 h3 v2_1 v2_2 v2_3 v2_4 v2_5 v2_6 v2_7 v2_9 v2_10 v2_11 v2_12 count2 state3 r1 _ hc2) k_X9_158 (rm_le (by decide) (by decide)) 2 6 rfl rfl rfl rfl hl.1 rfl (Nat.le_of_ble_eq_true rfl) dX9_openPassages_7 ⟨Nat.le_of_ble_eq_true rfl, Nat.le_of_ble_eq_true rfl⟩ (cells2 := 0) (slots2 := 0) ⟨rfl, rfl⟩ (fun _ H locs w => ?_)
  obtain e1 := tp1 hf
  rw [hQ]
  exact rt_i C w rfl (fun _ => 0) rfl e1 dX9_openPassages_10

theorem dX9_passagesToReview_0 : decode cX9_passagesToReview 0 = .ok (.aload_n 0, 1) := by decide +kernel
theorem dX9_passagesToReview_1 : decode cX9_passagesToReview 1 = .ok (.getfield 40, 3) := by decide +kernel
theorem dX9_passagesToReview_4 : decode cX9_passagesToReview 4 = .ok (.getfield 116, 3) := by decide +kernel
theorem dX9_passagesToReview_7 : decode cX9_passagesToReview 7 = .ok (.aload_n 0, 1) := by decide +kernel
theorem dX9_passagesToReview_8 : decode cX9_passagesToReview 8 = .ok (.getfield 12, 3) := by decide +kernel
theorem dX9_passagesToReview_11 : decode cX9_passagesToReview 11 = .ok (.invokevirtual 162, 3) := by decide +kernel
theorem dX9_passagesToReview_14 : decode cX9_passagesToReview 14 = .ok (.ireturn, 1) := by decide +kernel
abbrev m_X9_passagesToReview : MD := (yX9_passagesToReview, cX9_passagesToReview, 1, (some .int))
theorem q_411 : Cond.code yX6_reviewCount cX6_reviewCount 4 (some .int) ∈ TS := ts_t 411 (by decide +kernel) (by decide +kernel)
theorem q_410 : Cond.instanceMethod yX6_reviewCount ∈ TS := ts_t 410 (by decide +kernel) (by decide +kernel)
theorem qs_2 : Cond.selects yX6_reviewCount.cls yX6_reviewCount yX6_reviewCount ∈ TS := ts_s 2 (by decide +kernel) (by decide +kernel)
theorem k_X9_162 : LkN RX9 162 m_X6_reviewCount 1 := ⟨⟨"FreeFlowToll", nw_t 408 (by decide +kernel) rfl⟩, q_410, qs_2, ⟨q_7, q_411, by decide, by decide, by decide +kernel⟩⟩
abbrev w_X9_passagesToReview (g : GT) (h0 h1 h2 h3 h4 h5 h6 h7 h8 h9 h10 h11 h12 h13 : Nat) (v0_1 v0_2 v0_3 v0_5 v0_6 v1_1 v2_1 v2_2 v2_3 v2_4 v2_9 v10_0 v10_1 v10_4 v10_6 v10_7 v10_8 v10_10 : Value) (count2 : Int32) (axleReadings3 handAxles4 handPlate5 plateSums6 readPlates7 state8 tag9 : Nat → Int32) (classes10 tags10 confidence10 : Int32) (classAxles11 tagAxles12 tagPlate13 : Nat → Int32) : va_W := [(h0, .inr (9, [.ref h10, v0_1, v0_2, v0_3, .ref h1, v0_5, v0_6])), (h1, .inr (3, [.ref h2, v1_1])), (h2, .inr (6, [.int count2, v2_1, v2_2, v2_3, v2_4, .ref h9, .ref h5, .ref h4, .ref h8, v2_9, .ref h7, .ref h6, .ref h3])), (h3, aI g 640 axleReadings3), (h4, aI g 80 handAxles4), (h5, aI g 80 handPlate5), (h6, aI g 320 plateSums6), (h7, aI g 320 readPlates7), (h8, aI g 80 state8), (h9, aI g 80 tag9), (h10, .inr (4, [v10_0, v10_1, .int classes10, .int tags10, v10_4, .int confidence10, v10_6, v10_7, v10_8, .ref h11, v10_10, .ref h13, .ref h12])), (h11, aI g 4 classAxles11), (h12, aI g 12 tagAxles12), (h13, aI g 12 tagPlate13)]
def f_X9_passagesToReview (F : Nat) (count2 : Int32) (axleReadings3 handAxles4 handPlate5 plateSums6 readPlates7 state8 tag9 : Nat → Int32) (classes10 tags10 confidence10 : Int32) (classAxles11 tagAxles12 tagPlate13 : Nat → Int32) : Option (Int32) :=
  bd1 (f_X6_reviewCount F count2 axleReadings3 handAxles4 handPlate5 plateSums6 readPlates7 state8 tag9 classes10 tags10 confidence10 classAxles11 tagAxles12 tagPlate13) fun r1 =>
  some r1
set_option maxHeartbeats 4000000 in
set_option maxRecDepth 100000 in
theorem c_X9_passagesToReview (l : Launch) (g : GT) (F : Nat) (h0 h1 h2 h3 h4 h5 h6 h7 h8 h9 h10 h11 h12 h13 : Nat) (v0_1 v0_2 v0_3 v0_5 v0_6 v1_1 v2_1 v2_2 v2_3 v2_4 v2_9 v10_0 v10_1 v10_4 v10_6 v10_7 v10_8 v10_10 : Value) (count2 : Int32) (axleReadings3 handAxles4 handPlate5 plateSums6 readPlates7 state8 tag9 : Nat → Int32) (classes10 tags10 confidence10 : Int32) (classAxles11 tagAxles12 tagPlate13 : Nat → Int32) (r : Int32) (sz : Nat) (hf : f_X9_passagesToReview F count2 axleReadings3 handAxles4 handPlate5 plateSums6 readPlates7 state8 tag9 classes10 tags10 confidence10 classAxles11 tagAxles12 tagPlate13 = some r) : CI l m_X9_passagesToReview (rml 5 0 0) g (w_X9_passagesToReview g h0 h1 h2 h3 h4 h5 h6 h7 h8 h9 h10 h11 h12 h13 v0_1 v0_2 v0_3 v0_5 v0_6 v1_1 v2_1 v2_2 v2_3 v2_4 v2_9 v10_0 v10_1 v10_4 v10_6 v10_7 v10_8 v10_10 count2 axleReadings3 handAxles4 handPlate5 plateSums6 readPlates7 state8 tag9 classes10 tags10 confidence10 classAxles11 tagAxles12 tagPlate13) (fun _ => w_X9_passagesToReview g h0 h1 h2 h3 h4 h5 h6 h7 h8 h9 h10 h11 h12 h13 v0_1 v0_2 v0_3 v0_5 v0_6 v1_1 v2_1 v2_2 v2_3 v2_4 v2_9 v10_0 v10_1 v10_4 v10_6 v10_7 v10_8 v10_10 count2 axleReadings3 handAxles4 handPlate5 plateSums6 readPlates7 state8 tag9 classes10 tags10 confidence10 classAxles11 tagAxles12 tagPlate13) sz [.ref h0] r := by
  refine en_i (by decide) (Nat.le_of_ble_eq_true rfl) (fun p e s m args below meth c A ls C w hl => ?_)
  have C : Cx p s m args meth c RX9 m_X9_passagesToReview g A := C
  have hx := C.1
  have hb : c.code = cX9_passagesToReview := C.2.1
  have hl : lv_has ls 1 [(0, .ref h0)] := hl
  obtain ⟨Q, hQ⟩ : ∃ Q, Q = QI below args s g A (fun _ => w_X9_passagesToReview g h0 h1 h2 h3 h4 h5 h6 h7 h8 h9 h10 h11 h12 h13 v0_1 v0_2 v0_3 v0_5 v0_6 v1_1 v2_1 v2_2 v2_3 v2_4 v2_9 v10_0 v10_1 v10_4 v10_6 v10_7 v10_8 v10_10 count2 axleReadings3 handAxles4 handPlate5 plateSums6 readPlates7 state8 tag9 classes10 tags10 confidence10 classAxles11 tagAxles12 tagPlate13) r 0 0 := ⟨_, rfl⟩
  suffices hW : W p l e (rml 5 0 0) s m args below meth c s.heap [] 0 0 Q (F0 m 0 ls []) from (by rw [hQ] at hW; exact hW)
  unfold f_X9_passagesToReview at hf
  refine lv_aload_n hx hb dX9_passagesToReview_0 rfl (lv_at hl 0 rfl) ?_
  refine g_X9_40 C w 0 rfl rfl dX9_passagesToReview_1 ?_
  refine g_X9_116 C w 1 rfl rfl dX9_passagesToReview_4 ?_
  refine lv_aload_n hx hb dX9_passagesToReview_7 rfl (lv_at hl 0 rfl) ?_
  refine g_X9_12 C w 0 rfl rfl dX9_passagesToReview_8 ?_
  obtain ⟨r1, hc2, hf⟩ := bd1_some hf
  refine ca_iN C w (wn := fun _ => w_X9_passagesToReview g h0 h1 h2 h3 h4 h5 h6 h7 h8 h9 h10 h11 h12 h13 v0_1 v0_2 v0_3 v0_5 v0_6 v1_1 v2_1 v2_2 v2_3 v2_4 v2_9 v10_0 v10_1 v10_4 v10_6 v10_7 v10_8 v10_10 count2 axleReadings3 handAxles4 handPlate5 plateSums6 readPlates7 state8 tag9 classes10 tags10 confidence10 classAxles11 tagAxles12 tagPlate13) (pm_k [false, false, true, true, true, true, true, true, true, true, true, true, true, true] rfl rfl (fun _ => Nat.le_of_ble_eq_true rfl) (fun _ => rfl)) (c_X6_reviewCount l g F h2 h3 h4 h5 h6 h7 h8 h9 h10 h11 h12 h13 v2_1 v2_2 v2_3 v2_4 v2_9 v10_0 v10_1 v10_4 v10_6 v10_7 v10_8 v10_10 count2 axleReadings3 handAxles4 handPlate5 plateSums6 readPlates7 state8 tag9 classes10 tags10 confidence10 classAxles11 tagAxles12 tagPlate13 r1 _ hc2) k_X9_162 (rm_le (by decide) (by decide)) 2 6 rfl rfl rfl rfl hl.1 rfl (Nat.le_of_ble_eq_true rfl) dX9_passagesToReview_11 ⟨Nat.le_of_ble_eq_true rfl, Nat.le_of_ble_eq_true rfl⟩ (cells2 := 0) (slots2 := 0) ⟨rfl, rfl⟩ (fun _ H locs w => ?_)
  obtain e1 := tp1 hf
  rw [hQ]
  exact rt_i C w rfl (fun _ => 0) rfl e1 dX9_passagesToReview_14

theorem dX9_previewTrips_0 : decode cX9_previewTrips 0 = .ok (.aload_n 0, 1) := by decide +kernel
theorem dX9_previewTrips_1 : decode cX9_previewTrips 1 = .ok (.iload_n 1, 1) := by decide +kernel
theorem dX9_previewTrips_2 : decode cX9_previewTrips 2 = .ok (.invokevirtual 166, 3) := by decide +kernel
theorem dX9_previewTrips_5 : decode cX9_previewTrips 5 = .ok (.aload_n 0, 1) := by decide +kernel
theorem dX9_previewTrips_6 : decode cX9_previewTrips 6 = .ok (.getfield 33, 3) := by decide +kernel
theorem dX9_previewTrips_9 : decode cX9_previewTrips 9 = .ok (.aload_n 0, 1) := by decide +kernel
theorem dX9_previewTrips_10 : decode cX9_previewTrips 10 = .ok (.getfield 12, 3) := by decide +kernel
theorem dX9_previewTrips_13 : decode cX9_previewTrips 13 = .ok (.aload_n 0, 1) := by decide +kernel
theorem dX9_previewTrips_14 : decode cX9_previewTrips 14 = .ok (.getfield 40, 3) := by decide +kernel
theorem dX9_previewTrips_17 : decode cX9_previewTrips 17 = .ok (.getfield 116, 3) := by decide +kernel
theorem dX9_previewTrips_20 : decode cX9_previewTrips 20 = .ok (.iload_n 1, 1) := by decide +kernel
theorem dX9_previewTrips_21 : decode cX9_previewTrips 21 = .ok (.aload_n 0, 1) := by decide +kernel
theorem dX9_previewTrips_22 : decode cX9_previewTrips 22 = .ok (.getfield 26, 3) := by decide +kernel
theorem dX9_previewTrips_25 : decode cX9_previewTrips 25 = .ok (.invokevirtual 169, 3) := by decide +kernel
theorem dX9_previewTrips_28 : decode cX9_previewTrips 28 = .ok (.aload_n 0, 1) := by decide +kernel
theorem dX9_previewTrips_29 : decode cX9_previewTrips 29 = .ok (.getfield 33, 3) := by decide +kernel
theorem dX9_previewTrips_32 : decode cX9_previewTrips 32 = .ok (.getfield 173, 3) := by decide +kernel
theorem dX9_previewTrips_35 : decode cX9_previewTrips 35 = .ok (.ireturn, 1) := by decide +kernel
abbrev m_X9_previewTrips : MD := (yX9_previewTrips, cX9_previewTrips, 2, (some .int))
theorem g_X9_33 {p : Program} {l : Launch} {e : Env} {R : Room} {s : State} {m : MethodId} {args : Array Value} {below : List Frame} {meth : Method} {c : Code} {H : Heap} {locs : List Loc} {cells slots : Nat} {Q : State → Prop} {d : MD} {g : GT} {A : Nat → Prop} {ws : va_W} {pc : Nat} {ls : Array Slot} {rest : List Value} (C : Cx p s m args meth c RX9 d g A) (w : Wd g A ws s.heap H locs) (q0 : Nat) {a : Nat} {fs : List Value} {v : Value} (he : ws[q0]? = some (a, .inr (9, fs))) (hv : fs[3]? = some v) (hd : decode d.2.1 pc = .ok (.getfield 33, 3)) (kk : W p l e R s m args below meth c H locs cells slots Q (F0 m (pc + 3) ls (v :: rest))) : W p l e R s m args below meth c H locs cells slots Q (F0 m pc ls (.ref a :: rest)) := fg C w inX9s (ref := RX9) rfl 3 (by decide) (ts_t (w := Cond.fieldLink RX9 33 RX9 (TX9 3).2.1 (TX9 3).2.2.1) 357 (by decide +kernel) (by decide +kernel)) rfl q0 he hv hd kk
theorem g_X9_173 {p : Program} {l : Launch} {e : Env} {R : Room} {s : State} {m : MethodId} {args : Array Value} {below : List Frame} {meth : Method} {c : Code} {H : Heap} {locs : List Loc} {cells slots : Nat} {Q : State → Prop} {d : MD} {g : GT} {A : Nat → Prop} {ws : va_W} {pc : Nat} {ls : Array Slot} {rest : List Value} (C : Cx p s m args meth c RX9 d g A) (w : Wd g A ws s.heap H locs) (q0 : Nat) {a : Nat} {fs : List Value} {v : Value} (he : ws[q0]? = some (a, .inr (0, fs))) (hv : fs[0]? = some v) (hd : decode d.2.1 pc = .ok (.getfield 173, 3)) (kk : W p l e R s m args below meth c H locs cells slots Q (F0 m (pc + 3) ls (v :: rest))) : W p l e R s m args below meth c H locs cells slots Q (F0 m pc ls (.ref a :: rest)) := fgN C w inX0s (ref := RX0) rfl 0 (by decide) (nw_t (w := Cond.fieldLinkNest RX9 173 RX0 (TX0 0).2.1 (TX0 0).2.2.1 "FreeFlowToll") 164 (by decide +kernel) rfl) rfl q0 he hv hd kk
theorem q_940 : Cond.code yX0_make cX0_make 7 none ∈ TS := ts_t 940 (by decide +kernel) (by decide +kernel)
theorem q_939 : Cond.instanceMethod yX0_make ∈ TS := ts_t 939 (by decide +kernel) (by decide +kernel)
theorem qs_60 : Cond.selects yX0_make.cls yX0_make yX0_make ∈ TS := ts_s 60 (by decide +kernel) (by decide +kernel)
theorem k_X9_169 : LkN RX9 169 m_X0_make 4 := ⟨⟨"FreeFlowToll", nw_t 937 (by decide +kernel) rfl⟩, q_939, qs_60, ⟨q_5, q_940, by decide, by decide, by decide +kernel⟩⟩
abbrev w_X9_previewTrips (g : GT) (h0 h1 h2 h3 h4 h5 h6 h7 h8 h9 h10 h11 h12 h13 h14 h15 h16 h17 h18 h19 h20 h21 h22 h23 h24 h25 h26 h27 h28 h29 h30 : Nat) (v0_1 v0_5 v0_6 v1_1 v2_1 v2_3 v2_9 v12_1 v12_4 v12_6 : Value) (count2 : Int32) (axleReadings3 gantry4 handAxles5 handPlate6 plateSums7 readPlates8 state9 tag10 time11 : Nat → Int32) (gantries12 classes12 tags12 confidence12 : Int32) (classAxles13 classPercent14 linkMinutes15 linkPrice16 tagAxles17 tagPlate18 : Nat → Int32) (trips19 invoices19 : Int32) (invoicePlate20 legPrice21 trip22 tripAxles23 tripCents24 tripClassNumber25 tripInvoice26 tripLength27 vehicle28 : Nat → Int32) (links29 price29 : Int32) (stops30 : Nat → Int32) : va_W := [(h0, .inr (9, [.ref h12, v0_1, .ref h29, .ref h19, .ref h1, v0_5, v0_6])), (h1, .inr (3, [.ref h2, v1_1])), (h2, .inr (6, [.int count2, v2_1, .ref h4, v2_3, .ref h11, .ref h10, .ref h6, .ref h5, .ref h9, v2_9, .ref h8, .ref h7, .ref h3])), (h3, aI g 640 axleReadings3), (h4, aI g 80 gantry4), (h5, aI g 80 handAxles5), (h6, aI g 80 handPlate6), (h7, aI g 320 plateSums7), (h8, aI g 320 readPlates8), (h9, aI g 80 state9), (h10, aI g 80 tag10), (h11, aI g 80 time11), (h12, .inr (4, [.int gantries12, v12_1, .int classes12, .int tags12, v12_4, .int confidence12, v12_6, .ref h15, .ref h16, .ref h13, .ref h14, .ref h18, .ref h17])), (h13, aI g 4 classAxles13), (h14, aI g 4 classPercent14), (h15, aI g 100 linkMinutes15), (h16, aI g 100 linkPrice16), (h17, aI g 12 tagAxles17), (h18, aI g 12 tagPlate18), (h19, .inr (0, [.int trips19, .int invoices19, .ref h20, .ref h26, .ref h23, .ref h27, .ref h25, .ref h24, .ref h28, .ref h22, .ref h21])), (h20, aI g 80 invoicePlate20), (h21, aI g 80 legPrice21), (h22, aI g 80 trip22), (h23, aI g 80 tripAxles23), (h24, aI g 80 tripCents24), (h25, aI g 80 tripClassNumber25), (h26, aI g 80 tripInvoice26), (h27, aI g 80 tripLength27), (h28, aI g 80 vehicle28), (h29, .inr (7, [.int links29, .int price29, .ref h30])), (h30, aI g 4 stops30)]
def f_X9_previewTrips (F : Nat) (p1 count2 : Int32) (axleReadings3 gantry4 handAxles5 handPlate6 plateSums7 readPlates8 state9 tag10 time11 : Nat → Int32) (gantries12 classes12 tags12 confidence12 : Int32) (classAxles13 classPercent14 linkMinutes15 linkPrice16 tagAxles17 tagPlate18 : Nat → Int32) (trips19 invoices19 : Int32) (invoicePlate20 legPrice21 trip22 tripAxles23 tripCents24 tripClassNumber25 tripInvoice26 tripLength27 vehicle28 : Nat → Int32) (links29 price29 : Int32) (stops30 : Nat → Int32) : Option (Nat × Int32 × Int32 × Int32 × (Nat → Int32) × (Nat → Int32) × (Nat → Int32) × (Nat → Int32) × (Nat → Int32) × (Nat → Int32) × (Nat → Int32) × (Nat → Int32) × (Nat → Int32) × Int32 × Int32 × (Nat → Int32)) :=
  bd1 (f_X9_requireTime F p1) fun x1 =>
  if x1 ≠ 0 then some (x1, 0, trips19, invoices19, invoicePlate20, legPrice21, trip22, tripAxles23, tripCents24, tripClassNumber25, tripInvoice26, tripLength27, vehicle28, links29, price29, stops30) else
  bd14 (f_X0_make F p1 trips19 invoices19 invoicePlate20 legPrice21 trip22 tripAxles23 tripCents24 tripClassNumber25 tripInvoice26 tripLength27 vehicle28 gantries12 classes12 tags12 confidence12 classAxles13 classPercent14 linkMinutes15 linkPrice16 tagAxles17 tagPlate18 count2 axleReadings3 gantry4 handAxles5 handPlate6 plateSums7 readPlates8 state9 tag10 time11 links29 price29 stops30) fun o4 o5 o6 o7 o8 o9 o10 o11 o12 o13 o14 o15 o16 o17 =>
  some (0, o4, o4, o5, o6, o7, o8, o9, o10, o11, o12, o13, o14, o15, o16, o17)
set_option maxHeartbeats 4000000 in
set_option maxRecDepth 100000 in
theorem c_X9_previewTrips (l : Launch) (g : GT) (F : Nat) (h0 h1 h2 h3 h4 h5 h6 h7 h8 h9 h10 h11 h12 h13 h14 h15 h16 h17 h18 h19 h20 h21 h22 h23 h24 h25 h26 h27 h28 h29 h30 : Nat) (v0_1 v0_5 v0_6 v1_1 v2_1 v2_3 v2_9 v12_1 v12_4 v12_6 : Value) (p1 count2 : Int32) (axleReadings3 gantry4 handAxles5 handPlate6 plateSums7 readPlates8 state9 tag10 time11 : Nat → Int32) (gantries12 classes12 tags12 confidence12 : Int32) (classAxles13 classPercent14 linkMinutes15 linkPrice16 tagAxles17 tagPlate18 : Nat → Int32) (trips19 invoices19 : Int32) (invoicePlate20 legPrice21 trip22 tripAxles23 tripCents24 tripClassNumber25 tripInvoice26 tripLength27 vehicle28 : Nat → Int32) (links29 price29 : Int32) (stops30 : Nat → Int32) (x : Nat) (r o_trips19 o_invoices19 : Int32) (o_invoicePlate20 o_legPrice21 o_trip22 o_tripAxles23 o_tripCents24 o_tripClassNumber25 o_tripInvoice26 o_tripLength27 o_vehicle28 : Nat → Int32) (o_links29 o_price29 : Int32) (o_stops30 : Nat → Int32) (hst : l.stackTraces = false) (sz : Nat) (hf : f_X9_previewTrips F p1 count2 axleReadings3 gantry4 handAxles5 handPlate6 plateSums7 readPlates8 state9 tag10 time11 gantries12 classes12 tags12 confidence12 classAxles13 classPercent14 linkMinutes15 linkPrice16 tagAxles17 tagPlate18 trips19 invoices19 invoicePlate20 legPrice21 trip22 tripAxles23 tripCents24 tripClassNumber25 tripInvoice26 tripLength27 vehicle28 links29 price29 stops30 = some (x, r, o_trips19, o_invoices19, o_invoicePlate20, o_legPrice21, o_trip22, o_tripAxles23, o_tripCents24, o_tripClassNumber25, o_tripInvoice26, o_tripLength27, o_vehicle28, o_links29, o_price29, o_stops30)) : XI l m_X9_previewTrips (rml 6 1 6) g (w_X9_previewTrips g h0 h1 h2 h3 h4 h5 h6 h7 h8 h9 h10 h11 h12 h13 h14 h15 h16 h17 h18 h19 h20 h21 h22 h23 h24 h25 h26 h27 h28 h29 h30 v0_1 v0_5 v0_6 v1_1 v2_1 v2_3 v2_9 v12_1 v12_4 v12_6 count2 axleReadings3 gantry4 handAxles5 handPlate6 plateSums7 readPlates8 state9 tag10 time11 gantries12 classes12 tags12 confidence12 classAxles13 classPercent14 linkMinutes15 linkPrice16 tagAxles17 tagPlate18 trips19 invoices19 invoicePlate20 legPrice21 trip22 tripAxles23 tripCents24 tripClassNumber25 tripInvoice26 tripLength27 vehicle28 links29 price29 stops30) (fun _ => w_X9_previewTrips g h0 h1 h2 h3 h4 h5 h6 h7 h8 h9 h10 h11 h12 h13 h14 h15 h16 h17 h18 h19 h20 h21 h22 h23 h24 h25 h26 h27 h28 h29 h30 v0_1 v0_5 v0_6 v1_1 v2_1 v2_3 v2_9 v12_1 v12_4 v12_6 count2 axleReadings3 gantry4 handAxles5 handPlate6 plateSums7 readPlates8 state9 tag10 time11 gantries12 classes12 tags12 confidence12 classAxles13 classPercent14 linkMinutes15 linkPrice16 tagAxles17 tagPlate18 o_trips19 o_invoices19 o_invoicePlate20 o_legPrice21 o_trip22 o_tripAxles23 o_tripCents24 o_tripClassNumber25 o_tripInvoice26 o_tripLength27 o_vehicle28 o_links29 o_price29 o_stops30) sz [.ref h0, .int p1] x r := by
  refine ex_i (by decide) (Nat.le_of_ble_eq_true rfl) (fun p e s m args below meth c A ls ht C w hl => ?_)
  have C : Cx p s m args meth c RX9 m_X9_previewTrips g A := C
  have hx := C.1
  have hb : c.code = cX9_previewTrips := C.2.1
  have hl : lv_has ls 2 [(0, .ref h0), (1, .int p1)] := hl
  obtain ⟨Q, hQ⟩ : ∃ Q, Q = QXI below args s g A (fun _ => w_X9_previewTrips g h0 h1 h2 h3 h4 h5 h6 h7 h8 h9 h10 h11 h12 h13 h14 h15 h16 h17 h18 h19 h20 h21 h22 h23 h24 h25 h26 h27 h28 h29 h30 v0_1 v0_5 v0_6 v1_1 v2_1 v2_3 v2_9 v12_1 v12_4 v12_6 count2 axleReadings3 gantry4 handAxles5 handPlate6 plateSums7 readPlates8 state9 tag10 time11 gantries12 classes12 tags12 confidence12 classAxles13 classPercent14 linkMinutes15 linkPrice16 tagAxles17 tagPlate18 o_trips19 o_invoices19 o_invoicePlate20 o_legPrice21 o_trip22 o_tripAxles23 o_tripCents24 o_tripClassNumber25 o_tripInvoice26 o_tripLength27 o_vehicle28 o_links29 o_price29 o_stops30) x r 1 6 := ⟨_, rfl⟩
  suffices hW : W p l e (rml 6 1 6) s m args below meth c s.heap [] 0 0 Q (F0 m 0 ls []) from (by rw [hQ] at hW; exact hW)
  unfold f_X9_previewTrips at hf
  refine lv_aload_n hx hb dX9_previewTrips_0 rfl (lv_at hl 0 rfl) ?_
  refine lv_iload_n hx hb dX9_previewTrips_1 rfl (lv_at hl 1 rfl) ?_
  obtain ⟨x1, hc2, hf⟩ := bd1_some hf
  refine cx_vV C w (wn := fun _ => w_X9_previewTrips g h0 h1 h2 h3 h4 h5 h6 h7 h8 h9 h10 h11 h12 h13 h14 h15 h16 h17 h18 h19 h20 h21 h22 h23 h24 h25 h26 h27 h28 h29 h30 v0_1 v0_5 v0_6 v1_1 v2_1 v2_3 v2_9 v12_1 v12_4 v12_6 count2 axleReadings3 gantry4 handAxles5 handPlate6 plateSums7 readPlates8 state9 tag10 time11 gantries12 classes12 tags12 confidence12 classAxles13 classPercent14 linkMinutes15 linkPrice16 tagAxles17 tagPlate18 trips19 invoices19 invoicePlate20 legPrice21 trip22 tripAxles23 tripCents24 tripClassNumber25 tripInvoice26 tripLength27 vehicle28 links29 price29 stops30) (pm_k [false, false, false, false, false, false, false, false, false, false, false, false, false, false, false, false, false, false, false, false, false, false, false, false, false, false, false, false, false, false, false] rfl rfl (fun _ => Nat.le_of_ble_eq_true rfl) (fun _ => rfl)) (c_X9_requireTime l g F h0 p1 x1 hst _ hc2) k_X9_166 (rm_le (by decide) (by decide)) 0 9 rfl rfl rfl rfl hl.1 rfl (Nat.le_of_ble_eq_true rfl) dX9_previewTrips_2 ⟨Nat.le_of_ble_eq_true rfl, Nat.le_of_ble_eq_true rfl⟩ (cells2 := 1) (slots2 := 6) ⟨rfl, rfl⟩ (fun n3 _ H locs w q9 ce h1 h2 h3 => ?_) (fun n3 _ H locs w => ?_)
  · replace hf := it_t n3 hf
    obtain ⟨e1, e2, e3, e4, e5, e6, e7, e8, e9, e10, e11, e12, e13, e14, e15, e16⟩ := tp16 hf
    rw [hQ]
    exact xo C ht w (fun _ => 0) (by rw [← e3, ← e4, ← e5, ← e6, ← e7, ← e8, ← e9, ← e10, ← e11, ← e12, ← e13, ← e14, ← e15, ← e16]) e1 n3 h1 h2 h3 (Nat.le_of_ble_eq_true rfl) (Nat.le_of_ble_eq_true rfl)
  replace hf := it_f (fun h => h n3) hf
  refine lv_aload_n hx hb dX9_previewTrips_5 rfl (lv_at hl 0 rfl) ?_
  refine g_X9_33 C w 0 rfl rfl dX9_previewTrips_6 ?_
  refine lv_aload_n hx hb dX9_previewTrips_9 rfl (lv_at hl 0 rfl) ?_
  refine g_X9_12 C w 0 rfl rfl dX9_previewTrips_10 ?_
  refine lv_aload_n hx hb dX9_previewTrips_13 rfl (lv_at hl 0 rfl) ?_
  refine g_X9_40 C w 0 rfl rfl dX9_previewTrips_14 ?_
  refine g_X9_116 C w 1 rfl rfl dX9_previewTrips_17 ?_
  refine lv_iload_n hx hb dX9_previewTrips_20 rfl (lv_at hl 1 rfl) ?_
  refine lv_aload_n hx hb dX9_previewTrips_21 rfl (lv_at hl 0 rfl) ?_
  refine g_X9_26 C w 0 rfl rfl dX9_previewTrips_22 ?_
  obtain ⟨o4, o5, o6, o7, o8, o9, o10, o11, o12, o13, o14, o15, o16, o17, hc18, hf⟩ := bd14_some hf
  refine ca_vN C w (wn := fun _ => w_X9_previewTrips g h0 h1 h2 h3 h4 h5 h6 h7 h8 h9 h10 h11 h12 h13 h14 h15 h16 h17 h18 h19 h20 h21 h22 h23 h24 h25 h26 h27 h28 h29 h30 v0_1 v0_5 v0_6 v1_1 v2_1 v2_3 v2_9 v12_1 v12_4 v12_6 count2 axleReadings3 gantry4 handAxles5 handPlate6 plateSums7 readPlates8 state9 tag10 time11 gantries12 classes12 tags12 confidence12 classAxles13 classPercent14 linkMinutes15 linkPrice16 tagAxles17 tagPlate18 o4 o5 o6 o7 o8 o9 o10 o11 o12 o13 o14 o15 o16 o17) (pm_q 31 31 [19, 20, 21, 22, 23, 24, 25, 26, 27, 28, 12, 13, 14, 15, 16, 17, 18, 2, 3, 4, 5, 6, 7, 8, 9, 10, 11, 29, 30] [0, 1] [0, 1, 19, 20, 21, 22, 23, 24, 25, 26, 27, 28, 12, 13, 14, 15, 16, 17, 18, 2, 3, 4, 5, 6, 7, 8, 9, 10, 11, 29, 30] rfl (by decide +kernel) rfl (fun _ => rfl) (by decide +kernel) (fun _ => rfl)) (c_X0_make l g F h19 h20 h21 h22 h23 h24 h25 h26 h27 h28 h12 h13 h14 h15 h16 h17 h18 h2 h3 h4 h5 h6 h7 h8 h9 h10 h11 h29 h30 v12_1 v12_4 v12_6 v2_1 v2_3 v2_9 p1 trips19 invoices19 invoicePlate20 legPrice21 trip22 tripAxles23 tripCents24 tripClassNumber25 tripInvoice26 tripLength27 vehicle28 gantries12 classes12 tags12 confidence12 classAxles13 classPercent14 linkMinutes15 linkPrice16 tagAxles17 tagPlate18 count2 axleReadings3 gantry4 handAxles5 handPlate6 plateSums7 readPlates8 state9 tag10 time11 links29 price29 stops30 o4 o5 o6 o7 o8 o9 o10 o11 o12 o13 o14 o15 o16 o17 _ hc18) k_X9_169 (rm_le (by decide) (by decide)) 19 0 rfl rfl rfl rfl hl.1 rfl (Nat.le_of_ble_eq_true rfl) dX9_previewTrips_25 ⟨Nat.le_of_ble_eq_true rfl, Nat.le_of_ble_eq_true rfl⟩ (cells2 := 1) (slots2 := 6) ⟨rfl, rfl⟩ (fun _ H locs w => ?_)
  refine lv_aload_n hx hb dX9_previewTrips_28 rfl (lv_at hl 0 rfl) ?_
  refine g_X9_33 C w 0 rfl rfl dX9_previewTrips_29 ?_
  refine g_X9_173 C w 19 rfl rfl dX9_previewTrips_32 ?_
  obtain ⟨e1, e2, e3, e4, e5, e6, e7, e8, e9, e10, e11, e12, e13, e14, e15, e16⟩ := tp16 hf
  rw [hQ]
  exact xr_i C w rfl (fun _ => 0) (by rw [← e3, ← e4, ← e5, ← e6, ← e7, ← e8, ← e9, ← e10, ← e11, ← e12, ← e13, ← e14, ← e15, ← e16]) e1 e2 (Nat.le_of_ble_eq_true rfl) (Nat.le_of_ble_eq_true rfl) dX9_previewTrips_35

theorem dX9_previewTotal_0 : decode cX9_previewTotal 0 = .ok (.aload_n 0, 1) := by decide +kernel
theorem dX9_previewTotal_1 : decode cX9_previewTotal 1 = .ok (.iload_n 1, 1) := by decide +kernel
theorem dX9_previewTotal_2 : decode cX9_previewTotal 2 = .ok (.invokevirtual 166, 3) := by decide +kernel
theorem dX9_previewTotal_5 : decode cX9_previewTotal 5 = .ok (.aload_n 0, 1) := by decide +kernel
theorem dX9_previewTotal_6 : decode cX9_previewTotal 6 = .ok (.getfield 33, 3) := by decide +kernel
theorem dX9_previewTotal_9 : decode cX9_previewTotal 9 = .ok (.aload_n 0, 1) := by decide +kernel
theorem dX9_previewTotal_10 : decode cX9_previewTotal 10 = .ok (.getfield 12, 3) := by decide +kernel
theorem dX9_previewTotal_13 : decode cX9_previewTotal 13 = .ok (.aload_n 0, 1) := by decide +kernel
theorem dX9_previewTotal_14 : decode cX9_previewTotal 14 = .ok (.getfield 40, 3) := by decide +kernel
theorem dX9_previewTotal_17 : decode cX9_previewTotal 17 = .ok (.getfield 116, 3) := by decide +kernel
theorem dX9_previewTotal_20 : decode cX9_previewTotal 20 = .ok (.iload_n 1, 1) := by decide +kernel
theorem dX9_previewTotal_21 : decode cX9_previewTotal 21 = .ok (.aload_n 0, 1) := by decide +kernel
theorem dX9_previewTotal_22 : decode cX9_previewTotal 22 = .ok (.getfield 26, 3) := by decide +kernel
theorem dX9_previewTotal_25 : decode cX9_previewTotal 25 = .ok (.invokevirtual 169, 3) := by decide +kernel
theorem dX9_previewTotal_28 : decode cX9_previewTotal 28 = .ok (.aload_n 0, 1) := by decide +kernel
theorem dX9_previewTotal_29 : decode cX9_previewTotal 29 = .ok (.getfield 33, 3) := by decide +kernel
theorem dX9_previewTotal_32 : decode cX9_previewTotal 32 = .ok (.aload_n 0, 1) := by decide +kernel
theorem dX9_previewTotal_33 : decode cX9_previewTotal 33 = .ok (.getfield 12, 3) := by decide +kernel
theorem dX9_previewTotal_36 : decode cX9_previewTotal 36 = .ok (.invokevirtual 176, 3) := by decide +kernel
theorem dX9_previewTotal_39 : decode cX9_previewTotal 39 = .ok (.ireturn, 1) := by decide +kernel
abbrev m_X9_previewTotal : MD := (yX9_previewTotal, cX9_previewTotal, 2, (some .int))
theorem q_981 : Cond.code yX0_total cX0_total 4 (some .int) ∈ TS := ts_t 981 (by decide +kernel) (by decide +kernel)
theorem q_980 : Cond.instanceMethod yX0_total ∈ TS := ts_t 980 (by decide +kernel) (by decide +kernel)
theorem qs_66 : Cond.selects yX0_total.cls yX0_total yX0_total ∈ TS := ts_s 66 (by decide +kernel) (by decide +kernel)
theorem k_X9_176 : LkN RX9 176 m_X0_total 1 := ⟨⟨"FreeFlowToll", nw_t 978 (by decide +kernel) rfl⟩, q_980, qs_66, ⟨q_5, q_981, by decide, by decide, by decide +kernel⟩⟩
abbrev w_X9_previewTotal (g : GT) (h0 h1 h2 h3 h4 h5 h6 h7 h8 h9 h10 h11 h12 h13 h14 h15 h16 h17 h18 h19 h20 h21 h22 h23 h24 h25 h26 h27 h28 h29 h30 : Nat) (v0_1 v0_5 v0_6 v1_1 v2_1 v2_3 v2_9 v12_1 v12_4 : Value) (count2 : Int32) (axleReadings3 gantry4 handAxles5 handPlate6 plateSums7 readPlates8 state9 tag10 time11 : Nat → Int32) (gantries12 classes12 tags12 confidence12 fee12 : Int32) (classAxles13 classPercent14 linkMinutes15 linkPrice16 tagAxles17 tagPlate18 : Nat → Int32) (trips19 invoices19 : Int32) (invoicePlate20 legPrice21 trip22 tripAxles23 tripCents24 tripClassNumber25 tripInvoice26 tripLength27 vehicle28 : Nat → Int32) (links29 price29 : Int32) (stops30 : Nat → Int32) : va_W := [(h0, .inr (9, [.ref h12, v0_1, .ref h29, .ref h19, .ref h1, v0_5, v0_6])), (h1, .inr (3, [.ref h2, v1_1])), (h2, .inr (6, [.int count2, v2_1, .ref h4, v2_3, .ref h11, .ref h10, .ref h6, .ref h5, .ref h9, v2_9, .ref h8, .ref h7, .ref h3])), (h3, aI g 640 axleReadings3), (h4, aI g 80 gantry4), (h5, aI g 80 handAxles5), (h6, aI g 80 handPlate6), (h7, aI g 320 plateSums7), (h8, aI g 320 readPlates8), (h9, aI g 80 state9), (h10, aI g 80 tag10), (h11, aI g 80 time11), (h12, .inr (4, [.int gantries12, v12_1, .int classes12, .int tags12, v12_4, .int confidence12, .int fee12, .ref h15, .ref h16, .ref h13, .ref h14, .ref h18, .ref h17])), (h13, aI g 4 classAxles13), (h14, aI g 4 classPercent14), (h15, aI g 100 linkMinutes15), (h16, aI g 100 linkPrice16), (h17, aI g 12 tagAxles17), (h18, aI g 12 tagPlate18), (h19, .inr (0, [.int trips19, .int invoices19, .ref h20, .ref h26, .ref h23, .ref h27, .ref h25, .ref h24, .ref h28, .ref h22, .ref h21])), (h20, aI g 80 invoicePlate20), (h21, aI g 80 legPrice21), (h22, aI g 80 trip22), (h23, aI g 80 tripAxles23), (h24, aI g 80 tripCents24), (h25, aI g 80 tripClassNumber25), (h26, aI g 80 tripInvoice26), (h27, aI g 80 tripLength27), (h28, aI g 80 vehicle28), (h29, .inr (7, [.int links29, .int price29, .ref h30])), (h30, aI g 4 stops30)]
def f_X9_previewTotal (F : Nat) (p1 count2 : Int32) (axleReadings3 gantry4 handAxles5 handPlate6 plateSums7 readPlates8 state9 tag10 time11 : Nat → Int32) (gantries12 classes12 tags12 confidence12 fee12 : Int32) (classAxles13 classPercent14 linkMinutes15 linkPrice16 tagAxles17 tagPlate18 : Nat → Int32) (trips19 invoices19 : Int32) (invoicePlate20 legPrice21 trip22 tripAxles23 tripCents24 tripClassNumber25 tripInvoice26 tripLength27 vehicle28 : Nat → Int32) (links29 price29 : Int32) (stops30 : Nat → Int32) : Option (Nat × Int32 × Int32 × Int32 × (Nat → Int32) × (Nat → Int32) × (Nat → Int32) × (Nat → Int32) × (Nat → Int32) × (Nat → Int32) × (Nat → Int32) × (Nat → Int32) × (Nat → Int32) × Int32 × Int32 × (Nat → Int32)) :=
  bd1 (f_X9_requireTime F p1) fun x1 =>
  if x1 ≠ 0 then some (x1, 0, trips19, invoices19, invoicePlate20, legPrice21, trip22, tripAxles23, tripCents24, tripClassNumber25, tripInvoice26, tripLength27, vehicle28, links29, price29, stops30) else
  bd14 (f_X0_make F p1 trips19 invoices19 invoicePlate20 legPrice21 trip22 tripAxles23 tripCents24 tripClassNumber25 tripInvoice26 tripLength27 vehicle28 gantries12 classes12 tags12 confidence12 classAxles13 classPercent14 linkMinutes15 linkPrice16 tagAxles17 tagPlate18 count2 axleReadings3 gantry4 handAxles5 handPlate6 plateSums7 readPlates8 state9 tag10 time11 links29 price29 stops30) fun o4 o5 o6 o7 o8 o9 o10 o11 o12 o13 o14 o15 o16 o17 =>
  bd1 (f_X0_total F o4 o5 o6 o10 tags12 fee12 tagPlate18) fun r19 =>
  some (0, r19, o4, o5, o6, o7, o8, o9, o10, o11, o12, o13, o14, o15, o16, o17)
set_option maxHeartbeats 4000000 in
set_option maxRecDepth 100000 in
theorem c_X9_previewTotal (l : Launch) (g : GT) (F : Nat) (h0 h1 h2 h3 h4 h5 h6 h7 h8 h9 h10 h11 h12 h13 h14 h15 h16 h17 h18 h19 h20 h21 h22 h23 h24 h25 h26 h27 h28 h29 h30 : Nat) (v0_1 v0_5 v0_6 v1_1 v2_1 v2_3 v2_9 v12_1 v12_4 : Value) (p1 count2 : Int32) (axleReadings3 gantry4 handAxles5 handPlate6 plateSums7 readPlates8 state9 tag10 time11 : Nat → Int32) (gantries12 classes12 tags12 confidence12 fee12 : Int32) (classAxles13 classPercent14 linkMinutes15 linkPrice16 tagAxles17 tagPlate18 : Nat → Int32) (trips19 invoices19 : Int32) (invoicePlate20 legPrice21 trip22 tripAxles23 tripCents24 tripClassNumber25 tripInvoice26 tripLength27 vehicle28 : Nat → Int32) (links29 price29 : Int32) (stops30 : Nat → Int32) (x : Nat) (r o_trips19 o_invoices19 : Int32) (o_invoicePlate20 o_legPrice21 o_trip22 o_tripAxles23 o_tripCents24 o_tripClassNumber25 o_tripInvoice26 o_tripLength27 o_vehicle28 : Nat → Int32) (o_links29 o_price29 : Int32) (o_stops30 : Nat → Int32) (hst : l.stackTraces = false) (sz : Nat) (hf : f_X9_previewTotal F p1 count2 axleReadings3 gantry4 handAxles5 handPlate6 plateSums7 readPlates8 state9 tag10 time11 gantries12 classes12 tags12 confidence12 fee12 classAxles13 classPercent14 linkMinutes15 linkPrice16 tagAxles17 tagPlate18 trips19 invoices19 invoicePlate20 legPrice21 trip22 tripAxles23 tripCents24 tripClassNumber25 tripInvoice26 tripLength27 vehicle28 links29 price29 stops30 = some (x, r, o_trips19, o_invoices19, o_invoicePlate20, o_legPrice21, o_trip22, o_tripAxles23, o_tripCents24, o_tripClassNumber25, o_tripInvoice26, o_tripLength27, o_vehicle28, o_links29, o_price29, o_stops30)) : XI l m_X9_previewTotal (rml 6 1 6) g (w_X9_previewTotal g h0 h1 h2 h3 h4 h5 h6 h7 h8 h9 h10 h11 h12 h13 h14 h15 h16 h17 h18 h19 h20 h21 h22 h23 h24 h25 h26 h27 h28 h29 h30 v0_1 v0_5 v0_6 v1_1 v2_1 v2_3 v2_9 v12_1 v12_4 count2 axleReadings3 gantry4 handAxles5 handPlate6 plateSums7 readPlates8 state9 tag10 time11 gantries12 classes12 tags12 confidence12 fee12 classAxles13 classPercent14 linkMinutes15 linkPrice16 tagAxles17 tagPlate18 trips19 invoices19 invoicePlate20 legPrice21 trip22 tripAxles23 tripCents24 tripClassNumber25 tripInvoice26 tripLength27 vehicle28 links29 price29 stops30) (fun _ => w_X9_previewTotal g h0 h1 h2 h3 h4 h5 h6 h7 h8 h9 h10 h11 h12 h13 h14 h15 h16 h17 h18 h19 h20 h21 h22 h23 h24 h25 h26 h27 h28 h29 h30 v0_1 v0_5 v0_6 v1_1 v2_1 v2_3 v2_9 v12_1 v12_4 count2 axleReadings3 gantry4 handAxles5 handPlate6 plateSums7 readPlates8 state9 tag10 time11 gantries12 classes12 tags12 confidence12 fee12 classAxles13 classPercent14 linkMinutes15 linkPrice16 tagAxles17 tagPlate18 o_trips19 o_invoices19 o_invoicePlate20 o_legPrice21 o_trip22 o_tripAxles23 o_tripCents24 o_tripClassNumber25 o_tripInvoice26 o_tripLength27 o_vehicle28 o_links29 o_price29 o_stops30) sz [.ref h0, .int p1] x r := by
  refine ex_i (by decide) (Nat.le_of_ble_eq_true rfl) (fun p e s m args below meth c A ls ht C w hl => ?_)
  have C : Cx p s m args meth c RX9 m_X9_previewTotal g A := C
  have hx := C.1
  have hb : c.code = cX9_previewTotal := C.2.1
  have hl : lv_has ls 2 [(0, .ref h0), (1, .int p1)] := hl
  obtain ⟨Q, hQ⟩ : ∃ Q, Q = QXI below args s g A (fun _ => w_X9_previewTotal g h0 h1 h2 h3 h4 h5 h6 h7 h8 h9 h10 h11 h12 h13 h14 h15 h16 h17 h18 h19 h20 h21 h22 h23 h24 h25 h26 h27 h28 h29 h30 v0_1 v0_5 v0_6 v1_1 v2_1 v2_3 v2_9 v12_1 v12_4 count2 axleReadings3 gantry4 handAxles5 handPlate6 plateSums7 readPlates8 state9 tag10 time11 gantries12 classes12 tags12 confidence12 fee12 classAxles13 classPercent14 linkMinutes15 linkPrice16 tagAxles17 tagPlate18 o_trips19 o_invoices19 o_invoicePlate20 o_legPrice21 o_trip22 o_tripAxles23 o_tripCents24 o_tripClassNumber25 o_tripInvoice26 o_tripLength27 o_vehicle28 o_links29 o_price29 o_stops30) x r 1 6 := ⟨_, rfl⟩
  suffices hW : W p l e (rml 6 1 6) s m args below meth c s.heap [] 0 0 Q (F0 m 0 ls []) from (by rw [hQ] at hW; exact hW)
  unfold f_X9_previewTotal at hf
  refine lv_aload_n hx hb dX9_previewTotal_0 rfl (lv_at hl 0 rfl) ?_
  refine lv_iload_n hx hb dX9_previewTotal_1 rfl (lv_at hl 1 rfl) ?_
  obtain ⟨x1, hc2, hf⟩ := bd1_some hf
  refine cx_vV C w (wn := fun _ => w_X9_previewTotal g h0 h1 h2 h3 h4 h5 h6 h7 h8 h9 h10 h11 h12 h13 h14 h15 h16 h17 h18 h19 h20 h21 h22 h23 h24 h25 h26 h27 h28 h29 h30 v0_1 v0_5 v0_6 v1_1 v2_1 v2_3 v2_9 v12_1 v12_4 count2 axleReadings3 gantry4 handAxles5 handPlate6 plateSums7 readPlates8 state9 tag10 time11 gantries12 classes12 tags12 confidence12 fee12 classAxles13 classPercent14 linkMinutes15 linkPrice16 tagAxles17 tagPlate18 trips19 invoices19 invoicePlate20 legPrice21 trip22 tripAxles23 tripCents24 tripClassNumber25 tripInvoice26 tripLength27 vehicle28 links29 price29 stops30) (pm_k [false, false, false, false, false, false, false, false, false, false, false, false, false, false, false, false, false, false, false, false, false, false, false, false, false, false, false, false, false, false, false] rfl rfl (fun _ => Nat.le_of_ble_eq_true rfl) (fun _ => rfl)) (c_X9_requireTime l g F h0 p1 x1 hst _ hc2) k_X9_166 (rm_le (by decide) (by decide)) 0 9 rfl rfl rfl rfl hl.1 rfl (Nat.le_of_ble_eq_true rfl) dX9_previewTotal_2 ⟨Nat.le_of_ble_eq_true rfl, Nat.le_of_ble_eq_true rfl⟩ (cells2 := 1) (slots2 := 6) ⟨rfl, rfl⟩ (fun n3 _ H locs w q9 ce h1 h2 h3 => ?_) (fun n3 _ H locs w => ?_)
  · replace hf := it_t n3 hf
    obtain ⟨e1, e2, e3, e4, e5, e6, e7, e8, e9, e10, e11, e12, e13, e14, e15, e16⟩ := tp16 hf
    rw [hQ]
    exact xo C ht w (fun _ => 0) (by rw [← e3, ← e4, ← e5, ← e6, ← e7, ← e8, ← e9, ← e10, ← e11, ← e12, ← e13, ← e14, ← e15, ← e16]) e1 n3 h1 h2 h3 (Nat.le_of_ble_eq_true rfl) (Nat.le_of_ble_eq_true rfl)
  replace hf := it_f (fun h => h n3) hf
  refine lv_aload_n hx hb dX9_previewTotal_5 rfl (lv_at hl 0 rfl) ?_
  refine g_X9_33 C w 0 rfl rfl dX9_previewTotal_6 ?_
  refine lv_aload_n hx hb dX9_previewTotal_9 rfl (lv_at hl 0 rfl) ?_
  refine g_X9_12 C w 0 rfl rfl dX9_previewTotal_10 ?_
  refine lv_aload_n hx hb dX9_previewTotal_13 rfl (lv_at hl 0 rfl) ?_
  refine g_X9_40 C w 0 rfl rfl dX9_previewTotal_14 ?_
  refine g_X9_116 C w 1 rfl rfl dX9_previewTotal_17 ?_
  refine lv_iload_n hx hb dX9_previewTotal_20 rfl (lv_at hl 1 rfl) ?_
  refine lv_aload_n hx hb dX9_previewTotal_21 rfl (lv_at hl 0 rfl) ?_
  refine g_X9_26 C w 0 rfl rfl dX9_previewTotal_22 ?_
  obtain ⟨o4, o5, o6, o7, o8, o9, o10, o11, o12, o13, o14, o15, o16, o17, hc18, hf⟩ := bd14_some hf
  refine ca_vN C w (wn := fun _ => w_X9_previewTotal g h0 h1 h2 h3 h4 h5 h6 h7 h8 h9 h10 h11 h12 h13 h14 h15 h16 h17 h18 h19 h20 h21 h22 h23 h24 h25 h26 h27 h28 h29 h30 v0_1 v0_5 v0_6 v1_1 v2_1 v2_3 v2_9 v12_1 v12_4 count2 axleReadings3 gantry4 handAxles5 handPlate6 plateSums7 readPlates8 state9 tag10 time11 gantries12 classes12 tags12 confidence12 fee12 classAxles13 classPercent14 linkMinutes15 linkPrice16 tagAxles17 tagPlate18 o4 o5 o6 o7 o8 o9 o10 o11 o12 o13 o14 o15 o16 o17) (pm_q 31 31 [19, 20, 21, 22, 23, 24, 25, 26, 27, 28, 12, 13, 14, 15, 16, 17, 18, 2, 3, 4, 5, 6, 7, 8, 9, 10, 11, 29, 30] [0, 1] [0, 1, 19, 20, 21, 22, 23, 24, 25, 26, 27, 28, 12, 13, 14, 15, 16, 17, 18, 2, 3, 4, 5, 6, 7, 8, 9, 10, 11, 29, 30] rfl (by decide +kernel) rfl (fun _ => rfl) (by decide +kernel) (fun _ => rfl)) (c_X0_make l g F h19 h20 h21 h22 h23 h24 h25 h26 h27 h28 h12 h13 h14 h15 h16 h17 h18 h2 h3 h4 h5 h6 h7 h8 h9 h10 h11 h29 h30 v12_1 v12_4 (.int fee12) v2_1 v2_3 v2_9 p1 trips19 invoices19 invoicePlate20 legPrice21 trip22 tripAxles23 tripCents24 tripClassNumber25 tripInvoice26 tripLength27 vehicle28 gantries12 classes12 tags12 confidence12 classAxles13 classPercent14 linkMinutes15 linkPrice16 tagAxles17 tagPlate18 count2 axleReadings3 gantry4 handAxles5 handPlate6 plateSums7 readPlates8 state9 tag10 time11 links29 price29 stops30 o4 o5 o6 o7 o8 o9 o10 o11 o12 o13 o14 o15 o16 o17 _ hc18) k_X9_169 (rm_le (by decide) (by decide)) 19 0 rfl rfl rfl rfl hl.1 rfl (Nat.le_of_ble_eq_true rfl) dX9_previewTotal_25 ⟨Nat.le_of_ble_eq_true rfl, Nat.le_of_ble_eq_true rfl⟩ (cells2 := 1) (slots2 := 6) ⟨rfl, rfl⟩ (fun _ H locs w => ?_)
  refine lv_aload_n hx hb dX9_previewTotal_28 rfl (lv_at hl 0 rfl) ?_
  refine g_X9_33 C w 0 rfl rfl dX9_previewTotal_29 ?_
  refine lv_aload_n hx hb dX9_previewTotal_32 rfl (lv_at hl 0 rfl) ?_
  refine g_X9_12 C w 0 rfl rfl dX9_previewTotal_33 ?_
  obtain ⟨r19, hc20, hf⟩ := bd1_some hf
  refine ca_iN C w (wn := fun _ => w_X9_previewTotal g h0 h1 h2 h3 h4 h5 h6 h7 h8 h9 h10 h11 h12 h13 h14 h15 h16 h17 h18 h19 h20 h21 h22 h23 h24 h25 h26 h27 h28 h29 h30 v0_1 v0_5 v0_6 v1_1 v2_1 v2_3 v2_9 v12_1 v12_4 count2 axleReadings3 gantry4 handAxles5 handPlate6 plateSums7 readPlates8 state9 tag10 time11 gantries12 classes12 tags12 confidence12 fee12 classAxles13 classPercent14 linkMinutes15 linkPrice16 tagAxles17 tagPlate18 o4 o5 o6 o7 o8 o9 o10 o11 o12 o13 o14 o15 o16 o17) (pm_q 31 31 [19, 20, 24, 12, 18] [0, 1, 2, 3, 4, 5, 6, 7, 8, 9, 10, 11, 13, 14, 15, 16, 17, 21, 22, 23, 25, 26, 27, 28, 29, 30] [0, 1, 2, 3, 4, 5, 6, 7, 8, 9, 10, 11, 29, 12, 13, 14, 15, 16, 30, 26, 27, 17, 18, 19, 28, 20, 21, 22, 23, 24, 25] rfl (by decide +kernel) rfl (fun _ => rfl) (by decide +kernel) (fun _ => rfl)) (c_X0_total l g F h19 h20 h24 h12 h18 (.ref h26) (.ref h23) (.ref h27) (.ref h25) (.ref h28) (.ref h22) (.ref h21) (.int gantries12) v12_1 (.int classes12) v12_4 (.int confidence12) (.ref h15) (.ref h16) (.ref h13) (.ref h14) (.ref h17) o4 o5 o6 o10 tags12 fee12 tagPlate18 r19 _ hc20) k_X9_176 (rm_le (by decide) (by decide)) 19 0 rfl rfl rfl rfl hl.1 rfl (Nat.le_of_ble_eq_true rfl) dX9_previewTotal_36 ⟨Nat.le_of_ble_eq_true rfl, Nat.le_of_ble_eq_true rfl⟩ (cells2 := 1) (slots2 := 6) ⟨rfl, rfl⟩ (fun _ H locs w => ?_)
  obtain ⟨e1, e2, e3, e4, e5, e6, e7, e8, e9, e10, e11, e12, e13, e14, e15, e16⟩ := tp16 hf
  rw [hQ]
  exact xr_i C w rfl (fun _ => 0) (by rw [← e3, ← e4, ← e5, ← e6, ← e7, ← e8, ← e9, ← e10, ← e11, ← e12, ← e13, ← e14, ← e15, ← e16]) e1 e2 (Nat.le_of_ble_eq_true rfl) (Nat.le_of_ble_eq_true rfl) dX9_previewTotal_39

theorem dX9_tripCount_0 : decode cX9_tripCount 0 = .ok (.aload_n 0, 1) := by decide +kernel
theorem dX9_tripCount_1 : decode cX9_tripCount 1 = .ok (.getfield 40, 3) := by decide +kernel
theorem dX9_tripCount_4 : decode cX9_tripCount 4 = .ok (.getfield 179, 3) := by decide +kernel
theorem dX9_tripCount_7 : decode cX9_tripCount 7 = .ok (.getfield 183, 3) := by decide +kernel
theorem dX9_tripCount_10 : decode cX9_tripCount 10 = .ok (.ireturn, 1) := by decide +kernel
abbrev m_X9_tripCount : MD := (yX9_tripCount, cX9_tripCount, 1, (some .int))
theorem g_X9_179 {p : Program} {l : Launch} {e : Env} {R : Room} {s : State} {m : MethodId} {args : Array Value} {below : List Frame} {meth : Method} {c : Code} {H : Heap} {locs : List Loc} {cells slots : Nat} {Q : State → Prop} {d : MD} {g : GT} {A : Nat → Prop} {ws : va_W} {pc : Nat} {ls : Array Slot} {rest : List Value} (C : Cx p s m args meth c RX9 d g A) (w : Wd g A ws s.heap H locs) (q0 : Nat) {a : Nat} {fs : List Value} {v : Value} (he : ws[q0]? = some (a, .inr (3, fs))) (hv : fs[1]? = some v) (hd : decode d.2.1 pc = .ok (.getfield 179, 3)) (kk : W p l e R s m args below meth c H locs cells slots Q (F0 m (pc + 3) ls (v :: rest))) : W p l e R s m args below meth c H locs cells slots Q (F0 m pc ls (.ref a :: rest)) := fgN C w inX3s (ref := RX3) rfl 1 (by decide) (nw_t (w := Cond.fieldLinkNest RX9 179 RX3 (TX3 1).2.1 (TX3 1).2.2.1 "FreeFlowToll") 315 (by decide +kernel) rfl) rfl q0 he hv hd kk
theorem g_X9_183 {p : Program} {l : Launch} {e : Env} {R : Room} {s : State} {m : MethodId} {args : Array Value} {below : List Frame} {meth : Method} {c : Code} {H : Heap} {locs : List Loc} {cells slots : Nat} {Q : State → Prop} {d : MD} {g : GT} {A : Nat → Prop} {ws : va_W} {pc : Nat} {ls : Array Slot} {rest : List Value} (C : Cx p s m args meth c RX9 d g A) (w : Wd g A ws s.heap H locs) (q0 : Nat) {a : Nat} {fs : List Value} {v : Value} (he : ws[q0]? = some (a, .inr (1, fs))) (hv : fs[0]? = some v) (hd : decode d.2.1 pc = .ok (.getfield 183, 3)) (kk : W p l e R s m args below meth c H locs cells slots Q (F0 m (pc + 3) ls (v :: rest))) : W p l e R s m args below meth c H locs cells slots Q (F0 m pc ls (.ref a :: rest)) := fgN C w inX1s (ref := RX1) rfl 0 (by decide) (nw_t (w := Cond.fieldLinkNest RX9 183 RX1 (TX1 0).2.1 (TX1 0).2.2.1 "FreeFlowToll") 273 (by decide +kernel) rfl) rfl q0 he hv hd kk
abbrev w_X9_tripCount (g : GT) (h0 h1 h2 : Nat) (v0_0 v0_1 v0_2 v0_3 v0_5 v0_6 v1_0 v2_1 v2_2 v2_3 v2_4 v2_5 v2_6 v2_7 v2_8 : Value) (trips2 : Int32) : va_W := [(h0, .inr (9, [v0_0, v0_1, v0_2, v0_3, .ref h1, v0_5, v0_6])), (h1, .inr (3, [v1_0, .ref h2])), (h2, .inr (1, [.int trips2, v2_1, v2_2, v2_3, v2_4, v2_5, v2_6, v2_7, v2_8]))]
def f_X9_tripCount (F : Nat) (trips2 : Int32) : Option (Int32) :=
  some trips2
set_option maxHeartbeats 4000000 in
set_option maxRecDepth 100000 in
theorem c_X9_tripCount (l : Launch) (g : GT) (F : Nat) (h0 h1 h2 : Nat) (v0_0 v0_1 v0_2 v0_3 v0_5 v0_6 v1_0 v2_1 v2_2 v2_3 v2_4 v2_5 v2_6 v2_7 v2_8 : Value) (trips2 : Int32) (r : Int32) (sz : Nat) (hf : f_X9_tripCount F trips2 = some r) : CI l m_X9_tripCount (rml 0 0 0) g (w_X9_tripCount g h0 h1 h2 v0_0 v0_1 v0_2 v0_3 v0_5 v0_6 v1_0 v2_1 v2_2 v2_3 v2_4 v2_5 v2_6 v2_7 v2_8 trips2) (fun _ => w_X9_tripCount g h0 h1 h2 v0_0 v0_1 v0_2 v0_3 v0_5 v0_6 v1_0 v2_1 v2_2 v2_3 v2_4 v2_5 v2_6 v2_7 v2_8 trips2) sz [.ref h0] r := by
  refine en_i (by decide) (Nat.le_of_ble_eq_true rfl) (fun p e s m args below meth c A ls C w hl => ?_)
  have C : Cx p s m args meth c RX9 m_X9_tripCount g A := C
  have hx := C.1
  have hb : c.code = cX9_tripCount := C.2.1
  have hl : lv_has ls 1 [(0, .ref h0)] := hl
  obtain ⟨Q, hQ⟩ : ∃ Q, Q = QI below args s g A (fun _ => w_X9_tripCount g h0 h1 h2 v0_0 v0_1 v0_2 v0_3 v0_5 v0_6 v1_0 v2_1 v2_2 v2_3 v2_4 v2_5 v2_6 v2_7 v2_8 trips2) r 0 0 := ⟨_, rfl⟩
  suffices hW : W p l e (rml 0 0 0) s m args below meth c s.heap [] 0 0 Q (F0 m 0 ls []) from (by rw [hQ] at hW; exact hW)
  unfold f_X9_tripCount at hf
  refine lv_aload_n hx hb dX9_tripCount_0 rfl (lv_at hl 0 rfl) ?_
  refine g_X9_40 C w 0 rfl rfl dX9_tripCount_1 ?_
  refine g_X9_179 C w 1 rfl rfl dX9_tripCount_4 ?_
  refine g_X9_183 C w 2 rfl rfl dX9_tripCount_7 ?_
  obtain e1 := tp1 hf
  rw [hQ]
  exact rt_i C w rfl (fun _ => 0) rfl e1 dX9_tripCount_10

theorem dX9_requireTrip_0 : decode cX9_requireTrip 0 = .ok (.iload_n 1, 1) := by decide +kernel
theorem dX9_requireTrip_1 : decode cX9_requireTrip 1 = .ok (.ifCond .lt 17, 3) := by decide +kernel
theorem dX9_requireTrip_4 : decode cX9_requireTrip 4 = .ok (.iload_n 1, 1) := by decide +kernel
theorem dX9_requireTrip_5 : decode cX9_requireTrip 5 = .ok (.aload_n 0, 1) := by decide +kernel
theorem dX9_requireTrip_6 : decode cX9_requireTrip 6 = .ok (.getfield 40, 3) := by decide +kernel
theorem dX9_requireTrip_9 : decode cX9_requireTrip 9 = .ok (.getfield 179, 3) := by decide +kernel
theorem dX9_requireTrip_12 : decode cX9_requireTrip 12 = .ok (.getfield 183, 3) := by decide +kernel
theorem dX9_requireTrip_15 : decode cX9_requireTrip 15 = .ok (.if_icmp .lt 14, 3) := by decide +kernel
theorem dX9_requireTrip_18 : decode cX9_requireTrip 18 = .ok (.new 330, 3) := by decide +kernel
theorem dX9_requireTrip_21 : decode cX9_requireTrip 21 = .ok (.dup, 1) := by decide +kernel
theorem dX9_requireTrip_22 : decode cX9_requireTrip 22 = .ok (.ldc_w 337, 3) := by decide +kernel
theorem dX9_requireTrip_25 : decode cX9_requireTrip 25 = .ok (.invokespecial 334, 3) := by decide +kernel
theorem dX9_requireTrip_28 : decode cX9_requireTrip 28 = .ok (.athrow, 1) := by decide +kernel
theorem dX9_requireTrip_29 : decode cX9_requireTrip 29 = .ok (.return_, 1) := by decide +kernel
abbrev m_X9_requireTrip : MD := (yX9_requireTrip, cX9_requireTrip, 2, none)

abbrev w_X9_requireTrip (g : GT) (h0 h1 h2 : Nat) (v0_0 v0_1 v0_2 v0_3 v0_5 v0_6 v1_0 v2_1 v2_2 v2_3 v2_4 v2_5 v2_6 v2_7 v2_8 : Value) (trips2 : Int32) : va_W := [(h0, .inr (9, [v0_0, v0_1, v0_2, v0_3, .ref h1, v0_5, v0_6])), (h1, .inr (3, [v1_0, .ref h2])), (h2, .inr (1, [.int trips2, v2_1, v2_2, v2_3, v2_4, v2_5, v2_6, v2_7, v2_8]))]
def f_X9_requireTrip_b18 (F : Nat) (trips2 : Int32) : Option (Nat) :=
  some 2
def f_X9_requireTrip (F : Nat) (p1 trips2 : Int32) : Option (Nat) :=
  if p1 < 0 then
    f_X9_requireTrip_b18 F trips2
  else
    if p1 < trips2 then
      some 0
    else
      f_X9_requireTrip_b18 F trips2
set_option maxHeartbeats 4000000 in
set_option maxRecDepth 100000 in
theorem c_X9_requireTrip (l : Launch) (g : GT) (F : Nat) (h0 h1 h2 : Nat) (v0_0 v0_1 v0_2 v0_3 v0_5 v0_6 v1_0 v2_1 v2_2 v2_3 v2_4 v2_5 v2_6 v2_7 v2_8 : Value) (p1 trips2 : Int32) (x : Nat) (hst : l.stackTraces = false) (sz : Nat) (hf : f_X9_requireTrip F p1 trips2 = some x) : XV l m_X9_requireTrip (rml 1 1 6) g (w_X9_requireTrip g h0 h1 h2 v0_0 v0_1 v0_2 v0_3 v0_5 v0_6 v1_0 v2_1 v2_2 v2_3 v2_4 v2_5 v2_6 v2_7 v2_8 trips2) (fun _ => w_X9_requireTrip g h0 h1 h2 v0_0 v0_1 v0_2 v0_3 v0_5 v0_6 v1_0 v2_1 v2_2 v2_3 v2_4 v2_5 v2_6 v2_7 v2_8 trips2) sz [.ref h0, .int p1] x := by
  refine ex_v (by decide) (Nat.le_of_ble_eq_true rfl) (fun p e s m args below meth c A ls ht C w hl => ?_)
  have C : Cx p s m args meth c RX9 m_X9_requireTrip g A := C
  have hx := C.1
  have hb : c.code = cX9_requireTrip := C.2.1
  have hl : lv_has ls 2 [(0, .ref h0), (1, .int p1)] := hl
  obtain ⟨Q, hQ⟩ : ∃ Q, Q = QXV below args s g A (fun _ => w_X9_requireTrip g h0 h1 h2 v0_0 v0_1 v0_2 v0_3 v0_5 v0_6 v1_0 v2_1 v2_2 v2_3 v2_4 v2_5 v2_6 v2_7 v2_8 trips2) x 1 6 := ⟨_, rfl⟩
  suffices hW : W p l e (rml 1 1 6) s m args below meth c s.heap [] 0 0 Q (F0 m 0 ls []) from (by rw [hQ] at hW; exact hW)
  unfold f_X9_requireTrip at hf
  have b18 : ∀ (H : Heap) (locs : List Loc) (ls : Array Slot), f_X9_requireTrip_b18 F trips2 = some x → Wd g A (w_X9_requireTrip g h0 h1 h2 v0_0 v0_1 v0_2 v0_3 v0_5 v0_6 v1_0 v2_1 v2_2 v2_3 v2_4 v2_5 v2_6 v2_7 v2_8 trips2) s.heap H locs → lv_has ls 2 [] → W p l e (rml 1 1 6) s m args below meth c H locs 0 0 Q (F0 m 18 ls []) := by
    intro  H locs ls hf w hl
    unfold f_X9_requireTrip_b18 at hf
    obtain e1 := tp1 hf
    rw [hQ]
    exact xtw C ht w hst kl_2 (List.mem_of_getElem? (i := 12) rfl) at_2 hl.1 dX9_requireTrip_18 dX9_requireTrip_21 dX9_requireTrip_22 dX9_requireTrip_25 dX9_requireTrip_28 (Nat.le_of_ble_eq_true rfl) (Nat.le_of_ble_eq_true rfl) (Nat.le_of_ble_eq_true rfl) (Nat.le_of_ble_eq_true rfl) (fun _ => 0) rfl e1 (Nat.le_of_ble_eq_true rfl) (Nat.le_of_ble_eq_true rfl)
  refine lv_iload_n hx hb dX9_requireTrip_0 rfl (lv_at hl 1 rfl) ?_
  refine lv_if_lt (tgt := 18) hx hb dX9_requireTrip_1 (by decide) (fun c1 => ?_) (fun c1 => ?_)
  · replace hf := it_t c1 hf
    exact b18  _ _ _ hf w (lv_sub hl [] rfl)
  · replace hf := it_f c1 hf
    refine lv_iload_n hx hb dX9_requireTrip_4 rfl (lv_at hl 1 rfl) ?_
    refine lv_aload_n hx hb dX9_requireTrip_5 rfl (lv_at hl 0 rfl) ?_
    refine g_X9_40 C w 0 rfl rfl dX9_requireTrip_6 ?_
    refine g_X9_179 C w 1 rfl rfl dX9_requireTrip_9 ?_
    refine g_X9_183 C w 2 rfl rfl dX9_requireTrip_12 ?_
    refine lv_icmp_lt (tgt := 29) hx hb dX9_requireTrip_15 (by decide) (fun c2 => ?_) (fun c2 => ?_)
    · replace hf := it_t c2 hf
      obtain e1 := tp1 hf
      rw [hQ]
      exact xr_v C w rfl (fun _ => 0) rfl e1 (Nat.le_of_ble_eq_true rfl) (Nat.le_of_ble_eq_true rfl) dX9_requireTrip_29
    · replace hf := it_f c2 hf
      exact b18  _ _ _ hf w (lv_sub hl [] rfl)

theorem dX9_tripAmount_0 : decode cX9_tripAmount 0 = .ok (.aload_n 0, 1) := by decide +kernel
theorem dX9_tripAmount_1 : decode cX9_tripAmount 1 = .ok (.iload_n 1, 1) := by decide +kernel
theorem dX9_tripAmount_2 : decode cX9_tripAmount 2 = .ok (.invokevirtual 186, 3) := by decide +kernel
theorem dX9_tripAmount_5 : decode cX9_tripAmount 5 = .ok (.aload_n 0, 1) := by decide +kernel
theorem dX9_tripAmount_6 : decode cX9_tripAmount 6 = .ok (.getfield 40, 3) := by decide +kernel
theorem dX9_tripAmount_9 : decode cX9_tripAmount 9 = .ok (.getfield 179, 3) := by decide +kernel
theorem dX9_tripAmount_12 : decode cX9_tripAmount 12 = .ok (.getfield 189, 3) := by decide +kernel
theorem dX9_tripAmount_15 : decode cX9_tripAmount 15 = .ok (.iload_n 1, 1) := by decide +kernel
theorem dX9_tripAmount_16 : decode cX9_tripAmount 16 = .ok (.iaload, 1) := by decide +kernel
theorem dX9_tripAmount_17 : decode cX9_tripAmount 17 = .ok (.ireturn, 1) := by decide +kernel
abbrev m_X9_tripAmount : MD := (yX9_tripAmount, cX9_tripAmount, 2, (some .int))
theorem g_X9_189 {p : Program} {l : Launch} {e : Env} {R : Room} {s : State} {m : MethodId} {args : Array Value} {below : List Frame} {meth : Method} {c : Code} {H : Heap} {locs : List Loc} {cells slots : Nat} {Q : State → Prop} {d : MD} {g : GT} {A : Nat → Prop} {ws : va_W} {pc : Nat} {ls : Array Slot} {rest : List Value} (C : Cx p s m args meth c RX9 d g A) (w : Wd g A ws s.heap H locs) (q0 : Nat) {a : Nat} {fs : List Value} {v : Value} (he : ws[q0]? = some (a, .inr (1, fs))) (hv : fs[2]? = some v) (hd : decode d.2.1 pc = .ok (.getfield 189, 3)) (kk : W p l e R s m args below meth c H locs cells slots Q (F0 m (pc + 3) ls (v :: rest))) : W p l e R s m args below meth c H locs cells slots Q (F0 m pc ls (.ref a :: rest)) := fgN C w inX1s (ref := RX1) rfl 2 (by decide) (nw_t (w := Cond.fieldLinkNest RX9 189 RX1 (TX1 2).2.1 (TX1 2).2.2.1 "FreeFlowToll") 278 (by decide +kernel) rfl) rfl q0 he hv hd kk
theorem q_993 : Cond.code yX9_requireTrip cX9_requireTrip 2 none ∈ TS := ts_t 993 (by decide +kernel) (by decide +kernel)
theorem q_990 : Cond.methodLink RX9 186 yX9_requireTrip ∈ TS := ts_t 990 (by decide +kernel) (by decide +kernel)
theorem q_992 : Cond.instanceMethod yX9_requireTrip ∈ TS := ts_t 992 (by decide +kernel) (by decide +kernel)
theorem qs_67 : Cond.selects yX9_requireTrip.cls yX9_requireTrip yX9_requireTrip ∈ TS := ts_s 67 (by decide +kernel) (by decide +kernel)
theorem k_X9_186 : LkV RX9 186 m_X9_requireTrip 1 := ⟨q_990, q_992, qs_67, ⟨q_1, q_993, by decide, by decide, by decide +kernel⟩⟩
abbrev w_X9_tripAmount (g : GT) (h0 h1 h2 h3 : Nat) (v0_0 v0_1 v0_2 v0_3 v0_5 v0_6 v1_0 v2_1 v2_3 v2_4 v2_5 v2_6 v2_7 v2_8 : Value) (trips2 : Int32) (amount3 : Nat → Int32) : va_W := [(h0, .inr (9, [v0_0, v0_1, v0_2, v0_3, .ref h1, v0_5, v0_6])), (h1, .inr (3, [v1_0, .ref h2])), (h2, .inr (1, [.int trips2, v2_1, .ref h3, v2_3, v2_4, v2_5, v2_6, v2_7, v2_8])), (h3, aI g 80 amount3)]
def f_X9_tripAmount (F : Nat) (p1 trips2 : Int32) (amount3 : Nat → Int32) : Option (Nat × Int32) :=
  bd1 (f_X9_requireTrip F p1 trips2) fun x1 =>
  if x1 ≠ 0 then some (x1, 0) else
  rd amount3 80 p1 fun a4 =>
  some (0, a4)
set_option maxHeartbeats 4000000 in
set_option maxRecDepth 100000 in
theorem c_X9_tripAmount (l : Launch) (g : GT) (F : Nat) (h0 h1 h2 h3 : Nat) (v0_0 v0_1 v0_2 v0_3 v0_5 v0_6 v1_0 v2_1 v2_3 v2_4 v2_5 v2_6 v2_7 v2_8 : Value) (p1 trips2 : Int32) (amount3 : Nat → Int32) (x : Nat) (r : Int32) (hst : l.stackTraces = false) (sz : Nat) (hf : f_X9_tripAmount F p1 trips2 amount3 = some (x, r)) : XI l m_X9_tripAmount (rml 2 1 6) g (w_X9_tripAmount g h0 h1 h2 h3 v0_0 v0_1 v0_2 v0_3 v0_5 v0_6 v1_0 v2_1 v2_3 v2_4 v2_5 v2_6 v2_7 v2_8 trips2 amount3) (fun _ => w_X9_tripAmount g h0 h1 h2 h3 v0_0 v0_1 v0_2 v0_3 v0_5 v0_6 v1_0 v2_1 v2_3 v2_4 v2_5 v2_6 v2_7 v2_8 trips2 amount3) sz [.ref h0, .int p1] x r := by
  refine ex_i (by decide) (Nat.le_of_ble_eq_true rfl) (fun p e s m args below meth c A ls ht C w hl => ?_)
  have C : Cx p s m args meth c RX9 m_X9_tripAmount g A := C
  have hx := C.1
  have hb : c.code = cX9_tripAmount := C.2.1
  have hl : lv_has ls 2 [(0, .ref h0), (1, .int p1)] := hl
  obtain ⟨Q, hQ⟩ : ∃ Q, Q = QXI below args s g A (fun _ => w_X9_tripAmount g h0 h1 h2 h3 v0_0 v0_1 v0_2 v0_3 v0_5 v0_6 v1_0 v2_1 v2_3 v2_4 v2_5 v2_6 v2_7 v2_8 trips2 amount3) x r 1 6 := ⟨_, rfl⟩
  suffices hW : W p l e (rml 2 1 6) s m args below meth c s.heap [] 0 0 Q (F0 m 0 ls []) from (by rw [hQ] at hW; exact hW)
  unfold f_X9_tripAmount at hf
  refine lv_aload_n hx hb dX9_tripAmount_0 rfl (lv_at hl 0 rfl) ?_
  refine lv_iload_n hx hb dX9_tripAmount_1 rfl (lv_at hl 1 rfl) ?_
  obtain ⟨x1, hc2, hf⟩ := bd1_some hf
  refine cx_vV C w (wn := fun _ => w_X9_tripAmount g h0 h1 h2 h3 v0_0 v0_1 v0_2 v0_3 v0_5 v0_6 v1_0 v2_1 v2_3 v2_4 v2_5 v2_6 v2_7 v2_8 trips2 amount3) (pm_k [true, true, true, false] rfl rfl (fun _ => Nat.le_of_ble_eq_true rfl) (fun _ => rfl)) (c_X9_requireTrip l g F h0 h1 h2 v0_0 v0_1 v0_2 v0_3 v0_5 v0_6 v1_0 v2_1 (.ref h3) v2_3 v2_4 v2_5 v2_6 v2_7 v2_8 p1 trips2 x1 hst _ hc2) k_X9_186 (rm_le (by decide) (by decide)) 0 9 rfl rfl rfl rfl hl.1 rfl (Nat.le_of_ble_eq_true rfl) dX9_tripAmount_2 ⟨Nat.le_of_ble_eq_true rfl, Nat.le_of_ble_eq_true rfl⟩ (cells2 := 1) (slots2 := 6) ⟨rfl, rfl⟩ (fun n3 _ H locs w q9 ce h1 h2 h3 => ?_) (fun n3 _ H locs w => ?_)
  · replace hf := it_t n3 hf
    obtain ⟨e1, e2⟩ := tp2 hf
    rw [hQ]
    exact xo C ht w (fun _ => 0) rfl e1 n3 h1 h2 h3 (Nat.le_of_ble_eq_true rfl) (Nat.le_of_ble_eq_true rfl)
  replace hf := it_f (fun h => h n3) hf
  refine lv_aload_n hx hb dX9_tripAmount_5 rfl (lv_at hl 0 rfl) ?_
  refine g_X9_40 C w 0 rfl rfl dX9_tripAmount_6 ?_
  refine g_X9_179 C w 1 rfl rfl dX9_tripAmount_9 ?_
  refine g_X9_189 C w 2 rfl rfl dX9_tripAmount_12 ?_
  refine lv_iload_n hx hb dX9_tripAmount_15 rfl (lv_at hl 1 rfl) ?_
  obtain ⟨a4, hia4, haa4, hf⟩ := rd_some hf
  refine ial C w 3 rfl hia4 haa4 dX9_tripAmount_16 ?_
  obtain ⟨e1, e2⟩ := tp2 hf
  rw [hQ]
  exact xr_i C w rfl (fun _ => 0) rfl e1 e2 (Nat.le_of_ble_eq_true rfl) (Nat.le_of_ble_eq_true rfl) dX9_tripAmount_17

theorem dX9_tripClass_0 : decode cX9_tripClass 0 = .ok (.aload_n 0, 1) := by decide +kernel
theorem dX9_tripClass_1 : decode cX9_tripClass 1 = .ok (.iload_n 1, 1) := by decide +kernel
theorem dX9_tripClass_2 : decode cX9_tripClass 2 = .ok (.invokevirtual 186, 3) := by decide +kernel
theorem dX9_tripClass_5 : decode cX9_tripClass 5 = .ok (.aload_n 0, 1) := by decide +kernel
theorem dX9_tripClass_6 : decode cX9_tripClass 6 = .ok (.getfield 40, 3) := by decide +kernel
theorem dX9_tripClass_9 : decode cX9_tripClass 9 = .ok (.getfield 179, 3) := by decide +kernel
theorem dX9_tripClass_12 : decode cX9_tripClass 12 = .ok (.getfield 192, 3) := by decide +kernel
theorem dX9_tripClass_15 : decode cX9_tripClass 15 = .ok (.iload_n 1, 1) := by decide +kernel
theorem dX9_tripClass_16 : decode cX9_tripClass 16 = .ok (.iaload, 1) := by decide +kernel
theorem dX9_tripClass_17 : decode cX9_tripClass 17 = .ok (.ireturn, 1) := by decide +kernel
abbrev m_X9_tripClass : MD := (yX9_tripClass, cX9_tripClass, 2, (some .int))
theorem g_X9_192 {p : Program} {l : Launch} {e : Env} {R : Room} {s : State} {m : MethodId} {args : Array Value} {below : List Frame} {meth : Method} {c : Code} {H : Heap} {locs : List Loc} {cells slots : Nat} {Q : State → Prop} {d : MD} {g : GT} {A : Nat → Prop} {ws : va_W} {pc : Nat} {ls : Array Slot} {rest : List Value} (C : Cx p s m args meth c RX9 d g A) (w : Wd g A ws s.heap H locs) (q0 : Nat) {a : Nat} {fs : List Value} {v : Value} (he : ws[q0]? = some (a, .inr (1, fs))) (hv : fs[3]? = some v) (hd : decode d.2.1 pc = .ok (.getfield 192, 3)) (kk : W p l e R s m args below meth c H locs cells slots Q (F0 m (pc + 3) ls (v :: rest))) : W p l e R s m args below meth c H locs cells slots Q (F0 m pc ls (.ref a :: rest)) := fgN C w inX1s (ref := RX1) rfl 3 (by decide) (nw_t (w := Cond.fieldLinkNest RX9 192 RX1 (TX1 3).2.1 (TX1 3).2.2.1 "FreeFlowToll") 280 (by decide +kernel) rfl) rfl q0 he hv hd kk
abbrev w_X9_tripClass (g : GT) (h0 h1 h2 h3 : Nat) (v0_0 v0_1 v0_2 v0_3 v0_5 v0_6 v1_0 v2_1 v2_2 v2_4 v2_5 v2_6 v2_7 v2_8 : Value) (trips2 : Int32) (vehicleClass3 : Nat → Int32) : va_W := [(h0, .inr (9, [v0_0, v0_1, v0_2, v0_3, .ref h1, v0_5, v0_6])), (h1, .inr (3, [v1_0, .ref h2])), (h2, .inr (1, [.int trips2, v2_1, v2_2, .ref h3, v2_4, v2_5, v2_6, v2_7, v2_8])), (h3, aI g 80 vehicleClass3)]
def f_X9_tripClass (F : Nat) (p1 trips2 : Int32) (vehicleClass3 : Nat → Int32) : Option (Nat × Int32) :=
  bd1 (f_X9_requireTrip F p1 trips2) fun x1 =>
  if x1 ≠ 0 then some (x1, 0) else
  rd vehicleClass3 80 p1 fun a4 =>
  some (0, a4)
set_option maxHeartbeats 4000000 in
set_option maxRecDepth 100000 in
theorem c_X9_tripClass (l : Launch) (g : GT) (F : Nat) (h0 h1 h2 h3 : Nat) (v0_0 v0_1 v0_2 v0_3 v0_5 v0_6 v1_0 v2_1 v2_2 v2_4 v2_5 v2_6 v2_7 v2_8 : Value) (p1 trips2 : Int32) (vehicleClass3 : Nat → Int32) (x : Nat) (r : Int32) (hst : l.stackTraces = false) (sz : Nat) (hf : f_X9_tripClass F p1 trips2 vehicleClass3 = some (x, r)) : XI l m_X9_tripClass (rml 2 1 6) g (w_X9_tripClass g h0 h1 h2 h3 v0_0 v0_1 v0_2 v0_3 v0_5 v0_6 v1_0 v2_1 v2_2 v2_4 v2_5 v2_6 v2_7 v2_8 trips2 vehicleClass3) (fun _ => w_X9_tripClass g h0 h1 h2 h3 v0_0 v0_1 v0_2 v0_3 v0_5 v0_6 v1_0 v2_1 v2_2 v2_4 v2_5 v2_6 v2_7 v2_8 trips2 vehicleClass3) sz [.ref h0, .int p1] x r := by
  refine ex_i (by decide) (Nat.le_of_ble_eq_true rfl) (fun p e s m args below meth c A ls ht C w hl => ?_)
  have C : Cx p s m args meth c RX9 m_X9_tripClass g A := C
  have hx := C.1
  have hb : c.code = cX9_tripClass := C.2.1
  have hl : lv_has ls 2 [(0, .ref h0), (1, .int p1)] := hl
  obtain ⟨Q, hQ⟩ : ∃ Q, Q = QXI below args s g A (fun _ => w_X9_tripClass g h0 h1 h2 h3 v0_0 v0_1 v0_2 v0_3 v0_5 v0_6 v1_0 v2_1 v2_2 v2_4 v2_5 v2_6 v2_7 v2_8 trips2 vehicleClass3) x r 1 6 := ⟨_, rfl⟩
  suffices hW : W p l e (rml 2 1 6) s m args below meth c s.heap [] 0 0 Q (F0 m 0 ls []) from (by rw [hQ] at hW; exact hW)
  unfold f_X9_tripClass at hf
  refine lv_aload_n hx hb dX9_tripClass_0 rfl (lv_at hl 0 rfl) ?_
  refine lv_iload_n hx hb dX9_tripClass_1 rfl (lv_at hl 1 rfl) ?_
  obtain ⟨x1, hc2, hf⟩ := bd1_some hf
  refine cx_vV C w (wn := fun _ => w_X9_tripClass g h0 h1 h2 h3 v0_0 v0_1 v0_2 v0_3 v0_5 v0_6 v1_0 v2_1 v2_2 v2_4 v2_5 v2_6 v2_7 v2_8 trips2 vehicleClass3) (pm_k [true, true, true, false] rfl rfl (fun _ => Nat.le_of_ble_eq_true rfl) (fun _ => rfl)) (c_X9_requireTrip l g F h0 h1 h2 v0_0 v0_1 v0_2 v0_3 v0_5 v0_6 v1_0 v2_1 v2_2 (.ref h3) v2_4 v2_5 v2_6 v2_7 v2_8 p1 trips2 x1 hst _ hc2) k_X9_186 (rm_le (by decide) (by decide)) 0 9 rfl rfl rfl rfl hl.1 rfl (Nat.le_of_ble_eq_true rfl) dX9_tripClass_2 ⟨Nat.le_of_ble_eq_true rfl, Nat.le_of_ble_eq_true rfl⟩ (cells2 := 1) (slots2 := 6) ⟨rfl, rfl⟩ (fun n3 _ H locs w q9 ce h1 h2 h3 => ?_) (fun n3 _ H locs w => ?_)
  · replace hf := it_t n3 hf
    obtain ⟨e1, e2⟩ := tp2 hf
    rw [hQ]
    exact xo C ht w (fun _ => 0) rfl e1 n3 h1 h2 h3 (Nat.le_of_ble_eq_true rfl) (Nat.le_of_ble_eq_true rfl)
  replace hf := it_f (fun h => h n3) hf
  refine lv_aload_n hx hb dX9_tripClass_5 rfl (lv_at hl 0 rfl) ?_
  refine g_X9_40 C w 0 rfl rfl dX9_tripClass_6 ?_
  refine g_X9_179 C w 1 rfl rfl dX9_tripClass_9 ?_
  refine g_X9_192 C w 2 rfl rfl dX9_tripClass_12 ?_
  refine lv_iload_n hx hb dX9_tripClass_15 rfl (lv_at hl 1 rfl) ?_
  obtain ⟨a4, hia4, haa4, hf⟩ := rd_some hf
  refine ial C w 3 rfl hia4 haa4 dX9_tripClass_16 ?_
  obtain ⟨e1, e2⟩ := tp2 hf
  rw [hQ]
  exact xr_i C w rfl (fun _ => 0) rfl e1 e2 (Nat.le_of_ble_eq_true rfl) (Nat.le_of_ble_eq_true rfl) dX9_tripClass_17

theorem dX9_tripPassages_0 : decode cX9_tripPassages 0 = .ok (.aload_n 0, 1) := by decide +kernel
theorem dX9_tripPassages_1 : decode cX9_tripPassages 1 = .ok (.iload_n 1, 1) := by decide +kernel
theorem dX9_tripPassages_2 : decode cX9_tripPassages 2 = .ok (.invokevirtual 186, 3) := by decide +kernel
theorem dX9_tripPassages_5 : decode cX9_tripPassages 5 = .ok (.aload_n 0, 1) := by decide +kernel
theorem dX9_tripPassages_6 : decode cX9_tripPassages 6 = .ok (.getfield 40, 3) := by decide +kernel
theorem dX9_tripPassages_9 : decode cX9_tripPassages 9 = .ok (.getfield 179, 3) := by decide +kernel
theorem dX9_tripPassages_12 : decode cX9_tripPassages 12 = .ok (.getfield 195, 3) := by decide +kernel
theorem dX9_tripPassages_15 : decode cX9_tripPassages 15 = .ok (.iload_n 1, 1) := by decide +kernel
theorem dX9_tripPassages_16 : decode cX9_tripPassages 16 = .ok (.iaload, 1) := by decide +kernel
theorem dX9_tripPassages_17 : decode cX9_tripPassages 17 = .ok (.ireturn, 1) := by decide +kernel
abbrev m_X9_tripPassages : MD := (yX9_tripPassages, cX9_tripPassages, 2, (some .int))
theorem g_X9_195 {p : Program} {l : Launch} {e : Env} {R : Room} {s : State} {m : MethodId} {args : Array Value} {below : List Frame} {meth : Method} {c : Code} {H : Heap} {locs : List Loc} {cells slots : Nat} {Q : State → Prop} {d : MD} {g : GT} {A : Nat → Prop} {ws : va_W} {pc : Nat} {ls : Array Slot} {rest : List Value} (C : Cx p s m args meth c RX9 d g A) (w : Wd g A ws s.heap H locs) (q0 : Nat) {a : Nat} {fs : List Value} {v : Value} (he : ws[q0]? = some (a, .inr (1, fs))) (hv : fs[4]? = some v) (hd : decode d.2.1 pc = .ok (.getfield 195, 3)) (kk : W p l e R s m args below meth c H locs cells slots Q (F0 m (pc + 3) ls (v :: rest))) : W p l e R s m args below meth c H locs cells slots Q (F0 m pc ls (.ref a :: rest)) := fgN C w inX1s (ref := RX1) rfl 4 (by decide) (nw_t (w := Cond.fieldLinkNest RX9 195 RX1 (TX1 4).2.1 (TX1 4).2.2.1 "FreeFlowToll") 282 (by decide +kernel) rfl) rfl q0 he hv hd kk
abbrev w_X9_tripPassages (g : GT) (h0 h1 h2 h3 : Nat) (v0_0 v0_1 v0_2 v0_3 v0_5 v0_6 v1_0 v2_1 v2_2 v2_3 v2_5 v2_6 v2_7 v2_8 : Value) (trips2 : Int32) (passages3 : Nat → Int32) : va_W := [(h0, .inr (9, [v0_0, v0_1, v0_2, v0_3, .ref h1, v0_5, v0_6])), (h1, .inr (3, [v1_0, .ref h2])), (h2, .inr (1, [.int trips2, v2_1, v2_2, v2_3, .ref h3, v2_5, v2_6, v2_7, v2_8])), (h3, aI g 80 passages3)]
def f_X9_tripPassages (F : Nat) (p1 trips2 : Int32) (passages3 : Nat → Int32) : Option (Nat × Int32) :=
  bd1 (f_X9_requireTrip F p1 trips2) fun x1 =>
  if x1 ≠ 0 then some (x1, 0) else
  rd passages3 80 p1 fun a4 =>
  some (0, a4)
set_option maxHeartbeats 4000000 in
set_option maxRecDepth 100000 in
theorem c_X9_tripPassages (l : Launch) (g : GT) (F : Nat) (h0 h1 h2 h3 : Nat) (v0_0 v0_1 v0_2 v0_3 v0_5 v0_6 v1_0 v2_1 v2_2 v2_3 v2_5 v2_6 v2_7 v2_8 : Value) (p1 trips2 : Int32) (passages3 : Nat → Int32) (x : Nat) (r : Int32) (hst : l.stackTraces = false) (sz : Nat) (hf : f_X9_tripPassages F p1 trips2 passages3 = some (x, r)) : XI l m_X9_tripPassages (rml 2 1 6) g (w_X9_tripPassages g h0 h1 h2 h3 v0_0 v0_1 v0_2 v0_3 v0_5 v0_6 v1_0 v2_1 v2_2 v2_3 v2_5 v2_6 v2_7 v2_8 trips2 passages3) (fun _ => w_X9_tripPassages g h0 h1 h2 h3 v0_0 v0_1 v0_2 v0_3 v0_5 v0_6 v1_0 v2_1 v2_2 v2_3 v2_5 v2_6 v2_7 v2_8 trips2 passages3) sz [.ref h0, .int p1] x r := by
  refine ex_i (by decide) (Nat.le_of_ble_eq_true rfl) (fun p e s m args below meth c A ls ht C w hl => ?_)
  have C : Cx p s m args meth c RX9 m_X9_tripPassages g A := C
  have hx := C.1
  have hb : c.code = cX9_tripPassages := C.2.1
  have hl : lv_has ls 2 [(0, .ref h0), (1, .int p1)] := hl
  obtain ⟨Q, hQ⟩ : ∃ Q, Q = QXI below args s g A (fun _ => w_X9_tripPassages g h0 h1 h2 h3 v0_0 v0_1 v0_2 v0_3 v0_5 v0_6 v1_0 v2_1 v2_2 v2_3 v2_5 v2_6 v2_7 v2_8 trips2 passages3) x r 1 6 := ⟨_, rfl⟩
  suffices hW : W p l e (rml 2 1 6) s m args below meth c s.heap [] 0 0 Q (F0 m 0 ls []) from (by rw [hQ] at hW; exact hW)
  unfold f_X9_tripPassages at hf
  refine lv_aload_n hx hb dX9_tripPassages_0 rfl (lv_at hl 0 rfl) ?_
  refine lv_iload_n hx hb dX9_tripPassages_1 rfl (lv_at hl 1 rfl) ?_
  obtain ⟨x1, hc2, hf⟩ := bd1_some hf
  refine cx_vV C w (wn := fun _ => w_X9_tripPassages g h0 h1 h2 h3 v0_0 v0_1 v0_2 v0_3 v0_5 v0_6 v1_0 v2_1 v2_2 v2_3 v2_5 v2_6 v2_7 v2_8 trips2 passages3) (pm_k [true, true, true, false] rfl rfl (fun _ => Nat.le_of_ble_eq_true rfl) (fun _ => rfl)) (c_X9_requireTrip l g F h0 h1 h2 v0_0 v0_1 v0_2 v0_3 v0_5 v0_6 v1_0 v2_1 v2_2 v2_3 (.ref h3) v2_5 v2_6 v2_7 v2_8 p1 trips2 x1 hst _ hc2) k_X9_186 (rm_le (by decide) (by decide)) 0 9 rfl rfl rfl rfl hl.1 rfl (Nat.le_of_ble_eq_true rfl) dX9_tripPassages_2 ⟨Nat.le_of_ble_eq_true rfl, Nat.le_of_ble_eq_true rfl⟩ (cells2 := 1) (slots2 := 6) ⟨rfl, rfl⟩ (fun n3 _ H locs w q9 ce h1 h2 h3 => ?_) (fun n3 _ H locs w => ?_)
  · replace hf := it_t n3 hf
    obtain ⟨e1, e2⟩ := tp2 hf
    rw [hQ]
    exact xo C ht w (fun _ => 0) rfl e1 n3 h1 h2 h3 (Nat.le_of_ble_eq_true rfl) (Nat.le_of_ble_eq_true rfl)
  replace hf := it_f (fun h => h n3) hf
  refine lv_aload_n hx hb dX9_tripPassages_5 rfl (lv_at hl 0 rfl) ?_
  refine g_X9_40 C w 0 rfl rfl dX9_tripPassages_6 ?_
  refine g_X9_179 C w 1 rfl rfl dX9_tripPassages_9 ?_
  refine g_X9_195 C w 2 rfl rfl dX9_tripPassages_12 ?_
  refine lv_iload_n hx hb dX9_tripPassages_15 rfl (lv_at hl 1 rfl) ?_
  obtain ⟨a4, hia4, haa4, hf⟩ := rd_some hf
  refine ial C w 3 rfl hia4 haa4 dX9_tripPassages_16 ?_
  obtain ⟨e1, e2⟩ := tp2 hf
  rw [hQ]
  exact xr_i C w rfl (fun _ => 0) rfl e1 e2 (Nat.le_of_ble_eq_true rfl) (Nat.le_of_ble_eq_true rfl) dX9_tripPassages_17

theorem dX9_tripState_0 : decode cX9_tripState 0 = .ok (.aload_n 0, 1) := by decide +kernel
theorem dX9_tripState_1 : decode cX9_tripState 1 = .ok (.iload_n 1, 1) := by decide +kernel
theorem dX9_tripState_2 : decode cX9_tripState 2 = .ok (.invokevirtual 186, 3) := by decide +kernel
theorem dX9_tripState_5 : decode cX9_tripState 5 = .ok (.aload_n 0, 1) := by decide +kernel
theorem dX9_tripState_6 : decode cX9_tripState 6 = .ok (.getfield 40, 3) := by decide +kernel
theorem dX9_tripState_9 : decode cX9_tripState 9 = .ok (.getfield 179, 3) := by decide +kernel
theorem dX9_tripState_12 : decode cX9_tripState 12 = .ok (.getfield 197, 3) := by decide +kernel
theorem dX9_tripState_15 : decode cX9_tripState 15 = .ok (.iload_n 1, 1) := by decide +kernel
theorem dX9_tripState_16 : decode cX9_tripState 16 = .ok (.iaload, 1) := by decide +kernel
theorem dX9_tripState_17 : decode cX9_tripState 17 = .ok (.ireturn, 1) := by decide +kernel
abbrev m_X9_tripState : MD := (yX9_tripState, cX9_tripState, 2, (some .int))
theorem g_X9_197 {p : Program} {l : Launch} {e : Env} {R : Room} {s : State} {m : MethodId} {args : Array Value} {below : List Frame} {meth : Method} {c : Code} {H : Heap} {locs : List Loc} {cells slots : Nat} {Q : State → Prop} {d : MD} {g : GT} {A : Nat → Prop} {ws : va_W} {pc : Nat} {ls : Array Slot} {rest : List Value} (C : Cx p s m args meth c RX9 d g A) (w : Wd g A ws s.heap H locs) (q0 : Nat) {a : Nat} {fs : List Value} {v : Value} (he : ws[q0]? = some (a, .inr (1, fs))) (hv : fs[5]? = some v) (hd : decode d.2.1 pc = .ok (.getfield 197, 3)) (kk : W p l e R s m args below meth c H locs cells slots Q (F0 m (pc + 3) ls (v :: rest))) : W p l e R s m args below meth c H locs cells slots Q (F0 m pc ls (.ref a :: rest)) := fgN C w inX1s (ref := RX1) rfl 5 (by decide) (nw_t (w := Cond.fieldLinkNest RX9 197 RX1 (TX1 5).2.1 (TX1 5).2.2.1 "FreeFlowToll") 284 (by decide +kernel) rfl) rfl q0 he hv hd kk
abbrev w_X9_tripState (g : GT) (h0 h1 h2 h3 : Nat) (v0_0 v0_1 v0_2 v0_3 v0_5 v0_6 v1_0 v2_1 v2_2 v2_3 v2_4 v2_6 v2_7 v2_8 : Value) (trips2 : Int32) (state3 : Nat → Int32) : va_W := [(h0, .inr (9, [v0_0, v0_1, v0_2, v0_3, .ref h1, v0_5, v0_6])), (h1, .inr (3, [v1_0, .ref h2])), (h2, .inr (1, [.int trips2, v2_1, v2_2, v2_3, v2_4, .ref h3, v2_6, v2_7, v2_8])), (h3, aI g 80 state3)]
def f_X9_tripState (F : Nat) (p1 trips2 : Int32) (state3 : Nat → Int32) : Option (Nat × Int32) :=
  bd1 (f_X9_requireTrip F p1 trips2) fun x1 =>
  if x1 ≠ 0 then some (x1, 0) else
  rd state3 80 p1 fun a4 =>
  some (0, a4)
set_option maxHeartbeats 4000000 in
set_option maxRecDepth 100000 in
theorem c_X9_tripState (l : Launch) (g : GT) (F : Nat) (h0 h1 h2 h3 : Nat) (v0_0 v0_1 v0_2 v0_3 v0_5 v0_6 v1_0 v2_1 v2_2 v2_3 v2_4 v2_6 v2_7 v2_8 : Value) (p1 trips2 : Int32) (state3 : Nat → Int32) (x : Nat) (r : Int32) (hst : l.stackTraces = false) (sz : Nat) (hf : f_X9_tripState F p1 trips2 state3 = some (x, r)) : XI l m_X9_tripState (rml 2 1 6) g (w_X9_tripState g h0 h1 h2 h3 v0_0 v0_1 v0_2 v0_3 v0_5 v0_6 v1_0 v2_1 v2_2 v2_3 v2_4 v2_6 v2_7 v2_8 trips2 state3) (fun _ => w_X9_tripState g h0 h1 h2 h3 v0_0 v0_1 v0_2 v0_3 v0_5 v0_6 v1_0 v2_1 v2_2 v2_3 v2_4 v2_6 v2_7 v2_8 trips2 state3) sz [.ref h0, .int p1] x r := by
  refine ex_i (by decide) (Nat.le_of_ble_eq_true rfl) (fun p e s m args below meth c A ls ht C w hl => ?_)
  have C : Cx p s m args meth c RX9 m_X9_tripState g A := C
  have hx := C.1
  have hb : c.code = cX9_tripState := C.2.1
  have hl : lv_has ls 2 [(0, .ref h0), (1, .int p1)] := hl
  obtain ⟨Q, hQ⟩ : ∃ Q, Q = QXI below args s g A (fun _ => w_X9_tripState g h0 h1 h2 h3 v0_0 v0_1 v0_2 v0_3 v0_5 v0_6 v1_0 v2_1 v2_2 v2_3 v2_4 v2_6 v2_7 v2_8 trips2 state3) x r 1 6 := ⟨_, rfl⟩
  suffices hW : W p l e (rml 2 1 6) s m args below meth c s.heap [] 0 0 Q (F0 m 0 ls []) from (by rw [hQ] at hW; exact hW)
  unfold f_X9_tripState at hf
  refine lv_aload_n hx hb dX9_tripState_0 rfl (lv_at hl 0 rfl) ?_
  refine lv_iload_n hx hb dX9_tripState_1 rfl (lv_at hl 1 rfl) ?_
  obtain ⟨x1, hc2, hf⟩ := bd1_some hf
  refine cx_vV C w (wn := fun _ => w_X9_tripState g h0 h1 h2 h3 v0_0 v0_1 v0_2 v0_3 v0_5 v0_6 v1_0 v2_1 v2_2 v2_3 v2_4 v2_6 v2_7 v2_8 trips2 state3) (pm_k [true, true, true, false] rfl rfl (fun _ => Nat.le_of_ble_eq_true rfl) (fun _ => rfl)) (c_X9_requireTrip l g F h0 h1 h2 v0_0 v0_1 v0_2 v0_3 v0_5 v0_6 v1_0 v2_1 v2_2 v2_3 v2_4 (.ref h3) v2_6 v2_7 v2_8 p1 trips2 x1 hst _ hc2) k_X9_186 (rm_le (by decide) (by decide)) 0 9 rfl rfl rfl rfl hl.1 rfl (Nat.le_of_ble_eq_true rfl) dX9_tripState_2 ⟨Nat.le_of_ble_eq_true rfl, Nat.le_of_ble_eq_true rfl⟩ (cells2 := 1) (slots2 := 6) ⟨rfl, rfl⟩ (fun n3 _ H locs w q9 ce h1 h2 h3 => ?_) (fun n3 _ H locs w => ?_)
  · replace hf := it_t n3 hf
    obtain ⟨e1, e2⟩ := tp2 hf
    rw [hQ]
    exact xo C ht w (fun _ => 0) rfl e1 n3 h1 h2 h3 (Nat.le_of_ble_eq_true rfl) (Nat.le_of_ble_eq_true rfl)
  replace hf := it_f (fun h => h n3) hf
  refine lv_aload_n hx hb dX9_tripState_5 rfl (lv_at hl 0 rfl) ?_
  refine g_X9_40 C w 0 rfl rfl dX9_tripState_6 ?_
  refine g_X9_179 C w 1 rfl rfl dX9_tripState_9 ?_
  refine g_X9_197 C w 2 rfl rfl dX9_tripState_12 ?_
  refine lv_iload_n hx hb dX9_tripState_15 rfl (lv_at hl 1 rfl) ?_
  obtain ⟨a4, hia4, haa4, hf⟩ := rd_some hf
  refine ial C w 3 rfl hia4 haa4 dX9_tripState_16 ?_
  obtain ⟨e1, e2⟩ := tp2 hf
  rw [hQ]
  exact xr_i C w rfl (fun _ => 0) rfl e1 e2 (Nat.le_of_ble_eq_true rfl) (Nat.le_of_ble_eq_true rfl) dX9_tripState_17

theorem dX9_invoiceOf_0 : decode cX9_invoiceOf 0 = .ok (.aload_n 0, 1) := by decide +kernel
theorem dX9_invoiceOf_1 : decode cX9_invoiceOf 1 = .ok (.iload_n 1, 1) := by decide +kernel
theorem dX9_invoiceOf_2 : decode cX9_invoiceOf 2 = .ok (.invokevirtual 186, 3) := by decide +kernel
theorem dX9_invoiceOf_5 : decode cX9_invoiceOf 5 = .ok (.aload_n 0, 1) := by decide +kernel
theorem dX9_invoiceOf_6 : decode cX9_invoiceOf 6 = .ok (.getfield 40, 3) := by decide +kernel
theorem dX9_invoiceOf_9 : decode cX9_invoiceOf 9 = .ok (.getfield 179, 3) := by decide +kernel
theorem dX9_invoiceOf_12 : decode cX9_invoiceOf 12 = .ok (.getfield 198, 3) := by decide +kernel
theorem dX9_invoiceOf_15 : decode cX9_invoiceOf 15 = .ok (.iload_n 1, 1) := by decide +kernel
theorem dX9_invoiceOf_16 : decode cX9_invoiceOf 16 = .ok (.iaload, 1) := by decide +kernel
theorem dX9_invoiceOf_17 : decode cX9_invoiceOf 17 = .ok (.ireturn, 1) := by decide +kernel
abbrev m_X9_invoiceOf : MD := (yX9_invoiceOf, cX9_invoiceOf, 2, (some .int))
theorem g_X9_198 {p : Program} {l : Launch} {e : Env} {R : Room} {s : State} {m : MethodId} {args : Array Value} {below : List Frame} {meth : Method} {c : Code} {H : Heap} {locs : List Loc} {cells slots : Nat} {Q : State → Prop} {d : MD} {g : GT} {A : Nat → Prop} {ws : va_W} {pc : Nat} {ls : Array Slot} {rest : List Value} (C : Cx p s m args meth c RX9 d g A) (w : Wd g A ws s.heap H locs) (q0 : Nat) {a : Nat} {fs : List Value} {v : Value} (he : ws[q0]? = some (a, .inr (1, fs))) (hv : fs[6]? = some v) (hd : decode d.2.1 pc = .ok (.getfield 198, 3)) (kk : W p l e R s m args below meth c H locs cells slots Q (F0 m (pc + 3) ls (v :: rest))) : W p l e R s m args below meth c H locs cells slots Q (F0 m pc ls (.ref a :: rest)) := fgN C w inX1s (ref := RX1) rfl 6 (by decide) (nw_t (w := Cond.fieldLinkNest RX9 198 RX1 (TX1 6).2.1 (TX1 6).2.2.1 "FreeFlowToll") 286 (by decide +kernel) rfl) rfl q0 he hv hd kk
abbrev w_X9_invoiceOf (g : GT) (h0 h1 h2 h3 : Nat) (v0_0 v0_1 v0_2 v0_3 v0_5 v0_6 v1_0 v2_1 v2_2 v2_3 v2_4 v2_5 v2_7 v2_8 : Value) (trips2 : Int32) (invoice3 : Nat → Int32) : va_W := [(h0, .inr (9, [v0_0, v0_1, v0_2, v0_3, .ref h1, v0_5, v0_6])), (h1, .inr (3, [v1_0, .ref h2])), (h2, .inr (1, [.int trips2, v2_1, v2_2, v2_3, v2_4, v2_5, .ref h3, v2_7, v2_8])), (h3, aI g 80 invoice3)]
def f_X9_invoiceOf (F : Nat) (p1 trips2 : Int32) (invoice3 : Nat → Int32) : Option (Nat × Int32) :=
  bd1 (f_X9_requireTrip F p1 trips2) fun x1 =>
  if x1 ≠ 0 then some (x1, 0) else
  rd invoice3 80 p1 fun a4 =>
  some (0, a4)
set_option maxHeartbeats 4000000 in
set_option maxRecDepth 100000 in
theorem c_X9_invoiceOf (l : Launch) (g : GT) (F : Nat) (h0 h1 h2 h3 : Nat) (v0_0 v0_1 v0_2 v0_3 v0_5 v0_6 v1_0 v2_1 v2_2 v2_3 v2_4 v2_5 v2_7 v2_8 : Value) (p1 trips2 : Int32) (invoice3 : Nat → Int32) (x : Nat) (r : Int32) (hst : l.stackTraces = false) (sz : Nat) (hf : f_X9_invoiceOf F p1 trips2 invoice3 = some (x, r)) : XI l m_X9_invoiceOf (rml 2 1 6) g (w_X9_invoiceOf g h0 h1 h2 h3 v0_0 v0_1 v0_2 v0_3 v0_5 v0_6 v1_0 v2_1 v2_2 v2_3 v2_4 v2_5 v2_7 v2_8 trips2 invoice3) (fun _ => w_X9_invoiceOf g h0 h1 h2 h3 v0_0 v0_1 v0_2 v0_3 v0_5 v0_6 v1_0 v2_1 v2_2 v2_3 v2_4 v2_5 v2_7 v2_8 trips2 invoice3) sz [.ref h0, .int p1] x r := by
  refine ex_i (by decide) (Nat.le_of_ble_eq_true rfl) (fun p e s m args below meth c A ls ht C w hl => ?_)
  have C : Cx p s m args meth c RX9 m_X9_invoiceOf g A := C
  have hx := C.1
  have hb : c.code = cX9_invoiceOf := C.2.1
  have hl : lv_has ls 2 [(0, .ref h0), (1, .int p1)] := hl
  obtain ⟨Q, hQ⟩ : ∃ Q, Q = QXI below args s g A (fun _ => w_X9_invoiceOf g h0 h1 h2 h3 v0_0 v0_1 v0_2 v0_3 v0_5 v0_6 v1_0 v2_1 v2_2 v2_3 v2_4 v2_5 v2_7 v2_8 trips2 invoice3) x r 1 6 := ⟨_, rfl⟩
  suffices hW : W p l e (rml 2 1 6) s m args below meth c s.heap [] 0 0 Q (F0 m 0 ls []) from (by rw [hQ] at hW; exact hW)
  unfold f_X9_invoiceOf at hf
  refine lv_aload_n hx hb dX9_invoiceOf_0 rfl (lv_at hl 0 rfl) ?_
  refine lv_iload_n hx hb dX9_invoiceOf_1 rfl (lv_at hl 1 rfl) ?_
  obtain ⟨x1, hc2, hf⟩ := bd1_some hf
  refine cx_vV C w (wn := fun _ => w_X9_invoiceOf g h0 h1 h2 h3 v0_0 v0_1 v0_2 v0_3 v0_5 v0_6 v1_0 v2_1 v2_2 v2_3 v2_4 v2_5 v2_7 v2_8 trips2 invoice3) (pm_k [true, true, true, false] rfl rfl (fun _ => Nat.le_of_ble_eq_true rfl) (fun _ => rfl)) (c_X9_requireTrip l g F h0 h1 h2 v0_0 v0_1 v0_2 v0_3 v0_5 v0_6 v1_0 v2_1 v2_2 v2_3 v2_4 v2_5 (.ref h3) v2_7 v2_8 p1 trips2 x1 hst _ hc2) k_X9_186 (rm_le (by decide) (by decide)) 0 9 rfl rfl rfl rfl hl.1 rfl (Nat.le_of_ble_eq_true rfl) dX9_invoiceOf_2 ⟨Nat.le_of_ble_eq_true rfl, Nat.le_of_ble_eq_true rfl⟩ (cells2 := 1) (slots2 := 6) ⟨rfl, rfl⟩ (fun n3 _ H locs w q9 ce h1 h2 h3 => ?_) (fun n3 _ H locs w => ?_)
  · replace hf := it_t n3 hf
    obtain ⟨e1, e2⟩ := tp2 hf
    rw [hQ]
    exact xo C ht w (fun _ => 0) rfl e1 n3 h1 h2 h3 (Nat.le_of_ble_eq_true rfl) (Nat.le_of_ble_eq_true rfl)
  replace hf := it_f (fun h => h n3) hf
  refine lv_aload_n hx hb dX9_invoiceOf_5 rfl (lv_at hl 0 rfl) ?_
  refine g_X9_40 C w 0 rfl rfl dX9_invoiceOf_6 ?_
  refine g_X9_179 C w 1 rfl rfl dX9_invoiceOf_9 ?_
  refine g_X9_198 C w 2 rfl rfl dX9_invoiceOf_12 ?_
  refine lv_iload_n hx hb dX9_invoiceOf_15 rfl (lv_at hl 1 rfl) ?_
  obtain ⟨a4, hia4, haa4, hf⟩ := rd_some hf
  refine ial C w 3 rfl hia4 haa4 dX9_invoiceOf_16 ?_
  obtain ⟨e1, e2⟩ := tp2 hf
  rw [hQ]
  exact xr_i C w rfl (fun _ => 0) rfl e1 e2 (Nat.le_of_ble_eq_true rfl) (Nat.le_of_ble_eq_true rfl) dX9_invoiceOf_17

theorem dX9_invoiceCount_0 : decode cX9_invoiceCount 0 = .ok (.aload_n 0, 1) := by decide +kernel
theorem dX9_invoiceCount_1 : decode cX9_invoiceCount 1 = .ok (.getfield 40, 3) := by decide +kernel
theorem dX9_invoiceCount_4 : decode cX9_invoiceCount 4 = .ok (.getfield 179, 3) := by decide +kernel
theorem dX9_invoiceCount_7 : decode cX9_invoiceCount 7 = .ok (.getfield 201, 3) := by decide +kernel
theorem dX9_invoiceCount_10 : decode cX9_invoiceCount 10 = .ok (.ireturn, 1) := by decide +kernel
abbrev m_X9_invoiceCount : MD := (yX9_invoiceCount, cX9_invoiceCount, 1, (some .int))
theorem g_X9_201 {p : Program} {l : Launch} {e : Env} {R : Room} {s : State} {m : MethodId} {args : Array Value} {below : List Frame} {meth : Method} {c : Code} {H : Heap} {locs : List Loc} {cells slots : Nat} {Q : State → Prop} {d : MD} {g : GT} {A : Nat → Prop} {ws : va_W} {pc : Nat} {ls : Array Slot} {rest : List Value} (C : Cx p s m args meth c RX9 d g A) (w : Wd g A ws s.heap H locs) (q0 : Nat) {a : Nat} {fs : List Value} {v : Value} (he : ws[q0]? = some (a, .inr (1, fs))) (hv : fs[1]? = some v) (hd : decode d.2.1 pc = .ok (.getfield 201, 3)) (kk : W p l e R s m args below meth c H locs cells slots Q (F0 m (pc + 3) ls (v :: rest))) : W p l e R s m args below meth c H locs cells slots Q (F0 m pc ls (.ref a :: rest)) := fgN C w inX1s (ref := RX1) rfl 1 (by decide) (nw_t (w := Cond.fieldLinkNest RX9 201 RX1 (TX1 1).2.1 (TX1 1).2.2.1 "FreeFlowToll") 276 (by decide +kernel) rfl) rfl q0 he hv hd kk
abbrev w_X9_invoiceCount (g : GT) (h0 h1 h2 : Nat) (v0_0 v0_1 v0_2 v0_3 v0_5 v0_6 v1_0 v2_0 v2_2 v2_3 v2_4 v2_5 v2_6 v2_7 v2_8 : Value) (invoices2 : Int32) : va_W := [(h0, .inr (9, [v0_0, v0_1, v0_2, v0_3, .ref h1, v0_5, v0_6])), (h1, .inr (3, [v1_0, .ref h2])), (h2, .inr (1, [v2_0, .int invoices2, v2_2, v2_3, v2_4, v2_5, v2_6, v2_7, v2_8]))]
def f_X9_invoiceCount (F : Nat) (invoices2 : Int32) : Option (Int32) :=
  some invoices2
set_option maxHeartbeats 4000000 in
set_option maxRecDepth 100000 in
theorem c_X9_invoiceCount (l : Launch) (g : GT) (F : Nat) (h0 h1 h2 : Nat) (v0_0 v0_1 v0_2 v0_3 v0_5 v0_6 v1_0 v2_0 v2_2 v2_3 v2_4 v2_5 v2_6 v2_7 v2_8 : Value) (invoices2 : Int32) (r : Int32) (sz : Nat) (hf : f_X9_invoiceCount F invoices2 = some r) : CI l m_X9_invoiceCount (rml 0 0 0) g (w_X9_invoiceCount g h0 h1 h2 v0_0 v0_1 v0_2 v0_3 v0_5 v0_6 v1_0 v2_0 v2_2 v2_3 v2_4 v2_5 v2_6 v2_7 v2_8 invoices2) (fun _ => w_X9_invoiceCount g h0 h1 h2 v0_0 v0_1 v0_2 v0_3 v0_5 v0_6 v1_0 v2_0 v2_2 v2_3 v2_4 v2_5 v2_6 v2_7 v2_8 invoices2) sz [.ref h0] r := by
  refine en_i (by decide) (Nat.le_of_ble_eq_true rfl) (fun p e s m args below meth c A ls C w hl => ?_)
  have C : Cx p s m args meth c RX9 m_X9_invoiceCount g A := C
  have hx := C.1
  have hb : c.code = cX9_invoiceCount := C.2.1
  have hl : lv_has ls 1 [(0, .ref h0)] := hl
  obtain ⟨Q, hQ⟩ : ∃ Q, Q = QI below args s g A (fun _ => w_X9_invoiceCount g h0 h1 h2 v0_0 v0_1 v0_2 v0_3 v0_5 v0_6 v1_0 v2_0 v2_2 v2_3 v2_4 v2_5 v2_6 v2_7 v2_8 invoices2) r 0 0 := ⟨_, rfl⟩
  suffices hW : W p l e (rml 0 0 0) s m args below meth c s.heap [] 0 0 Q (F0 m 0 ls []) from (by rw [hQ] at hW; exact hW)
  unfold f_X9_invoiceCount at hf
  refine lv_aload_n hx hb dX9_invoiceCount_0 rfl (lv_at hl 0 rfl) ?_
  refine g_X9_40 C w 0 rfl rfl dX9_invoiceCount_1 ?_
  refine g_X9_179 C w 1 rfl rfl dX9_invoiceCount_4 ?_
  refine g_X9_201 C w 2 rfl rfl dX9_invoiceCount_7 ?_
  obtain e1 := tp1 hf
  rw [hQ]
  exact rt_i C w rfl (fun _ => 0) rfl e1 dX9_invoiceCount_10

theorem dX9_requireInvoice_0 : decode cX9_requireInvoice 0 = .ok (.iload_n 1, 1) := by decide +kernel
theorem dX9_requireInvoice_1 : decode cX9_requireInvoice 1 = .ok (.ifCond .lt 17, 3) := by decide +kernel
theorem dX9_requireInvoice_4 : decode cX9_requireInvoice 4 = .ok (.iload_n 1, 1) := by decide +kernel
theorem dX9_requireInvoice_5 : decode cX9_requireInvoice 5 = .ok (.aload_n 0, 1) := by decide +kernel
theorem dX9_requireInvoice_6 : decode cX9_requireInvoice 6 = .ok (.getfield 40, 3) := by decide +kernel
theorem dX9_requireInvoice_9 : decode cX9_requireInvoice 9 = .ok (.getfield 179, 3) := by decide +kernel
theorem dX9_requireInvoice_12 : decode cX9_requireInvoice 12 = .ok (.getfield 201, 3) := by decide +kernel
theorem dX9_requireInvoice_15 : decode cX9_requireInvoice 15 = .ok (.if_icmp .lt 14, 3) := by decide +kernel
theorem dX9_requireInvoice_18 : decode cX9_requireInvoice 18 = .ok (.new 330, 3) := by decide +kernel
theorem dX9_requireInvoice_21 : decode cX9_requireInvoice 21 = .ok (.dup, 1) := by decide +kernel
theorem dX9_requireInvoice_22 : decode cX9_requireInvoice 22 = .ok (.ldc_w 339, 3) := by decide +kernel
theorem dX9_requireInvoice_25 : decode cX9_requireInvoice 25 = .ok (.invokespecial 334, 3) := by decide +kernel
theorem dX9_requireInvoice_28 : decode cX9_requireInvoice 28 = .ok (.athrow, 1) := by decide +kernel
theorem dX9_requireInvoice_29 : decode cX9_requireInvoice 29 = .ok (.return_, 1) := by decide +kernel
abbrev m_X9_requireInvoice : MD := (yX9_requireInvoice, cX9_requireInvoice, 2, none)

abbrev w_X9_requireInvoice (g : GT) (h0 h1 h2 : Nat) (v0_0 v0_1 v0_2 v0_3 v0_5 v0_6 v1_0 v2_0 v2_2 v2_3 v2_4 v2_5 v2_6 v2_7 v2_8 : Value) (invoices2 : Int32) : va_W := [(h0, .inr (9, [v0_0, v0_1, v0_2, v0_3, .ref h1, v0_5, v0_6])), (h1, .inr (3, [v1_0, .ref h2])), (h2, .inr (1, [v2_0, .int invoices2, v2_2, v2_3, v2_4, v2_5, v2_6, v2_7, v2_8]))]
def f_X9_requireInvoice_b18 (F : Nat) (invoices2 : Int32) : Option (Nat) :=
  some 2
def f_X9_requireInvoice (F : Nat) (p1 invoices2 : Int32) : Option (Nat) :=
  if p1 < 0 then
    f_X9_requireInvoice_b18 F invoices2
  else
    if p1 < invoices2 then
      some 0
    else
      f_X9_requireInvoice_b18 F invoices2
set_option maxHeartbeats 4000000 in
set_option maxRecDepth 100000 in
theorem c_X9_requireInvoice (l : Launch) (g : GT) (F : Nat) (h0 h1 h2 : Nat) (v0_0 v0_1 v0_2 v0_3 v0_5 v0_6 v1_0 v2_0 v2_2 v2_3 v2_4 v2_5 v2_6 v2_7 v2_8 : Value) (p1 invoices2 : Int32) (x : Nat) (hst : l.stackTraces = false) (sz : Nat) (hf : f_X9_requireInvoice F p1 invoices2 = some x) : XV l m_X9_requireInvoice (rml 1 1 6) g (w_X9_requireInvoice g h0 h1 h2 v0_0 v0_1 v0_2 v0_3 v0_5 v0_6 v1_0 v2_0 v2_2 v2_3 v2_4 v2_5 v2_6 v2_7 v2_8 invoices2) (fun _ => w_X9_requireInvoice g h0 h1 h2 v0_0 v0_1 v0_2 v0_3 v0_5 v0_6 v1_0 v2_0 v2_2 v2_3 v2_4 v2_5 v2_6 v2_7 v2_8 invoices2) sz [.ref h0, .int p1] x := by
  refine ex_v (by decide) (Nat.le_of_ble_eq_true rfl) (fun p e s m args below meth c A ls ht C w hl => ?_)
  have C : Cx p s m args meth c RX9 m_X9_requireInvoice g A := C
  have hx := C.1
  have hb : c.code = cX9_requireInvoice := C.2.1
  have hl : lv_has ls 2 [(0, .ref h0), (1, .int p1)] := hl
  obtain ⟨Q, hQ⟩ : ∃ Q, Q = QXV below args s g A (fun _ => w_X9_requireInvoice g h0 h1 h2 v0_0 v0_1 v0_2 v0_3 v0_5 v0_6 v1_0 v2_0 v2_2 v2_3 v2_4 v2_5 v2_6 v2_7 v2_8 invoices2) x 1 6 := ⟨_, rfl⟩
  suffices hW : W p l e (rml 1 1 6) s m args below meth c s.heap [] 0 0 Q (F0 m 0 ls []) from (by rw [hQ] at hW; exact hW)
  unfold f_X9_requireInvoice at hf
  have b18 : ∀ (H : Heap) (locs : List Loc) (ls : Array Slot), f_X9_requireInvoice_b18 F invoices2 = some x → Wd g A (w_X9_requireInvoice g h0 h1 h2 v0_0 v0_1 v0_2 v0_3 v0_5 v0_6 v1_0 v2_0 v2_2 v2_3 v2_4 v2_5 v2_6 v2_7 v2_8 invoices2) s.heap H locs → lv_has ls 2 [] → W p l e (rml 1 1 6) s m args below meth c H locs 0 0 Q (F0 m 18 ls []) := by
    intro  H locs ls hf w hl
    unfold f_X9_requireInvoice_b18 at hf
    obtain e1 := tp1 hf
    rw [hQ]
    exact xtw C ht w hst kl_2 (List.mem_of_getElem? (i := 13) rfl) at_2 hl.1 dX9_requireInvoice_18 dX9_requireInvoice_21 dX9_requireInvoice_22 dX9_requireInvoice_25 dX9_requireInvoice_28 (Nat.le_of_ble_eq_true rfl) (Nat.le_of_ble_eq_true rfl) (Nat.le_of_ble_eq_true rfl) (Nat.le_of_ble_eq_true rfl) (fun _ => 0) rfl e1 (Nat.le_of_ble_eq_true rfl) (Nat.le_of_ble_eq_true rfl)
  refine lv_iload_n hx hb dX9_requireInvoice_0 rfl (lv_at hl 1 rfl) ?_
  refine lv_if_lt (tgt := 18) hx hb dX9_requireInvoice_1 (by decide) (fun c1 => ?_) (fun c1 => ?_)
  · replace hf := it_t c1 hf
    exact b18  _ _ _ hf w (lv_sub hl [] rfl)
  · replace hf := it_f c1 hf
    refine lv_iload_n hx hb dX9_requireInvoice_4 rfl (lv_at hl 1 rfl) ?_
    refine lv_aload_n hx hb dX9_requireInvoice_5 rfl (lv_at hl 0 rfl) ?_
    refine g_X9_40 C w 0 rfl rfl dX9_requireInvoice_6 ?_
    refine g_X9_179 C w 1 rfl rfl dX9_requireInvoice_9 ?_
    refine g_X9_201 C w 2 rfl rfl dX9_requireInvoice_12 ?_
    refine lv_icmp_lt (tgt := 29) hx hb dX9_requireInvoice_15 (by decide) (fun c2 => ?_) (fun c2 => ?_)
    · replace hf := it_t c2 hf
      obtain e1 := tp1 hf
      rw [hQ]
      exact xr_v C w rfl (fun _ => 0) rfl e1 (Nat.le_of_ble_eq_true rfl) (Nat.le_of_ble_eq_true rfl) dX9_requireInvoice_29
    · replace hf := it_f c2 hf
      exact b18  _ _ _ hf w (lv_sub hl [] rfl)

theorem dX9_invoiceTag_0 : decode cX9_invoiceTag 0 = .ok (.aload_n 0, 1) := by decide +kernel
theorem dX9_invoiceTag_1 : decode cX9_invoiceTag 1 = .ok (.iload_n 1, 1) := by decide +kernel
theorem dX9_invoiceTag_2 : decode cX9_invoiceTag 2 = .ok (.invokevirtual 204, 3) := by decide +kernel
theorem dX9_invoiceTag_5 : decode cX9_invoiceTag 5 = .ok (.aload_n 0, 1) := by decide +kernel
theorem dX9_invoiceTag_6 : decode cX9_invoiceTag 6 = .ok (.getfield 12, 3) := by decide +kernel
theorem dX9_invoiceTag_9 : decode cX9_invoiceTag 9 = .ok (.aload_n 0, 1) := by decide +kernel
theorem dX9_invoiceTag_10 : decode cX9_invoiceTag 10 = .ok (.getfield 40, 3) := by decide +kernel
theorem dX9_invoiceTag_13 : decode cX9_invoiceTag 13 = .ok (.getfield 179, 3) := by decide +kernel
theorem dX9_invoiceTag_16 : decode cX9_invoiceTag 16 = .ok (.getfield 207, 3) := by decide +kernel
theorem dX9_invoiceTag_19 : decode cX9_invoiceTag 19 = .ok (.iload_n 1, 1) := by decide +kernel
theorem dX9_invoiceTag_20 : decode cX9_invoiceTag 20 = .ok (.iaload, 1) := by decide +kernel
theorem dX9_invoiceTag_21 : decode cX9_invoiceTag 21 = .ok (.invokevirtual 210, 3) := by decide +kernel
theorem dX9_invoiceTag_24 : decode cX9_invoiceTag 24 = .ok (.ireturn, 1) := by decide +kernel
abbrev m_X9_invoiceTag : MD := (yX9_invoiceTag, cX9_invoiceTag, 2, (some .int))
theorem g_X9_207 {p : Program} {l : Launch} {e : Env} {R : Room} {s : State} {m : MethodId} {args : Array Value} {below : List Frame} {meth : Method} {c : Code} {H : Heap} {locs : List Loc} {cells slots : Nat} {Q : State → Prop} {d : MD} {g : GT} {A : Nat → Prop} {ws : va_W} {pc : Nat} {ls : Array Slot} {rest : List Value} (C : Cx p s m args meth c RX9 d g A) (w : Wd g A ws s.heap H locs) (q0 : Nat) {a : Nat} {fs : List Value} {v : Value} (he : ws[q0]? = some (a, .inr (1, fs))) (hv : fs[7]? = some v) (hd : decode d.2.1 pc = .ok (.getfield 207, 3)) (kk : W p l e R s m args below meth c H locs cells slots Q (F0 m (pc + 3) ls (v :: rest))) : W p l e R s m args below meth c H locs cells slots Q (F0 m pc ls (.ref a :: rest)) := fgN C w inX1s (ref := RX1) rfl 7 (by decide) (nw_t (w := Cond.fieldLinkNest RX9 207 RX1 (TX1 7).2.1 (TX1 7).2.2.1 "FreeFlowToll") 288 (by decide +kernel) rfl) rfl q0 he hv hd kk
theorem q_1033 : Cond.code yX9_requireInvoice cX9_requireInvoice 2 none ∈ TS := ts_t 1033 (by decide +kernel) (by decide +kernel)
theorem q_1030 : Cond.methodLink RX9 204 yX9_requireInvoice ∈ TS := ts_t 1030 (by decide +kernel) (by decide +kernel)
theorem q_1032 : Cond.instanceMethod yX9_requireInvoice ∈ TS := ts_t 1032 (by decide +kernel) (by decide +kernel)
theorem qs_68 : Cond.selects yX9_requireInvoice.cls yX9_requireInvoice yX9_requireInvoice ∈ TS := ts_s 68 (by decide +kernel) (by decide +kernel)
theorem k_X9_204 : LkV RX9 204 m_X9_requireInvoice 1 := ⟨q_1030, q_1032, qs_68, ⟨q_1, q_1033, by decide, by decide, by decide +kernel⟩⟩
theorem k_X9_210 : LkN RX9 210 m_X4_tagWithPlate 1 := ⟨⟨"FreeFlowToll", nw_t 1035 (by decide +kernel) rfl⟩, q_438, qs_9, ⟨q_2, q_439, by decide, by decide, by decide +kernel⟩⟩
abbrev w_X9_invoiceTag (g : GT) (h0 h1 h2 h3 h4 h5 : Nat) (v0_1 v0_2 v0_3 v0_5 v0_6 v1_0 v2_0 v2_2 v2_3 v2_4 v2_5 v2_6 v2_8 v4_0 v4_1 v4_2 v4_4 v4_5 v4_6 v4_7 v4_8 v4_9 v4_10 v4_12 : Value) (invoices2 : Int32) (plate3 : Nat → Int32) (tags4 : Int32) (tagPlate5 : Nat → Int32) : va_W := [(h0, .inr (9, [.ref h4, v0_1, v0_2, v0_3, .ref h1, v0_5, v0_6])), (h1, .inr (3, [v1_0, .ref h2])), (h2, .inr (1, [v2_0, .int invoices2, v2_2, v2_3, v2_4, v2_5, v2_6, .ref h3, v2_8])), (h3, aI g 40 plate3), (h4, .inr (4, [v4_0, v4_1, v4_2, .int tags4, v4_4, v4_5, v4_6, v4_7, v4_8, v4_9, v4_10, .ref h5, v4_12])), (h5, aI g 12 tagPlate5)]
def f_X9_invoiceTag (F : Nat) (p1 invoices2 : Int32) (plate3 : Nat → Int32) (tags4 : Int32) (tagPlate5 : Nat → Int32) : Option (Nat × Int32) :=
  bd1 (f_X9_requireInvoice F p1 invoices2) fun x1 =>
  if x1 ≠ 0 then some (x1, 0) else
  rd plate3 40 p1 fun a4 =>
  bd1 (f_X4_tagWithPlate F a4 tags4 tagPlate5) fun r5 =>
  some (0, r5)
set_option maxHeartbeats 4000000 in
set_option maxRecDepth 100000 in
theorem c_X9_invoiceTag (l : Launch) (g : GT) (F : Nat) (h0 h1 h2 h3 h4 h5 : Nat) (v0_1 v0_2 v0_3 v0_5 v0_6 v1_0 v2_0 v2_2 v2_3 v2_4 v2_5 v2_6 v2_8 v4_0 v4_1 v4_2 v4_4 v4_5 v4_6 v4_7 v4_8 v4_9 v4_10 v4_12 : Value) (p1 invoices2 : Int32) (plate3 : Nat → Int32) (tags4 : Int32) (tagPlate5 : Nat → Int32) (x : Nat) (r : Int32) (hst : l.stackTraces = false) (sz : Nat) (hf : f_X9_invoiceTag F p1 invoices2 plate3 tags4 tagPlate5 = some (x, r)) : XI l m_X9_invoiceTag (rml 2 1 6) g (w_X9_invoiceTag g h0 h1 h2 h3 h4 h5 v0_1 v0_2 v0_3 v0_5 v0_6 v1_0 v2_0 v2_2 v2_3 v2_4 v2_5 v2_6 v2_8 v4_0 v4_1 v4_2 v4_4 v4_5 v4_6 v4_7 v4_8 v4_9 v4_10 v4_12 invoices2 plate3 tags4 tagPlate5) (fun _ => w_X9_invoiceTag g h0 h1 h2 h3 h4 h5 v0_1 v0_2 v0_3 v0_5 v0_6 v1_0 v2_0 v2_2 v2_3 v2_4 v2_5 v2_6 v2_8 v4_0 v4_1 v4_2 v4_4 v4_5 v4_6 v4_7 v4_8 v4_9 v4_10 v4_12 invoices2 plate3 tags4 tagPlate5) sz [.ref h0, .int p1] x r := by
  refine ex_i (by decide) (Nat.le_of_ble_eq_true rfl) (fun p e s m args below meth c A ls ht C w hl => ?_)
  have C : Cx p s m args meth c RX9 m_X9_invoiceTag g A := C
  have hx := C.1
  have hb : c.code = cX9_invoiceTag := C.2.1
  have hl : lv_has ls 2 [(0, .ref h0), (1, .int p1)] := hl
  obtain ⟨Q, hQ⟩ : ∃ Q, Q = QXI below args s g A (fun _ => w_X9_invoiceTag g h0 h1 h2 h3 h4 h5 v0_1 v0_2 v0_3 v0_5 v0_6 v1_0 v2_0 v2_2 v2_3 v2_4 v2_5 v2_6 v2_8 v4_0 v4_1 v4_2 v4_4 v4_5 v4_6 v4_7 v4_8 v4_9 v4_10 v4_12 invoices2 plate3 tags4 tagPlate5) x r 1 6 := ⟨_, rfl⟩
  suffices hW : W p l e (rml 2 1 6) s m args below meth c s.heap [] 0 0 Q (F0 m 0 ls []) from (by rw [hQ] at hW; exact hW)
  unfold f_X9_invoiceTag at hf
  refine lv_aload_n hx hb dX9_invoiceTag_0 rfl (lv_at hl 0 rfl) ?_
  refine lv_iload_n hx hb dX9_invoiceTag_1 rfl (lv_at hl 1 rfl) ?_
  obtain ⟨x1, hc2, hf⟩ := bd1_some hf
  refine cx_vV C w (wn := fun _ => w_X9_invoiceTag g h0 h1 h2 h3 h4 h5 v0_1 v0_2 v0_3 v0_5 v0_6 v1_0 v2_0 v2_2 v2_3 v2_4 v2_5 v2_6 v2_8 v4_0 v4_1 v4_2 v4_4 v4_5 v4_6 v4_7 v4_8 v4_9 v4_10 v4_12 invoices2 plate3 tags4 tagPlate5) (pm_k [true, true, true, false, false, false] rfl rfl (fun _ => Nat.le_of_ble_eq_true rfl) (fun _ => rfl)) (c_X9_requireInvoice l g F h0 h1 h2 (.ref h4) v0_1 v0_2 v0_3 v0_5 v0_6 v1_0 v2_0 v2_2 v2_3 v2_4 v2_5 v2_6 (.ref h3) v2_8 p1 invoices2 x1 hst _ hc2) k_X9_204 (rm_le (by decide) (by decide)) 0 9 rfl rfl rfl rfl hl.1 rfl (Nat.le_of_ble_eq_true rfl) dX9_invoiceTag_2 ⟨Nat.le_of_ble_eq_true rfl, Nat.le_of_ble_eq_true rfl⟩ (cells2 := 1) (slots2 := 6) ⟨rfl, rfl⟩ (fun n3 _ H locs w q9 ce h1 h2 h3 => ?_) (fun n3 _ H locs w => ?_)
  · replace hf := it_t n3 hf
    obtain ⟨e1, e2⟩ := tp2 hf
    rw [hQ]
    exact xo C ht w (fun _ => 0) rfl e1 n3 h1 h2 h3 (Nat.le_of_ble_eq_true rfl) (Nat.le_of_ble_eq_true rfl)
  replace hf := it_f (fun h => h n3) hf
  refine lv_aload_n hx hb dX9_invoiceTag_5 rfl (lv_at hl 0 rfl) ?_
  refine g_X9_12 C w 0 rfl rfl dX9_invoiceTag_6 ?_
  refine lv_aload_n hx hb dX9_invoiceTag_9 rfl (lv_at hl 0 rfl) ?_
  refine g_X9_40 C w 0 rfl rfl dX9_invoiceTag_10 ?_
  refine g_X9_179 C w 1 rfl rfl dX9_invoiceTag_13 ?_
  refine g_X9_207 C w 2 rfl rfl dX9_invoiceTag_16 ?_
  refine lv_iload_n hx hb dX9_invoiceTag_19 rfl (lv_at hl 1 rfl) ?_
  obtain ⟨a4, hia4, haa4, hf⟩ := rd_some hf
  refine ial C w 3 rfl hia4 haa4 dX9_invoiceTag_20 ?_
  obtain ⟨r5, hc6, hf⟩ := bd1_some hf
  refine ca_iN C w (wn := fun _ => w_X9_invoiceTag g h0 h1 h2 h3 h4 h5 v0_1 v0_2 v0_3 v0_5 v0_6 v1_0 v2_0 v2_2 v2_3 v2_4 v2_5 v2_6 v2_8 v4_0 v4_1 v4_2 v4_4 v4_5 v4_6 v4_7 v4_8 v4_9 v4_10 v4_12 invoices2 plate3 tags4 tagPlate5) (pm_k [false, false, false, false, true, true] rfl rfl (fun _ => Nat.le_of_ble_eq_true rfl) (fun _ => rfl)) (c_X4_tagWithPlate l g F h4 h5 v4_0 v4_1 v4_2 v4_4 v4_5 v4_6 v4_7 v4_8 v4_9 v4_10 v4_12 a4 tags4 tagPlate5 r5 _ hc6) k_X9_210 (rm_le (by decide) (by decide)) 4 4 rfl rfl rfl rfl hl.1 rfl (Nat.le_of_ble_eq_true rfl) dX9_invoiceTag_21 ⟨Nat.le_of_ble_eq_true rfl, Nat.le_of_ble_eq_true rfl⟩ (cells2 := 1) (slots2 := 6) ⟨rfl, rfl⟩ (fun _ H locs w => ?_)
  obtain ⟨e1, e2⟩ := tp2 hf
  rw [hQ]
  exact xr_i C w rfl (fun _ => 0) rfl e1 e2 (Nat.le_of_ble_eq_true rfl) (Nat.le_of_ble_eq_true rfl) dX9_invoiceTag_24

theorem dX9_invoicePlate_0 : decode cX9_invoicePlate 0 = .ok (.aload_n 0, 1) := by decide +kernel
theorem dX9_invoicePlate_1 : decode cX9_invoicePlate 1 = .ok (.iload_n 1, 1) := by decide +kernel
theorem dX9_invoicePlate_2 : decode cX9_invoicePlate 2 = .ok (.invokevirtual 204, 3) := by decide +kernel
theorem dX9_invoicePlate_5 : decode cX9_invoicePlate 5 = .ok (.aload_n 0, 1) := by decide +kernel
theorem dX9_invoicePlate_6 : decode cX9_invoicePlate 6 = .ok (.getfield 40, 3) := by decide +kernel
theorem dX9_invoicePlate_9 : decode cX9_invoicePlate 9 = .ok (.getfield 179, 3) := by decide +kernel
theorem dX9_invoicePlate_12 : decode cX9_invoicePlate 12 = .ok (.getfield 207, 3) := by decide +kernel
theorem dX9_invoicePlate_15 : decode cX9_invoicePlate 15 = .ok (.iload_n 1, 1) := by decide +kernel
theorem dX9_invoicePlate_16 : decode cX9_invoicePlate 16 = .ok (.iaload, 1) := by decide +kernel
theorem dX9_invoicePlate_17 : decode cX9_invoicePlate 17 = .ok (.ireturn, 1) := by decide +kernel
abbrev m_X9_invoicePlate : MD := (yX9_invoicePlate, cX9_invoicePlate, 2, (some .int))

abbrev w_X9_invoicePlate (g : GT) (h0 h1 h2 h3 : Nat) (v0_0 v0_1 v0_2 v0_3 v0_5 v0_6 v1_0 v2_0 v2_2 v2_3 v2_4 v2_5 v2_6 v2_8 : Value) (invoices2 : Int32) (plate3 : Nat → Int32) : va_W := [(h0, .inr (9, [v0_0, v0_1, v0_2, v0_3, .ref h1, v0_5, v0_6])), (h1, .inr (3, [v1_0, .ref h2])), (h2, .inr (1, [v2_0, .int invoices2, v2_2, v2_3, v2_4, v2_5, v2_6, .ref h3, v2_8])), (h3, aI g 40 plate3)]
def f_X9_invoicePlate (F : Nat) (p1 invoices2 : Int32) (plate3 : Nat → Int32) : Option (Nat × Int32) :=
  bd1 (f_X9_requireInvoice F p1 invoices2) fun x1 =>
  if x1 ≠ 0 then some (x1, 0) else
  rd plate3 40 p1 fun a4 =>
  some (0, a4)
set_option maxHeartbeats 4000000 in
set_option maxRecDepth 100000 in
theorem c_X9_invoicePlate (l : Launch) (g : GT) (F : Nat) (h0 h1 h2 h3 : Nat) (v0_0 v0_1 v0_2 v0_3 v0_5 v0_6 v1_0 v2_0 v2_2 v2_3 v2_4 v2_5 v2_6 v2_8 : Value) (p1 invoices2 : Int32) (plate3 : Nat → Int32) (x : Nat) (r : Int32) (hst : l.stackTraces = false) (sz : Nat) (hf : f_X9_invoicePlate F p1 invoices2 plate3 = some (x, r)) : XI l m_X9_invoicePlate (rml 2 1 6) g (w_X9_invoicePlate g h0 h1 h2 h3 v0_0 v0_1 v0_2 v0_3 v0_5 v0_6 v1_0 v2_0 v2_2 v2_3 v2_4 v2_5 v2_6 v2_8 invoices2 plate3) (fun _ => w_X9_invoicePlate g h0 h1 h2 h3 v0_0 v0_1 v0_2 v0_3 v0_5 v0_6 v1_0 v2_0 v2_2 v2_3 v2_4 v2_5 v2_6 v2_8 invoices2 plate3) sz [.ref h0, .int p1] x r := by
  refine ex_i (by decide) (Nat.le_of_ble_eq_true rfl) (fun p e s m args below meth c A ls ht C w hl => ?_)
  have C : Cx p s m args meth c RX9 m_X9_invoicePlate g A := C
  have hx := C.1
  have hb : c.code = cX9_invoicePlate := C.2.1
  have hl : lv_has ls 2 [(0, .ref h0), (1, .int p1)] := hl
  obtain ⟨Q, hQ⟩ : ∃ Q, Q = QXI below args s g A (fun _ => w_X9_invoicePlate g h0 h1 h2 h3 v0_0 v0_1 v0_2 v0_3 v0_5 v0_6 v1_0 v2_0 v2_2 v2_3 v2_4 v2_5 v2_6 v2_8 invoices2 plate3) x r 1 6 := ⟨_, rfl⟩
  suffices hW : W p l e (rml 2 1 6) s m args below meth c s.heap [] 0 0 Q (F0 m 0 ls []) from (by rw [hQ] at hW; exact hW)
  unfold f_X9_invoicePlate at hf
  refine lv_aload_n hx hb dX9_invoicePlate_0 rfl (lv_at hl 0 rfl) ?_
  refine lv_iload_n hx hb dX9_invoicePlate_1 rfl (lv_at hl 1 rfl) ?_
  obtain ⟨x1, hc2, hf⟩ := bd1_some hf
  refine cx_vV C w (wn := fun _ => w_X9_invoicePlate g h0 h1 h2 h3 v0_0 v0_1 v0_2 v0_3 v0_5 v0_6 v1_0 v2_0 v2_2 v2_3 v2_4 v2_5 v2_6 v2_8 invoices2 plate3) (pm_k [true, true, true, false] rfl rfl (fun _ => Nat.le_of_ble_eq_true rfl) (fun _ => rfl)) (c_X9_requireInvoice l g F h0 h1 h2 v0_0 v0_1 v0_2 v0_3 v0_5 v0_6 v1_0 v2_0 v2_2 v2_3 v2_4 v2_5 v2_6 (.ref h3) v2_8 p1 invoices2 x1 hst _ hc2) k_X9_204 (rm_le (by decide) (by decide)) 0 9 rfl rfl rfl rfl hl.1 rfl (Nat.le_of_ble_eq_true rfl) dX9_invoicePlate_2 ⟨Nat.le_of_ble_eq_true rfl, Nat.le_of_ble_eq_true rfl⟩ (cells2 := 1) (slots2 := 6) ⟨rfl, rfl⟩ (fun n3 _ H locs w q9 ce h1 h2 h3 => ?_) (fun n3 _ H locs w => ?_)
  · replace hf := it_t n3 hf
    obtain ⟨e1, e2⟩ := tp2 hf
    rw [hQ]
    exact xo C ht w (fun _ => 0) rfl e1 n3 h1 h2 h3 (Nat.le_of_ble_eq_true rfl) (Nat.le_of_ble_eq_true rfl)
  replace hf := it_f (fun h => h n3) hf
  refine lv_aload_n hx hb dX9_invoicePlate_5 rfl (lv_at hl 0 rfl) ?_
  refine g_X9_40 C w 0 rfl rfl dX9_invoicePlate_6 ?_
  refine g_X9_179 C w 1 rfl rfl dX9_invoicePlate_9 ?_
  refine g_X9_207 C w 2 rfl rfl dX9_invoicePlate_12 ?_
  refine lv_iload_n hx hb dX9_invoicePlate_15 rfl (lv_at hl 1 rfl) ?_
  obtain ⟨a4, hia4, haa4, hf⟩ := rd_some hf
  refine ial C w 3 rfl hia4 haa4 dX9_invoicePlate_16 ?_
  obtain ⟨e1, e2⟩ := tp2 hf
  rw [hQ]
  exact xr_i C w rfl (fun _ => 0) rfl e1 e2 (Nat.le_of_ble_eq_true rfl) (Nat.le_of_ble_eq_true rfl) dX9_invoicePlate_17

theorem dX9_invoiceTotal_0 : decode cX9_invoiceTotal 0 = .ok (.aload_n 0, 1) := by decide +kernel
theorem dX9_invoiceTotal_1 : decode cX9_invoiceTotal 1 = .ok (.iload_n 1, 1) := by decide +kernel
theorem dX9_invoiceTotal_2 : decode cX9_invoiceTotal 2 = .ok (.invokevirtual 204, 3) := by decide +kernel
theorem dX9_invoiceTotal_5 : decode cX9_invoiceTotal 5 = .ok (.aload_n 0, 1) := by decide +kernel
theorem dX9_invoiceTotal_6 : decode cX9_invoiceTotal 6 = .ok (.getfield 40, 3) := by decide +kernel
theorem dX9_invoiceTotal_9 : decode cX9_invoiceTotal 9 = .ok (.getfield 179, 3) := by decide +kernel
theorem dX9_invoiceTotal_12 : decode cX9_invoiceTotal 12 = .ok (.iload_n 1, 1) := by decide +kernel
theorem dX9_invoiceTotal_13 : decode cX9_invoiceTotal 13 = .ok (.aload_n 0, 1) := by decide +kernel
theorem dX9_invoiceTotal_14 : decode cX9_invoiceTotal 14 = .ok (.getfield 12, 3) := by decide +kernel
theorem dX9_invoiceTotal_17 : decode cX9_invoiceTotal 17 = .ok (.invokevirtual 213, 3) := by decide +kernel
theorem dX9_invoiceTotal_20 : decode cX9_invoiceTotal 20 = .ok (.ireturn, 1) := by decide +kernel
abbrev m_X9_invoiceTotal : MD := (yX9_invoiceTotal, cX9_invoiceTotal, 2, (some .int))
theorem k_X9_213 : LkN RX9 213 m_X1_totalOf 2 := ⟨⟨"FreeFlowToll", nw_t 1050 (by decide +kernel) rfl⟩, q_467, qs_13, ⟨q_8, q_468, by decide, by decide, by decide +kernel⟩⟩
abbrev w_X9_invoiceTotal (g : GT) (h0 h1 h2 h3 h4 h5 h6 h7 h8 : Nat) (v0_1 v0_2 v0_3 v0_5 v0_6 v1_0 v2_3 v2_4 v2_8 v7_0 v7_1 v7_2 v7_4 v7_5 v7_7 v7_8 v7_9 v7_10 v7_12 : Value) (trips2 invoices2 : Int32) (amount3 invoice4 plate5 state6 : Nat → Int32) (tags7 fee7 : Int32) (tagPlate8 : Nat → Int32) : va_W := [(h0, .inr (9, [.ref h7, v0_1, v0_2, v0_3, .ref h1, v0_5, v0_6])), (h1, .inr (3, [v1_0, .ref h2])), (h2, .inr (1, [.int trips2, .int invoices2, .ref h3, v2_3, v2_4, .ref h6, .ref h4, .ref h5, v2_8])), (h3, aI g 80 amount3), (h4, aI g 80 invoice4), (h5, aI g 40 plate5), (h6, aI g 80 state6), (h7, .inr (4, [v7_0, v7_1, v7_2, .int tags7, v7_4, v7_5, .int fee7, v7_7, v7_8, v7_9, v7_10, .ref h8, v7_12])), (h8, aI g 12 tagPlate8)]
def f_X9_invoiceTotal (F : Nat) (p1 trips2 invoices2 : Int32) (amount3 invoice4 plate5 state6 : Nat → Int32) (tags7 fee7 : Int32) (tagPlate8 : Nat → Int32) : Option (Nat × Int32) :=
  bd1 (f_X9_requireInvoice F p1 invoices2) fun x1 =>
  if x1 ≠ 0 then some (x1, 0) else
  bd1 (f_X1_totalOf F p1 trips2 amount3 invoice4 plate5 state6 tags7 fee7 tagPlate8) fun r4 =>
  some (0, r4)
set_option maxHeartbeats 4000000 in
set_option maxRecDepth 100000 in
theorem c_X9_invoiceTotal (l : Launch) (g : GT) (F : Nat) (h0 h1 h2 h3 h4 h5 h6 h7 h8 : Nat) (v0_1 v0_2 v0_3 v0_5 v0_6 v1_0 v2_3 v2_4 v2_8 v7_0 v7_1 v7_2 v7_4 v7_5 v7_7 v7_8 v7_9 v7_10 v7_12 : Value) (p1 trips2 invoices2 : Int32) (amount3 invoice4 plate5 state6 : Nat → Int32) (tags7 fee7 : Int32) (tagPlate8 : Nat → Int32) (x : Nat) (r : Int32) (hst : l.stackTraces = false) (sz : Nat) (hf : f_X9_invoiceTotal F p1 trips2 invoices2 amount3 invoice4 plate5 state6 tags7 fee7 tagPlate8 = some (x, r)) : XI l m_X9_invoiceTotal (rml 3 1 6) g (w_X9_invoiceTotal g h0 h1 h2 h3 h4 h5 h6 h7 h8 v0_1 v0_2 v0_3 v0_5 v0_6 v1_0 v2_3 v2_4 v2_8 v7_0 v7_1 v7_2 v7_4 v7_5 v7_7 v7_8 v7_9 v7_10 v7_12 trips2 invoices2 amount3 invoice4 plate5 state6 tags7 fee7 tagPlate8) (fun _ => w_X9_invoiceTotal g h0 h1 h2 h3 h4 h5 h6 h7 h8 v0_1 v0_2 v0_3 v0_5 v0_6 v1_0 v2_3 v2_4 v2_8 v7_0 v7_1 v7_2 v7_4 v7_5 v7_7 v7_8 v7_9 v7_10 v7_12 trips2 invoices2 amount3 invoice4 plate5 state6 tags7 fee7 tagPlate8) sz [.ref h0, .int p1] x r := by
  refine ex_i (by decide) (Nat.le_of_ble_eq_true rfl) (fun p e s m args below meth c A ls ht C w hl => ?_)
  have C : Cx p s m args meth c RX9 m_X9_invoiceTotal g A := C
  have hx := C.1
  have hb : c.code = cX9_invoiceTotal := C.2.1
  have hl : lv_has ls 2 [(0, .ref h0), (1, .int p1)] := hl
  obtain ⟨Q, hQ⟩ : ∃ Q, Q = QXI below args s g A (fun _ => w_X9_invoiceTotal g h0 h1 h2 h3 h4 h5 h6 h7 h8 v0_1 v0_2 v0_3 v0_5 v0_6 v1_0 v2_3 v2_4 v2_8 v7_0 v7_1 v7_2 v7_4 v7_5 v7_7 v7_8 v7_9 v7_10 v7_12 trips2 invoices2 amount3 invoice4 plate5 state6 tags7 fee7 tagPlate8) x r 1 6 := ⟨_, rfl⟩
  suffices hW : W p l e (rml 3 1 6) s m args below meth c s.heap [] 0 0 Q (F0 m 0 ls []) from (by rw [hQ] at hW; exact hW)
  unfold f_X9_invoiceTotal at hf
  refine lv_aload_n hx hb dX9_invoiceTotal_0 rfl (lv_at hl 0 rfl) ?_
  refine lv_iload_n hx hb dX9_invoiceTotal_1 rfl (lv_at hl 1 rfl) ?_
  obtain ⟨x1, hc2, hf⟩ := bd1_some hf
  refine cx_vV C w (wn := fun _ => w_X9_invoiceTotal g h0 h1 h2 h3 h4 h5 h6 h7 h8 v0_1 v0_2 v0_3 v0_5 v0_6 v1_0 v2_3 v2_4 v2_8 v7_0 v7_1 v7_2 v7_4 v7_5 v7_7 v7_8 v7_9 v7_10 v7_12 trips2 invoices2 amount3 invoice4 plate5 state6 tags7 fee7 tagPlate8) (pm_k [true, true, true, false, false, false, false, false, false] rfl rfl (fun _ => Nat.le_of_ble_eq_true rfl) (fun _ => rfl)) (c_X9_requireInvoice l g F h0 h1 h2 (.ref h7) v0_1 v0_2 v0_3 v0_5 v0_6 v1_0 (.int trips2) (.ref h3) v2_3 v2_4 (.ref h6) (.ref h4) (.ref h5) v2_8 p1 invoices2 x1 hst _ hc2) k_X9_204 (rm_le (by decide) (by decide)) 0 9 rfl rfl rfl rfl hl.1 rfl (Nat.le_of_ble_eq_true rfl) dX9_invoiceTotal_2 ⟨Nat.le_of_ble_eq_true rfl, Nat.le_of_ble_eq_true rfl⟩ (cells2 := 1) (slots2 := 6) ⟨rfl, rfl⟩ (fun n3 _ H locs w q9 ce h1 h2 h3 => ?_) (fun n3 _ H locs w => ?_)
  · replace hf := it_t n3 hf
    obtain ⟨e1, e2⟩ := tp2 hf
    rw [hQ]
    exact xo C ht w (fun _ => 0) rfl e1 n3 h1 h2 h3 (Nat.le_of_ble_eq_true rfl) (Nat.le_of_ble_eq_true rfl)
  replace hf := it_f (fun h => h n3) hf
  refine lv_aload_n hx hb dX9_invoiceTotal_5 rfl (lv_at hl 0 rfl) ?_
  refine g_X9_40 C w 0 rfl rfl dX9_invoiceTotal_6 ?_
  refine g_X9_179 C w 1 rfl rfl dX9_invoiceTotal_9 ?_
  refine lv_iload_n hx hb dX9_invoiceTotal_12 rfl (lv_at hl 1 rfl) ?_
  refine lv_aload_n hx hb dX9_invoiceTotal_13 rfl (lv_at hl 0 rfl) ?_
  refine g_X9_12 C w 0 rfl rfl dX9_invoiceTotal_14 ?_
  obtain ⟨r4, hc5, hf⟩ := bd1_some hf
  refine ca_iN C w (wn := fun _ => w_X9_invoiceTotal g h0 h1 h2 h3 h4 h5 h6 h7 h8 v0_1 v0_2 v0_3 v0_5 v0_6 v1_0 v2_3 v2_4 v2_8 v7_0 v7_1 v7_2 v7_4 v7_5 v7_7 v7_8 v7_9 v7_10 v7_12 trips2 invoices2 amount3 invoice4 plate5 state6 tags7 fee7 tagPlate8) (pm_k [false, false, true, true, true, true, true, true, true] rfl rfl (fun _ => Nat.le_of_ble_eq_true rfl) (fun _ => rfl)) (c_X1_totalOf l g F h2 h3 h4 h5 h6 h7 h8 (.int invoices2) v2_3 v2_4 v2_8 v7_0 v7_1 v7_2 v7_4 v7_5 v7_7 v7_8 v7_9 v7_10 v7_12 p1 trips2 amount3 invoice4 plate5 state6 tags7 fee7 tagPlate8 r4 _ hc5) k_X9_213 (rm_le (by decide) (by decide)) 2 1 rfl rfl rfl rfl hl.1 rfl (Nat.le_of_ble_eq_true rfl) dX9_invoiceTotal_17 ⟨Nat.le_of_ble_eq_true rfl, Nat.le_of_ble_eq_true rfl⟩ (cells2 := 1) (slots2 := 6) ⟨rfl, rfl⟩ (fun _ H locs w => ?_)
  obtain ⟨e1, e2⟩ := tp2 hf
  rw [hQ]
  exact xr_i C w rfl (fun _ => 0) rfl e1 e2 (Nat.le_of_ble_eq_true rfl) (Nat.le_of_ble_eq_true rfl) dX9_invoiceTotal_20

theorem dX9_balance_0 : decode cX9_balance 0 = .ok (.aload_n 0, 1) := by decide +kernel
theorem dX9_balance_1 : decode cX9_balance 1 = .ok (.iload_n 1, 1) := by decide +kernel
theorem dX9_balance_2 : decode cX9_balance 2 = .ok (.invokevirtual 204, 3) := by decide +kernel
theorem dX9_balance_5 : decode cX9_balance 5 = .ok (.aload_n 0, 1) := by decide +kernel
theorem dX9_balance_6 : decode cX9_balance 6 = .ok (.getfield 40, 3) := by decide +kernel
theorem dX9_balance_9 : decode cX9_balance 9 = .ok (.getfield 179, 3) := by decide +kernel
theorem dX9_balance_12 : decode cX9_balance 12 = .ok (.iload_n 1, 1) := by decide +kernel
theorem dX9_balance_13 : decode cX9_balance 13 = .ok (.aload_n 0, 1) := by decide +kernel
theorem dX9_balance_14 : decode cX9_balance 14 = .ok (.getfield 12, 3) := by decide +kernel
theorem dX9_balance_17 : decode cX9_balance 17 = .ok (.invokevirtual 216, 3) := by decide +kernel
theorem dX9_balance_20 : decode cX9_balance 20 = .ok (.ireturn, 1) := by decide +kernel
abbrev m_X9_balance : MD := (yX9_balance, cX9_balance, 2, (some .int))
theorem q_464 : Cond.code yX1_balanceOf cX1_balanceOf 3 (some .int) ∈ TS := ts_t 464 (by decide +kernel) (by decide +kernel)
theorem q_463 : Cond.instanceMethod yX1_balanceOf ∈ TS := ts_t 463 (by decide +kernel) (by decide +kernel)
theorem qs_12 : Cond.selects yX1_balanceOf.cls yX1_balanceOf yX1_balanceOf ∈ TS := ts_s 12 (by decide +kernel) (by decide +kernel)
theorem k_X9_216 : LkN RX9 216 m_X1_balanceOf 2 := ⟨⟨"FreeFlowToll", nw_t 461 (by decide +kernel) rfl⟩, q_463, qs_12, ⟨q_8, q_464, by decide, by decide, by decide +kernel⟩⟩
abbrev w_X9_balance (g : GT) (h0 h1 h2 h3 h4 h5 h6 h7 h8 h9 : Nat) (v0_1 v0_2 v0_3 v0_5 v0_6 v1_0 v2_3 v2_4 v8_0 v8_1 v8_2 v8_4 v8_5 v8_7 v8_8 v8_9 v8_10 v8_12 : Value) (trips2 invoices2 : Int32) (amount3 invoice4 paid5 plate6 state7 : Nat → Int32) (tags8 fee8 : Int32) (tagPlate9 : Nat → Int32) : va_W := [(h0, .inr (9, [.ref h8, v0_1, v0_2, v0_3, .ref h1, v0_5, v0_6])), (h1, .inr (3, [v1_0, .ref h2])), (h2, .inr (1, [.int trips2, .int invoices2, .ref h3, v2_3, v2_4, .ref h7, .ref h4, .ref h6, .ref h5])), (h3, aI g 80 amount3), (h4, aI g 80 invoice4), (h5, aI g 40 paid5), (h6, aI g 40 plate6), (h7, aI g 80 state7), (h8, .inr (4, [v8_0, v8_1, v8_2, .int tags8, v8_4, v8_5, .int fee8, v8_7, v8_8, v8_9, v8_10, .ref h9, v8_12])), (h9, aI g 12 tagPlate9)]
def f_X9_balance (F : Nat) (p1 trips2 invoices2 : Int32) (amount3 invoice4 paid5 plate6 state7 : Nat → Int32) (tags8 fee8 : Int32) (tagPlate9 : Nat → Int32) : Option (Nat × Int32) :=
  bd1 (f_X9_requireInvoice F p1 invoices2) fun x1 =>
  if x1 ≠ 0 then some (x1, 0) else
  bd1 (f_X1_balanceOf F p1 trips2 amount3 invoice4 paid5 plate6 state7 tags8 fee8 tagPlate9) fun r4 =>
  some (0, r4)
set_option maxHeartbeats 4000000 in
set_option maxRecDepth 100000 in
theorem c_X9_balance (l : Launch) (g : GT) (F : Nat) (h0 h1 h2 h3 h4 h5 h6 h7 h8 h9 : Nat) (v0_1 v0_2 v0_3 v0_5 v0_6 v1_0 v2_3 v2_4 v8_0 v8_1 v8_2 v8_4 v8_5 v8_7 v8_8 v8_9 v8_10 v8_12 : Value) (p1 trips2 invoices2 : Int32) (amount3 invoice4 paid5 plate6 state7 : Nat → Int32) (tags8 fee8 : Int32) (tagPlate9 : Nat → Int32) (x : Nat) (r : Int32) (hst : l.stackTraces = false) (sz : Nat) (hf : f_X9_balance F p1 trips2 invoices2 amount3 invoice4 paid5 plate6 state7 tags8 fee8 tagPlate9 = some (x, r)) : XI l m_X9_balance (rml 4 1 6) g (w_X9_balance g h0 h1 h2 h3 h4 h5 h6 h7 h8 h9 v0_1 v0_2 v0_3 v0_5 v0_6 v1_0 v2_3 v2_4 v8_0 v8_1 v8_2 v8_4 v8_5 v8_7 v8_8 v8_9 v8_10 v8_12 trips2 invoices2 amount3 invoice4 paid5 plate6 state7 tags8 fee8 tagPlate9) (fun _ => w_X9_balance g h0 h1 h2 h3 h4 h5 h6 h7 h8 h9 v0_1 v0_2 v0_3 v0_5 v0_6 v1_0 v2_3 v2_4 v8_0 v8_1 v8_2 v8_4 v8_5 v8_7 v8_8 v8_9 v8_10 v8_12 trips2 invoices2 amount3 invoice4 paid5 plate6 state7 tags8 fee8 tagPlate9) sz [.ref h0, .int p1] x r := by
  refine ex_i (by decide) (Nat.le_of_ble_eq_true rfl) (fun p e s m args below meth c A ls ht C w hl => ?_)
  have C : Cx p s m args meth c RX9 m_X9_balance g A := C
  have hx := C.1
  have hb : c.code = cX9_balance := C.2.1
  have hl : lv_has ls 2 [(0, .ref h0), (1, .int p1)] := hl
  obtain ⟨Q, hQ⟩ : ∃ Q, Q = QXI below args s g A (fun _ => w_X9_balance g h0 h1 h2 h3 h4 h5 h6 h7 h8 h9 v0_1 v0_2 v0_3 v0_5 v0_6 v1_0 v2_3 v2_4 v8_0 v8_1 v8_2 v8_4 v8_5 v8_7 v8_8 v8_9 v8_10 v8_12 trips2 invoices2 amount3 invoice4 paid5 plate6 state7 tags8 fee8 tagPlate9) x r 1 6 := ⟨_, rfl⟩
  suffices hW : W p l e (rml 4 1 6) s m args below meth c s.heap [] 0 0 Q (F0 m 0 ls []) from (by rw [hQ] at hW; exact hW)
  unfold f_X9_balance at hf
  refine lv_aload_n hx hb dX9_balance_0 rfl (lv_at hl 0 rfl) ?_
  refine lv_iload_n hx hb dX9_balance_1 rfl (lv_at hl 1 rfl) ?_
  obtain ⟨x1, hc2, hf⟩ := bd1_some hf
  refine cx_vV C w (wn := fun _ => w_X9_balance g h0 h1 h2 h3 h4 h5 h6 h7 h8 h9 v0_1 v0_2 v0_3 v0_5 v0_6 v1_0 v2_3 v2_4 v8_0 v8_1 v8_2 v8_4 v8_5 v8_7 v8_8 v8_9 v8_10 v8_12 trips2 invoices2 amount3 invoice4 paid5 plate6 state7 tags8 fee8 tagPlate9) (pm_k [true, true, true, false, false, false, false, false, false, false] rfl rfl (fun _ => Nat.le_of_ble_eq_true rfl) (fun _ => rfl)) (c_X9_requireInvoice l g F h0 h1 h2 (.ref h8) v0_1 v0_2 v0_3 v0_5 v0_6 v1_0 (.int trips2) (.ref h3) v2_3 v2_4 (.ref h7) (.ref h4) (.ref h6) (.ref h5) p1 invoices2 x1 hst _ hc2) k_X9_204 (rm_le (by decide) (by decide)) 0 9 rfl rfl rfl rfl hl.1 rfl (Nat.le_of_ble_eq_true rfl) dX9_balance_2 ⟨Nat.le_of_ble_eq_true rfl, Nat.le_of_ble_eq_true rfl⟩ (cells2 := 1) (slots2 := 6) ⟨rfl, rfl⟩ (fun n3 _ H locs w q9 ce h1 h2 h3 => ?_) (fun n3 _ H locs w => ?_)
  · replace hf := it_t n3 hf
    obtain ⟨e1, e2⟩ := tp2 hf
    rw [hQ]
    exact xo C ht w (fun _ => 0) rfl e1 n3 h1 h2 h3 (Nat.le_of_ble_eq_true rfl) (Nat.le_of_ble_eq_true rfl)
  replace hf := it_f (fun h => h n3) hf
  refine lv_aload_n hx hb dX9_balance_5 rfl (lv_at hl 0 rfl) ?_
  refine g_X9_40 C w 0 rfl rfl dX9_balance_6 ?_
  refine g_X9_179 C w 1 rfl rfl dX9_balance_9 ?_
  refine lv_iload_n hx hb dX9_balance_12 rfl (lv_at hl 1 rfl) ?_
  refine lv_aload_n hx hb dX9_balance_13 rfl (lv_at hl 0 rfl) ?_
  refine g_X9_12 C w 0 rfl rfl dX9_balance_14 ?_
  obtain ⟨r4, hc5, hf⟩ := bd1_some hf
  refine ca_iN C w (wn := fun _ => w_X9_balance g h0 h1 h2 h3 h4 h5 h6 h7 h8 h9 v0_1 v0_2 v0_3 v0_5 v0_6 v1_0 v2_3 v2_4 v8_0 v8_1 v8_2 v8_4 v8_5 v8_7 v8_8 v8_9 v8_10 v8_12 trips2 invoices2 amount3 invoice4 paid5 plate6 state7 tags8 fee8 tagPlate9) (pm_k [false, false, true, true, true, true, true, true, true, true] rfl rfl (fun _ => Nat.le_of_ble_eq_true rfl) (fun _ => rfl)) (c_X1_balanceOf l g F h2 h3 h4 h5 h6 h7 h8 h9 (.int invoices2) v2_3 v2_4 v8_0 v8_1 v8_2 v8_4 v8_5 v8_7 v8_8 v8_9 v8_10 v8_12 p1 trips2 amount3 invoice4 paid5 plate6 state7 tags8 fee8 tagPlate9 r4 _ hc5) k_X9_216 (rm_le (by decide) (by decide)) 2 1 rfl rfl rfl rfl hl.1 rfl (Nat.le_of_ble_eq_true rfl) dX9_balance_17 ⟨Nat.le_of_ble_eq_true rfl, Nat.le_of_ble_eq_true rfl⟩ (cells2 := 1) (slots2 := 6) ⟨rfl, rfl⟩ (fun _ H locs w => ?_)
  obtain ⟨e1, e2⟩ := tp2 hf
  rw [hQ]
  exact xr_i C w rfl (fun _ => 0) rfl e1 e2 (Nat.le_of_ble_eq_true rfl) (Nat.le_of_ble_eq_true rfl) dX9_balance_20

theorem dX9_outstanding_0 : decode cX9_outstanding 0 = .ok (.iconst 0, 1) := by decide +kernel
theorem dX9_outstanding_1 : decode cX9_outstanding 1 = .ok (.istore_n 1, 1) := by decide +kernel
theorem dX9_outstanding_2 : decode cX9_outstanding 2 = .ok (.iconst 0, 1) := by decide +kernel
theorem dX9_outstanding_3 : decode cX9_outstanding 3 = .ok (.istore_n 2, 1) := by decide +kernel
theorem dX9_outstanding_4 : decode cX9_outstanding 4 = .ok (.iload_n 2, 1) := by decide +kernel
theorem dX9_outstanding_5 : decode cX9_outstanding 5 = .ok (.aload_n 0, 1) := by decide +kernel
theorem dX9_outstanding_6 : decode cX9_outstanding 6 = .ok (.getfield 40, 3) := by decide +kernel
theorem dX9_outstanding_9 : decode cX9_outstanding 9 = .ok (.getfield 179, 3) := by decide +kernel
theorem dX9_outstanding_12 : decode cX9_outstanding 12 = .ok (.getfield 201, 3) := by decide +kernel
theorem dX9_outstanding_15 : decode cX9_outstanding 15 = .ok (.if_icmp .ge 31, 3) := by decide +kernel
theorem dX9_outstanding_18 : decode cX9_outstanding 18 = .ok (.iload_n 1, 1) := by decide +kernel
theorem dX9_outstanding_19 : decode cX9_outstanding 19 = .ok (.iconst 0, 1) := by decide +kernel
theorem dX9_outstanding_20 : decode cX9_outstanding 20 = .ok (.aload_n 0, 1) := by decide +kernel
theorem dX9_outstanding_21 : decode cX9_outstanding 21 = .ok (.getfield 40, 3) := by decide +kernel
theorem dX9_outstanding_24 : decode cX9_outstanding 24 = .ok (.getfield 179, 3) := by decide +kernel
theorem dX9_outstanding_27 : decode cX9_outstanding 27 = .ok (.iload_n 2, 1) := by decide +kernel
theorem dX9_outstanding_28 : decode cX9_outstanding 28 = .ok (.aload_n 0, 1) := by decide +kernel
theorem dX9_outstanding_29 : decode cX9_outstanding 29 = .ok (.getfield 12, 3) := by decide +kernel
theorem dX9_outstanding_32 : decode cX9_outstanding 32 = .ok (.invokevirtual 216, 3) := by decide +kernel
theorem dX9_outstanding_35 : decode cX9_outstanding 35 = .ok (.invokestatic 219, 3) := by decide +kernel
theorem dX9_outstanding_38 : decode cX9_outstanding 38 = .ok (.iadd, 1) := by decide +kernel
theorem dX9_outstanding_39 : decode cX9_outstanding 39 = .ok (.istore_n 1, 1) := by decide +kernel
theorem dX9_outstanding_40 : decode cX9_outstanding 40 = .ok (.iinc 2 1, 3) := by decide +kernel
theorem dX9_outstanding_43 : decode cX9_outstanding 43 = .ok (.goto (-39), 3) := by decide +kernel
theorem dX9_outstanding_46 : decode cX9_outstanding 46 = .ok (.iload_n 1, 1) := by decide +kernel
theorem dX9_outstanding_47 : decode cX9_outstanding 47 = .ok (.ireturn, 1) := by decide +kernel
abbrev m_X9_outstanding : MD := (yX9_outstanding, cX9_outstanding, 3, (some .int))
theorem q_473 : Cond.methodLink RX9 219 Lib.Math.max.name ∈ TS := ts_t 473 (by decide +kernel) (by decide +kernel)
abbrev w_X9_outstanding (g : GT) (h0 h1 h2 h3 h4 h5 h6 h7 h8 h9 : Nat) (v0_1 v0_2 v0_3 v0_5 v0_6 v1_0 v2_3 v2_4 v8_0 v8_1 v8_2 v8_4 v8_5 v8_7 v8_8 v8_9 v8_10 v8_12 : Value) (trips2 invoices2 : Int32) (amount3 invoice4 paid5 plate6 state7 : Nat → Int32) (tags8 fee8 : Int32) (tagPlate9 : Nat → Int32) : va_W := [(h0, .inr (9, [.ref h8, v0_1, v0_2, v0_3, .ref h1, v0_5, v0_6])), (h1, .inr (3, [v1_0, .ref h2])), (h2, .inr (1, [.int trips2, .int invoices2, .ref h3, v2_3, v2_4, .ref h7, .ref h4, .ref h6, .ref h5])), (h3, aI g 80 amount3), (h4, aI g 80 invoice4), (h5, aI g 40 paid5), (h6, aI g 40 plate6), (h7, aI g 80 state7), (h8, .inr (4, [v8_0, v8_1, v8_2, .int tags8, v8_4, v8_5, .int fee8, v8_7, v8_8, v8_9, v8_10, .ref h9, v8_12])), (h9, aI g 12 tagPlate9)]
def f_X9_outstanding_h4 (F : Nat) (trips2 invoices2 : Int32) (amount3 invoice4 paid5 plate6 state7 : Nat → Int32) (tags8 fee8 : Int32) (tagPlate9 : Nat → Int32) (k4 : (Int32 × Int32) → Option (Int32)) (x1 x2 : Int32) : Option (Int32) :=
  if invoices2 ≤ x2 then
    some x1
  else
    bd1 (f_X1_balanceOf F x2 trips2 amount3 invoice4 paid5 plate6 state7 tags8 fee8 tagPlate9) fun r2 =>
    k4 (x1 + (if (0 : Int32) < r2 then r2 else (0 : Int32)), x2 + 1)
def f_X9_outstanding_L4 (F : Nat) (trips2 invoices2 : Int32) (amount3 invoice4 paid5 plate6 state7 : Nat → Int32) (tags8 fee8 : Int32) (tagPlate9 : Nat → Int32) (z : Int32 × Int32) : Option (Int32) := lp (fun k z => f_X9_outstanding_h4 F trips2 invoices2 amount3 invoice4 paid5 plate6 state7 tags8 fee8 tagPlate9 k z.1 z.2) F z
def f_X9_outstanding (F : Nat) (trips2 invoices2 : Int32) (amount3 invoice4 paid5 plate6 state7 : Nat → Int32) (tags8 fee8 : Int32) (tagPlate9 : Nat → Int32) : Option (Int32) :=
  f_X9_outstanding_L4 F trips2 invoices2 amount3 invoice4 paid5 plate6 state7 tags8 fee8 tagPlate9 (0, 0)
set_option maxHeartbeats 4000000 in
set_option maxRecDepth 100000 in
theorem c_X9_outstanding (l : Launch) (g : GT) (F : Nat) (h0 h1 h2 h3 h4 h5 h6 h7 h8 h9 : Nat) (v0_1 v0_2 v0_3 v0_5 v0_6 v1_0 v2_3 v2_4 v8_0 v8_1 v8_2 v8_4 v8_5 v8_7 v8_8 v8_9 v8_10 v8_12 : Value) (trips2 invoices2 : Int32) (amount3 invoice4 paid5 plate6 state7 : Nat → Int32) (tags8 fee8 : Int32) (tagPlate9 : Nat → Int32) (r : Int32) (sz : Nat) (hf : f_X9_outstanding F trips2 invoices2 amount3 invoice4 paid5 plate6 state7 tags8 fee8 tagPlate9 = some r) : CI l m_X9_outstanding (rml 4 0 0) g (w_X9_outstanding g h0 h1 h2 h3 h4 h5 h6 h7 h8 h9 v0_1 v0_2 v0_3 v0_5 v0_6 v1_0 v2_3 v2_4 v8_0 v8_1 v8_2 v8_4 v8_5 v8_7 v8_8 v8_9 v8_10 v8_12 trips2 invoices2 amount3 invoice4 paid5 plate6 state7 tags8 fee8 tagPlate9) (fun _ => w_X9_outstanding g h0 h1 h2 h3 h4 h5 h6 h7 h8 h9 v0_1 v0_2 v0_3 v0_5 v0_6 v1_0 v2_3 v2_4 v8_0 v8_1 v8_2 v8_4 v8_5 v8_7 v8_8 v8_9 v8_10 v8_12 trips2 invoices2 amount3 invoice4 paid5 plate6 state7 tags8 fee8 tagPlate9) sz [.ref h0] r := by
  refine en_i (by decide) (Nat.le_of_ble_eq_true rfl) (fun p e s m args below meth c A ls C w hl => ?_)
  have C : Cx p s m args meth c RX9 m_X9_outstanding g A := C
  have hx := C.1
  have hb : c.code = cX9_outstanding := C.2.1
  have hl : lv_has ls 3 [(0, .ref h0)] := hl
  obtain ⟨Q, hQ⟩ : ∃ Q, Q = QI below args s g A (fun _ => w_X9_outstanding g h0 h1 h2 h3 h4 h5 h6 h7 h8 h9 v0_1 v0_2 v0_3 v0_5 v0_6 v1_0 v2_3 v2_4 v8_0 v8_1 v8_2 v8_4 v8_5 v8_7 v8_8 v8_9 v8_10 v8_12 trips2 invoices2 amount3 invoice4 paid5 plate6 state7 tags8 fee8 tagPlate9) r 0 0 := ⟨_, rfl⟩
  suffices hW : W p l e (rml 4 0 0) s m args below meth c s.heap [] 0 0 Q (F0 m 0 ls []) from (by rw [hQ] at hW; exact hW)
  unfold f_X9_outstanding at hf
  have L4 : ∀ (z : Int32 × Int32), f_X9_outstanding_L4 F trips2 invoices2 amount3 invoice4 paid5 plate6 state7 tags8 fee8 tagPlate9 z = some r → ∀ (H : Heap) (locs : List Loc) (ls : Array Slot), Wd g A (w_X9_outstanding g h0 h1 h2 h3 h4 h5 h6 h7 h8 h9 v0_1 v0_2 v0_3 v0_5 v0_6 v1_0 v2_3 v2_4 v8_0 v8_1 v8_2 v8_4 v8_5 v8_7 v8_8 v8_9 v8_10 v8_12 trips2 invoices2 amount3 invoice4 paid5 plate6 state7 tags8 fee8 tagPlate9) s.heap H locs → lv_has ls 3 [(0, .ref h0), (1, .int z.1), (2, .int z.2)] → W p l e (rml 4 0 0) s m args below meth c H locs 0 0 Q (F0 m 4 ls []) := by
    intro z hf
    refine lp_W (r := r) (fun (z : Int32 × Int32) => ∀ (H : Heap) (locs : List Loc) (ls : Array Slot), Wd g A (w_X9_outstanding g h0 h1 h2 h3 h4 h5 h6 h7 h8 h9 v0_1 v0_2 v0_3 v0_5 v0_6 v1_0 v2_3 v2_4 v8_0 v8_1 v8_2 v8_4 v8_5 v8_7 v8_8 v8_9 v8_10 v8_12 trips2 invoices2 amount3 invoice4 paid5 plate6 state7 tags8 fee8 tagPlate9) s.heap H locs → lv_has ls 3 [(0, .ref h0), (1, .int z.1), (2, .int z.2)] → W p l e (rml 4 0 0) s m args below meth c H locs 0 0 Q (F0 m 4 ls [])) (fun k4 z ih4 hf => ?_) F z hf
    obtain ⟨x1, x2⟩ := z
    intro H locs ls w hl
    try dsimp only at hf w hl ⊢
    unfold f_X9_outstanding_h4 at hf
    refine lv_iload_n hx hb dX9_outstanding_4 rfl (lv_at hl 2 rfl) ?_
    refine lv_aload_n hx hb dX9_outstanding_5 rfl (lv_at hl 0 rfl) ?_
    refine g_X9_40 C w 0 rfl rfl dX9_outstanding_6 ?_
    refine g_X9_179 C w 1 rfl rfl dX9_outstanding_9 ?_
    refine g_X9_201 C w 2 rfl rfl dX9_outstanding_12 ?_
    refine lv_icmp_ge (tgt := 46) hx hb dX9_outstanding_15 (by decide) (fun c1 => ?_) (fun c1 => ?_)
    · replace hf := it_t c1 hf
      refine lv_iload_n hx hb dX9_outstanding_46 rfl (lv_at hl 1 rfl) ?_
      obtain e1 := tp1 hf
      rw [hQ]
      exact rt_i C w rfl (fun _ => 0) rfl e1 dX9_outstanding_47
    · replace hf := it_f c1 hf
      refine lv_iload_n hx hb dX9_outstanding_18 rfl (lv_at hl 1 rfl) ?_
      refine lv_iconst (v := 0) hx hb dX9_outstanding_19 (by decide) ?_
      refine lv_aload_n hx hb dX9_outstanding_20 rfl (lv_at hl 0 rfl) ?_
      refine g_X9_40 C w 0 rfl rfl dX9_outstanding_21 ?_
      refine g_X9_179 C w 1 rfl rfl dX9_outstanding_24 ?_
      refine lv_iload_n hx hb dX9_outstanding_27 rfl (lv_at hl 2 rfl) ?_
      refine lv_aload_n hx hb dX9_outstanding_28 rfl (lv_at hl 0 rfl) ?_
      refine g_X9_12 C w 0 rfl rfl dX9_outstanding_29 ?_
      obtain ⟨r2, hc3, hf⟩ := bd1_some hf
      refine ca_iN C w (wn := fun _ => w_X9_outstanding g h0 h1 h2 h3 h4 h5 h6 h7 h8 h9 v0_1 v0_2 v0_3 v0_5 v0_6 v1_0 v2_3 v2_4 v8_0 v8_1 v8_2 v8_4 v8_5 v8_7 v8_8 v8_9 v8_10 v8_12 trips2 invoices2 amount3 invoice4 paid5 plate6 state7 tags8 fee8 tagPlate9) (pm_k [false, false, true, true, true, true, true, true, true, true] rfl rfl (fun _ => Nat.le_of_ble_eq_true rfl) (fun _ => rfl)) (c_X1_balanceOf l g F h2 h3 h4 h5 h6 h7 h8 h9 (.int invoices2) v2_3 v2_4 v8_0 v8_1 v8_2 v8_4 v8_5 v8_7 v8_8 v8_9 v8_10 v8_12 x2 trips2 amount3 invoice4 paid5 plate6 state7 tags8 fee8 tagPlate9 r2 _ hc3) k_X9_216 (rm_le (by decide) (by decide)) 2 1 rfl rfl rfl rfl hl.1 rfl (Nat.le_of_ble_eq_true rfl) dX9_outstanding_32 ⟨Nat.le_of_ble_eq_true rfl, Nat.le_of_ble_eq_true rfl⟩ (cells2 := 0) (slots2 := 0) ⟨rfl, rfl⟩ (fun _ H locs w => ?_)
      refine mmx C hl.1 q_473 q_474 q_16 q_475 (Nat.le_of_ble_eq_true rfl) (Nat.le_of_ble_eq_true rfl) (Nat.le_of_ble_eq_true rfl) (Nat.le_of_ble_eq_true rfl) dX9_outstanding_35 ?_
      refine lv_iadd hx hb dX9_outstanding_38 ?_
      refine lv_istore_n (lv' := [(1, .int (x1 + (if (0 : Int32) < r2 then r2 else (0 : Int32)))), (0, .ref h0), (2, .int x2)]) hx hb dX9_outstanding_39 rfl hl (by decide) rfl (fun ls hl => ?_)
      refine lv_iinc (v := x2 + 1) (lv' := [(2, .int (x2 + 1)), (1, .int (x1 + (if (0 : Int32) < r2 then r2 else (0 : Int32)))), (0, .ref h0)]) hx hb dX9_outstanding_40 hl (k := 2) rfl rfl (by decide) rfl (fun ls hl => ?_)
      refine lv_goto (tgt := 4) hx hb dX9_outstanding_43 (by decide) ?_
      exact ih4 (x1 + (if (0 : Int32) < r2 then r2 else (0 : Int32)), x2 + 1) hf _ _ _ w (lv_sub hl [2, 1, 0] rfl)
  refine lv_iconst (v := 0) hx hb dX9_outstanding_0 (by decide) ?_
  refine lv_istore_n (lv' := [(1, .int 0), (0, .ref h0)]) hx hb dX9_outstanding_1 rfl hl (by decide) rfl (fun ls hl => ?_)
  refine lv_iconst (v := 0) hx hb dX9_outstanding_2 (by decide) ?_
  refine lv_istore_n (lv' := [(2, .int 0), (1, .int 0), (0, .ref h0)]) hx hb dX9_outstanding_3 rfl hl (by decide) rfl (fun ls hl => ?_)
  exact L4 (0, 0) hf _ _ _ w (lv_sub hl [2, 1, 0] rfl)

theorem dX9_requireReading_0 : decode cX9_requireReading 0 = .ok (.aload_n 0, 1) := by decide +kernel
theorem dX9_requireReading_1 : decode cX9_requireReading 1 = .ok (.getfield 12, 3) := by decide +kernel
theorem dX9_requireReading_4 : decode cX9_requireReading 4 = .ok (.iload_n 1, 1) := by decide +kernel
theorem dX9_requireReading_5 : decode cX9_requireReading 5 = .ok (.invokevirtual 295, 3) := by decide +kernel
theorem dX9_requireReading_8 : decode cX9_requireReading 8 = .ok (.ifCond .ne 14, 3) := by decide +kernel
theorem dX9_requireReading_11 : decode cX9_requireReading 11 = .ok (.new 66, 3) := by decide +kernel
theorem dX9_requireReading_14 : decode cX9_requireReading 14 = .ok (.dup, 1) := by decide +kernel
theorem dX9_requireReading_15 : decode cX9_requireReading 15 = .ok (.ldc_w 298, 3) := by decide +kernel
theorem dX9_requireReading_18 : decode cX9_requireReading 18 = .ok (.invokespecial 70, 3) := by decide +kernel
theorem dX9_requireReading_21 : decode cX9_requireReading 21 = .ok (.athrow, 1) := by decide +kernel
theorem dX9_requireReading_22 : decode cX9_requireReading 22 = .ok (.iload_n 2, 1) := by decide +kernel
theorem dX9_requireReading_23 : decode cX9_requireReading 23 = .ok (.ifCond .lt 8, 3) := by decide +kernel
theorem dX9_requireReading_26 : decode cX9_requireReading 26 = .ok (.iload_n 2, 1) := by decide +kernel
theorem dX9_requireReading_27 : decode cX9_requireReading 27 = .ok (.iconst 4, 1) := by decide +kernel
theorem dX9_requireReading_28 : decode cX9_requireReading 28 = .ok (.if_icmp .lt 14, 3) := by decide +kernel
theorem dX9_requireReading_31 : decode cX9_requireReading 31 = .ok (.new 66, 3) := by decide +kernel
theorem dX9_requireReading_34 : decode cX9_requireReading 34 = .ok (.dup, 1) := by decide +kernel
theorem dX9_requireReading_35 : decode cX9_requireReading 35 = .ok (.ldc_w 319, 3) := by decide +kernel
theorem dX9_requireReading_38 : decode cX9_requireReading 38 = .ok (.invokespecial 70, 3) := by decide +kernel
theorem dX9_requireReading_41 : decode cX9_requireReading 41 = .ok (.athrow, 1) := by decide +kernel
theorem dX9_requireReading_42 : decode cX9_requireReading 42 = .ok (.aload_n 0, 1) := by decide +kernel
theorem dX9_requireReading_43 : decode cX9_requireReading 43 = .ok (.iload_n 3, 1) := by decide +kernel
theorem dX9_requireReading_44 : decode cX9_requireReading 44 = .ok (.invokevirtual 166, 3) := by decide +kernel
theorem dX9_requireReading_47 : decode cX9_requireReading 47 = .ok (.iload_n 3, 1) := by decide +kernel
theorem dX9_requireReading_48 : decode cX9_requireReading 48 = .ok (.aload_n 0, 1) := by decide +kernel
theorem dX9_requireReading_49 : decode cX9_requireReading 49 = .ok (.getfield 40, 3) := by decide +kernel
theorem dX9_requireReading_52 : decode cX9_requireReading 52 = .ok (.getfield 116, 3) := by decide +kernel
theorem dX9_requireReading_55 : decode cX9_requireReading 55 = .ok (.getfield 312, 3) := by decide +kernel
theorem dX9_requireReading_58 : decode cX9_requireReading 58 = .ok (.if_icmp .ge 14, 3) := by decide +kernel
theorem dX9_requireReading_61 : decode cX9_requireReading 61 = .ok (.new 66, 3) := by decide +kernel
theorem dX9_requireReading_64 : decode cX9_requireReading 64 = .ok (.dup, 1) := by decide +kernel
theorem dX9_requireReading_65 : decode cX9_requireReading 65 = .ok (.ldc_w 321, 3) := by decide +kernel
theorem dX9_requireReading_68 : decode cX9_requireReading 68 = .ok (.invokespecial 70, 3) := by decide +kernel
theorem dX9_requireReading_71 : decode cX9_requireReading 71 = .ok (.athrow, 1) := by decide +kernel
theorem dX9_requireReading_72 : decode cX9_requireReading 72 = .ok (.return_, 1) := by decide +kernel
abbrev m_X9_requireReading : MD := (yX9_requireReading, cX9_requireReading, 4, none)
theorem g_X9_312 {p : Program} {l : Launch} {e : Env} {R : Room} {s : State} {m : MethodId} {args : Array Value} {below : List Frame} {meth : Method} {c : Code} {H : Heap} {locs : List Loc} {cells slots : Nat} {Q : State → Prop} {d : MD} {g : GT} {A : Nat → Prop} {ws : va_W} {pc : Nat} {ls : Array Slot} {rest : List Value} (C : Cx p s m args meth c RX9 d g A) (w : Wd g A ws s.heap H locs) (q0 : Nat) {a : Nat} {fs : List Value} {v : Value} (he : ws[q0]? = some (a, .inr (6, fs))) (hv : fs[1]? = some v) (hd : decode d.2.1 pc = .ok (.getfield 312, 3)) (kk : W p l e R s m args below meth c H locs cells slots Q (F0 m (pc + 3) ls (v :: rest))) : W p l e R s m args below meth c H locs cells slots Q (F0 m pc ls (.ref a :: rest)) := fgN C w inX6s (ref := RX6) rfl 1 (by decide) (nw_t (w := Cond.fieldLinkNest RX9 312 RX6 (TX6 1).2.1 (TX6 1).2.2.1 "FreeFlowToll") 215 (by decide +kernel) rfl) rfl q0 he hv hd kk
abbrev w_X9_requireReading (g : GT) (h0 h1 h2 h3 : Nat) (v0_1 v0_2 v0_3 v0_5 v0_6 v1_1 v2_0 v2_2 v2_3 v2_4 v2_5 v2_6 v2_7 v2_8 v2_9 v2_10 v2_11 v2_12 v3_1 v3_2 v3_3 v3_4 v3_5 v3_6 v3_7 v3_8 v3_9 v3_10 v3_11 v3_12 : Value) (latestTime2 gantries3 : Int32) : va_W := [(h0, .inr (9, [.ref h3, v0_1, v0_2, v0_3, .ref h1, v0_5, v0_6])), (h1, .inr (3, [.ref h2, v1_1])), (h2, .inr (6, [v2_0, .int latestTime2, v2_2, v2_3, v2_4, v2_5, v2_6, v2_7, v2_8, v2_9, v2_10, v2_11, v2_12])), (h3, .inr (4, [.int gantries3, v3_1, v3_2, v3_3, v3_4, v3_5, v3_6, v3_7, v3_8, v3_9, v3_10, v3_11, v3_12]))]
def f_X9_requireReading_b31 (F : Nat) (latestTime2 gantries3 : Int32) : Option (Nat) :=
  some 1
def f_X9_requireReading (F : Nat) (p1 p2 p3 latestTime2 gantries3 : Int32) : Option (Nat) :=
  bd1 (f_X4_hasGantry F p1 gantries3) fun r1 =>
  if r1 = 0 then
    some 1
  else
    if p2 < 0 then
      f_X9_requireReading_b31 F latestTime2 gantries3
    else
      if p2 < 4 then
        bd1 (f_X9_requireTime F p3) fun x6 =>
        if x6 ≠ 0 then some x6 else
        if latestTime2 ≤ p3 then
          some 0
        else
          some 1
      else
        f_X9_requireReading_b31 F latestTime2 gantries3
set_option maxHeartbeats 4000000 in
set_option maxRecDepth 100000 in
theorem c_X9_requireReading (l : Launch) (g : GT) (F : Nat) (h0 h1 h2 h3 : Nat) (v0_1 v0_2 v0_3 v0_5 v0_6 v1_1 v2_0 v2_2 v2_3 v2_4 v2_5 v2_6 v2_7 v2_8 v2_9 v2_10 v2_11 v2_12 v3_1 v3_2 v3_3 v3_4 v3_5 v3_6 v3_7 v3_8 v3_9 v3_10 v3_11 v3_12 : Value) (p1 p2 p3 latestTime2 gantries3 : Int32) (x : Nat) (hst : l.stackTraces = false) (sz : Nat) (hf : f_X9_requireReading F p1 p2 p3 latestTime2 gantries3 = some x) : XV l m_X9_requireReading (rml 2 2 12) g (w_X9_requireReading g h0 h1 h2 h3 v0_1 v0_2 v0_3 v0_5 v0_6 v1_1 v2_0 v2_2 v2_3 v2_4 v2_5 v2_6 v2_7 v2_8 v2_9 v2_10 v2_11 v2_12 v3_1 v3_2 v3_3 v3_4 v3_5 v3_6 v3_7 v3_8 v3_9 v3_10 v3_11 v3_12 latestTime2 gantries3) (fun _ => w_X9_requireReading g h0 h1 h2 h3 v0_1 v0_2 v0_3 v0_5 v0_6 v1_1 v2_0 v2_2 v2_3 v2_4 v2_5 v2_6 v2_7 v2_8 v2_9 v2_10 v2_11 v2_12 v3_1 v3_2 v3_3 v3_4 v3_5 v3_6 v3_7 v3_8 v3_9 v3_10 v3_11 v3_12 latestTime2 gantries3) sz [.ref h0, .int p1, .int p2, .int p3] x := by
  refine ex_v (by decide) (Nat.le_of_ble_eq_true rfl) (fun p e s m args below meth c A ls ht C w hl => ?_)
  have C : Cx p s m args meth c RX9 m_X9_requireReading g A := C
  have hx := C.1
  have hb : c.code = cX9_requireReading := C.2.1
  have hl : lv_has ls 4 [(0, .ref h0), (1, .int p1), (2, .int p2), (3, .int p3)] := hl
  obtain ⟨Q, hQ⟩ : ∃ Q, Q = QXV below args s g A (fun _ => w_X9_requireReading g h0 h1 h2 h3 v0_1 v0_2 v0_3 v0_5 v0_6 v1_1 v2_0 v2_2 v2_3 v2_4 v2_5 v2_6 v2_7 v2_8 v2_9 v2_10 v2_11 v2_12 v3_1 v3_2 v3_3 v3_4 v3_5 v3_6 v3_7 v3_8 v3_9 v3_10 v3_11 v3_12 latestTime2 gantries3) x 2 12 := ⟨_, rfl⟩
  suffices hW : W p l e (rml 2 2 12) s m args below meth c s.heap [] 0 0 Q (F0 m 0 ls []) from (by rw [hQ] at hW; exact hW)
  unfold f_X9_requireReading at hf
  have b31 : ∀ (H : Heap) (locs : List Loc) (ls : Array Slot), f_X9_requireReading_b31 F latestTime2 gantries3 = some x → Wd g A (w_X9_requireReading g h0 h1 h2 h3 v0_1 v0_2 v0_3 v0_5 v0_6 v1_1 v2_0 v2_2 v2_3 v2_4 v2_5 v2_6 v2_7 v2_8 v2_9 v2_10 v2_11 v2_12 v3_1 v3_2 v3_3 v3_4 v3_5 v3_6 v3_7 v3_8 v3_9 v3_10 v3_11 v3_12 latestTime2 gantries3) s.heap H locs → lv_has ls 4 [] → W p l e (rml 2 2 12) s m args below meth c H locs 0 0 Q (F0 m 31 ls []) := by
    intro  H locs ls hf w hl
    unfold f_X9_requireReading_b31 at hf
    obtain e1 := tp1 hf
    rw [hQ]
    exact xtw C ht w hst kl_1 (List.mem_of_getElem? (i := 14) rfl) at_1 hl.1 dX9_requireReading_31 dX9_requireReading_34 dX9_requireReading_35 dX9_requireReading_38 dX9_requireReading_41 (Nat.le_of_ble_eq_true rfl) (Nat.le_of_ble_eq_true rfl) (Nat.le_of_ble_eq_true rfl) (Nat.le_of_ble_eq_true rfl) (fun _ => 0) rfl e1 (Nat.le_of_ble_eq_true rfl) (Nat.le_of_ble_eq_true rfl)
  refine lv_aload_n hx hb dX9_requireReading_0 rfl (lv_at hl 0 rfl) ?_
  refine g_X9_12 C w 0 rfl rfl dX9_requireReading_1 ?_
  refine lv_iload_n hx hb dX9_requireReading_4 rfl (lv_at hl 1 rfl) ?_
  obtain ⟨r1, hc2, hf⟩ := bd1_some hf
  refine ca_iN C w (wn := fun _ => w_X9_requireReading g h0 h1 h2 h3 v0_1 v0_2 v0_3 v0_5 v0_6 v1_1 v2_0 v2_2 v2_3 v2_4 v2_5 v2_6 v2_7 v2_8 v2_9 v2_10 v2_11 v2_12 v3_1 v3_2 v3_3 v3_4 v3_5 v3_6 v3_7 v3_8 v3_9 v3_10 v3_11 v3_12 latestTime2 gantries3) (pm_k [false, false, false, true] rfl rfl (fun _ => Nat.le_of_ble_eq_true rfl) (fun _ => rfl)) (c_X4_hasGantry l g F h3 v3_1 v3_2 v3_3 v3_4 v3_5 v3_6 v3_7 v3_8 v3_9 v3_10 v3_11 v3_12 p1 gantries3 r1 _ hc2) k_X9_295 (rm_le (by decide) (by decide)) 3 4 rfl rfl rfl rfl hl.1 rfl (Nat.le_of_ble_eq_true rfl) dX9_requireReading_5 ⟨Nat.le_of_ble_eq_true rfl, Nat.le_of_ble_eq_true rfl⟩ (cells2 := 0) (slots2 := 0) ⟨rfl, rfl⟩ (fun _ H locs w => ?_)
  refine lv_if_ne (tgt := 22) hx hb dX9_requireReading_8 (by decide) (fun c3 => ?_) (fun c3 => ?_)
  · replace hf := it_f c3 hf
    refine lv_iload_n hx hb dX9_requireReading_22 rfl (lv_at hl 2 rfl) ?_
    refine lv_if_lt (tgt := 31) hx hb dX9_requireReading_23 (by decide) (fun c4 => ?_) (fun c4 => ?_)
    · replace hf := it_t c4 hf
      exact b31  _ _ _ hf w (lv_sub hl [] rfl)
    · replace hf := it_f c4 hf
      refine lv_iload_n hx hb dX9_requireReading_26 rfl (lv_at hl 2 rfl) ?_
      refine lv_iconst (v := 4) hx hb dX9_requireReading_27 (by decide) ?_
      refine lv_icmp_lt (tgt := 42) hx hb dX9_requireReading_28 (by decide) (fun c5 => ?_) (fun c5 => ?_)
      · replace hf := it_t c5 hf
        refine lv_aload_n hx hb dX9_requireReading_42 rfl (lv_at hl 0 rfl) ?_
        refine lv_iload_n hx hb dX9_requireReading_43 rfl (lv_at hl 3 rfl) ?_
        obtain ⟨x6, hc7, hf⟩ := bd1_some hf
        refine cx_vV C w (wn := fun _ => w_X9_requireReading g h0 h1 h2 h3 v0_1 v0_2 v0_3 v0_5 v0_6 v1_1 v2_0 v2_2 v2_3 v2_4 v2_5 v2_6 v2_7 v2_8 v2_9 v2_10 v2_11 v2_12 v3_1 v3_2 v3_3 v3_4 v3_5 v3_6 v3_7 v3_8 v3_9 v3_10 v3_11 v3_12 latestTime2 gantries3) (pm_k [false, false, false, false] rfl rfl (fun _ => Nat.le_of_ble_eq_true rfl) (fun _ => rfl)) (c_X9_requireTime l g F h0 p3 x6 hst _ hc7) k_X9_166 (rm_le (by decide) (by decide)) 0 9 rfl rfl rfl rfl hl.1 rfl (Nat.le_of_ble_eq_true rfl) dX9_requireReading_44 ⟨Nat.le_of_ble_eq_true rfl, Nat.le_of_ble_eq_true rfl⟩ (cells2 := 1) (slots2 := 6) ⟨rfl, rfl⟩ (fun n8 _ H locs w q9 ce h1 h2 h3 => ?_) (fun n8 _ H locs w => ?_)
        · replace hf := it_t n8 hf
          obtain e1 := tp1 hf
          rw [hQ]
          exact xo C ht w (fun _ => 0) rfl e1 n8 h1 h2 h3 (Nat.le_of_ble_eq_true rfl) (Nat.le_of_ble_eq_true rfl)
        replace hf := it_f (fun h => h n8) hf
        refine lv_iload_n hx hb dX9_requireReading_47 rfl (lv_at hl 3 rfl) ?_
        refine lv_aload_n hx hb dX9_requireReading_48 rfl (lv_at hl 0 rfl) ?_
        refine g_X9_40 C w 0 rfl rfl dX9_requireReading_49 ?_
        refine g_X9_116 C w 1 rfl rfl dX9_requireReading_52 ?_
        refine g_X9_312 C w 2 rfl rfl dX9_requireReading_55 ?_
        refine lv_icmp_ge (tgt := 72) hx hb dX9_requireReading_58 (by decide) (fun c9 => ?_) (fun c9 => ?_)
        · replace hf := it_t c9 hf
          obtain e1 := tp1 hf
          rw [hQ]
          exact xr_v C w rfl (fun _ => 0) rfl e1 (Nat.le_of_ble_eq_true rfl) (Nat.le_of_ble_eq_true rfl) dX9_requireReading_72
        · replace hf := it_f c9 hf
          obtain e1 := tp1 hf
          rw [hQ]
          exact xtw C ht w hst kl_1 (List.mem_of_getElem? (i := 15) rfl) at_1 hl.1 dX9_requireReading_61 dX9_requireReading_64 dX9_requireReading_65 dX9_requireReading_68 dX9_requireReading_71 (Nat.le_of_ble_eq_true rfl) (Nat.le_of_ble_eq_true rfl) (Nat.le_of_ble_eq_true rfl) (Nat.le_of_ble_eq_true rfl) (fun _ => 0) rfl e1 (Nat.le_of_ble_eq_true rfl) (Nat.le_of_ble_eq_true rfl)
      · replace hf := it_f c5 hf
        exact b31  _ _ _ hf w (lv_sub hl [] rfl)
  · replace hf := it_t c3 hf
    obtain e1 := tp1 hf
    rw [hQ]
    exact xtw C ht w hst kl_1 (List.mem_of_getElem? (i := 9) rfl) at_1 hl.1 dX9_requireReading_11 dX9_requireReading_14 dX9_requireReading_15 dX9_requireReading_18 dX9_requireReading_21 (Nat.le_of_ble_eq_true rfl) (Nat.le_of_ble_eq_true rfl) (Nat.le_of_ble_eq_true rfl) (Nat.le_of_ble_eq_true rfl) (fun _ => 0) rfl e1 (Nat.le_of_ble_eq_true rfl) (Nat.le_of_ble_eq_true rfl)

theorem dX9_requirePlate_0 : decode cX9_requirePlate 0 = .ok (.iload_n 1, 1) := by decide +kernel
theorem dX9_requirePlate_1 : decode cX9_requirePlate 1 = .ok (.iconst 1, 1) := by decide +kernel
theorem dX9_requirePlate_2 : decode cX9_requirePlate 2 = .ok (.if_icmp .lt 10, 3) := by decide +kernel
theorem dX9_requirePlate_5 : decode cX9_requirePlate 5 = .ok (.iload_n 1, 1) := by decide +kernel
theorem dX9_requirePlate_6 : decode cX9_requirePlate 6 = .ok (.sipush 9999, 3) := by decide +kernel
theorem dX9_requirePlate_9 : decode cX9_requirePlate 9 = .ok (.if_icmp .le 14, 3) := by decide +kernel
theorem dX9_requirePlate_12 : decode cX9_requirePlate 12 = .ok (.new 66, 3) := by decide +kernel
theorem dX9_requirePlate_15 : decode cX9_requirePlate 15 = .ok (.dup, 1) := by decide +kernel
theorem dX9_requirePlate_16 : decode cX9_requirePlate 16 = .ok (.ldc_w 326, 3) := by decide +kernel
theorem dX9_requirePlate_19 : decode cX9_requirePlate 19 = .ok (.invokespecial 70, 3) := by decide +kernel
theorem dX9_requirePlate_22 : decode cX9_requirePlate 22 = .ok (.athrow, 1) := by decide +kernel
theorem dX9_requirePlate_23 : decode cX9_requirePlate 23 = .ok (.return_, 1) := by decide +kernel
abbrev m_X9_requirePlate : MD := (yX9_requirePlate, cX9_requirePlate, 2, none)

abbrev w_X9_requirePlate (g : GT) : va_W := []
def f_X9_requirePlate_b12 (F : Nat) : Option (Nat) :=
  some 1
def f_X9_requirePlate (F : Nat) (p1 : Int32) : Option (Nat) :=
  if p1 < 1 then
    f_X9_requirePlate_b12 F
  else
    if p1 ≤ 9999 then
      some 0
    else
      f_X9_requirePlate_b12 F
set_option maxHeartbeats 4000000 in
set_option maxRecDepth 100000 in
theorem c_X9_requirePlate (l : Launch) (g : GT) (F : Nat) (ha0 : Nat) (p1 : Int32) (x : Nat) (hst : l.stackTraces = false) (sz : Nat) (hf : f_X9_requirePlate F p1 = some x) : XV l m_X9_requirePlate (rml 1 1 6) g (w_X9_requirePlate g) (fun _ => w_X9_requirePlate g) sz [.ref ha0, .int p1] x := by
  refine ex_v (by decide) (Nat.le_of_ble_eq_true rfl) (fun p e s m args below meth c A ls ht C w hl => ?_)
  have C : Cx p s m args meth c RX9 m_X9_requirePlate g A := C
  have hx := C.1
  have hb : c.code = cX9_requirePlate := C.2.1
  have hl : lv_has ls 2 [(0, .ref ha0), (1, .int p1)] := hl
  obtain ⟨Q, hQ⟩ : ∃ Q, Q = QXV below args s g A (fun _ => w_X9_requirePlate g) x 1 6 := ⟨_, rfl⟩
  suffices hW : W p l e (rml 1 1 6) s m args below meth c s.heap [] 0 0 Q (F0 m 0 ls []) from (by rw [hQ] at hW; exact hW)
  unfold f_X9_requirePlate at hf
  have b12 : ∀ (H : Heap) (locs : List Loc) (ls : Array Slot), f_X9_requirePlate_b12 F = some x → Wd g A (w_X9_requirePlate g) s.heap H locs → lv_has ls 2 [] → W p l e (rml 1 1 6) s m args below meth c H locs 0 0 Q (F0 m 12 ls []) := by
    intro  H locs ls hf w hl
    unfold f_X9_requirePlate_b12 at hf
    obtain e1 := tp1 hf
    rw [hQ]
    exact xtw C ht w hst kl_1 (List.mem_of_getElem? (i := 18) rfl) at_1 hl.1 dX9_requirePlate_12 dX9_requirePlate_15 dX9_requirePlate_16 dX9_requirePlate_19 dX9_requirePlate_22 (Nat.le_of_ble_eq_true rfl) (Nat.le_of_ble_eq_true rfl) (Nat.le_of_ble_eq_true rfl) (Nat.le_of_ble_eq_true rfl) (fun _ => 0) rfl e1 (Nat.le_of_ble_eq_true rfl) (Nat.le_of_ble_eq_true rfl)
  refine lv_iload_n hx hb dX9_requirePlate_0 rfl (lv_at hl 1 rfl) ?_
  refine lv_iconst (v := 1) hx hb dX9_requirePlate_1 (by decide) ?_
  refine lv_icmp_lt (tgt := 12) hx hb dX9_requirePlate_2 (by decide) (fun c1 => ?_) (fun c1 => ?_)
  · replace hf := it_t c1 hf
    exact b12  _ _ _ hf w (lv_sub hl [] rfl)
  · replace hf := it_f c1 hf
    refine lv_iload_n hx hb dX9_requirePlate_5 rfl (lv_at hl 1 rfl) ?_
    refine lv_sipush (v := 9999) hx hb dX9_requirePlate_6 (by decide) ?_
    refine lv_icmp_le (tgt := 23) hx hb dX9_requirePlate_9 (by decide) (fun c2 => ?_) (fun c2 => ?_)
    · replace hf := it_t c2 hf
      obtain e1 := tp1 hf
      rw [hQ]
      exact xr_v C w rfl (fun _ => 0) rfl e1 (Nat.le_of_ble_eq_true rfl) (Nat.le_of_ble_eq_true rfl) dX9_requirePlate_23
    · replace hf := it_f c2 hf
      exact b12  _ _ _ hf w (lv_sub hl [] rfl)

theorem dX9_requireOpen_0 : decode cX9_requireOpen 0 = .ok (.aload_n 0, 1) := by decide +kernel
theorem dX9_requireOpen_1 : decode cX9_requireOpen 1 = .ok (.getfield 40, 3) := by decide +kernel
theorem dX9_requireOpen_4 : decode cX9_requireOpen 4 = .ok (.getfield 116, 3) := by decide +kernel
theorem dX9_requireOpen_7 : decode cX9_requireOpen 7 = .ok (.getfield 152, 3) := by decide +kernel
theorem dX9_requireOpen_10 : decode cX9_requireOpen 10 = .ok (.iload_n 1, 1) := by decide +kernel
theorem dX9_requireOpen_11 : decode cX9_requireOpen 11 = .ok (.iaload, 1) := by decide +kernel
theorem dX9_requireOpen_12 : decode cX9_requireOpen 12 = .ok (.ifCond .eq 14, 3) := by decide +kernel
theorem dX9_requireOpen_15 : decode cX9_requireOpen 15 = .ok (.new 263, 3) := by decide +kernel
theorem dX9_requireOpen_18 : decode cX9_requireOpen 18 = .ok (.dup, 1) := by decide +kernel
theorem dX9_requireOpen_19 : decode cX9_requireOpen 19 = .ok (.ldc_w 335, 3) := by decide +kernel
theorem dX9_requireOpen_22 : decode cX9_requireOpen 22 = .ok (.invokespecial 267, 3) := by decide +kernel
theorem dX9_requireOpen_25 : decode cX9_requireOpen 25 = .ok (.athrow, 1) := by decide +kernel
theorem dX9_requireOpen_26 : decode cX9_requireOpen 26 = .ok (.return_, 1) := by decide +kernel
abbrev m_X9_requireOpen : MD := (yX9_requireOpen, cX9_requireOpen, 2, none)

abbrev w_X9_requireOpen (g : GT) (h0 h1 h2 h3 : Nat) (v0_0 v0_1 v0_2 v0_3 v0_5 v0_6 v1_1 v2_0 v2_1 v2_2 v2_3 v2_4 v2_5 v2_6 v2_7 v2_9 v2_10 v2_11 v2_12 : Value) (state3 : Nat → Int32) : va_W := [(h0, .inr (9, [v0_0, v0_1, v0_2, v0_3, .ref h1, v0_5, v0_6])), (h1, .inr (3, [.ref h2, v1_1])), (h2, .inr (6, [v2_0, v2_1, v2_2, v2_3, v2_4, v2_5, v2_6, v2_7, .ref h3, v2_9, v2_10, v2_11, v2_12])), (h3, aI g 80 state3)]
def f_X9_requireOpen (F : Nat) (p1 : Int32) (state3 : Nat → Int32) : Option (Nat) :=
  rd state3 80 p1 fun a1 =>
  if a1 = 0 then
    some 0
  else
    some 3
set_option maxHeartbeats 4000000 in
set_option maxRecDepth 100000 in
theorem c_X9_requireOpen (l : Launch) (g : GT) (F : Nat) (h0 h1 h2 h3 : Nat) (v0_0 v0_1 v0_2 v0_3 v0_5 v0_6 v1_1 v2_0 v2_1 v2_2 v2_3 v2_4 v2_5 v2_6 v2_7 v2_9 v2_10 v2_11 v2_12 : Value) (p1 : Int32) (state3 : Nat → Int32) (x : Nat) (hst : l.stackTraces = false) (sz : Nat) (hf : f_X9_requireOpen F p1 state3 = some x) : XV l m_X9_requireOpen (rml 1 1 6) g (w_X9_requireOpen g h0 h1 h2 h3 v0_0 v0_1 v0_2 v0_3 v0_5 v0_6 v1_1 v2_0 v2_1 v2_2 v2_3 v2_4 v2_5 v2_6 v2_7 v2_9 v2_10 v2_11 v2_12 state3) (fun _ => w_X9_requireOpen g h0 h1 h2 h3 v0_0 v0_1 v0_2 v0_3 v0_5 v0_6 v1_1 v2_0 v2_1 v2_2 v2_3 v2_4 v2_5 v2_6 v2_7 v2_9 v2_10 v2_11 v2_12 state3) sz [.ref h0, .int p1] x := by
  refine ex_v (by decide) (Nat.le_of_ble_eq_true rfl) (fun p e s m args below meth c A ls ht C w hl => ?_)
  have C : Cx p s m args meth c RX9 m_X9_requireOpen g A := C
  have hx := C.1
  have hb : c.code = cX9_requireOpen := C.2.1
  have hl : lv_has ls 2 [(0, .ref h0), (1, .int p1)] := hl
  obtain ⟨Q, hQ⟩ : ∃ Q, Q = QXV below args s g A (fun _ => w_X9_requireOpen g h0 h1 h2 h3 v0_0 v0_1 v0_2 v0_3 v0_5 v0_6 v1_1 v2_0 v2_1 v2_2 v2_3 v2_4 v2_5 v2_6 v2_7 v2_9 v2_10 v2_11 v2_12 state3) x 1 6 := ⟨_, rfl⟩
  suffices hW : W p l e (rml 1 1 6) s m args below meth c s.heap [] 0 0 Q (F0 m 0 ls []) from (by rw [hQ] at hW; exact hW)
  unfold f_X9_requireOpen at hf
  refine lv_aload_n hx hb dX9_requireOpen_0 rfl (lv_at hl 0 rfl) ?_
  refine g_X9_40 C w 0 rfl rfl dX9_requireOpen_1 ?_
  refine g_X9_116 C w 1 rfl rfl dX9_requireOpen_4 ?_
  refine g_X9_152 C w 2 rfl rfl dX9_requireOpen_7 ?_
  refine lv_iload_n hx hb dX9_requireOpen_10 rfl (lv_at hl 1 rfl) ?_
  obtain ⟨a1, hia1, haa1, hf⟩ := rd_some hf
  refine ial C w 3 rfl hia1 haa1 dX9_requireOpen_11 ?_
  refine lv_if_eq (tgt := 26) hx hb dX9_requireOpen_12 (by decide) (fun c2 => ?_) (fun c2 => ?_)
  · replace hf := it_t c2 hf
    obtain e1 := tp1 hf
    rw [hQ]
    exact xr_v C w rfl (fun _ => 0) rfl e1 (Nat.le_of_ble_eq_true rfl) (Nat.le_of_ble_eq_true rfl) dX9_requireOpen_26
  · replace hf := it_f c2 hf
    obtain e1 := tp1 hf
    rw [hQ]
    exact xtw C ht w hst kl_3 (List.mem_of_getElem? (i := 20) rfl) at_3 hl.1 dX9_requireOpen_15 dX9_requireOpen_18 dX9_requireOpen_19 dX9_requireOpen_22 dX9_requireOpen_25 (Nat.le_of_ble_eq_true rfl) (Nat.le_of_ble_eq_true rfl) (Nat.le_of_ble_eq_true rfl) (Nat.le_of_ble_eq_true rfl) (fun _ => 0) rfl e1 (Nat.le_of_ble_eq_true rfl) (Nat.le_of_ble_eq_true rfl)
