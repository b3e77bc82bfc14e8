theorem dX10_passageTime_0 : decode cX10_passageTime 0 = .ok (.aload_n 0, 1) := by decide +kernel
theorem dX10_passageTime_1 : decode cX10_passageTime 1 = .ok (.iload_n 1, 1) := by decide +kernel
theorem dX10_passageTime_2 : decode cX10_passageTime 2 = .ok (.iconst 1, 1) := by decide +kernel
theorem dX10_passageTime_3 : decode cX10_passageTime 3 = .ok (.invokevirtual 277, 3) := by decide +kernel
theorem dX10_passageTime_6 : decode cX10_passageTime 6 = .ok (.ireturn, 1) := by decide +kernel
abbrev m_X10_passageTime : MD := (yX10_passageTime, cX10_passageTime, 2, (some .int))

abbrev w_X10_passageTime (g : GT) (h0 h1 h2 h3 h4 h5 : Nat) (v0_1 v0_2 v0_3 v0_4 v0_5 v0_6 v0_7 v0_8 v0_9 v0_11 v0_12 v0_13 v0_14 v0_15 v0_17 v0_20 v0_22 v0_23 v0_24 v0_25 v0_26 v0_27 v0_28 v0_29 v0_30 v0_31 v0_32 v0_33 v0_34 v0_35 v0_36 v0_37 : Value) (thrown0 : Int32) (basic1 classAxles2 state3 tagAxles4 tagPlate5 : Nat → Int32) : va_W := [(h0, .inr (10, [.int thrown0, v0_1, v0_2, v0_3, v0_4, v0_5, v0_6, v0_7, v0_8, v0_9, .ref h1, v0_11, v0_12, v0_13, v0_14, v0_15, .ref h2, v0_17, .ref h5, .ref h4, v0_20, .ref h3, v0_22, v0_23, v0_24, v0_25, v0_26, v0_27, v0_28, v0_29, v0_30, v0_31, v0_32, v0_33, v0_34, v0_35, v0_36, v0_37])), (h1, aI g 7 basic1), (h2, aI g 8 classAxles2), (h3, aI g 2524 state3), (h4, aI g 24 tagAxles4), (h5, aI g 24 tagPlate5)]
def f_X10_passageTime (F : Nat) (p1 thrown0 : Int32) (basic1 classAxles2 state3 tagAxles4 tagPlate5 : Nat → Int32) : Option (Int32 × Int32) :=
  bd2 (f_X10_lookAt F p1 1 thrown0 basic1 classAxles2 state3 tagAxles4 tagPlate5) fun r1 o2 =>
  some (r1, o2)
set_option maxHeartbeats 4000000 in
set_option maxRecDepth 100000 in
theorem c_X10_passageTime (l : Launch) (g : GT) (F : Nat) (h0 h1 h2 h3 h4 h5 : Nat) (v0_1 v0_2 v0_3 v0_4 v0_5 v0_6 v0_7 v0_8 v0_9 v0_11 v0_12 v0_13 v0_14 v0_15 v0_17 v0_20 v0_22 v0_23 v0_24 v0_25 v0_26 v0_27 v0_28 v0_29 v0_30 v0_31 v0_32 v0_33 v0_34 v0_35 v0_36 v0_37 : Value) (p1 thrown0 : Int32) (basic1 classAxles2 state3 tagAxles4 tagPlate5 : Nat → Int32) (r o_thrown0 : Int32) (sz : Nat) (hf : f_X10_passageTime F p1 thrown0 basic1 classAxles2 state3 tagAxles4 tagPlate5 = some (r, o_thrown0)) : CI l m_X10_passageTime (rml 5 0 0) g (w_X10_passageTime g h0 h1 h2 h3 h4 h5 v0_1 v0_2 v0_3 v0_4 v0_5 v0_6 v0_7 v0_8 v0_9 v0_11 v0_12 v0_13 v0_14 v0_15 v0_17 v0_20 v0_22 v0_23 v0_24 v0_25 v0_26 v0_27 v0_28 v0_29 v0_30 v0_31 v0_32 v0_33 v0_34 v0_35 v0_36 v0_37 thrown0 basic1 classAxles2 state3 tagAxles4 tagPlate5) (fun _ => w_X10_passageTime g h0 h1 h2 h3 h4 h5 v0_1 v0_2 v0_3 v0_4 v0_5 v0_6 v0_7 v0_8 v0_9 v0_11 v0_12 v0_13 v0_14 v0_15 v0_17 v0_20 v0_22 v0_23 v0_24 v0_25 v0_26 v0_27 v0_28 v0_29 v0_30 v0_31 v0_32 v0_33 v0_34 v0_35 v0_36 v0_37 o_thrown0 basic1 classAxles2 state3 tagAxles4 tagPlate5) sz [.ref h0, .int p1] r := by
  refine en_i (by decide) (Nat.le_of_ble_eq_true rfl) (fun p e s m args below meth c A ls C w hl => ?_)
  have C : Cx p s m args meth c RX10 m_X10_passageTime g A := C
  have hx := C.1
  have hb : c.code = cX10_passageTime := C.2.1
  have hl : lv_has ls 2 [(0, .ref h0), (1, .int p1)] := hl
  obtain ⟨Q, hQ⟩ : ∃ Q, Q = QI below args s g A (fun _ => w_X10_passageTime g h0 h1 h2 h3 h4 h5 v0_1 v0_2 v0_3 v0_4 v0_5 v0_6 v0_7 v0_8 v0_9 v0_11 v0_12 v0_13 v0_14 v0_15 v0_17 v0_20 v0_22 v0_23 v0_24 v0_25 v0_26 v0_27 v0_28 v0_29 v0_30 v0_31 v0_32 v0_33 v0_34 v0_35 v0_36 v0_37 o_thrown0 basic1 classAxles2 state3 tagAxles4 tagPlate5) r 0 0 := ⟨_, rfl⟩
  suffices hW : W p l e (rml 5 0 0) s m args below meth c s.heap [] 0 0 Q (F0 m 0 ls []) from (by rw [hQ] at hW; exact hW)
  unfold f_X10_passageTime at hf
  refine lv_aload_n hx hb dX10_passageTime_0 rfl (lv_at hl 0 rfl) ?_
  refine lv_iload_n hx hb dX10_passageTime_1 rfl (lv_at hl 1 rfl) ?_
  refine lv_iconst (v := 1) hx hb dX10_passageTime_2 (by decide) ?_
  obtain ⟨r1, o2, hc3, hf⟩ := bd2_some hf
  refine ca_iV C w (wn := fun _ => w_X10_passageTime g h0 h1 h2 h3 h4 h5 v0_1 v0_2 v0_3 v0_4 v0_5 v0_6 v0_7 v0_8 v0_9 v0_11 v0_12 v0_13 v0_14 v0_15 v0_17 v0_20 v0_22 v0_23 v0_24 v0_25 v0_26 v0_27 v0_28 v0_29 v0_30 v0_31 v0_32 v0_33 v0_34 v0_35 v0_36 v0_37 o2 basic1 classAxles2 state3 tagAxles4 tagPlate5) (pm_k [true, true, true, true, true, true] rfl rfl (fun _ => Nat.le_of_ble_eq_true rfl) (fun _ => rfl)) (c_X10_lookAt l g F h0 h1 h2 h3 h4 h5 v0_1 v0_2 v0_3 v0_4 v0_5 v0_6 v0_7 v0_8 v0_9 v0_11 v0_12 v0_13 v0_14 v0_15 v0_17 v0_20 v0_22 v0_23 v0_24 v0_25 v0_26 v0_27 v0_28 v0_29 v0_30 v0_31 v0_32 v0_33 v0_34 v0_35 v0_36 v0_37 p1 1 thrown0 basic1 classAxles2 state3 tagAxles4 tagPlate5 r1 o2 _ hc3) k_X10_277 (rm_le (by decide) (by decide)) 0 10 rfl rfl rfl rfl hl.1 rfl (Nat.le_of_ble_eq_true rfl) dX10_passageTime_3 ⟨Nat.le_of_ble_eq_true rfl, Nat.le_of_ble_eq_true rfl⟩ (cells2 := 0) (slots2 := 0) ⟨rfl, rfl⟩ (fun _ H locs w => ?_)
  obtain ⟨e1, e2⟩ := tp2 hf
  rw [hQ]
  exact rt_i C w rfl (fun _ => 0) (by rw [← e2]) e1 dX10_passageTime_6

theorem dX10_passageTag_0 : decode cX10_passageTag 0 = .ok (.aload_n 0, 1) := by decide +kernel
theorem dX10_passageTag_1 : decode cX10_passageTag 1 = .ok (.iload_n 1, 1) := by decide +kernel
theorem dX10_passageTag_2 : decode cX10_passageTag 2 = .ok (.iconst 2, 1) := by decide +kernel
theorem dX10_passageTag_3 : decode cX10_passageTag 3 = .ok (.invokevirtual 277, 3) := by decide +kernel
theorem dX10_passageTag_6 : decode cX10_passageTag 6 = .ok (.ireturn, 1) := by decide +kernel
abbrev m_X10_passageTag : MD := (yX10_passageTag, cX10_passageTag, 2, (some .int))

abbrev w_X10_passageTag (g : GT) (h0 h1 h2 h3 h4 h5 : Nat) (v0_1 v0_2 v0_3 v0_4 v0_5 v0_6 v0_7 v0_8 v0_9 v0_11 v0_12 v0_13 v0_14 v0_15 v0_17 v0_20 v0_22 v0_23 v0_24 v0_25 v0_26 v0_27 v0_28 v0_29 v0_30 v0_31 v0_32 v0_33 v0_34 v0_35 v0_36 v0_37 : Value) (thrown0 : Int32) (basic1 classAxles2 state3 tagAxles4 tagPlate5 : Nat → Int32) : va_W := [(h0, .inr (10, [.int thrown0, v0_1, v0_2, v0_3, v0_4, v0_5, v0_6, v0_7, v0_8, v0_9, .ref h1, v0_11, v0_12, v0_13, v0_14, v0_15, .ref h2, v0_17, .ref h5, .ref h4, v0_20, .ref h3, v0_22, v0_23, v0_24, v0_25, v0_26, v0_27, v0_28, v0_29, v0_30, v0_31, v0_32, v0_33, v0_34, v0_35, v0_36, v0_37])), (h1, aI g 7 basic1), (h2, aI g 8 classAxles2), (h3, aI g 2524 state3), (h4, aI g 24 tagAxles4), (h5, aI g 24 tagPlate5)]
def f_X10_passageTag (F : Nat) (p1 thrown0 : Int32) (basic1 classAxles2 state3 tagAxles4 tagPlate5 : Nat → Int32) : Option (Int32 × Int32) :=
  bd2 (f_X10_lookAt F p1 2 thrown0 basic1 classAxles2 state3 tagAxles4 tagPlate5) fun r1 o2 =>
  some (r1, o2)
set_option maxHeartbeats 4000000 in
set_option maxRecDepth 100000 in
theorem c_X10_passageTag (l : Launch) (g : GT) (F : Nat) (h0 h1 h2 h3 h4 h5 : Nat) (v0_1 v0_2 v0_3 v0_4 v0_5 v0_6 v0_7 v0_8 v0_9 v0_11 v0_12 v0_13 v0_14 v0_15 v0_17 v0_20 v0_22 v0_23 v0_24 v0_25 v0_26 v0_27 v0_28 v0_29 v0_30 v0_31 v0_32 v0_33 v0_34 v0_35 v0_36 v0_37 : Value) (p1 thrown0 : Int32) (basic1 classAxles2 state3 tagAxles4 tagPlate5 : Nat → Int32) (r o_thrown0 : Int32) (sz : Nat) (hf : f_X10_passageTag F p1 thrown0 basic1 classAxles2 state3 tagAxles4 tagPlate5 = some (r, o_thrown0)) : CI l m_X10_passageTag (rml 5 0 0) g (w_X10_passageTag g h0 h1 h2 h3 h4 h5 v0_1 v0_2 v0_3 v0_4 v0_5 v0_6 v0_7 v0_8 v0_9 v0_11 v0_12 v0_13 v0_14 v0_15 v0_17 v0_20 v0_22 v0_23 v0_24 v0_25 v0_26 v0_27 v0_28 v0_29 v0_30 v0_31 v0_32 v0_33 v0_34 v0_35 v0_36 v0_37 thrown0 basic1 classAxles2 state3 tagAxles4 tagPlate5) (fun _ => w_X10_passageTag g h0 h1 h2 h3 h4 h5 v0_1 v0_2 v0_3 v0_4 v0_5 v0_6 v0_7 v0_8 v0_9 v0_11 v0_12 v0_13 v0_14 v0_15 v0_17 v0_20 v0_22 v0_23 v0_24 v0_25 v0_26 v0_27 v0_28 v0_29 v0_30 v0_31 v0_32 v0_33 v0_34 v0_35 v0_36 v0_37 o_thrown0 basic1 classAxles2 state3 tagAxles4 tagPlate5) sz [.ref h0, .int p1] r := by
  refine en_i (by decide) (Nat.le_of_ble_eq_true rfl) (fun p e s m args below meth c A ls C w hl => ?_)
  have C : Cx p s m args meth c RX10 m_X10_passageTag g A := C
  have hx := C.1
  have hb : c.code = cX10_passageTag := C.2.1
  have hl : lv_has ls 2 [(0, .ref h0), (1, .int p1)] := hl
  obtain ⟨Q, hQ⟩ : ∃ Q, Q = QI below args s g A (fun _ => w_X10_passageTag g h0 h1 h2 h3 h4 h5 v0_1 v0_2 v0_3 v0_4 v0_5 v0_6 v0_7 v0_8 v0_9 v0_11 v0_12 v0_13 v0_14 v0_15 v0_17 v0_20 v0_22 v0_23 v0_24 v0_25 v0_26 v0_27 v0_28 v0_29 v0_30 v0_31 v0_32 v0_33 v0_34 v0_35 v0_36 v0_37 o_thrown0 basic1 classAxles2 state3 tagAxles4 tagPlate5) r 0 0 := ⟨_, rfl⟩
  suffices hW : W p l e (rml 5 0 0) s m args below meth c s.heap [] 0 0 Q (F0 m 0 ls []) from (by rw [hQ] at hW; exact hW)
  unfold f_X10_passageTag at hf
  refine lv_aload_n hx hb dX10_passageTag_0 rfl (lv_at hl 0 rfl) ?_
  refine lv_iload_n hx hb dX10_passageTag_1 rfl (lv_at hl 1 rfl) ?_
  refine lv_iconst (v := 2) hx hb dX10_passageTag_2 (by decide) ?_
  obtain ⟨r1, o2, hc3, hf⟩ := bd2_some hf
  refine ca_iV C w (wn := fun _ => w_X10_passageTag g h0 h1 h2 h3 h4 h5 v0_1 v0_2 v0_3 v0_4 v0_5 v0_6 v0_7 v0_8 v0_9 v0_11 v0_12 v0_13 v0_14 v0_15 v0_17 v0_20 v0_22 v0_23 v0_24 v0_25 v0_26 v0_27 v0_28 v0_29 v0_30 v0_31 v0_32 v0_33 v0_34 v0_35 v0_36 v0_37 o2 basic1 classAxles2 state3 tagAxles4 tagPlate5) (pm_k [true, true, true, true, true, true] rfl rfl (fun _ => Nat.le_of_ble_eq_true rfl) (fun _ => rfl)) (c_X10_lookAt l g F h0 h1 h2 h3 h4 h5 v0_1 v0_2 v0_3 v0_4 v0_5 v0_6 v0_7 v0_8 v0_9 v0_11 v0_12 v0_13 v0_14 v0_15 v0_17 v0_20 v0_22 v0_23 v0_24 v0_25 v0_26 v0_27 v0_28 v0_29 v0_30 v0_31 v0_32 v0_33 v0_34 v0_35 v0_36 v0_37 p1 2 thrown0 basic1 classAxles2 state3 tagAxles4 tagPlate5 r1 o2 _ hc3) k_X10_277 (rm_le (by decide) (by decide)) 0 10 rfl rfl rfl rfl hl.1 rfl (Nat.le_of_ble_eq_true rfl) dX10_passageTag_3 ⟨Nat.le_of_ble_eq_true rfl, Nat.le_of_ble_eq_true rfl⟩ (cells2 := 0) (slots2 := 0) ⟨rfl, rfl⟩ (fun _ H locs w => ?_)
  obtain ⟨e1, e2⟩ := tp2 hf
  rw [hQ]
  exact rt_i C w rfl (fun _ => 0) (by rw [← e2]) e1 dX10_passageTag_6

theorem dX10_passagePlate_0 : decode cX10_passagePlate 0 = .ok (.aload_n 0, 1) := by decide +kernel
theorem dX10_passagePlate_1 : decode cX10_passagePlate 1 = .ok (.iload_n 1, 1) := by decide +kernel
theorem dX10_passagePlate_2 : decode cX10_passagePlate 2 = .ok (.iconst 3, 1) := by decide +kernel
theorem dX10_passagePlate_3 : decode cX10_passagePlate 3 = .ok (.invokevirtual 277, 3) := by decide +kernel
theorem dX10_passagePlate_6 : decode cX10_passagePlate 6 = .ok (.ireturn, 1) := by decide +kernel
abbrev m_X10_passagePlate : MD := (yX10_passagePlate, cX10_passagePlate, 2, (some .int))

abbrev w_X10_passagePlate (g : GT) (h0 h1 h2 h3 h4 h5 : Nat) (v0_1 v0_2 v0_3 v0_4 v0_5 v0_6 v0_7 v0_8 v0_9 v0_11 v0_12 v0_13 v0_14 v0_15 v0_17 v0_20 v0_22 v0_23 v0_24 v0_25 v0_26 v0_27 v0_28 v0_29 v0_30 v0_31 v0_32 v0_33 v0_34 v0_35 v0_36 v0_37 : Value) (thrown0 : Int32) (basic1 classAxles2 state3 tagAxles4 tagPlate5 : Nat → Int32) : va_W := [(h0, .inr (10, [.int thrown0, v0_1, v0_2, v0_3, v0_4, v0_5, v0_6, v0_7, v0_8, v0_9, .ref h1, v0_11, v0_12, v0_13, v0_14, v0_15, .ref h2, v0_17, .ref h5, .ref h4, v0_20, .ref h3, v0_22, v0_23, v0_24, v0_25, v0_26, v0_27, v0_28, v0_29, v0_30, v0_31, v0_32, v0_33, v0_34, v0_35, v0_36, v0_37])), (h1, aI g 7 basic1), (h2, aI g 8 classAxles2), (h3, aI g 2524 state3), (h4, aI g 24 tagAxles4), (h5, aI g 24 tagPlate5)]
def f_X10_passagePlate (F : Nat) (p1 thrown0 : Int32) (basic1 classAxles2 state3 tagAxles4 tagPlate5 : Nat → Int32) : Option (Int32 × Int32) :=
  bd2 (f_X10_lookAt F p1 3 thrown0 basic1 classAxles2 state3 tagAxles4 tagPlate5) fun r1 o2 =>
  some (r1, o2)
set_option maxHeartbeats 4000000 in
set_option maxRecDepth 100000 in
theorem c_X10_passagePlate (l : Launch) (g : GT) (F : Nat) (h0 h1 h2 h3 h4 h5 : Nat) (v0_1 v0_2 v0_3 v0_4 v0_5 v0_6 v0_7 v0_8 v0_9 v0_11 v0_12 v0_13 v0_14 v0_15 v0_17 v0_20 v0_22 v0_23 v0_24 v0_25 v0_26 v0_27 v0_28 v0_29 v0_30 v0_31 v0_32 v0_33 v0_34 v0_35 v0_36 v0_37 : Value) (p1 thrown0 : Int32) (basic1 classAxles2 state3 tagAxles4 tagPlate5 : Nat → Int32) (r o_thrown0 : Int32) (sz : Nat) (hf : f_X10_passagePlate F p1 thrown0 basic1 classAxles2 state3 tagAxles4 tagPlate5 = some (r, o_thrown0)) : CI l m_X10_passagePlate (rml 5 0 0) g (w_X10_passagePlate g h0 h1 h2 h3 h4 h5 v0_1 v0_2 v0_3 v0_4 v0_5 v0_6 v0_7 v0_8 v0_9 v0_11 v0_12 v0_13 v0_14 v0_15 v0_17 v0_20 v0_22 v0_23 v0_24 v0_25 v0_26 v0_27 v0_28 v0_29 v0_30 v0_31 v0_32 v0_33 v0_34 v0_35 v0_36 v0_37 thrown0 basic1 classAxles2 state3 tagAxles4 tagPlate5) (fun _ => w_X10_passagePlate g h0 h1 h2 h3 h4 h5 v0_1 v0_2 v0_3 v0_4 v0_5 v0_6 v0_7 v0_8 v0_9 v0_11 v0_12 v0_13 v0_14 v0_15 v0_17 v0_20 v0_22 v0_23 v0_24 v0_25 v0_26 v0_27 v0_28 v0_29 v0_30 v0_31 v0_32 v0_33 v0_34 v0_35 v0_36 v0_37 o_thrown0 basic1 classAxles2 state3 tagAxles4 tagPlate5) sz [.ref h0, .int p1] r := by
  refine en_i (by decide) (Nat.le_of_ble_eq_true rfl) (fun p e s m args below meth c A ls C w hl => ?_)
  have C : Cx p s m args meth c RX10 m_X10_passagePlate g A := C
  have hx := C.1
  have hb : c.code = cX10_passagePlate := C.2.1
  have hl : lv_has ls 2 [(0, .ref h0), (1, .int p1)] := hl
  obtain ⟨Q, hQ⟩ : ∃ Q, Q = QI below args s g A (fun _ => w_X10_passagePlate g h0 h1 h2 h3 h4 h5 v0_1 v0_2 v0_3 v0_4 v0_5 v0_6 v0_7 v0_8 v0_9 v0_11 v0_12 v0_13 v0_14 v0_15 v0_17 v0_20 v0_22 v0_23 v0_24 v0_25 v0_26 v0_27 v0_28 v0_29 v0_30 v0_31 v0_32 v0_33 v0_34 v0_35 v0_36 v0_37 o_thrown0 basic1 classAxles2 state3 tagAxles4 tagPlate5) r 0 0 := ⟨_, rfl⟩
  suffices hW : W p l e (rml 5 0 0) s m args below meth c s.heap [] 0 0 Q (F0 m 0 ls []) from (by rw [hQ] at hW; exact hW)
  unfold f_X10_passagePlate at hf
  refine lv_aload_n hx hb dX10_passagePlate_0 rfl (lv_at hl 0 rfl) ?_
  refine lv_iload_n hx hb dX10_passagePlate_1 rfl (lv_at hl 1 rfl) ?_
  refine lv_iconst (v := 3) hx hb dX10_passagePlate_2 (by decide) ?_
  obtain ⟨r1, o2, hc3, hf⟩ := bd2_some hf
  refine ca_iV C w (wn := fun _ => w_X10_passagePlate g h0 h1 h2 h3 h4 h5 v0_1 v0_2 v0_3 v0_4 v0_5 v0_6 v0_7 v0_8 v0_9 v0_11 v0_12 v0_13 v0_14 v0_15 v0_17 v0_20 v0_22 v0_23 v0_24 v0_25 v0_26 v0_27 v0_28 v0_29 v0_30 v0_31 v0_32 v0_33 v0_34 v0_35 v0_36 v0_37 o2 basic1 classAxles2 state3 tagAxles4 tagPlate5) (pm_k [true, true, true, true, true, true] rfl rfl (fun _ => Nat.le_of_ble_eq_true rfl) (fun _ => rfl)) (c_X10_lookAt l g F h0 h1 h2 h3 h4 h5 v0_1 v0_2 v0_3 v0_4 v0_5 v0_6 v0_7 v0_8 v0_9 v0_11 v0_12 v0_13 v0_14 v0_15 v0_17 v0_20 v0_22 v0_23 v0_24 v0_25 v0_26 v0_27 v0_28 v0_29 v0_30 v0_31 v0_32 v0_33 v0_34 v0_35 v0_36 v0_37 p1 3 thrown0 basic1 classAxles2 state3 tagAxles4 tagPlate5 r1 o2 _ hc3) k_X10_277 (rm_le (by decide) (by decide)) 0 10 rfl rfl rfl rfl hl.1 rfl (Nat.le_of_ble_eq_true rfl) dX10_passagePlate_3 ⟨Nat.le_of_ble_eq_true rfl, Nat.le_of_ble_eq_true rfl⟩ (cells2 := 0) (slots2 := 0) ⟨rfl, rfl⟩ (fun _ H locs w => ?_)
  obtain ⟨e1, e2⟩ := tp2 hf
  rw [hQ]
  exact rt_i C w rfl (fun _ => 0) (by rw [← e2]) e1 dX10_passagePlate_6

theorem dX10_passageAxles_0 : decode cX10_passageAxles 0 = .ok (.aload_n 0, 1) := by decide +kernel
theorem dX10_passageAxles_1 : decode cX10_passageAxles 1 = .ok (.iload_n 1, 1) := by decide +kernel
theorem dX10_passageAxles_2 : decode cX10_passageAxles 2 = .ok (.iconst 4, 1) := by decide +kernel
theorem dX10_passageAxles_3 : decode cX10_passageAxles 3 = .ok (.invokevirtual 277, 3) := by decide +kernel
theorem dX10_passageAxles_6 : decode cX10_passageAxles 6 = .ok (.ireturn, 1) := by decide +kernel
abbrev m_X10_passageAxles : MD := (yX10_passageAxles, cX10_passageAxles, 2, (some .int))

abbrev w_X10_passageAxles (g : GT) (h0 h1 h2 h3 h4 h5 : Nat) (v0_1 v0_2 v0_3 v0_4 v0_5 v0_6 v0_7 v0_8 v0_9 v0_11 v0_12 v0_13 v0_14 v0_15 v0_17 v0_20 v0_22 v0_23 v0_24 v0_25 v0_26 v0_27 v0_28 v0_29 v0_30 v0_31 v0_32 v0_33 v0_34 v0_35 v0_36 v0_37 : Value) (thrown0 : Int32) (basic1 classAxles2 state3 tagAxles4 tagPlate5 : Nat → Int32) : va_W := [(h0, .inr (10, [.int thrown0, v0_1, v0_2, v0_3, v0_4, v0_5, v0_6, v0_7, v0_8, v0_9, .ref h1, v0_11, v0_12, v0_13, v0_14, v0_15, .ref h2, v0_17, .ref h5, .ref h4, v0_20, .ref h3, v0_22, v0_23, v0_24, v0_25, v0_26, v0_27, v0_28, v0_29, v0_30, v0_31, v0_32, v0_33, v0_34, v0_35, v0_36, v0_37])), (h1, aI g 7 basic1), (h2, aI g 8 classAxles2), (h3, aI g 2524 state3), (h4, aI g 24 tagAxles4), (h5, aI g 24 tagPlate5)]
def f_X10_passageAxles (F : Nat) (p1 thrown0 : Int32) (basic1 classAxles2 state3 tagAxles4 tagPlate5 : Nat → Int32) : Option (Int32 × Int32) :=
  bd2 (f_X10_lookAt F p1 4 thrown0 basic1 classAxles2 state3 tagAxles4 tagPlate5) fun r1 o2 =>
  some (r1, o2)
set_option maxHeartbeats 4000000 in
set_option maxRecDepth 100000 in
theorem c_X10_passageAxles (l : Launch) (g : GT) (F : Nat) (h0 h1 h2 h3 h4 h5 : Nat) (v0_1 v0_2 v0_3 v0_4 v0_5 v0_6 v0_7 v0_8 v0_9 v0_11 v0_12 v0_13 v0_14 v0_15 v0_17 v0_20 v0_22 v0_23 v0_24 v0_25 v0_26 v0_27 v0_28 v0_29 v0_30 v0_31 v0_32 v0_33 v0_34 v0_35 v0_36 v0_37 : Value) (p1 thrown0 : Int32) (basic1 classAxles2 state3 tagAxles4 tagPlate5 : Nat → Int32) (r o_thrown0 : Int32) (sz : Nat) (hf : f_X10_passageAxles F p1 thrown0 basic1 classAxles2 state3 tagAxles4 tagPlate5 = some (r, o_thrown0)) : CI l m_X10_passageAxles (rml 5 0 0) g (w_X10_passageAxles g h0 h1 h2 h3 h4 h5 v0_1 v0_2 v0_3 v0_4 v0_5 v0_6 v0_7 v0_8 v0_9 v0_11 v0_12 v0_13 v0_14 v0_15 v0_17 v0_20 v0_22 v0_23 v0_24 v0_25 v0_26 v0_27 v0_28 v0_29 v0_30 v0_31 v0_32 v0_33 v0_34 v0_35 v0_36 v0_37 thrown0 basic1 classAxles2 state3 tagAxles4 tagPlate5) (fun _ => w_X10_passageAxles g h0 h1 h2 h3 h4 h5 v0_1 v0_2 v0_3 v0_4 v0_5 v0_6 v0_7 v0_8 v0_9 v0_11 v0_12 v0_13 v0_14 v0_15 v0_17 v0_20 v0_22 v0_23 v0_24 v0_25 v0_26 v0_27 v0_28 v0_29 v0_30 v0_31 v0_32 v0_33 v0_34 v0_35 v0_36 v0_37 o_thrown0 basic1 classAxles2 state3 tagAxles4 tagPlate5) sz [.ref h0, .int p1] r := by
  refine en_i (by decide) (Nat.le_of_ble_eq_true rfl) (fun p e s m args below meth c A ls C w hl => ?_)
  have C : Cx p s m args meth c RX10 m_X10_passageAxles g A := C
  have hx := C.1
  have hb : c.code = cX10_passageAxles := C.2.1
  have hl : lv_has ls 2 [(0, .ref h0), (1, .int p1)] := hl
  obtain ⟨Q, hQ⟩ : ∃ Q, Q = QI below args s g A (fun _ => w_X10_passageAxles g h0 h1 h2 h3 h4 h5 v0_1 v0_2 v0_3 v0_4 v0_5 v0_6 v0_7 v0_8 v0_9 v0_11 v0_12 v0_13 v0_14 v0_15 v0_17 v0_20 v0_22 v0_23 v0_24 v0_25 v0_26 v0_27 v0_28 v0_29 v0_30 v0_31 v0_32 v0_33 v0_34 v0_35 v0_36 v0_37 o_thrown0 basic1 classAxles2 state3 tagAxles4 tagPlate5) r 0 0 := ⟨_, rfl⟩
  suffices hW : W p l e (rml 5 0 0) s m args below meth c s.heap [] 0 0 Q (F0 m 0 ls []) from (by rw [hQ] at hW; exact hW)
  unfold f_X10_passageAxles at hf
  refine lv_aload_n hx hb dX10_passageAxles_0 rfl (lv_at hl 0 rfl) ?_
  refine lv_iload_n hx hb dX10_passageAxles_1 rfl (lv_at hl 1 rfl) ?_
  refine lv_iconst (v := 4) hx hb dX10_passageAxles_2 (by decide) ?_
  obtain ⟨r1, o2, hc3, hf⟩ := bd2_some hf
  refine ca_iV C w (wn := fun _ => w_X10_passageAxles g h0 h1 h2 h3 h4 h5 v0_1 v0_2 v0_3 v0_4 v0_5 v0_6 v0_7 v0_8 v0_9 v0_11 v0_12 v0_13 v0_14 v0_15 v0_17 v0_20 v0_22 v0_23 v0_24 v0_25 v0_26 v0_27 v0_28 v0_29 v0_30 v0_31 v0_32 v0_33 v0_34 v0_35 v0_36 v0_37 o2 basic1 classAxles2 state3 tagAxles4 tagPlate5) (pm_k [true, true, true, true, true, true] rfl rfl (fun _ => Nat.le_of_ble_eq_true rfl) (fun _ => rfl)) (c_X10_lookAt l g F h0 h1 h2 h3 h4 h5 v0_1 v0_2 v0_3 v0_4 v0_5 v0_6 v0_7 v0_8 v0_9 v0_11 v0_12 v0_13 v0_14 v0_15 v0_17 v0_20 v0_22 v0_23 v0_24 v0_25 v0_26 v0_27 v0_28 v0_29 v0_30 v0_31 v0_32 v0_33 v0_34 v0_35 v0_36 v0_37 p1 4 thrown0 basic1 classAxles2 state3 tagAxles4 tagPlate5 r1 o2 _ hc3) k_X10_277 (rm_le (by decide) (by decide)) 0 10 rfl rfl rfl rfl hl.1 rfl (Nat.le_of_ble_eq_true rfl) dX10_passageAxles_3 ⟨Nat.le_of_ble_eq_true rfl, Nat.le_of_ble_eq_true rfl⟩ (cells2 := 0) (slots2 := 0) ⟨rfl, rfl⟩ (fun _ H locs w => ?_)
  obtain ⟨e1, e2⟩ := tp2 hf
  rw [hQ]
  exact rt_i C w rfl (fun _ => 0) (by rw [← e2]) e1 dX10_passageAxles_6

theorem dX10_votes_0 : decode cX10_votes 0 = .ok (.aload_n 0, 1) := by decide +kernel
theorem dX10_votes_1 : decode cX10_votes 1 = .ok (.iconst 0, 1) := by decide +kernel
theorem dX10_votes_2 : decode cX10_votes 2 = .ok (.putfield 84, 3) := by decide +kernel
theorem dX10_votes_5 : decode cX10_votes 5 = .ok (.aload_n 0, 1) := by decide +kernel
theorem dX10_votes_6 : decode cX10_votes 6 = .ok (.iload_n 1, 1) := by decide +kernel
theorem dX10_votes_7 : decode cX10_votes 7 = .ok (.invokevirtual 271, 3) := by decide +kernel
theorem dX10_votes_10 : decode cX10_votes 10 = .ok (.ifCond .ne 9, 3) := by decide +kernel
theorem dX10_votes_13 : decode cX10_votes 13 = .ok (.aload_n 0, 1) := by decide +kernel
theorem dX10_votes_14 : decode cX10_votes 14 = .ok (.iconst 1, 1) := by decide +kernel
theorem dX10_votes_15 : decode cX10_votes 15 = .ok (.invokevirtual 202, 3) := by decide +kernel
theorem dX10_votes_18 : decode cX10_votes 18 = .ok (.ireturn, 1) := by decide +kernel
theorem dX10_votes_19 : decode cX10_votes 19 = .ok (.iconst 0, 1) := by decide +kernel
theorem dX10_votes_20 : decode cX10_votes 20 = .ok (.istore_n 3, 1) := by decide +kernel
theorem dX10_votes_21 : decode cX10_votes 21 = .ok (.iload_n 3, 1) := by decide +kernel
theorem dX10_votes_22 : decode cX10_votes 22 = .ok (.aload_n 0, 1) := by decide +kernel
theorem dX10_votes_23 : decode cX10_votes 23 = .ok (.iload_n 1, 1) := by decide +kernel
theorem dX10_votes_24 : decode cX10_votes 24 = .ok (.iconst 5, 1) := by decide +kernel
theorem dX10_votes_25 : decode cX10_votes 25 = .ok (.invokevirtual 250, 3) := by decide +kernel
theorem dX10_votes_28 : decode cX10_votes 28 = .ok (.if_icmp .ge 32, 3) := by decide +kernel
theorem dX10_votes_31 : decode cX10_votes 31 = .ok (.aload_n 0, 1) := by decide +kernel
theorem dX10_votes_32 : decode cX10_votes 32 = .ok (.iload_n 1, 1) := by decide +kernel
theorem dX10_votes_33 : decode cX10_votes 33 = .ok (.bipush 6, 2) := by decide +kernel
theorem dX10_votes_35 : decode cX10_votes 35 = .ok (.iload_n 3, 1) := by decide +kernel
theorem dX10_votes_36 : decode cX10_votes 36 = .ok (.iadd, 1) := by decide +kernel
theorem dX10_votes_37 : decode cX10_votes 37 = .ok (.invokevirtual 250, 3) := by decide +kernel
theorem dX10_votes_40 : decode cX10_votes 40 = .ok (.iload_n 2, 1) := by decide +kernel
theorem dX10_votes_41 : decode cX10_votes 41 = .ok (.if_icmp .ne 13, 3) := by decide +kernel
theorem dX10_votes_44 : decode cX10_votes 44 = .ok (.aload_n 0, 1) := by decide +kernel
theorem dX10_votes_45 : decode cX10_votes 45 = .ok (.iload_n 1, 1) := by decide +kernel
theorem dX10_votes_46 : decode cX10_votes 46 = .ok (.bipush 10, 2) := by decide +kernel
theorem dX10_votes_48 : decode cX10_votes 48 = .ok (.iload_n 3, 1) := by decide +kernel
theorem dX10_votes_49 : decode cX10_votes 49 = .ok (.iadd, 1) := by decide +kernel
theorem dX10_votes_50 : decode cX10_votes 50 = .ok (.invokevirtual 250, 3) := by decide +kernel
theorem dX10_votes_53 : decode cX10_votes 53 = .ok (.ireturn, 1) := by decide +kernel
theorem dX10_votes_54 : decode cX10_votes 54 = .ok (.iinc 3 1, 3) := by decide +kernel
theorem dX10_votes_57 : decode cX10_votes 57 = .ok (.goto (-36), 3) := by decide +kernel
theorem dX10_votes_60 : decode cX10_votes 60 = .ok (.iconst 0, 1) := by decide +kernel
theorem dX10_votes_61 : decode cX10_votes 61 = .ok (.ireturn, 1) := by decide +kernel
abbrev m_X10_votes : MD := (yX10_votes, cX10_votes, 4, (some .int))

abbrev w_X10_votes (g : GT) (h0 h1 : Nat) (v0_1 v0_2 v0_3 v0_4 v0_5 v0_6 v0_7 v0_8 v0_9 v0_10 v0_11 v0_12 v0_13 v0_14 v0_15 v0_16 v0_17 v0_18 v0_19 v0_20 v0_22 v0_23 v0_24 v0_25 v0_26 v0_27 v0_28 v0_29 v0_30 v0_31 v0_32 v0_33 v0_34 v0_35 v0_36 v0_37 : Value) (thrown0 : Int32) (state1 : Nat → Int32) : va_W := [(h0, .inr (10, [.int thrown0, v0_1, v0_2, v0_3, v0_4, v0_5, v0_6, v0_7, v0_8, v0_9, v0_10, v0_11, v0_12, v0_13, v0_14, v0_15, v0_16, v0_17, v0_18, v0_19, v0_20, .ref h1, v0_22, v0_23, v0_24, v0_25, v0_26, v0_27, v0_28, v0_29, v0_30, v0_31, v0_32, v0_33, v0_34, v0_35, v0_36, v0_37])), (h1, aI g 2524 state1)]
def f_X10_votes_h21 (F : Nat) (state1 : Nat → Int32) (k21 : (Int32 × Int32 × Int32 × Int32) → Option (Int32 × Int32)) (x1 x2 x3 thrown0 : Int32) : Option (Int32 × Int32) :=
  bd1 (f_X10_ofPassage F x1 5 state1) fun r1 =>
  if r1 ≤ x3 then
    some (0, thrown0)
  else
    bd1 (f_X10_ofPassage F x1 (6 + x3) state1) fun r4 =>
    if r4 = x2 then
      bd1 (f_X10_ofPassage F x1 (10 + x3) state1) fun r7 =>
      some (r7, thrown0)
    else
      k21 (x1, x2, x3 + 1, thrown0)
def f_X10_votes_L21 (F : Nat) (state1 : Nat → Int32) (z : Int32 × Int32 × Int32 × Int32) : Option (Int32 × Int32) := lp (fun k z => f_X10_votes_h21 F state1 k z.1 z.2.1 z.2.2.1 z.2.2.2) F z
def f_X10_votes (F : Nat) (p1 p2 thrown0 : Int32) (state1 : Nat → Int32) : Option (Int32 × Int32) :=
  bd1 (f_X10_isPassage F p1 state1) fun r9 =>
  if r9 = 0 then
    bd2 (f_X10_fail F 1 0) fun r12 o13 =>
    some (r12, o13)
  else
    f_X10_votes_L21 F state1 (p1, p2, 0, 0)
set_option maxHeartbeats 4000000 in
set_option maxRecDepth 100000 in
theorem c_X10_votes (l : Launch) (g : GT) (F : Nat) (h0 h1 : Nat) (v0_1 v0_2 v0_3 v0_4 v0_5 v0_6 v0_7 v0_8 v0_9 v0_10 v0_11 v0_12 v0_13 v0_14 v0_15 v0_16 v0_17 v0_18 v0_19 v0_20 v0_22 v0_23 v0_24 v0_25 v0_26 v0_27 v0_28 v0_29 v0_30 v0_31 v0_32 v0_33 v0_34 v0_35 v0_36 v0_37 : Value) (p1 p2 thrown0 : Int32) (state1 : Nat → Int32) (r o_thrown0 : Int32) (sz : Nat) (hf : f_X10_votes F p1 p2 thrown0 state1 = some (r, o_thrown0)) : CI l m_X10_votes (rml 2 0 0) g (w_X10_votes g h0 h1 v0_1 v0_2 v0_3 v0_4 v0_5 v0_6 v0_7 v0_8 v0_9 v0_10 v0_11 v0_12 v0_13 v0_14 v0_15 v0_16 v0_17 v0_18 v0_19 v0_20 v0_22 v0_23 v0_24 v0_25 v0_26 v0_27 v0_28 v0_29 v0_30 v0_31 v0_32 v0_33 v0_34 v0_35 v0_36 v0_37 thrown0 state1) (fun _ => w_X10_votes g h0 h1 v0_1 v0_2 v0_3 v0_4 v0_5 v0_6 v0_7 v0_8 v0_9 v0_10 v0_11 v0_12 v0_13 v0_14 v0_15 v0_16 v0_17 v0_18 v0_19 v0_20 v0_22 v0_23 v0_24 v0_25 v0_26 v0_27 v0_28 v0_29 v0_30 v0_31 v0_32 v0_33 v0_34 v0_35 v0_36 v0_37 o_thrown0 state1) sz [.ref h0, .int p1, .int p2] r := by
  refine en_i (by decide) (Nat.le_of_ble_eq_true rfl) (fun p e s m args below meth c A ls C w hl => ?_)
  have C : Cx p s m args meth c RX10 m_X10_votes g A := C
  have hx := C.1
  have hb : c.code = cX10_votes := C.2.1
  have hl : lv_has ls 4 [(0, .ref h0), (1, .int p1), (2, .int p2)] := hl
  obtain ⟨Q, hQ⟩ : ∃ Q, Q = QI below args s g A (fun _ => w_X10_votes g h0 h1 v0_1 v0_2 v0_3 v0_4 v0_5 v0_6 v0_7 v0_8 v0_9 v0_10 v0_11 v0_12 v0_13 v0_14 v0_15 v0_16 v0_17 v0_18 v0_19 v0_20 v0_22 v0_23 v0_24 v0_25 v0_26 v0_27 v0_28 v0_29 v0_30 v0_31 v0_32 v0_33 v0_34 v0_35 v0_36 v0_37 o_thrown0 state1) r 0 0 := ⟨_, rfl⟩
  suffices hW : W p l e (rml 2 0 0) s m args below meth c s.heap [] 0 0 Q (F0 m 0 ls []) from (by rw [hQ] at hW; exact hW)
  unfold f_X10_votes at hf
  have L21 : ∀ (z : Int32 × Int32 × Int32 × Int32), f_X10_votes_L21 F state1 z = some (r, o_thrown0) → ∀ (H : Heap) (locs : List Loc) (ls : Array Slot), Wd g A (w_X10_votes g h0 h1 v0_1 v0_2 v0_3 v0_4 v0_5 v0_6 v0_7 v0_8 v0_9 v0_10 v0_11 v0_12 v0_13 v0_14 v0_15 v0_16 v0_17 v0_18 v0_19 v0_20 v0_22 v0_23 v0_24 v0_25 v0_26 v0_27 v0_28 v0_29 v0_30 v0_31 v0_32 v0_33 v0_34 v0_35 v0_36 v0_37 z.2.2.2 state1) s.heap H locs → lv_has ls 4 [(0, .ref h0), (1, .int z.1), (2, .int z.2.1), (3, .int z.2.2.1)] → W p l e (rml 2 0 0) s m args below meth c H locs 0 0 Q (F0 m 21 ls []) := by
    intro z hf
    refine lp_W (r := (r, o_thrown0)) (fun (z : Int32 × Int32 × Int32 × Int32) => ∀ (H : Heap) (locs : List Loc) (ls : Array Slot), Wd g A (w_X10_votes g h0 h1 v0_1 v0_2 v0_3 v0_4 v0_5 v0_6 v0_7 v0_8 v0_9 v0_10 v0_11 v0_12 v0_13 v0_14 v0_15 v0_16 v0_17 v0_18 v0_19 v0_20 v0_22 v0_23 v0_24 v0_25 v0_26 v0_27 v0_28 v0_29 v0_30 v0_31 v0_32 v0_33 v0_34 v0_35 v0_36 v0_37 z.2.2.2 state1) s.heap H locs → lv_has ls 4 [(0, .ref h0), (1, .int z.1), (2, .int z.2.1), (3, .int z.2.2.1)] → W p l e (rml 2 0 0) s m args below meth c H locs 0 0 Q (F0 m 21 ls [])) (fun k21 z ih21 hf => ?_) F z hf
    obtain ⟨x1, x2, x3, thrown0⟩ := z
    intro H locs ls w hl
    try dsimp only at hf w hl ⊢
    unfold f_X10_votes_h21 at hf
    refine lv_iload_n hx hb dX10_votes_21 rfl (lv_at hl 3 rfl) ?_
    refine lv_aload_n hx hb dX10_votes_22 rfl (lv_at hl 0 rfl) ?_
    refine lv_iload_n hx hb dX10_votes_23 rfl (lv_at hl 1 rfl) ?_
    refine lv_iconst (v := 5) hx hb dX10_votes_24 (by decide) ?_
    obtain ⟨r1, hc2, hf⟩ := bd1_some hf
    refine ca_iV C w (wn := fun _ => w_X10_votes g h0 h1 v0_1 v0_2 v0_3 v0_4 v0_5 v0_6 v0_7 v0_8 v0_9 v0_10 v0_11 v0_12 v0_13 v0_14 v0_15 v0_16 v0_17 v0_18 v0_19 v0_20 v0_22 v0_23 v0_24 v0_25 v0_26 v0_27 v0_28 v0_29 v0_30 v0_31 v0_32 v0_33 v0_34 v0_35 v0_36 v0_37 thrown0 state1) (pm_k [true, true] rfl rfl (fun _ => Nat.le_of_ble_eq_true rfl) (fun _ => rfl)) (c_X10_ofPassage l g F h0 h1 (.int thrown0) v0_1 v0_2 v0_3 v0_4 v0_5 v0_6 v0_7 v0_8 v0_9 v0_10 v0_11 v0_12 v0_13 v0_14 v0_15 v0_16 v0_17 v0_18 v0_19 v0_20 v0_22 v0_23 v0_24 v0_25 v0_26 v0_27 v0_28 v0_29 v0_30 v0_31 v0_32 v0_33 v0_34 v0_35 v0_36 v0_37 x1 5 state1 r1 _ hc2) k_X10_250 (rm_le (by decide) (by decide)) 0 10 rfl rfl rfl rfl hl.1 rfl (Nat.le_of_ble_eq_true rfl) dX10_votes_25 ⟨Nat.le_of_ble_eq_true rfl, Nat.le_of_ble_eq_true rfl⟩ (cells2 := 0) (slots2 := 0) ⟨rfl, rfl⟩ (fun _ H locs w => ?_)
    refine lv_icmp_ge (tgt := 60) hx hb dX10_votes_28 (by decide) (fun c3 => ?_) (fun c3 => ?_)
    · replace hf := it_t c3 hf
      refine lv_iconst (v := 0) hx hb dX10_votes_60 (by decide) ?_
      obtain ⟨e1, e2⟩ := tp2 hf
      rw [hQ]
      exact rt_i C w rfl (fun _ => 0) (by rw [← e2]) e1 dX10_votes_61
    · replace hf := it_f c3 hf
      refine lv_aload_n hx hb dX10_votes_31 rfl (lv_at hl 0 rfl) ?_
      refine lv_iload_n hx hb dX10_votes_32 rfl (lv_at hl 1 rfl) ?_
      refine lv_bipush (v := 6) hx hb dX10_votes_33 (by decide) ?_
      refine lv_iload_n hx hb dX10_votes_35 rfl (lv_at hl 3 rfl) ?_
      refine lv_iadd hx hb dX10_votes_36 ?_
      obtain ⟨r4, hc5, hf⟩ := bd1_some hf
      refine ca_iV C w (wn := fun _ => w_X10_votes g h0 h1 v0_1 v0_2 v0_3 v0_4 v0_5 v0_6 v0_7 v0_8 v0_9 v0_10 v0_11 v0_12 v0_13 v0_14 v0_15 v0_16 v0_17 v0_18 v0_19 v0_20 v0_22 v0_23 v0_24 v0_25 v0_26 v0_27 v0_28 v0_29 v0_30 v0_31 v0_32 v0_33 v0_34 v0_35 v0_36 v0_37 thrown0 state1) (pm_k [true, true] rfl rfl (fun _ => Nat.le_of_ble_eq_true rfl) (fun _ => rfl)) (c_X10_ofPassage l g F h0 h1 (.int thrown0) v0_1 v0_2 v0_3 v0_4 v0_5 v0_6 v0_7 v0_8 v0_9 v0_10 v0_11 v0_12 v0_13 v0_14 v0_15 v0_16 v0_17 v0_18 v0_19 v0_20 v0_22 v0_23 v0_24 v0_25 v0_26 v0_27 v0_28 v0_29 v0_30 v0_31 v0_32 v0_33 v0_34 v0_35 v0_36 v0_37 x1 (6 + x3) state1 r4 _ hc5) k_X10_250 (rm_le (by decide) (by decide)) 0 10 rfl rfl rfl rfl hl.1 rfl (Nat.le_of_ble_eq_true rfl) dX10_votes_37 ⟨Nat.le_of_ble_eq_true rfl, Nat.le_of_ble_eq_true rfl⟩ (cells2 := 0) (slots2 := 0) ⟨rfl, rfl⟩ (fun _ H locs w => ?_)
      refine lv_iload_n hx hb dX10_votes_40 rfl (lv_at hl 2 rfl) ?_
      refine lv_icmp_ne (tgt := 54) hx hb dX10_votes_41 (by decide) (fun c6 => ?_) (fun c6 => ?_)
      · replace hf := it_f c6 hf
        refine lv_iinc (v := x3 + 1) (lv' := [(3, .int (x3 + 1)), (0, .ref h0), (1, .int x1), (2, .int x2)]) hx hb dX10_votes_54 hl (k := 3) rfl rfl (by decide) rfl (fun ls hl => ?_)
        refine lv_goto (tgt := 21) hx hb dX10_votes_57 (by decide) ?_
        exact ih21 (x1, x2, x3 + 1, thrown0) hf _ _ _ w (lv_sub hl [1, 2, 3, 0] rfl)
      · replace hf := it_t c6 hf
        refine lv_aload_n hx hb dX10_votes_44 rfl (lv_at hl 0 rfl) ?_
        refine lv_iload_n hx hb dX10_votes_45 rfl (lv_at hl 1 rfl) ?_
        refine lv_bipush (v := 10) hx hb dX10_votes_46 (by decide) ?_
        refine lv_iload_n hx hb dX10_votes_48 rfl (lv_at hl 3 rfl) ?_
        refine lv_iadd hx hb dX10_votes_49 ?_
        obtain ⟨r7, hc8, hf⟩ := bd1_some hf
        refine ca_iV C w (wn := fun _ => w_X10_votes g h0 h1 v0_1 v0_2 v0_3 v0_4 v0_5 v0_6 v0_7 v0_8 v0_9 v0_10 v0_11 v0_12 v0_13 v0_14 v0_15 v0_16 v0_17 v0_18 v0_19 v0_20 v0_22 v0_23 v0_24 v0_25 v0_26 v0_27 v0_28 v0_29 v0_30 v0_31 v0_32 v0_33 v0_34 v0_35 v0_36 v0_37 thrown0 state1) (pm_k [true, true] rfl rfl (fun _ => Nat.le_of_ble_eq_true rfl) (fun _ => rfl)) (c_X10_ofPassage l g F h0 h1 (.int thrown0) v0_1 v0_2 v0_3 v0_4 v0_5 v0_6 v0_7 v0_8 v0_9 v0_10 v0_11 v0_12 v0_13 v0_14 v0_15 v0_16 v0_17 v0_18 v0_19 v0_20 v0_22 v0_23 v0_24 v0_25 v0_26 v0_27 v0_28 v0_29 v0_30 v0_31 v0_32 v0_33 v0_34 v0_35 v0_36 v0_37 x1 (10 + x3) state1 r7 _ hc8) k_X10_250 (rm_le (by decide) (by decide)) 0 10 rfl rfl rfl rfl hl.1 rfl (Nat.le_of_ble_eq_true rfl) dX10_votes_50 ⟨Nat.le_of_ble_eq_true rfl, Nat.le_of_ble_eq_true rfl⟩ (cells2 := 0) (slots2 := 0) ⟨rfl, rfl⟩ (fun _ H locs w => ?_)
        obtain ⟨e1, e2⟩ := tp2 hf
        rw [hQ]
        exact rt_i C w rfl (fun _ => 0) (by rw [← e2]) e1 dX10_votes_53
  refine lv_aload_n hx hb dX10_votes_0 rfl (lv_at hl 0 rfl) ?_
  refine lv_iconst (v := 0) hx hb dX10_votes_1 (by decide) ?_
  refine p_X10_84 C w 0 rfl (Nat.le_of_ble_eq_true rfl) (ws2 := w_X10_votes g h0 h1 v0_1 v0_2 v0_3 v0_4 v0_5 v0_6 v0_7 v0_8 v0_9 v0_10 v0_11 v0_12 v0_13 v0_14 v0_15 v0_16 v0_17 v0_18 v0_19 v0_20 v0_22 v0_23 v0_24 v0_25 v0_26 v0_27 v0_28 v0_29 v0_30 v0_31 v0_32 v0_33 v0_34 v0_35 v0_36 v0_37 0 state1) rfl dX10_votes_2 (fun H locs w => ?_)
  refine lv_aload_n hx hb dX10_votes_5 rfl (lv_at hl 0 rfl) ?_
  refine lv_iload_n hx hb dX10_votes_6 rfl (lv_at hl 1 rfl) ?_
  obtain ⟨r9, hc10, hf⟩ := bd1_some hf
  refine ca_iV C w (wn := fun _ => w_X10_votes g h0 h1 v0_1 v0_2 v0_3 v0_4 v0_5 v0_6 v0_7 v0_8 v0_9 v0_10 v0_11 v0_12 v0_13 v0_14 v0_15 v0_16 v0_17 v0_18 v0_19 v0_20 v0_22 v0_23 v0_24 v0_25 v0_26 v0_27 v0_28 v0_29 v0_30 v0_31 v0_32 v0_33 v0_34 v0_35 v0_36 v0_37 0 state1) (pm_k [true, true] rfl rfl (fun _ => Nat.le_of_ble_eq_true rfl) (fun _ => rfl)) (c_X10_isPassage l g F h0 h1 (.int 0) v0_1 v0_2 v0_3 v0_4 v0_5 v0_6 v0_7 v0_8 v0_9 v0_10 v0_11 v0_12 v0_13 v0_14 v0_15 v0_16 v0_17 v0_18 v0_19 v0_20 v0_22 v0_23 v0_24 v0_25 v0_26 v0_27 v0_28 v0_29 v0_30 v0_31 v0_32 v0_33 v0_34 v0_35 v0_36 v0_37 p1 state1 r9 _ hc10) k_X10_271 (rm_le (by decide) (by decide)) 0 10 rfl rfl rfl rfl hl.1 rfl (Nat.le_of_ble_eq_true rfl) dX10_votes_7 ⟨Nat.le_of_ble_eq_true rfl, Nat.le_of_ble_eq_true rfl⟩ (cells2 := 0) (slots2 := 0) ⟨rfl, rfl⟩ (fun _ H locs w => ?_)
  refine lv_if_ne (tgt := 19) hx hb dX10_votes_10 (by decide) (fun c11 => ?_) (fun c11 => ?_)
  · replace hf := it_f c11 hf
    refine lv_iconst (v := 0) hx hb dX10_votes_19 (by decide) ?_
    refine lv_istore_n (lv' := [(3, .int 0), (0, .ref h0), (1, .int p1), (2, .int p2)]) hx hb dX10_votes_20 rfl hl (by decide) rfl (fun ls hl => ?_)
    exact L21 (p1, p2, 0, 0) hf _ _ _ w (lv_sub hl [1, 2, 3, 0] rfl)
  · replace hf := it_t c11 hf
    refine lv_aload_n hx hb dX10_votes_13 rfl (lv_at hl 0 rfl) ?_
    refine lv_iconst (v := 1) hx hb dX10_votes_14 (by decide) ?_
    obtain ⟨r12, o13, hc14, hf⟩ := bd2_some hf
    refine ca_iV C w (wn := fun _ => w_X10_votes g h0 h1 v0_1 v0_2 v0_3 v0_4 v0_5 v0_6 v0_7 v0_8 v0_9 v0_10 v0_11 v0_12 v0_13 v0_14 v0_15 v0_16 v0_17 v0_18 v0_19 v0_20 v0_22 v0_23 v0_24 v0_25 v0_26 v0_27 v0_28 v0_29 v0_30 v0_31 v0_32 v0_33 v0_34 v0_35 v0_36 v0_37 o13 state1) (pm_k [true, false] rfl rfl (fun _ => Nat.le_of_ble_eq_true rfl) (fun _ => rfl)) (c_X10_fail l g F h0 v0_1 v0_2 v0_3 v0_4 v0_5 v0_6 v0_7 v0_8 v0_9 v0_10 v0_11 v0_12 v0_13 v0_14 v0_15 v0_16 v0_17 v0_18 v0_19 v0_20 (.ref h1) v0_22 v0_23 v0_24 v0_25 v0_26 v0_27 v0_28 v0_29 v0_30 v0_31 v0_32 v0_33 v0_34 v0_35 v0_36 v0_37 1 0 r12 o13 _ hc14) k_X10_202 (rm_le (by decide) (by decide)) 0 10 rfl rfl rfl rfl hl.1 rfl (Nat.le_of_ble_eq_true rfl) dX10_votes_15 ⟨Nat.le_of_ble_eq_true rfl, Nat.le_of_ble_eq_true rfl⟩ (cells2 := 0) (slots2 := 0) ⟨rfl, rfl⟩ (fun _ H locs w => ?_)
    obtain ⟨e1, e2⟩ := tp2 hf
    rw [hQ]
    exact rt_i C w rfl (fun _ => 0) (by rw [← e2]) e1 dX10_votes_18

theorem dX10_exceptions_0 : decode cX10_exceptions 0 = .ok (.aload_n 0, 1) := by decide +kernel
theorem dX10_exceptions_1 : decode cX10_exceptions 1 = .ok (.iload_n 1, 1) := by decide +kernel
theorem dX10_exceptions_2 : decode cX10_exceptions 2 = .ok (.iconst 5, 1) := by decide +kernel
theorem dX10_exceptions_3 : decode cX10_exceptions 3 = .ok (.invokevirtual 277, 3) := by decide +kernel
theorem dX10_exceptions_6 : decode cX10_exceptions 6 = .ok (.ireturn, 1) := by decide +kernel
abbrev m_X10_exceptions : MD := (yX10_exceptions, cX10_exceptions, 2, (some .int))

abbrev w_X10_exceptions (g : GT) (h0 h1 h2 h3 h4 h5 : Nat) (v0_1 v0_2 v0_3 v0_4 v0_5 v0_6 v0_7 v0_8 v0_9 v0_11 v0_12 v0_13 v0_14 v0_15 v0_17 v0_20 v0_22 v0_23 v0_24 v0_25 v0_26 v0_27 v0_28 v0_29 v0_30 v0_31 v0_32 v0_33 v0_34 v0_35 v0_36 v0_37 : Value) (thrown0 : Int32) (basic1 classAxles2 state3 tagAxles4 tagPlate5 : Nat → Int32) : va_W := [(h0, .inr (10, [.int thrown0, v0_1, v0_2, v0_3, v0_4, v0_5, v0_6, v0_7, v0_8, v0_9, .ref h1, v0_11, v0_12, v0_13, v0_14, v0_15, .ref h2, v0_17, .ref h5, .ref h4, v0_20, .ref h3, v0_22, v0_23, v0_24, v0_25, v0_26, v0_27, v0_28, v0_29, v0_30, v0_31, v0_32, v0_33, v0_34, v0_35, v0_36, v0_37])), (h1, aI g 7 basic1), (h2, aI g 8 classAxles2), (h3, aI g 2524 state3), (h4, aI g 24 tagAxles4), (h5, aI g 24 tagPlate5)]
def f_X10_exceptions (F : Nat) (p1 thrown0 : Int32) (basic1 classAxles2 state3 tagAxles4 tagPlate5 : Nat → Int32) : Option (Int32 × Int32) :=
  bd2 (f_X10_lookAt F p1 5 thrown0 basic1 classAxles2 state3 tagAxles4 tagPlate5) fun r1 o2 =>
  some (r1, o2)
set_option maxHeartbeats 4000000 in
set_option maxRecDepth 100000 in
theorem c_X10_exceptions (l : Launch) (g : GT) (F : Nat) (h0 h1 h2 h3 h4 h5 : Nat) (v0_1 v0_2 v0_3 v0_4 v0_5 v0_6 v0_7 v0_8 v0_9 v0_11 v0_12 v0_13 v0_14 v0_15 v0_17 v0_20 v0_22 v0_23 v0_24 v0_25 v0_26 v0_27 v0_28 v0_29 v0_30 v0_31 v0_32 v0_33 v0_34 v0_35 v0_36 v0_37 : Value) (p1 thrown0 : Int32) (basic1 classAxles2 state3 tagAxles4 tagPlate5 : Nat → Int32) (r o_thrown0 : Int32) (sz : Nat) (hf : f_X10_exceptions F p1 thrown0 basic1 classAxles2 state3 tagAxles4 tagPlate5 = some (r, o_thrown0)) : CI l m_X10_exceptions (rml 5 0 0) g (w_X10_exceptions g h0 h1 h2 h3 h4 h5 v0_1 v0_2 v0_3 v0_4 v0_5 v0_6 v0_7 v0_8 v0_9 v0_11 v0_12 v0_13 v0_14 v0_15 v0_17 v0_20 v0_22 v0_23 v0_24 v0_25 v0_26 v0_27 v0_28 v0_29 v0_30 v0_31 v0_32 v0_33 v0_34 v0_35 v0_36 v0_37 thrown0 basic1 classAxles2 state3 tagAxles4 tagPlate5) (fun _ => w_X10_exceptions g h0 h1 h2 h3 h4 h5 v0_1 v0_2 v0_3 v0_4 v0_5 v0_6 v0_7 v0_8 v0_9 v0_11 v0_12 v0_13 v0_14 v0_15 v0_17 v0_20 v0_22 v0_23 v0_24 v0_25 v0_26 v0_27 v0_28 v0_29 v0_30 v0_31 v0_32 v0_33 v0_34 v0_35 v0_36 v0_37 o_thrown0 basic1 classAxles2 state3 tagAxles4 tagPlate5) sz [.ref h0, .int p1] r := by
  refine en_i (by decide) (Nat.le_of_ble_eq_true rfl) (fun p e s m args below meth c A ls C w hl => ?_)
  have C : Cx p s m args meth c RX10 m_X10_exceptions g A := C
  have hx := C.1
  have hb : c.code = cX10_exceptions := C.2.1
  have hl : lv_has ls 2 [(0, .ref h0), (1, .int p1)] := hl
  obtain ⟨Q, hQ⟩ : ∃ Q, Q = QI below args s g A (fun _ => w_X10_exceptions g h0 h1 h2 h3 h4 h5 v0_1 v0_2 v0_3 v0_4 v0_5 v0_6 v0_7 v0_8 v0_9 v0_11 v0_12 v0_13 v0_14 v0_15 v0_17 v0_20 v0_22 v0_23 v0_24 v0_25 v0_26 v0_27 v0_28 v0_29 v0_30 v0_31 v0_32 v0_33 v0_34 v0_35 v0_36 v0_37 o_thrown0 basic1 classAxles2 state3 tagAxles4 tagPlate5) r 0 0 := ⟨_, rfl⟩
  suffices hW : W p l e (rml 5 0 0) s m args below meth c s.heap [] 0 0 Q (F0 m 0 ls []) from (by rw [hQ] at hW; exact hW)
  unfold f_X10_exceptions at hf
  refine lv_aload_n hx hb dX10_exceptions_0 rfl (lv_at hl 0 rfl) ?_
  refine lv_iload_n hx hb dX10_exceptions_1 rfl (lv_at hl 1 rfl) ?_
  refine lv_iconst (v := 5) hx hb dX10_exceptions_2 (by decide) ?_
  obtain ⟨r1, o2, hc3, hf⟩ := bd2_some hf
  refine ca_iV C w (wn := fun _ => w_X10_exceptions g h0 h1 h2 h3 h4 h5 v0_1 v0_2 v0_3 v0_4 v0_5 v0_6 v0_7 v0_8 v0_9 v0_11 v0_12 v0_13 v0_14 v0_15 v0_17 v0_20 v0_22 v0_23 v0_24 v0_25 v0_26 v0_27 v0_28 v0_29 v0_30 v0_31 v0_32 v0_33 v0_34 v0_35 v0_36 v0_37 o2 basic1 classAxles2 state3 tagAxles4 tagPlate5) (pm_k [true, true, true, true, true, true] rfl rfl (fun _ => Nat.le_of_ble_eq_true rfl) (fun _ => rfl)) (c_X10_lookAt l g F h0 h1 h2 h3 h4 h5 v0_1 v0_2 v0_3 v0_4 v0_5 v0_6 v0_7 v0_8 v0_9 v0_11 v0_12 v0_13 v0_14 v0_15 v0_17 v0_20 v0_22 v0_23 v0_24 v0_25 v0_26 v0_27 v0_28 v0_29 v0_30 v0_31 v0_32 v0_33 v0_34 v0_35 v0_36 v0_37 p1 5 thrown0 basic1 classAxles2 state3 tagAxles4 tagPlate5 r1 o2 _ hc3) k_X10_277 (rm_le (by decide) (by decide)) 0 10 rfl rfl rfl rfl hl.1 rfl (Nat.le_of_ble_eq_true rfl) dX10_exceptions_3 ⟨Nat.le_of_ble_eq_true rfl, Nat.le_of_ble_eq_true rfl⟩ (cells2 := 0) (slots2 := 0) ⟨rfl, rfl⟩ (fun _ H locs w => ?_)
  obtain ⟨e1, e2⟩ := tp2 hf
  rw [hQ]
  exact rt_i C w rfl (fun _ => 0) (by rw [← e2]) e1 dX10_exceptions_6

theorem dX10_passageState_0 : decode cX10_passageState 0 = .ok (.aload_n 0, 1) := by decide +kernel
theorem dX10_passageState_1 : decode cX10_passageState 1 = .ok (.iload_n 1, 1) := by decide +kernel
theorem dX10_passageState_2 : decode cX10_passageState 2 = .ok (.bipush 6, 2) := by decide +kernel
theorem dX10_passageState_4 : decode cX10_passageState 4 = .ok (.invokevirtual 277, 3) := by decide +kernel
theorem dX10_passageState_7 : decode cX10_passageState 7 = .ok (.ireturn, 1) := by decide +kernel
abbrev m_X10_passageState : MD := (yX10_passageState, cX10_passageState, 2, (some .int))

abbrev w_X10_passageState (g : GT) (h0 h1 h2 h3 h4 h5 : Nat) (v0_1 v0_2 v0_3 v0_4 v0_5 v0_6 v0_7 v0_8 v0_9 v0_11 v0_12 v0_13 v0_14 v0_15 v0_17 v0_20 v0_22 v0_23 v0_24 v0_25 v0_26 v0_27 v0_28 v0_29 v0_30 v0_31 v0_32 v0_33 v0_34 v0_35 v0_36 v0_37 : Value) (thrown0 : Int32) (basic1 classAxles2 state3 tagAxles4 tagPlate5 : Nat → Int32) : va_W := [(h0, .inr (10, [.int thrown0, v0_1, v0_2, v0_3, v0_4, v0_5, v0_6, v0_7, v0_8, v0_9, .ref h1, v0_11, v0_12, v0_13, v0_14, v0_15, .ref h2, v0_17, .ref h5, .ref h4, v0_20, .ref h3, v0_22, v0_23, v0_24, v0_25, v0_26, v0_27, v0_28, v0_29, v0_30, v0_31, v0_32, v0_33, v0_34, v0_35, v0_36, v0_37])), (h1, aI g 7 basic1), (h2, aI g 8 classAxles2), (h3, aI g 2524 state3), (h4, aI g 24 tagAxles4), (h5, aI g 24 tagPlate5)]
def f_X10_passageState (F : Nat) (p1 thrown0 : Int32) (basic1 classAxles2 state3 tagAxles4 tagPlate5 : Nat → Int32) : Option (Int32 × Int32) :=
  bd2 (f_X10_lookAt F p1 6 thrown0 basic1 classAxles2 state3 tagAxles4 tagPlate5) fun r1 o2 =>
  some (r1, o2)
set_option maxHeartbeats 4000000 in
set_option maxRecDepth 100000 in
theorem c_X10_passageState (l : Launch) (g : GT) (F : Nat) (h0 h1 h2 h3 h4 h5 : Nat) (v0_1 v0_2 v0_3 v0_4 v0_5 v0_6 v0_7 v0_8 v0_9 v0_11 v0_12 v0_13 v0_14 v0_15 v0_17 v0_20 v0_22 v0_23 v0_24 v0_25 v0_26 v0_27 v0_28 v0_29 v0_30 v0_31 v0_32 v0_33 v0_34 v0_35 v0_36 v0_37 : Value) (p1 thrown0 : Int32) (basic1 classAxles2 state3 tagAxles4 tagPlate5 : Nat → Int32) (r o_thrown0 : Int32) (sz : Nat) (hf : f_X10_passageState F p1 thrown0 basic1 classAxles2 state3 tagAxles4 tagPlate5 = some (r, o_thrown0)) : CI l m_X10_passageState (rml 5 0 0) g (w_X10_passageState g h0 h1 h2 h3 h4 h5 v0_1 v0_2 v0_3 v0_4 v0_5 v0_6 v0_7 v0_8 v0_9 v0_11 v0_12 v0_13 v0_14 v0_15 v0_17 v0_20 v0_22 v0_23 v0_24 v0_25 v0_26 v0_27 v0_28 v0_29 v0_30 v0_31 v0_32 v0_33 v0_34 v0_35 v0_36 v0_37 thrown0 basic1 classAxles2 state3 tagAxles4 tagPlate5) (fun _ => w_X10_passageState g h0 h1 h2 h3 h4 h5 v0_1 v0_2 v0_3 v0_4 v0_5 v0_6 v0_7 v0_8 v0_9 v0_11 v0_12 v0_13 v0_14 v0_15 v0_17 v0_20 v0_22 v0_23 v0_24 v0_25 v0_26 v0_27 v0_28 v0_29 v0_30 v0_31 v0_32 v0_33 v0_34 v0_35 v0_36 v0_37 o_thrown0 basic1 classAxles2 state3 tagAxles4 tagPlate5) sz [.ref h0, .int p1] r := by
  refine en_i (by decide) (Nat.le_of_ble_eq_true rfl) (fun p e s m args below meth c A ls C w hl => ?_)
  have C : Cx p s m args meth c RX10 m_X10_passageState g A := C
  have hx := C.1
  have hb : c.code = cX10_passageState := C.2.1
  have hl : lv_has ls 2 [(0, .ref h0), (1, .int p1)] := hl
  obtain ⟨Q, hQ⟩ : ∃ Q, Q = QI below args s g A (fun _ => w_X10_passageState g h0 h1 h2 h3 h4 h5 v0_1 v0_2 v0_3 v0_4 v0_5 v0_6 v0_7 v0_8 v0_9 v0_11 v0_12 v0_13 v0_14 v0_15 v0_17 v0_20 v0_22 v0_23 v0_24 v0_25 v0_26 v0_27 v0_28 v0_29 v0_30 v0_31 v0_32 v0_33 v0_34 v0_35 v0_36 v0_37 o_thrown0 basic1 classAxles2 state3 tagAxles4 tagPlate5) r 0 0 := ⟨_, rfl⟩
  suffices hW : W p l e (rml 5 0 0) s m args below meth c s.heap [] 0 0 Q (F0 m 0 ls []) from (by rw [hQ] at hW; exact hW)
  unfold f_X10_passageState at hf
  refine lv_aload_n hx hb dX10_passageState_0 rfl (lv_at hl 0 rfl) ?_
  refine lv_iload_n hx hb dX10_passageState_1 rfl (lv_at hl 1 rfl) ?_
  refine lv_bipush (v := 6) hx hb dX10_passageState_2 (by decide) ?_
  obtain ⟨r1, o2, hc3, hf⟩ := bd2_some hf
  refine ca_iV C w (wn := fun _ => w_X10_passageState g h0 h1 h2 h3 h4 h5 v0_1 v0_2 v0_3 v0_4 v0_5 v0_6 v0_7 v0_8 v0_9 v0_11 v0_12 v0_13 v0_14 v0_15 v0_17 v0_20 v0_22 v0_23 v0_24 v0_25 v0_26 v0_27 v0_28 v0_29 v0_30 v0_31 v0_32 v0_33 v0_34 v0_35 v0_36 v0_37 o2 basic1 classAxles2 state3 tagAxles4 tagPlate5) (pm_k [true, true, true, true, true, true] rfl rfl (fun _ => Nat.le_of_ble_eq_true rfl) (fun _ => rfl)) (c_X10_lookAt l g F h0 h1 h2 h3 h4 h5 v0_1 v0_2 v0_3 v0_4 v0_5 v0_6 v0_7 v0_8 v0_9 v0_11 v0_12 v0_13 v0_14 v0_15 v0_17 v0_20 v0_22 v0_23 v0_24 v0_25 v0_26 v0_27 v0_28 v0_29 v0_30 v0_31 v0_32 v0_33 v0_34 v0_35 v0_36 v0_37 p1 6 thrown0 basic1 classAxles2 state3 tagAxles4 tagPlate5 r1 o2 _ hc3) k_X10_277 (rm_le (by decide) (by decide)) 0 10 rfl rfl rfl rfl hl.1 rfl (Nat.le_of_ble_eq_true rfl) dX10_passageState_4 ⟨Nat.le_of_ble_eq_true rfl, Nat.le_of_ble_eq_true rfl⟩ (cells2 := 0) (slots2 := 0) ⟨rfl, rfl⟩ (fun _ H locs w => ?_)
  obtain ⟨e1, e2⟩ := tp2 hf
  rw [hQ]
  exact rt_i C w rfl (fun _ => 0) (by rw [← e2]) e1 dX10_passageState_7

theorem dX10_tripOf_0 : decode cX10_tripOf 0 = .ok (.aload_n 0, 1) := by decide +kernel
theorem dX10_tripOf_1 : decode cX10_tripOf 1 = .ok (.iload_n 1, 1) := by decide +kernel
theorem dX10_tripOf_2 : decode cX10_tripOf 2 = .ok (.bipush 7, 2) := by decide +kernel
theorem dX10_tripOf_4 : decode cX10_tripOf 4 = .ok (.invokevirtual 277, 3) := by decide +kernel
theorem dX10_tripOf_7 : decode cX10_tripOf 7 = .ok (.ireturn, 1) := by decide +kernel
abbrev m_X10_tripOf : MD := (yX10_tripOf, cX10_tripOf, 2, (some .int))

abbrev w_X10_tripOf (g : GT) (h0 h1 h2 h3 h4 h5 : Nat) (v0_1 v0_2 v0_3 v0_4 v0_5 v0_6 v0_7 v0_8 v0_9 v0_11 v0_12 v0_13 v0_14 v0_15 v0_17 v0_20 v0_22 v0_23 v0_24 v0_25 v0_26 v0_27 v0_28 v0_29 v0_30 v0_31 v0_32 v0_33 v0_34 v0_35 v0_36 v0_37 : Value) (thrown0 : Int32) (basic1 classAxles2 state3 tagAxles4 tagPlate5 : Nat → Int32) : va_W := [(h0, .inr (10, [.int thrown0, v0_1, v0_2, v0_3, v0_4, v0_5, v0_6, v0_7, v0_8, v0_9, .ref h1, v0_11, v0_12, v0_13, v0_14, v0_15, .ref h2, v0_17, .ref h5, .ref h4, v0_20, .ref h3, v0_22, v0_23, v0_24, v0_25, v0_26, v0_27, v0_28, v0_29, v0_30, v0_31, v0_32, v0_33, v0_34, v0_35, v0_36, v0_37])), (h1, aI g 7 basic1), (h2, aI g 8 classAxles2), (h3, aI g 2524 state3), (h4, aI g 24 tagAxles4), (h5, aI g 24 tagPlate5)]
def f_X10_tripOf (F : Nat) (p1 thrown0 : Int32) (basic1 classAxles2 state3 tagAxles4 tagPlate5 : Nat → Int32) : Option (Int32 × Int32) :=
  bd2 (f_X10_lookAt F p1 7 thrown0 basic1 classAxles2 state3 tagAxles4 tagPlate5) fun r1 o2 =>
  some (r1, o2)
set_option maxHeartbeats 4000000 in
set_option maxRecDepth 100000 in
theorem c_X10_tripOf (l : Launch) (g : GT) (F : Nat) (h0 h1 h2 h3 h4 h5 : Nat) (v0_1 v0_2 v0_3 v0_4 v0_5 v0_6 v0_7 v0_8 v0_9 v0_11 v0_12 v0_13 v0_14 v0_15 v0_17 v0_20 v0_22 v0_23 v0_24 v0_25 v0_26 v0_27 v0_28 v0_29 v0_30 v0_31 v0_32 v0_33 v0_34 v0_35 v0_36 v0_37 : Value) (p1 thrown0 : Int32) (basic1 classAxles2 state3 tagAxles4 tagPlate5 : Nat → Int32) (r o_thrown0 : Int32) (sz : Nat) (hf : f_X10_tripOf F p1 thrown0 basic1 classAxles2 state3 tagAxles4 tagPlate5 = some (r, o_thrown0)) : CI l m_X10_tripOf (rml 5 0 0) g (w_X10_tripOf g h0 h1 h2 h3 h4 h5 v0_1 v0_2 v0_3 v0_4 v0_5 v0_6 v0_7 v0_8 v0_9 v0_11 v0_12 v0_13 v0_14 v0_15 v0_17 v0_20 v0_22 v0_23 v0_24 v0_25 v0_26 v0_27 v0_28 v0_29 v0_30 v0_31 v0_32 v0_33 v0_34 v0_35 v0_36 v0_37 thrown0 basic1 classAxles2 state3 tagAxles4 tagPlate5) (fun _ => w_X10_tripOf g h0 h1 h2 h3 h4 h5 v0_1 v0_2 v0_3 v0_4 v0_5 v0_6 v0_7 v0_8 v0_9 v0_11 v0_12 v0_13 v0_14 v0_15 v0_17 v0_20 v0_22 v0_23 v0_24 v0_25 v0_26 v0_27 v0_28 v0_29 v0_30 v0_31 v0_32 v0_33 v0_34 v0_35 v0_36 v0_37 o_thrown0 basic1 classAxles2 state3 tagAxles4 tagPlate5) sz [.ref h0, .int p1] r := by
  refine en_i (by decide) (Nat.le_of_ble_eq_true rfl) (fun p e s m args below meth c A ls C w hl => ?_)
  have C : Cx p s m args meth c RX10 m_X10_tripOf g A := C
  have hx := C.1
  have hb : c.code = cX10_tripOf := C.2.1
  have hl : lv_has ls 2 [(0, .ref h0), (1, .int p1)] := hl
  obtain ⟨Q, hQ⟩ : ∃ Q, Q = QI below args s g A (fun _ => w_X10_tripOf g h0 h1 h2 h3 h4 h5 v0_1 v0_2 v0_3 v0_4 v0_5 v0_6 v0_7 v0_8 v0_9 v0_11 v0_12 v0_13 v0_14 v0_15 v0_17 v0_20 v0_22 v0_23 v0_24 v0_25 v0_26 v0_27 v0_28 v0_29 v0_30 v0_31 v0_32 v0_33 v0_34 v0_35 v0_36 v0_37 o_thrown0 basic1 classAxles2 state3 tagAxles4 tagPlate5) r 0 0 := ⟨_, rfl⟩
  suffices hW : W p l e (rml 5 0 0) s m args below meth c s.heap [] 0 0 Q (F0 m 0 ls []) from (by rw [hQ] at hW; exact hW)
  unfold f_X10_tripOf at hf
  refine lv_aload_n hx hb dX10_tripOf_0 rfl (lv_at hl 0 rfl) ?_
  refine lv_iload_n hx hb dX10_tripOf_1 rfl (lv_at hl 1 rfl) ?_
  refine lv_bipush (v := 7) hx hb dX10_tripOf_2 (by decide) ?_
  obtain ⟨r1, o2, hc3, hf⟩ := bd2_some hf
  refine ca_iV C w (wn := fun _ => w_X10_tripOf g h0 h1 h2 h3 h4 h5 v0_1 v0_2 v0_3 v0_4 v0_5 v0_6 v0_7 v0_8 v0_9 v0_11 v0_12 v0_13 v0_14 v0_15 v0_17 v0_20 v0_22 v0_23 v0_24 v0_25 v0_26 v0_27 v0_28 v0_29 v0_30 v0_31 v0_32 v0_33 v0_34 v0_35 v0_36 v0_37 o2 basic1 classAxles2 state3 tagAxles4 tagPlate5) (pm_k [true, true, true, true, true, true] rfl rfl (fun _ => Nat.le_of_ble_eq_true rfl) (fun _ => rfl)) (c_X10_lookAt l g F h0 h1 h2 h3 h4 h5 v0_1 v0_2 v0_3 v0_4 v0_5 v0_6 v0_7 v0_8 v0_9 v0_11 v0_12 v0_13 v0_14 v0_15 v0_17 v0_20 v0_22 v0_23 v0_24 v0_25 v0_26 v0_27 v0_28 v0_29 v0_30 v0_31 v0_32 v0_33 v0_34 v0_35 v0_36 v0_37 p1 7 thrown0 basic1 classAxles2 state3 tagAxles4 tagPlate5 r1 o2 _ hc3) k_X10_277 (rm_le (by decide) (by decide)) 0 10 rfl rfl rfl rfl hl.1 rfl (Nat.le_of_ble_eq_true rfl) dX10_tripOf_4 ⟨Nat.le_of_ble_eq_true rfl, Nat.le_of_ble_eq_true rfl⟩ (cells2 := 0) (slots2 := 0) ⟨rfl, rfl⟩ (fun _ H locs w => ?_)
  obtain ⟨e1, e2⟩ := tp2 hf
  rw [hQ]
  exact rt_i C w rfl (fun _ => 0) (by rw [← e2]) e1 dX10_tripOf_7

theorem dX10_openMany_0 : decode cX10_openMany 0 = .ok (.iconst 0, 1) := by decide +kernel
theorem dX10_openMany_1 : decode cX10_openMany 1 = .ok (.istore_n 1, 1) := by decide +kernel
theorem dX10_openMany_2 : decode cX10_openMany 2 = .ok (.iconst 0, 1) := by decide +kernel
theorem dX10_openMany_3 : decode cX10_openMany 3 = .ok (.istore_n 2, 1) := by decide +kernel
theorem dX10_openMany_4 : decode cX10_openMany 4 = .ok (.iload_n 2, 1) := by decide +kernel
theorem dX10_openMany_5 : decode cX10_openMany 5 = .ok (.aload_n 0, 1) := by decide +kernel
theorem dX10_openMany_6 : decode cX10_openMany 6 = .ok (.getfield 44, 3) := by decide +kernel
theorem dX10_openMany_9 : decode cX10_openMany 9 = .ok (.iconst 0, 1) := by decide +kernel
theorem dX10_openMany_10 : decode cX10_openMany 10 = .ok (.iaload, 1) := by decide +kernel
theorem dX10_openMany_11 : decode cX10_openMany 11 = .ok (.if_icmp .ge 26, 3) := by decide +kernel
theorem dX10_openMany_14 : decode cX10_openMany 14 = .ok (.iload_n 1, 1) := by decide +kernel
theorem dX10_openMany_15 : decode cX10_openMany 15 = .ok (.aload_n 0, 1) := by decide +kernel
theorem dX10_openMany_16 : decode cX10_openMany 16 = .ok (.iload_n 2, 1) := by decide +kernel
theorem dX10_openMany_17 : decode cX10_openMany 17 = .ok (.iconst 3, 1) := by decide +kernel
theorem dX10_openMany_18 : decode cX10_openMany 18 = .ok (.invokevirtual 250, 3) := by decide +kernel
theorem dX10_openMany_21 : decode cX10_openMany 21 = .ok (.ifCond .ne 7, 3) := by decide +kernel
theorem dX10_openMany_24 : decode cX10_openMany 24 = .ok (.iconst 1, 1) := by decide +kernel
theorem dX10_openMany_25 : decode cX10_openMany 25 = .ok (.goto 4, 3) := by decide +kernel
theorem dX10_openMany_28 : decode cX10_openMany 28 = .ok (.iconst 0, 1) := by decide +kernel
theorem dX10_openMany_29 : decode cX10_openMany 29 = .ok (.iadd, 1) := by decide +kernel
theorem dX10_openMany_30 : decode cX10_openMany 30 = .ok (.istore_n 1, 1) := by decide +kernel
theorem dX10_openMany_31 : decode cX10_openMany 31 = .ok (.iinc 2 1, 3) := by decide +kernel
theorem dX10_openMany_34 : decode cX10_openMany 34 = .ok (.goto (-30), 3) := by decide +kernel
theorem dX10_openMany_37 : decode cX10_openMany 37 = .ok (.iload_n 1, 1) := by decide +kernel
theorem dX10_openMany_38 : decode cX10_openMany 38 = .ok (.ireturn, 1) := by decide +kernel
abbrev m_X10_openMany : MD := (yX10_openMany, cX10_openMany, 3, (some .int))

abbrev w_X10_openMany (g : GT) (h0 h1 : Nat) (v0_0 v0_1 v0_2 v0_3 v0_4 v0_5 v0_6 v0_7 v0_8 v0_9 v0_10 v0_11 v0_12 v0_13 v0_14 v0_15 v0_16 v0_17 v0_18 v0_19 v0_20 v0_22 v0_23 v0_24 v0_25 v0_26 v0_27 v0_28 v0_29 v0_30 v0_31 v0_32 v0_33 v0_34 v0_35 v0_36 v0_37 : Value) (state1 : Nat → Int32) : va_W := [(h0, .inr (10, [v0_0, v0_1, v0_2, v0_3, v0_4, v0_5, v0_6, v0_7, v0_8, v0_9, v0_10, v0_11, v0_12, v0_13, v0_14, v0_15, v0_16, v0_17, v0_18, v0_19, v0_20, .ref h1, v0_22, v0_23, v0_24, v0_25, v0_26, v0_27, v0_28, v0_29, v0_30, v0_31, v0_32, v0_33, v0_34, v0_35, v0_36, v0_37])), (h1, aI g 2524 state1)]
def f_X10_openMany_b29 (F : Nat) (k4 : (Int32 × Int32) → Option (Int32)) (state1 : Nat → Int32) (x2 s0 s1 : Int32) : Option (Int32) :=
  k4 (s1 + s0, x2 + 1)
def f_X10_openMany_h4 (F : Nat) (state1 : Nat → Int32) (k4 : (Int32 × Int32) → Option (Int32)) (x1 x2 : Int32) : Option (Int32) :=
  rd state1 2524 0 fun a1 =>
  if a1 ≤ x2 then
    some x1
  else
    bd1 (f_X10_ofPassage F x2 3 state1) fun r3 =>
    if r3 = 0 then
      f_X10_openMany_b29 F k4 state1 x2 1 x1
    else
      f_X10_openMany_b29 F k4 state1 x2 0 x1
def f_X10_openMany_L4 (F : Nat) (state1 : Nat → Int32) (z : Int32 × Int32) : Option (Int32) := lp (fun k z => f_X10_openMany_h4 F state1 k z.1 z.2) F z
def f_X10_openMany (F : Nat) (state1 : Nat → Int32) : Option (Int32) :=
  f_X10_openMany_L4 F state1 (0, 0)
set_option maxHeartbeats 4000000 in
set_option maxRecDepth 100000 in
theorem c_X10_openMany (l : Launch) (g : GT) (F : Nat) (h0 h1 : Nat) (v0_0 v0_1 v0_2 v0_3 v0_4 v0_5 v0_6 v0_7 v0_8 v0_9 v0_10 v0_11 v0_12 v0_13 v0_14 v0_15 v0_16 v0_17 v0_18 v0_19 v0_20 v0_22 v0_23 v0_24 v0_25 v0_26 v0_27 v0_28 v0_29 v0_30 v0_31 v0_32 v0_33 v0_34 v0_35 v0_36 v0_37 : Value) (state1 : Nat → Int32) (r : Int32) (sz : Nat) (hf : f_X10_openMany F state1 = some r) : CI l m_X10_openMany (rml 1 0 0) g (w_X10_openMany g h0 h1 v0_0 v0_1 v0_2 v0_3 v0_4 v0_5 v0_6 v0_7 v0_8 v0_9 v0_10 v0_11 v0_12 v0_13 v0_14 v0_15 v0_16 v0_17 v0_18 v0_19 v0_20 v0_22 v0_23 v0_24 v0_25 v0_26 v0_27 v0_28 v0_29 v0_30 v0_31 v0_32 v0_33 v0_34 v0_35 v0_36 v0_37 state1) (fun _ => w_X10_openMany g h0 h1 v0_0 v0_1 v0_2 v0_3 v0_4 v0_5 v0_6 v0_7 v0_8 v0_9 v0_10 v0_11 v0_12 v0_13 v0_14 v0_15 v0_16 v0_17 v0_18 v0_19 v0_20 v0_22 v0_23 v0_24 v0_25 v0_26 v0_27 v0_28 v0_29 v0_30 v0_31 v0_32 v0_33 v0_34 v0_35 v0_36 v0_37 state1) sz [.ref h0] r := by
  refine en_i (by decide) (Nat.le_of_ble_eq_true rfl) (fun p e s m args below meth c A ls C w hl => ?_)
  have C : Cx p s m args meth c RX10 m_X10_openMany g A := C
  have hx := C.1
  have hb : c.code = cX10_openMany := C.2.1
  have hl : lv_has ls 3 [(0, .ref h0)] := hl
  obtain ⟨Q, hQ⟩ : ∃ Q, Q = QI below args s g A (fun _ => w_X10_openMany g h0 h1 v0_0 v0_1 v0_2 v0_3 v0_4 v0_5 v0_6 v0_7 v0_8 v0_9 v0_10 v0_11 v0_12 v0_13 v0_14 v0_15 v0_16 v0_17 v0_18 v0_19 v0_20 v0_22 v0_23 v0_24 v0_25 v0_26 v0_27 v0_28 v0_29 v0_30 v0_31 v0_32 v0_33 v0_34 v0_35 v0_36 v0_37 state1) r 0 0 := ⟨_, rfl⟩
  suffices hW : W p l e (rml 1 0 0) s m args below meth c s.heap [] 0 0 Q (F0 m 0 ls []) from (by rw [hQ] at hW; exact hW)
  unfold f_X10_openMany at hf
  have L4 : ∀ (z : Int32 × Int32), f_X10_openMany_L4 F state1 z = some r → ∀ (H : Heap) (locs : List Loc) (ls : Array Slot), Wd g A (w_X10_openMany g h0 h1 v0_0 v0_1 v0_2 v0_3 v0_4 v0_5 v0_6 v0_7 v0_8 v0_9 v0_10 v0_11 v0_12 v0_13 v0_14 v0_15 v0_16 v0_17 v0_18 v0_19 v0_20 v0_22 v0_23 v0_24 v0_25 v0_26 v0_27 v0_28 v0_29 v0_30 v0_31 v0_32 v0_33 v0_34 v0_35 v0_36 v0_37 state1) s.heap H locs → lv_has ls 3 [(0, .ref h0), (1, .int z.1), (2, .int z.2)] → W p l e (rml 1 0 0) s m args below meth c H locs 0 0 Q (F0 m 4 ls []) := by
    intro z hf
    refine lp_W (r := r) (fun (z : Int32 × Int32) => ∀ (H : Heap) (locs : List Loc) (ls : Array Slot), Wd g A (w_X10_openMany g h0 h1 v0_0 v0_1 v0_2 v0_3 v0_4 v0_5 v0_6 v0_7 v0_8 v0_9 v0_10 v0_11 v0_12 v0_13 v0_14 v0_15 v0_16 v0_17 v0_18 v0_19 v0_20 v0_22 v0_23 v0_24 v0_25 v0_26 v0_27 v0_28 v0_29 v0_30 v0_31 v0_32 v0_33 v0_34 v0_35 v0_36 v0_37 state1) s.heap H locs → lv_has ls 3 [(0, .ref h0), (1, .int z.1), (2, .int z.2)] → W p l e (rml 1 0 0) s m args below meth c H locs 0 0 Q (F0 m 4 ls [])) (fun k4 z ih4 hf => ?_) F z hf
    obtain ⟨x1, x2⟩ := z
    intro H locs ls w hl
    try dsimp only at hf w hl ⊢
    unfold f_X10_openMany_h4 at hf
    have b29 : ∀ (x2 s0 s1 : Int32) (H : Heap) (locs : List Loc) (ls : Array Slot), f_X10_openMany_b29 F k4 state1 x2 s0 s1 = some r → Wd g A (w_X10_openMany g h0 h1 v0_0 v0_1 v0_2 v0_3 v0_4 v0_5 v0_6 v0_7 v0_8 v0_9 v0_10 v0_11 v0_12 v0_13 v0_14 v0_15 v0_16 v0_17 v0_18 v0_19 v0_20 v0_22 v0_23 v0_24 v0_25 v0_26 v0_27 v0_28 v0_29 v0_30 v0_31 v0_32 v0_33 v0_34 v0_35 v0_36 v0_37 state1) s.heap H locs → lv_has ls 3 [(0, .ref h0), (2, .int x2)] → W p l e (rml 1 0 0) s m args below meth c H locs 0 0 Q (F0 m 29 ls [.int s0, .int s1]) := by
      intro x2 s0 s1 H locs ls hf w hl
      unfold f_X10_openMany_b29 at hf
      refine lv_iadd hx hb dX10_openMany_29 ?_
      refine lv_istore_n (lv' := [(1, .int (s1 + s0)), (0, .ref h0), (2, .int x2)]) hx hb dX10_openMany_30 rfl hl (by decide) rfl (fun ls hl => ?_)
      refine lv_iinc (v := x2 + 1) (lv' := [(2, .int (x2 + 1)), (1, .int (s1 + s0)), (0, .ref h0)]) hx hb dX10_openMany_31 hl (k := 2) rfl rfl (by decide) rfl (fun ls hl => ?_)
      refine lv_goto (tgt := 4) hx hb dX10_openMany_34 (by decide) ?_
      exact ih4 (s1 + s0, x2 + 1) hf _ _ _ w (lv_sub hl [2, 1, 0] rfl)
    refine lv_iload_n hx hb dX10_openMany_4 rfl (lv_at hl 2 rfl) ?_
    refine lv_aload_n hx hb dX10_openMany_5 rfl (lv_at hl 0 rfl) ?_
    refine g_X10_44 C w 0 rfl rfl dX10_openMany_6 ?_
    refine lv_iconst (v := 0) hx hb dX10_openMany_9 (by decide) ?_
    obtain ⟨a1, hia1, haa1, hf⟩ := rd_some hf
    refine ial C w 1 rfl hia1 haa1 dX10_openMany_10 ?_
    refine lv_icmp_ge (tgt := 37) hx hb dX10_openMany_11 (by decide) (fun c2 => ?_) (fun c2 => ?_)
    · replace hf := it_t c2 hf
      refine lv_iload_n hx hb dX10_openMany_37 rfl (lv_at hl 1 rfl) ?_
      obtain e1 := tp1 hf
      rw [hQ]
      exact rt_i C w rfl (fun _ => 0) rfl e1 dX10_openMany_38
    · replace hf := it_f c2 hf
      refine lv_iload_n hx hb dX10_openMany_14 rfl (lv_at hl 1 rfl) ?_
      refine lv_aload_n hx hb dX10_openMany_15 rfl (lv_at hl 0 rfl) ?_
      refine lv_iload_n hx hb dX10_openMany_16 rfl (lv_at hl 2 rfl) ?_
      refine lv_iconst (v := 3) hx hb dX10_openMany_17 (by decide) ?_
      obtain ⟨r3, hc4, hf⟩ := bd1_some hf
      refine ca_iV C w (wn := fun _ => w_X10_openMany g h0 h1 v0_0 v0_1 v0_2 v0_3 v0_4 v0_5 v0_6 v0_7 v0_8 v0_9 v0_10 v0_11 v0_12 v0_13 v0_14 v0_15 v0_16 v0_17 v0_18 v0_19 v0_20 v0_22 v0_23 v0_24 v0_25 v0_26 v0_27 v0_28 v0_29 v0_30 v0_31 v0_32 v0_33 v0_34 v0_35 v0_36 v0_37 state1) (pm_k [true, true] rfl rfl (fun _ => Nat.le_of_ble_eq_true rfl) (fun _ => rfl)) (c_X10_ofPassage l g F h0 h1 v0_0 v0_1 v0_2 v0_3 v0_4 v0_5 v0_6 v0_7 v0_8 v0_9 v0_10 v0_11 v0_12 v0_13 v0_14 v0_15 v0_16 v0_17 v0_18 v0_19 v0_20 v0_22 v0_23 v0_24 v0_25 v0_26 v0_27 v0_28 v0_29 v0_30 v0_31 v0_32 v0_33 v0_34 v0_35 v0_36 v0_37 x2 3 state1 r3 _ hc4) k_X10_250 (rm_le (by decide) (by decide)) 0 10 rfl rfl rfl rfl hl.1 rfl (Nat.le_of_ble_eq_true rfl) dX10_openMany_18 ⟨Nat.le_of_ble_eq_true rfl, Nat.le_of_ble_eq_true rfl⟩ (cells2 := 0) (slots2 := 0) ⟨rfl, rfl⟩ (fun _ H locs w => ?_)
      refine lv_if_ne (tgt := 28) hx hb dX10_openMany_21 (by decide) (fun c5 => ?_) (fun c5 => ?_)
      · replace hf := it_f c5 hf
        refine lv_iconst (v := 0) hx hb dX10_openMany_28 (by decide) ?_
        exact b29 x2 0 x1 _ _ _ hf w (lv_sub hl [0, 2] rfl)
      · replace hf := it_t c5 hf
        refine lv_iconst (v := 1) hx hb dX10_openMany_24 (by decide) ?_
        refine lv_goto (tgt := 29) hx hb dX10_openMany_25 (by decide) ?_
        exact b29 x2 1 x1 _ _ _ hf w (lv_sub hl [0, 2] rfl)
  refine lv_iconst (v := 0) hx hb dX10_openMany_0 (by decide) ?_
  refine lv_istore_n (lv' := [(1, .int 0), (0, .ref h0)]) hx hb dX10_openMany_1 rfl hl (by decide) rfl (fun ls hl => ?_)
  refine lv_iconst (v := 0) hx hb dX10_openMany_2 (by decide) ?_
  refine lv_istore_n (lv' := [(2, .int 0), (1, .int 0), (0, .ref h0)]) hx hb dX10_openMany_3 rfl hl (by decide) rfl (fun ls hl => ?_)
  exact L4 (0, 0) hf _ _ _ w (lv_sub hl [2, 1, 0] rfl)

theorem dX10_openPassages_0 : decode cX10_openPassages 0 = .ok (.aload_n 0, 1) := by decide +kernel
theorem dX10_openPassages_1 : decode cX10_openPassages 1 = .ok (.aload_n 0, 1) := by decide +kernel
theorem dX10_openPassages_2 : decode cX10_openPassages 2 = .ok (.invokevirtual 280, 3) := by decide +kernel
theorem dX10_openPassages_5 : decode cX10_openPassages 5 = .ok (.invokevirtual 215, 3) := by decide +kernel
theorem dX10_openPassages_8 : decode cX10_openPassages 8 = .ok (.ireturn, 1) := by decide +kernel
abbrev m_X10_openPassages : MD := (yX10_openPassages, cX10_openPassages, 1, (some .int))
theorem q_1574 : Cond.code yX10_openMany cX10_openMany 3 (some .int) ∈ TS := ts_t 1574 (by decide +kernel) (by decide +kernel)
theorem q_1571 : Cond.methodLink RX10 280 yX10_openMany ∈ TS := ts_t 1571 (by decide +kernel) (by decide +kernel)
theorem q_1573 : Cond.instanceMethod yX10_openMany ∈ TS := ts_t 1573 (by decide +kernel) (by decide +kernel)
theorem qs_115 : Cond.selects yX10_openMany.cls yX10_openMany yX10_openMany ∈ TS := ts_s 115 (by decide +kernel) (by decide +kernel)
theorem k_X10_280 : LkV RX10 280 m_X10_openMany 0 := ⟨q_1571, q_1573, qs_115, ⟨q_11, q_1574, by decide, by decide, by decide +kernel⟩⟩
abbrev w_X10_openPassages (g : GT) (h0 h1 : Nat) (v0_1 v0_2 v0_3 v0_4 v0_5 v0_6 v0_7 v0_8 v0_9 v0_10 v0_11 v0_12 v0_13 v0_14 v0_15 v0_16 v0_17 v0_18 v0_19 v0_20 v0_22 v0_23 v0_24 v0_25 v0_26 v0_27 v0_28 v0_29 v0_30 v0_31 v0_32 v0_33 v0_34 v0_35 v0_36 v0_37 : Value) (thrown0 : Int32) (state1 : Nat → Int32) : va_W := [(h0, .inr (10, [.int thrown0, v0_1, v0_2, v0_3, v0_4, v0_5, v0_6, v0_7, v0_8, v0_9, v0_10, v0_11, v0_12, v0_13, v0_14, v0_15, v0_16, v0_17, v0_18, v0_19, v0_20, .ref h1, v0_22, v0_23, v0_24, v0_25, v0_26, v0_27, v0_28, v0_29, v0_30, v0_31, v0_32, v0_33, v0_34, v0_35, v0_36, v0_37])), (h1, aI g 2524 state1)]
def f_X10_openPassages (F : Nat) (thrown0 : Int32) (state1 : Nat → Int32) : Option (Int32 × Int32) :=
  bd1 (f_X10_openMany F state1) fun r1 =>
  bd2 (f_X10_told F r1 thrown0) fun r3 o4 =>
  some (r3, o4)
set_option maxHeartbeats 4000000 in
set_option maxRecDepth 100000 in
theorem c_X10_openPassages (l : Launch) (g : GT) (F : Nat) (h0 h1 : Nat) (v0_1 v0_2 v0_3 v0_4 v0_5 v0_6 v0_7 v0_8 v0_9 v0_10 v0_11 v0_12 v0_13 v0_14 v0_15 v0_16 v0_17 v0_18 v0_19 v0_20 v0_22 v0_23 v0_24 v0_25 v0_26 v0_27 v0_28 v0_29 v0_30 v0_31 v0_32 v0_33 v0_34 v0_35 v0_36 v0_37 : Value) (thrown0 : Int32) (state1 : Nat → Int32) (r o_thrown0 : Int32) (sz : Nat) (hf : f_X10_openPassages F thrown0 state1 = some (r, o_thrown0)) : CI l m_X10_openPassages (rml 2 0 0) g (w_X10_openPassages g h0 h1 v0_1 v0_2 v0_3 v0_4 v0_5 v0_6 v0_7 v0_8 v0_9 v0_10 v0_11 v0_12 v0_13 v0_14 v0_15 v0_16 v0_17 v0_18 v0_19 v0_20 v0_22 v0_23 v0_24 v0_25 v0_26 v0_27 v0_28 v0_29 v0_30 v0_31 v0_32 v0_33 v0_34 v0_35 v0_36 v0_37 thrown0 state1) (fun _ => w_X10_openPassages g h0 h1 v0_1 v0_2 v0_3 v0_4 v0_5 v0_6 v0_7 v0_8 v0_9 v0_10 v0_11 v0_12 v0_13 v0_14 v0_15 v0_16 v0_17 v0_18 v0_19 v0_20 v0_22 v0_23 v0_24 v0_25 v0_26 v0_27 v0_28 v0_29 v0_30 v0_31 v0_32 v0_33 v0_34 v0_35 v0_36 v0_37 o_thrown0 state1) sz [.ref h0] r := by
  refine en_i (by decide) (Nat.le_of_ble_eq_true rfl) (fun p e s m args below meth c A ls C w hl => ?_)
  have C : Cx p s m args meth c RX10 m_X10_openPassages g A := C
  have hx := C.1
  have hb : c.code = cX10_openPassages := C.2.1
  have hl : lv_has ls 1 [(0, .ref h0)] := hl
  obtain ⟨Q, hQ⟩ : ∃ Q, Q = QI below args s g A (fun _ => w_X10_openPassages g h0 h1 v0_1 v0_2 v0_3 v0_4 v0_5 v0_6 v0_7 v0_8 v0_9 v0_10 v0_11 v0_12 v0_13 v0_14 v0_15 v0_16 v0_17 v0_18 v0_19 v0_20 v0_22 v0_23 v0_24 v0_25 v0_26 v0_27 v0_28 v0_29 v0_30 v0_31 v0_32 v0_33 v0_34 v0_35 v0_36 v0_37 o_thrown0 state1) r 0 0 := ⟨_, rfl⟩
  suffices hW : W p l e (rml 2 0 0) s m args below meth c s.heap [] 0 0 Q (F0 m 0 ls []) from (by rw [hQ] at hW; exact hW)
  unfold f_X10_openPassages at hf
  refine lv_aload_n hx hb dX10_openPassages_0 rfl (lv_at hl 0 rfl) ?_
  refine lv_aload_n hx hb dX10_openPassages_1 rfl (lv_at hl 0 rfl) ?_
  obtain ⟨r1, hc2, hf⟩ := bd1_some hf
  refine ca_iV C w (wn := fun _ => w_X10_openPassages g h0 h1 v0_1 v0_2 v0_3 v0_4 v0_5 v0_6 v0_7 v0_8 v0_9 v0_10 v0_11 v0_12 v0_13 v0_14 v0_15 v0_16 v0_17 v0_18 v0_19 v0_20 v0_22 v0_23 v0_24 v0_25 v0_26 v0_27 v0_28 v0_29 v0_30 v0_31 v0_32 v0_33 v0_34 v0_35 v0_36 v0_37 thrown0 state1) (pm_k [true, true] rfl rfl (fun _ => Nat.le_of_ble_eq_true rfl) (fun _ => rfl)) (c_X10_openMany l g F h0 h1 (.int thrown0) v0_1 v0_2 v0_3 v0_4 v0_5 v0_6 v0_7 v0_8 v0_9 v0_10 v0_11 v0_12 v0_13 v0_14 v0_15 v0_16 v0_17 v0_18 v0_19 v0_20 v0_22 v0_23 v0_24 v0_25 v0_26 v0_27 v0_28 v0_29 v0_30 v0_31 v0_32 v0_33 v0_34 v0_35 v0_36 v0_37 state1 r1 _ hc2) k_X10_280 (rm_le (by decide) (by decide)) 0 10 rfl rfl rfl rfl hl.1 rfl (Nat.le_of_ble_eq_true rfl) dX10_openPassages_2 ⟨Nat.le_of_ble_eq_true rfl, Nat.le_of_ble_eq_true rfl⟩ (cells2 := 0) (slots2 := 0) ⟨rfl, rfl⟩ (fun _ H locs w => ?_)
  obtain ⟨r3, o4, hc5, hf⟩ := bd2_some hf
  refine ca_iV C w (wn := fun _ => w_X10_openPassages g h0 h1 v0_1 v0_2 v0_3 v0_4 v0_5 v0_6 v0_7 v0_8 v0_9 v0_10 v0_11 v0_12 v0_13 v0_14 v0_15 v0_16 v0_17 v0_18 v0_19 v0_20 v0_22 v0_23 v0_24 v0_25 v0_26 v0_27 v0_28 v0_29 v0_30 v0_31 v0_32 v0_33 v0_34 v0_35 v0_36 v0_37 o4 state1) (pm_k [true, false] rfl rfl (fun _ => Nat.le_of_ble_eq_true rfl) (fun _ => rfl)) (c_X10_told l g F h0 v0_1 v0_2 v0_3 v0_4 v0_5 v0_6 v0_7 v0_8 v0_9 v0_10 v0_11 v0_12 v0_13 v0_14 v0_15 v0_16 v0_17 v0_18 v0_19 v0_20 (.ref h1) v0_22 v0_23 v0_24 v0_25 v0_26 v0_27 v0_28 v0_29 v0_30 v0_31 v0_32 v0_33 v0_34 v0_35 v0_36 v0_37 r1 thrown0 r3 o4 _ hc5) k_X10_215 (rm_le (by decide) (by decide)) 0 10 rfl rfl rfl rfl hl.1 rfl (Nat.le_of_ble_eq_true rfl) dX10_openPassages_5 ⟨Nat.le_of_ble_eq_true rfl, Nat.le_of_ble_eq_true rfl⟩ (cells2 := 0) (slots2 := 0) ⟨rfl, rfl⟩ (fun _ H locs w => ?_)
  obtain ⟨e1, e2⟩ := tp2 hf
  rw [hQ]
  exact rt_i C w rfl (fun _ => 0) (by rw [← e2]) e1 dX10_openPassages_8

theorem dX10_passagesToReview_0 : decode cX10_passagesToReview 0 = .ok (.iconst 0, 1) := by decide +kernel
theorem dX10_passagesToReview_1 : decode cX10_passagesToReview 1 = .ok (.istore_n 1, 1) := by decide +kernel
theorem dX10_passagesToReview_2 : decode cX10_passagesToReview 2 = .ok (.iconst 0, 1) := by decide +kernel
theorem dX10_passagesToReview_3 : decode cX10_passagesToReview 3 = .ok (.istore_n 2, 1) := by decide +kernel
theorem dX10_passagesToReview_4 : decode cX10_passagesToReview 4 = .ok (.iload_n 2, 1) := by decide +kernel
theorem dX10_passagesToReview_5 : decode cX10_passagesToReview 5 = .ok (.aload_n 0, 1) := by decide +kernel
theorem dX10_passagesToReview_6 : decode cX10_passagesToReview 6 = .ok (.getfield 44, 3) := by decide +kernel
theorem dX10_passagesToReview_9 : decode cX10_passagesToReview 9 = .ok (.iconst 0, 1) := by decide +kernel
theorem dX10_passagesToReview_10 : decode cX10_passagesToReview 10 = .ok (.iaload, 1) := by decide +kernel
theorem dX10_passagesToReview_11 : decode cX10_passagesToReview 11 = .ok (.if_icmp .ge 34, 3) := by decide +kernel
theorem dX10_passagesToReview_14 : decode cX10_passagesToReview 14 = .ok (.iload_n 1, 1) := by decide +kernel
theorem dX10_passagesToReview_15 : decode cX10_passagesToReview 15 = .ok (.aload_n 0, 1) := by decide +kernel
theorem dX10_passagesToReview_16 : decode cX10_passagesToReview 16 = .ok (.iload_n 2, 1) := by decide +kernel
theorem dX10_passagesToReview_17 : decode cX10_passagesToReview 17 = .ok (.iconst 3, 1) := by decide +kernel
theorem dX10_passagesToReview_18 : decode cX10_passagesToReview 18 = .ok (.invokevirtual 250, 3) := by decide +kernel
theorem dX10_passagesToReview_21 : decode cX10_passagesToReview 21 = .ok (.ifCond .ne 15, 3) := by decide +kernel
theorem dX10_passagesToReview_24 : decode cX10_passagesToReview 24 = .ok (.aload_n 0, 1) := by decide +kernel
theorem dX10_passagesToReview_25 : decode cX10_passagesToReview 25 = .ok (.iload_n 2, 1) := by decide +kernel
theorem dX10_passagesToReview_26 : decode cX10_passagesToReview 26 = .ok (.invokevirtual 274, 3) := by decide +kernel
theorem dX10_passagesToReview_29 : decode cX10_passagesToReview 29 = .ok (.ifCond .eq 7, 3) := by decide +kernel
theorem dX10_passagesToReview_32 : decode cX10_passagesToReview 32 = .ok (.iconst 1, 1) := by decide +kernel
theorem dX10_passagesToReview_33 : decode cX10_passagesToReview 33 = .ok (.goto 4, 3) := by decide +kernel
theorem dX10_passagesToReview_36 : decode cX10_passagesToReview 36 = .ok (.iconst 0, 1) := by decide +kernel
theorem dX10_passagesToReview_37 : decode cX10_passagesToReview 37 = .ok (.iadd, 1) := by decide +kernel
theorem dX10_passagesToReview_38 : decode cX10_passagesToReview 38 = .ok (.istore_n 1, 1) := by decide +kernel
theorem dX10_passagesToReview_39 : decode cX10_passagesToReview 39 = .ok (.iinc 2 1, 3) := by decide +kernel
theorem dX10_passagesToReview_42 : decode cX10_passagesToReview 42 = .ok (.goto (-38), 3) := by decide +kernel
theorem dX10_passagesToReview_45 : decode cX10_passagesToReview 45 = .ok (.aload_n 0, 1) := by decide +kernel
theorem dX10_passagesToReview_46 : decode cX10_passagesToReview 46 = .ok (.iload_n 1, 1) := by decide +kernel
theorem dX10_passagesToReview_47 : decode cX10_passagesToReview 47 = .ok (.invokevirtual 215, 3) := by decide +kernel
theorem dX10_passagesToReview_50 : decode cX10_passagesToReview 50 = .ok (.ireturn, 1) := by decide +kernel
abbrev m_X10_passagesToReview : MD := (yX10_passagesToReview, cX10_passagesToReview, 3, (some .int))

abbrev w_X10_passagesToReview (g : GT) (h0 h1 h2 h3 h4 h5 : Nat) (v0_1 v0_2 v0_3 v0_4 v0_5 v0_6 v0_7 v0_8 v0_9 v0_11 v0_12 v0_13 v0_14 v0_15 v0_17 v0_20 v0_22 v0_23 v0_24 v0_25 v0_26 v0_27 v0_28 v0_29 v0_30 v0_31 v0_32 v0_33 v0_34 v0_35 v0_36 v0_37 : Value) (thrown0 : Int32) (basic1 classAxles2 state3 tagAxles4 tagPlate5 : Nat → Int32) : va_W := [(h0, .inr (10, [.int thrown0, v0_1, v0_2, v0_3, v0_4, v0_5, v0_6, v0_7, v0_8, v0_9, .ref h1, v0_11, v0_12, v0_13, v0_14, v0_15, .ref h2, v0_17, .ref h5, .ref h4, v0_20, .ref h3, v0_22, v0_23, v0_24, v0_25, v0_26, v0_27, v0_28, v0_29, v0_30, v0_31, v0_32, v0_33, v0_34, v0_35, v0_36, v0_37])), (h1, aI g 7 basic1), (h2, aI g 8 classAxles2), (h3, aI g 2524 state3), (h4, aI g 24 tagAxles4), (h5, aI g 24 tagPlate5)]
def f_X10_passagesToReview_b37 (F : Nat) (k4 : (Int32 × Int32 × Int32) → Option (Int32 × Int32)) (basic1 classAxles2 state3 tagAxles4 tagPlate5 : Nat → Int32) (x2 s0 s1 thrown0 : Int32) : Option (Int32 × Int32) :=
  k4 (s1 + s0, x2 + 1, thrown0)
def f_X10_passagesToReview_b36 (F : Nat) (k4 : (Int32 × Int32 × Int32) → Option (Int32 × Int32)) (basic1 classAxles2 state3 tagAxles4 tagPlate5 : Nat → Int32) (x2 s0 thrown0 : Int32) : Option (Int32 × Int32) :=
  f_X10_passagesToReview_b37 F k4 basic1 classAxles2 state3 tagAxles4 tagPlate5 x2 0 s0 thrown0
def f_X10_passagesToReview_h4 (F : Nat) (basic1 classAxles2 state3 tagAxles4 tagPlate5 : Nat → Int32) (k4 : (Int32 × Int32 × Int32) → Option (Int32 × Int32)) (x1 x2 thrown0 : Int32) : Option (Int32 × Int32) :=
  rd state3 2524 0 fun a1 =>
  if a1 ≤ x2 then
    bd2 (f_X10_told F x1 thrown0) fun r3 o4 =>
    some (r3, o4)
  else
    bd1 (f_X10_ofPassage F x2 3 state3) fun r6 =>
    if r6 = 0 then
      bd1 (f_X10_exceptionsOf F x2 basic1 classAxles2 state3 tagAxles4 tagPlate5) fun r9 =>
      if r9 = 0 then
        f_X10_passagesToReview_b36 F k4 basic1 classAxles2 state3 tagAxles4 tagPlate5 x2 x1 thrown0
      else
        f_X10_passagesToReview_b37 F k4 basic1 classAxles2 state3 tagAxles4 tagPlate5 x2 1 x1 thrown0
    else
      f_X10_passagesToReview_b36 F k4 basic1 classAxles2 state3 tagAxles4 tagPlate5 x2 x1 thrown0
def f_X10_passagesToReview_L4 (F : Nat) (basic1 classAxles2 state3 tagAxles4 tagPlate5 : Nat → Int32) (z : Int32 × Int32 × Int32) : Option (Int32 × Int32) := lp (fun k z => f_X10_passagesToReview_h4 F basic1 classAxles2 state3 tagAxles4 tagPlate5 k z.1 z.2.1 z.2.2) F z
def f_X10_passagesToReview (F : Nat) (thrown0 : Int32) (basic1 classAxles2 state3 tagAxles4 tagPlate5 : Nat → Int32) : Option (Int32 × Int32) :=
  f_X10_passagesToReview_L4 F basic1 classAxles2 state3 tagAxles4 tagPlate5 (0, 0, thrown0)
set_option maxHeartbeats 4000000 in
set_option maxRecDepth 100000 in
theorem c_X10_passagesToReview (l : Launch) (g : GT) (F : Nat) (h0 h1 h2 h3 h4 h5 : Nat) (v0_1 v0_2 v0_3 v0_4 v0_5 v0_6 v0_7 v0_8 v0_9 v0_11 v0_12 v0_13 v0_14 v0_15 v0_17 v0_20 v0_22 v0_23 v0_24 v0_25 v0_26 v0_27 v0_28 v0_29 v0_30 v0_31 v0_32 v0_33 v0_34 v0_35 v0_36 v0_37 : Value) (thrown0 : Int32) (basic1 classAxles2 state3 tagAxles4 tagPlate5 : Nat → Int32) (r o_thrown0 : Int32) (sz : Nat) (hf : f_X10_passagesToReview F thrown0 basic1 classAxles2 state3 tagAxles4 tagPlate5 = some (r, o_thrown0)) : CI l m_X10_passagesToReview (rml 4 0 0) g (w_X10_passagesToReview g h0 h1 h2 h3 h4 h5 v0_1 v0_2 v0_3 v0_4 v0_5 v0_6 v0_7 v0_8 v0_9 v0_11 v0_12 v0_13 v0_14 v0_15 v0_17 v0_20 v0_22 v0_23 v0_24 v0_25 v0_26 v0_27 v0_28 v0_29 v0_30 v0_31 v0_32 v0_33 v0_34 v0_35 v0_36 v0_37 thrown0 basic1 classAxles2 state3 tagAxles4 tagPlate5) (fun _ => w_X10_passagesToReview g h0 h1 h2 h3 h4 h5 v0_1 v0_2 v0_3 v0_4 v0_5 v0_6 v0_7 v0_8 v0_9 v0_11 v0_12 v0_13 v0_14 v0_15 v0_17 v0_20 v0_22 v0_23 v0_24 v0_25 v0_26 v0_27 v0_28 v0_29 v0_30 v0_31 v0_32 v0_33 v0_34 v0_35 v0_36 v0_37 o_thrown0 basic1 classAxles2 state3 tagAxles4 tagPlate5) sz [.ref h0] r := by
  refine en_i (by decide) (Nat.le_of_ble_eq_true rfl) (fun p e s m args below meth c A ls C w hl => ?_)
  have C : Cx p s m args meth c RX10 m_X10_passagesToReview g A := C
  have hx := C.1
  have hb : c.code = cX10_passagesToReview := C.2.1
  have hl : lv_has ls 3 [(0, .ref h0)] := hl
  obtain ⟨Q, hQ⟩ : ∃ Q, Q = QI below args s g A (fun _ => w_X10_passagesToReview g h0 h1 h2 h3 h4 h5 v0_1 v0_2 v0_3 v0_4 v0_5 v0_6 v0_7 v0_8 v0_9 v0_11 v0_12 v0_13 v0_14 v0_15 v0_17 v0_20 v0_22 v0_23 v0_24 v0_25 v0_26 v0_27 v0_28 v0_29 v0_30 v0_31 v0_32 v0_33 v0_34 v0_35 v0_36 v0_37 o_thrown0 basic1 classAxles2 state3 tagAxles4 tagPlate5) r 0 0 := ⟨_, rfl⟩
  suffices hW : W p l e (rml 4 0 0) s m args below meth c s.heap [] 0 0 Q (F0 m 0 ls []) from (by rw [hQ] at hW; exact hW)
  unfold f_X10_passagesToReview at hf
  have L4 : ∀ (z : Int32 × Int32 × Int32), f_X10_passagesToReview_L4 F basic1 classAxles2 state3 tagAxles4 tagPlate5 z = some (r, o_thrown0) → ∀ (H : Heap) (locs : List Loc) (ls : Array Slot), Wd g A (w_X10_passagesToReview g h0 h1 h2 h3 h4 h5 v0_1 v0_2 v0_3 v0_4 v0_5 v0_6 v0_7 v0_8 v0_9 v0_11 v0_12 v0_13 v0_14 v0_15 v0_17 v0_20 v0_22 v0_23 v0_24 v0_25 v0_26 v0_27 v0_28 v0_29 v0_30 v0_31 v0_32 v0_33 v0_34 v0_35 v0_36 v0_37 z.2.2 basic1 classAxles2 state3 tagAxles4 tagPlate5) s.heap H locs → lv_has ls 3 [(0, .ref h0), (1, .int z.1), (2, .int z.2.1)] → W p l e (rml 4 0 0) s m args below meth c H locs 0 0 Q (F0 m 4 ls []) := by
    intro z hf
    refine lp_W (r := (r, o_thrown0)) (fun (z : Int32 × Int32 × Int32) => ∀ (H : Heap) (locs : List Loc) (ls : Array Slot), Wd g A (w_X10_passagesToReview g h0 h1 h2 h3 h4 h5 v0_1 v0_2 v0_3 v0_4 v0_5 v0_6 v0_7 v0_8 v0_9 v0_11 v0_12 v0_13 v0_14 v0_15 v0_17 v0_20 v0_22 v0_23 v0_24 v0_25 v0_26 v0_27 v0_28 v0_29 v0_30 v0_31 v0_32 v0_33 v0_34 v0_35 v0_36 v0_37 z.2.2 basic1 classAxles2 state3 tagAxles4 tagPlate5) s.heap H locs → lv_has ls 3 [(0, .ref h0), (1, .int z.1), (2, .int z.2.1)] → W p l e (rml 4 0 0) s m args below meth c H locs 0 0 Q (F0 m 4 ls [])) (fun k4 z ih4 hf => ?_) F z hf
    obtain ⟨x1, x2, thrown0⟩ := z
    intro H locs ls w hl
    try dsimp only at hf w hl ⊢
    unfold f_X10_passagesToReview_h4 at hf
    have b37 : ∀ (x2 s0 s1 thrown0 : Int32) (H : Heap) (locs : List Loc) (ls : Array Slot), f_X10_passagesToReview_b37 F k4 basic1 classAxles2 state3 tagAxles4 tagPlate5 x2 s0 s1 thrown0 = some (r, o_thrown0) → Wd g A (w_X10_passagesToReview g h0 h1 h2 h3 h4 h5 v0_1 v0_2 v0_3 v0_4 v0_5 v0_6 v0_7 v0_8 v0_9 v0_11 v0_12 v0_13 v0_14 v0_15 v0_17 v0_20 v0_22 v0_23 v0_24 v0_25 v0_26 v0_27 v0_28 v0_29 v0_30 v0_31 v0_32 v0_33 v0_34 v0_35 v0_36 v0_37 thrown0 basic1 classAxles2 state3 tagAxles4 tagPlate5) s.heap H locs → lv_has ls 3 [(0, .ref h0), (2, .int x2)] → W p l e (rml 4 0 0) s m args below meth c H locs 0 0 Q (F0 m 37 ls [.int s0, .int s1]) := by
      intro x2 s0 s1 thrown0 H locs ls hf w hl
      unfold f_X10_passagesToReview_b37 at hf
      refine lv_iadd hx hb dX10_passagesToReview_37 ?_
      refine lv_istore_n (lv' := [(1, .int (s1 + s0)), (0, .ref h0), (2, .int x2)]) hx hb dX10_passagesToReview_38 rfl hl (by decide) rfl (fun ls hl => ?_)
      refine lv_iinc (v := x2 + 1) (lv' := [(2, .int (x2 + 1)), (1, .int (s1 + s0)), (0, .ref h0)]) hx hb dX10_passagesToReview_39 hl (k := 2) rfl rfl (by decide) rfl (fun ls hl => ?_)
      refine lv_goto (tgt := 4) hx hb dX10_passagesToReview_42 (by decide) ?_
      exact ih4 (s1 + s0, x2 + 1, thrown0) hf _ _ _ w (lv_sub hl [2, 1, 0] rfl)
    have b36 : ∀ (x2 s0 thrown0 : Int32) (H : Heap) (locs : List Loc) (ls : Array Slot), f_X10_passagesToReview_b36 F k4 basic1 classAxles2 state3 tagAxles4 tagPlate5 x2 s0 thrown0 = some (r, o_thrown0) → Wd g A (w_X10_passagesToReview g h0 h1 h2 h3 h4 h5 v0_1 v0_2 v0_3 v0_4 v0_5 v0_6 v0_7 v0_8 v0_9 v0_11 v0_12 v0_13 v0_14 v0_15 v0_17 v0_20 v0_22 v0_23 v0_24 v0_25 v0_26 v0_27 v0_28 v0_29 v0_30 v0_31 v0_32 v0_33 v0_34 v0_35 v0_36 v0_37 thrown0 basic1 classAxles2 state3 tagAxles4 tagPlate5) s.heap H locs → lv_has ls 3 [(0, .ref h0), (2, .int x2)] → W p l e (rml 4 0 0) s m args below meth c H locs 0 0 Q (F0 m 36 ls [.int s0]) := by
      intro x2 s0 thrown0 H locs ls hf w hl
      unfold f_X10_passagesToReview_b36 at hf
      refine lv_iconst (v := 0) hx hb dX10_passagesToReview_36 (by decide) ?_
      exact b37 x2 0 s0 thrown0 _ _ _ hf w (lv_sub hl [0, 1] rfl)
    refine lv_iload_n hx hb dX10_passagesToReview_4 rfl (lv_at hl 2 rfl) ?_
    refine lv_aload_n hx hb dX10_passagesToReview_5 rfl (lv_at hl 0 rfl) ?_
    refine g_X10_44 C w 0 rfl rfl dX10_passagesToReview_6 ?_
    refine lv_iconst (v := 0) hx hb dX10_passagesToReview_9 (by decide) ?_
    obtain ⟨a1, hia1, haa1, hf⟩ := rd_some hf
    refine ial C w 3 rfl hia1 haa1 dX10_passagesToReview_10 ?_
    refine lv_icmp_ge (tgt := 45) hx hb dX10_passagesToReview_11 (by decide) (fun c2 => ?_) (fun c2 => ?_)
    · replace hf := it_t c2 hf
      refine lv_aload_n hx hb dX10_passagesToReview_45 rfl (lv_at hl 0 rfl) ?_
      refine lv_iload_n hx hb dX10_passagesToReview_46 rfl (lv_at hl 1 rfl) ?_
      obtain ⟨r3, o4, hc5, hf⟩ := bd2_some hf
      refine ca_iV C w (wn := fun _ => w_X10_passagesToReview g h0 h1 h2 h3 h4 h5 v0_1 v0_2 v0_3 v0_4 v0_5 v0_6 v0_7 v0_8 v0_9 v0_11 v0_12 v0_13 v0_14 v0_15 v0_17 v0_20 v0_22 v0_23 v0_24 v0_25 v0_26 v0_27 v0_28 v0_29 v0_30 v0_31 v0_32 v0_33 v0_34 v0_35 v0_36 v0_37 o4 basic1 classAxles2 state3 tagAxles4 tagPlate5) (pm_k [true, false, false, false, false, false] rfl rfl (fun _ => Nat.le_of_ble_eq_true rfl) (fun _ => rfl)) (c_X10_told l g F h0 v0_1 v0_2 v0_3 v0_4 v0_5 v0_6 v0_7 v0_8 v0_9 (.ref h1) v0_11 v0_12 v0_13 v0_14 v0_15 (.ref h2) v0_17 (.ref h5) (.ref h4) v0_20 (.ref h3) v0_22 v0_23 v0_24 v0_25 v0_26 v0_27 v0_28 v0_29 v0_30 v0_31 v0_32 v0_33 v0_34 v0_35 v0_36 v0_37 x1 thrown0 r3 o4 _ hc5) k_X10_215 (rm_le (by decide) (by decide)) 0 10 rfl rfl rfl rfl hl.1 rfl (Nat.le_of_ble_eq_true rfl) dX10_passagesToReview_47 ⟨Nat.le_of_ble_eq_true rfl, Nat.le_of_ble_eq_true rfl⟩ (cells2 := 0) (slots2 := 0) ⟨rfl, rfl⟩ (fun _ H locs w => ?_)
      obtain ⟨e1, e2⟩ := tp2 hf
      rw [hQ]
      exact rt_i C w rfl (fun _ => 0) (by rw [← e2]) e1 dX10_passagesToReview_50
    · replace hf := it_f c2 hf
      refine lv_iload_n hx hb dX10_passagesToReview_14 rfl (lv_at hl 1 rfl) ?_
      refine lv_aload_n hx hb dX10_passagesToReview_15 rfl (lv_at hl 0 rfl) ?_
      refine lv_iload_n hx hb dX10_passagesToReview_16 rfl (lv_at hl 2 rfl) ?_
      refine lv_iconst (v := 3) hx hb dX10_passagesToReview_17 (by decide) ?_
      obtain ⟨r6, hc7, hf⟩ := bd1_some hf
      refine ca_iV C w (wn := fun _ => w_X10_passagesToReview g h0 h1 h2 h3 h4 h5 v0_1 v0_2 v0_3 v0_4 v0_5 v0_6 v0_7 v0_8 v0_9 v0_11 v0_12 v0_13 v0_14 v0_15 v0_17 v0_20 v0_22 v0_23 v0_24 v0_25 v0_26 v0_27 v0_28 v0_29 v0_30 v0_31 v0_32 v0_33 v0_34 v0_35 v0_36 v0_37 thrown0 basic1 classAxles2 state3 tagAxles4 tagPlate5) (pm_k [true, false, false, true, false, false] rfl rfl (fun _ => Nat.le_of_ble_eq_true rfl) (fun _ => rfl)) (c_X10_ofPassage l g F h0 h3 (.int thrown0) v0_1 v0_2 v0_3 v0_4 v0_5 v0_6 v0_7 v0_8 v0_9 (.ref h1) v0_11 v0_12 v0_13 v0_14 v0_15 (.ref h2) v0_17 (.ref h5) (.ref h4) v0_20 v0_22 v0_23 v0_24 v0_25 v0_26 v0_27 v0_28 v0_29 v0_30 v0_31 v0_32 v0_33 v0_34 v0_35 v0_36 v0_37 x2 3 state3 r6 _ hc7) k_X10_250 (rm_le (by decide) (by decide)) 0 10 rfl rfl rfl rfl hl.1 rfl (Nat.le_of_ble_eq_true rfl) dX10_passagesToReview_18 ⟨Nat.le_of_ble_eq_true rfl, Nat.le_of_ble_eq_true rfl⟩ (cells2 := 0) (slots2 := 0) ⟨rfl, rfl⟩ (fun _ H locs w => ?_)
      refine lv_if_ne (tgt := 36) hx hb dX10_passagesToReview_21 (by decide) (fun c8 => ?_) (fun c8 => ?_)
      · replace hf := it_f c8 hf
        exact b36 x2 x1 thrown0 _ _ _ hf w (lv_sub hl [0, 2] rfl)
      · replace hf := it_t c8 hf
        refine lv_aload_n hx hb dX10_passagesToReview_24 rfl (lv_at hl 0 rfl) ?_
        refine lv_iload_n hx hb dX10_passagesToReview_25 rfl (lv_at hl 2 rfl) ?_
        obtain ⟨r9, hc10, hf⟩ := bd1_some hf
        refine ca_iV C w (wn := fun _ => w_X10_passagesToReview g h0 h1 h2 h3 h4 h5 v0_1 v0_2 v0_3 v0_4 v0_5 v0_6 v0_7 v0_8 v0_9 v0_11 v0_12 v0_13 v0_14 v0_15 v0_17 v0_20 v0_22 v0_23 v0_24 v0_25 v0_26 v0_27 v0_28 v0_29 v0_30 v0_31 v0_32 v0_33 v0_34 v0_35 v0_36 v0_37 thrown0 basic1 classAxles2 state3 tagAxles4 tagPlate5) (pm_k [true, true, true, true, true, true] rfl rfl (fun _ => Nat.le_of_ble_eq_true rfl) (fun _ => rfl)) (c_X10_exceptionsOf l g F h0 h1 h2 h3 h4 h5 (.int thrown0) v0_1 v0_2 v0_3 v0_4 v0_5 v0_6 v0_7 v0_8 v0_9 v0_11 v0_12 v0_13 v0_14 v0_15 v0_17 v0_20 v0_22 v0_23 v0_24 v0_25 v0_26 v0_27 v0_28 v0_29 v0_30 v0_31 v0_32 v0_33 v0_34 v0_35 v0_36 v0_37 x2 basic1 classAxles2 state3 tagAxles4 tagPlate5 r9 _ hc10) k_X10_274 (rm_le (by decide) (by decide)) 0 10 rfl rfl rfl rfl hl.1 rfl (Nat.le_of_ble_eq_true rfl) dX10_passagesToReview_26 ⟨Nat.le_of_ble_eq_true rfl, Nat.le_of_ble_eq_true rfl⟩ (cells2 := 0) (slots2 := 0) ⟨rfl, rfl⟩ (fun _ H locs w => ?_)
        refine lv_if_eq (tgt := 36) hx hb dX10_passagesToReview_29 (by decide) (fun c11 => ?_) (fun c11 => ?_)
        · replace hf := it_t c11 hf
          exact b36 x2 x1 thrown0 _ _ _ hf w (lv_sub hl [0, 2] rfl)
        · replace hf := it_f c11 hf
          refine lv_iconst (v := 1) hx hb dX10_passagesToReview_32 (by decide) ?_
          refine lv_goto (tgt := 37) hx hb dX10_passagesToReview_33 (by decide) ?_
          exact b37 x2 1 x1 thrown0 _ _ _ hf w (lv_sub hl [0, 2] rfl)
  refine lv_iconst (v := 0) hx hb dX10_passagesToReview_0 (by decide) ?_
  refine lv_istore_n (lv' := [(1, .int 0), (0, .ref h0)]) hx hb dX10_passagesToReview_1 rfl hl (by decide) rfl (fun ls hl => ?_)
  refine lv_iconst (v := 0) hx hb dX10_passagesToReview_2 (by decide) ?_
  refine lv_istore_n (lv' := [(2, .int 0), (1, .int 0), (0, .ref h0)]) hx hb dX10_passagesToReview_3 rfl hl (by decide) rfl (fun ls hl => ?_)
  exact L4 (0, 0, thrown0) hf _ _ _ w (lv_sub hl [2, 1, 0] rfl)

theorem dX10_isConsidered_0 : decode cX10_isConsidered 0 = .ok (.aload_n 0, 1) := by decide +kernel
theorem dX10_isConsidered_1 : decode cX10_isConsidered 1 = .ok (.iload_n 1, 1) := by decide +kernel
theorem dX10_isConsidered_2 : decode cX10_isConsidered 2 = .ok (.iconst 3, 1) := by decide +kernel
theorem dX10_isConsidered_3 : decode cX10_isConsidered 3 = .ok (.invokevirtual 250, 3) := by decide +kernel
theorem dX10_isConsidered_6 : decode cX10_isConsidered 6 = .ok (.ifCond .ne 25, 3) := by decide +kernel
theorem dX10_isConsidered_9 : decode cX10_isConsidered 9 = .ok (.aload_n 0, 1) := by decide +kernel
theorem dX10_isConsidered_10 : decode cX10_isConsidered 10 = .ok (.iload_n 1, 1) := by decide +kernel
theorem dX10_isConsidered_11 : decode cX10_isConsidered 11 = .ok (.iconst 2, 1) := by decide +kernel
theorem dX10_isConsidered_12 : decode cX10_isConsidered 12 = .ok (.invokevirtual 250, 3) := by decide +kernel
theorem dX10_isConsidered_15 : decode cX10_isConsidered 15 = .ok (.iload_n 2, 1) := by decide +kernel
theorem dX10_isConsidered_16 : decode cX10_isConsidered 16 = .ok (.if_icmp .gt 15, 3) := by decide +kernel
theorem dX10_isConsidered_19 : decode cX10_isConsidered 19 = .ok (.aload_n 0, 1) := by decide +kernel
theorem dX10_isConsidered_20 : decode cX10_isConsidered 20 = .ok (.iload_n 1, 1) := by decide +kernel
theorem dX10_isConsidered_21 : decode cX10_isConsidered 21 = .ok (.invokevirtual 262, 3) := by decide +kernel
theorem dX10_isConsidered_24 : decode cX10_isConsidered 24 = .ok (.ifCond .lt 7, 3) := by decide +kernel
theorem dX10_isConsidered_27 : decode cX10_isConsidered 27 = .ok (.iconst 1, 1) := by decide +kernel
theorem dX10_isConsidered_28 : decode cX10_isConsidered 28 = .ok (.goto 4, 3) := by decide +kernel
theorem dX10_isConsidered_31 : decode cX10_isConsidered 31 = .ok (.iconst 0, 1) := by decide +kernel
theorem dX10_isConsidered_32 : decode cX10_isConsidered 32 = .ok (.ireturn, 1) := by decide +kernel
abbrev m_X10_isConsidered : MD := (yX10_isConsidered, cX10_isConsidered, 3, (some .boolean))

abbrev w_X10_isConsidered (g : GT) (h0 h1 h2 h3 : Nat) (v0_0 v0_1 v0_2 v0_3 v0_4 v0_5 v0_6 v0_7 v0_8 v0_9 v0_11 v0_12 v0_13 v0_14 v0_15 v0_16 v0_17 v0_19 v0_20 v0_22 v0_23 v0_24 v0_25 v0_26 v0_27 v0_28 v0_29 v0_30 v0_31 v0_32 v0_33 v0_34 v0_35 v0_36 v0_37 : Value) (basic1 state2 tagPlate3 : Nat → Int32) : va_W := [(h0, .inr (10, [v0_0, v0_1, v0_2, v0_3, v0_4, v0_5, v0_6, v0_7, v0_8, v0_9, .ref h1, v0_11, v0_12, v0_13, v0_14, v0_15, v0_16, v0_17, .ref h3, v0_19, v0_20, .ref h2, v0_22, v0_23, v0_24, v0_25, v0_26, v0_27, v0_28, v0_29, v0_30, v0_31, v0_32, v0_33, v0_34, v0_35, v0_36, v0_37])), (h1, aI g 7 basic1), (h2, aI g 2524 state2), (h3, aI g 24 tagPlate3)]
def f_X10_isConsidered_b32 (F : Nat) (basic1 state2 tagPlate3 : Nat → Int32) (s0 : Int32) : Option (Int32) :=
  gd (s0 = 0 ∨ s0 = 1) (some s0)
def f_X10_isConsidered_b31 (F : Nat) (basic1 state2 tagPlate3 : Nat → Int32) : Option (Int32) :=
  f_X10_isConsidered_b32 F basic1 state2 tagPlate3 0
def f_X10_isConsidered (F : Nat) (p1 p2 : Int32) (basic1 state2 tagPlate3 : Nat → Int32) : Option (Int32) :=
  bd1 (f_X10_ofPassage F p1 3 state2) fun r1 =>
  if r1 = 0 then
    bd1 (f_X10_ofPassage F p1 2 state2) fun r4 =>
    if p2 < r4 then
      f_X10_isConsidered_b31 F basic1 state2 tagPlate3
    else
      bd1 (f_X10_vehicleOf F p1 basic1 state2 tagPlate3) fun r7 =>
      if r7 < 0 then
        f_X10_isConsidered_b31 F basic1 state2 tagPlate3
      else
        f_X10_isConsidered_b32 F basic1 state2 tagPlate3 1
  else
    f_X10_isConsidered_b31 F basic1 state2 tagPlate3
set_option maxHeartbeats 4000000 in
set_option maxRecDepth 100000 in
theorem c_X10_isConsidered (l : Launch) (g : GT) (F : Nat) (h0 h1 h2 h3 : Nat) (v0_0 v0_1 v0_2 v0_3 v0_4 v0_5 v0_6 v0_7 v0_8 v0_9 v0_11 v0_12 v0_13 v0_14 v0_15 v0_16 v0_17 v0_19 v0_20 v0_22 v0_23 v0_24 v0_25 v0_26 v0_27 v0_28 v0_29 v0_30 v0_31 v0_32 v0_33 v0_34 v0_35 v0_36 v0_37 : Value) (p1 p2 : Int32) (basic1 state2 tagPlate3 : Nat → Int32) (r : Int32) (sz : Nat) (hf : f_X10_isConsidered F p1 p2 basic1 state2 tagPlate3 = some r) : CI l m_X10_isConsidered (rml 3 0 0) g (w_X10_isConsidered g h0 h1 h2 h3 v0_0 v0_1 v0_2 v0_3 v0_4 v0_5 v0_6 v0_7 v0_8 v0_9 v0_11 v0_12 v0_13 v0_14 v0_15 v0_16 v0_17 v0_19 v0_20 v0_22 v0_23 v0_24 v0_25 v0_26 v0_27 v0_28 v0_29 v0_30 v0_31 v0_32 v0_33 v0_34 v0_35 v0_36 v0_37 basic1 state2 tagPlate3) (fun _ => w_X10_isConsidered g h0 h1 h2 h3 v0_0 v0_1 v0_2 v0_3 v0_4 v0_5 v0_6 v0_7 v0_8 v0_9 v0_11 v0_12 v0_13 v0_14 v0_15 v0_16 v0_17 v0_19 v0_20 v0_22 v0_23 v0_24 v0_25 v0_26 v0_27 v0_28 v0_29 v0_30 v0_31 v0_32 v0_33 v0_34 v0_35 v0_36 v0_37 basic1 state2 tagPlate3) sz [.ref h0, .int p1, .int p2] r := by
  refine en_i (by decide) (Nat.le_of_ble_eq_true rfl) (fun p e s m args below meth c A ls C w hl => ?_)
  have C : Cx p s m args meth c RX10 m_X10_isConsidered g A := C
  have hx := C.1
  have hb : c.code = cX10_isConsidered := C.2.1
  have hl : lv_has ls 3 [(0, .ref h0), (1, .int p1), (2, .int p2)] := hl
  obtain ⟨Q, hQ⟩ : ∃ Q, Q = QI below args s g A (fun _ => w_X10_isConsidered g h0 h1 h2 h3 v0_0 v0_1 v0_2 v0_3 v0_4 v0_5 v0_6 v0_7 v0_8 v0_9 v0_11 v0_12 v0_13 v0_14 v0_15 v0_16 v0_17 v0_19 v0_20 v0_22 v0_23 v0_24 v0_25 v0_26 v0_27 v0_28 v0_29 v0_30 v0_31 v0_32 v0_33 v0_34 v0_35 v0_36 v0_37 basic1 state2 tagPlate3) r 0 0 := ⟨_, rfl⟩
  suffices hW : W p l e (rml 3 0 0) s m args below meth c s.heap [] 0 0 Q (F0 m 0 ls []) from (by rw [hQ] at hW; exact hW)
  unfold f_X10_isConsidered at hf
  have b32 : ∀ (s0 : Int32) (H : Heap) (locs : List Loc) (ls : Array Slot), f_X10_isConsidered_b32 F basic1 state2 tagPlate3 s0 = some r → Wd g A (w_X10_isConsidered g h0 h1 h2 h3 v0_0 v0_1 v0_2 v0_3 v0_4 v0_5 v0_6 v0_7 v0_8 v0_9 v0_11 v0_12 v0_13 v0_14 v0_15 v0_16 v0_17 v0_19 v0_20 v0_22 v0_23 v0_24 v0_25 v0_26 v0_27 v0_28 v0_29 v0_30 v0_31 v0_32 v0_33 v0_34 v0_35 v0_36 v0_37 basic1 state2 tagPlate3) s.heap H locs → lv_has ls 3 [] → W p l e (rml 3 0 0) s m args below meth c H locs 0 0 Q (F0 m 32 ls [.int s0]) := by
    intro s0 H locs ls hf w hl
    unfold f_X10_isConsidered_b32 at hf
    obtain ⟨h01, hf⟩ := gd_some hf
    obtain e1 := tp1 hf
    rw [hQ]
    exact rt_z C w rfl h01 (fun _ => 0) rfl e1 dX10_isConsidered_32
  have b31 : ∀ (H : Heap) (locs : List Loc) (ls : Array Slot), f_X10_isConsidered_b31 F basic1 state2 tagPlate3 = some r → Wd g A (w_X10_isConsidered g h0 h1 h2 h3 v0_0 v0_1 v0_2 v0_3 v0_4 v0_5 v0_6 v0_7 v0_8 v0_9 v0_11 v0_12 v0_13 v0_14 v0_15 v0_16 v0_17 v0_19 v0_20 v0_22 v0_23 v0_24 v0_25 v0_26 v0_27 v0_28 v0_29 v0_30 v0_31 v0_32 v0_33 v0_34 v0_35 v0_36 v0_37 basic1 state2 tagPlate3) s.heap H locs → lv_has ls 3 [] → W p l e (rml 3 0 0) s m args below meth c H locs 0 0 Q (F0 m 31 ls []) := by
    intro  H locs ls hf w hl
    unfold f_X10_isConsidered_b31 at hf
    refine lv_iconst (v := 0) hx hb dX10_isConsidered_31 (by decide) ?_
    exact b32 0 _ _ _ hf w (lv_sub hl [] rfl)
  refine lv_aload_n hx hb dX10_isConsidered_0 rfl (lv_at hl 0 rfl) ?_
  refine lv_iload_n hx hb dX10_isConsidered_1 rfl (lv_at hl 1 rfl) ?_
  refine lv_iconst (v := 3) hx hb dX10_isConsidered_2 (by decide) ?_
  obtain ⟨r1, hc2, hf⟩ := bd1_some hf
  refine ca_iV C w (wn := fun _ => w_X10_isConsidered g h0 h1 h2 h3 v0_0 v0_1 v0_2 v0_3 v0_4 v0_5 v0_6 v0_7 v0_8 v0_9 v0_11 v0_12 v0_13 v0_14 v0_15 v0_16 v0_17 v0_19 v0_20 v0_22 v0_23 v0_24 v0_25 v0_26 v0_27 v0_28 v0_29 v0_30 v0_31 v0_32 v0_33 v0_34 v0_35 v0_36 v0_37 basic1 state2 tagPlate3) (pm_k [true, false, true, false] rfl rfl (fun _ => Nat.le_of_ble_eq_true rfl) (fun _ => rfl)) (c_X10_ofPassage l g F h0 h2 v0_0 v0_1 v0_2 v0_3 v0_4 v0_5 v0_6 v0_7 v0_8 v0_9 (.ref h1) v0_11 v0_12 v0_13 v0_14 v0_15 v0_16 v0_17 (.ref h3) v0_19 v0_20 v0_22 v0_23 v0_24 v0_25 v0_26 v0_27 v0_28 v0_29 v0_30 v0_31 v0_32 v0_33 v0_34 v0_35 v0_36 v0_37 p1 3 state2 r1 _ hc2) k_X10_250 (rm_le (by decide) (by decide)) 0 10 rfl rfl rfl rfl hl.1 rfl (Nat.le_of_ble_eq_true rfl) dX10_isConsidered_3 ⟨Nat.le_of_ble_eq_true rfl, Nat.le_of_ble_eq_true rfl⟩ (cells2 := 0) (slots2 := 0) ⟨rfl, rfl⟩ (fun _ H locs w => ?_)
  refine lv_if_ne (tgt := 31) hx hb dX10_isConsidered_6 (by decide) (fun c3 => ?_) (fun c3 => ?_)
  · replace hf := it_f c3 hf
    exact b31  _ _ _ hf w (lv_sub hl [] rfl)
  · replace hf := it_t c3 hf
    refine lv_aload_n hx hb dX10_isConsidered_9 rfl (lv_at hl 0 rfl) ?_
    refine lv_iload_n hx hb dX10_isConsidered_10 rfl (lv_at hl 1 rfl) ?_
    refine lv_iconst (v := 2) hx hb dX10_isConsidered_11 (by decide) ?_
    obtain ⟨r4, hc5, hf⟩ := bd1_some hf
    refine ca_iV C w (wn := fun _ => w_X10_isConsidered g h0 h1 h2 h3 v0_0 v0_1 v0_2 v0_3 v0_4 v0_5 v0_6 v0_7 v0_8 v0_9 v0_11 v0_12 v0_13 v0_14 v0_15 v0_16 v0_17 v0_19 v0_20 v0_22 v0_23 v0_24 v0_25 v0_26 v0_27 v0_28 v0_29 v0_30 v0_31 v0_32 v0_33 v0_34 v0_35 v0_36 v0_37 basic1 state2 tagPlate3) (pm_k [true, false, true, false] rfl rfl (fun _ => Nat.le_of_ble_eq_true rfl) (fun _ => rfl)) (c_X10_ofPassage l g F h0 h2 v0_0 v0_1 v0_2 v0_3 v0_4 v0_5 v0_6 v0_7 v0_8 v0_9 (.ref h1) v0_11 v0_12 v0_13 v0_14 v0_15 v0_16 v0_17 (.ref h3) v0_19 v0_20 v0_22 v0_23 v0_24 v0_25 v0_26 v0_27 v0_28 v0_29 v0_30 v0_31 v0_32 v0_33 v0_34 v0_35 v0_36 v0_37 p1 2 state2 r4 _ hc5) k_X10_250 (rm_le (by decide) (by decide)) 0 10 rfl rfl rfl rfl hl.1 rfl (Nat.le_of_ble_eq_true rfl) dX10_isConsidered_12 ⟨Nat.le_of_ble_eq_true rfl, Nat.le_of_ble_eq_true rfl⟩ (cells2 := 0) (slots2 := 0) ⟨rfl, rfl⟩ (fun _ H locs w => ?_)
    refine lv_iload_n hx hb dX10_isConsidered_15 rfl (lv_at hl 2 rfl) ?_
    refine lv_icmp_gt (tgt := 31) hx hb dX10_isConsidered_16 (by decide) (fun c6 => ?_) (fun c6 => ?_)
    · replace hf := it_t c6 hf
      exact b31  _ _ _ hf w (lv_sub hl [] rfl)
    · replace hf := it_f c6 hf
      refine lv_aload_n hx hb dX10_isConsidered_19 rfl (lv_at hl 0 rfl) ?_
      refine lv_iload_n hx hb dX10_isConsidered_20 rfl (lv_at hl 1 rfl) ?_
      obtain ⟨r7, hc8, hf⟩ := bd1_some hf
      refine ca_iV C w (wn := fun _ => w_X10_isConsidered g h0 h1 h2 h3 v0_0 v0_1 v0_2 v0_3 v0_4 v0_5 v0_6 v0_7 v0_8 v0_9 v0_11 v0_12 v0_13 v0_14 v0_15 v0_16 v0_17 v0_19 v0_20 v0_22 v0_23 v0_24 v0_25 v0_26 v0_27 v0_28 v0_29 v0_30 v0_31 v0_32 v0_33 v0_34 v0_35 v0_36 v0_37 basic1 state2 tagPlate3) (pm_k [true, true, true, true] rfl rfl (fun _ => Nat.le_of_ble_eq_true rfl) (fun _ => rfl)) (c_X10_vehicleOf l g F h0 h1 h2 h3 v0_0 v0_1 v0_2 v0_3 v0_4 v0_5 v0_6 v0_7 v0_8 v0_9 v0_11 v0_12 v0_13 v0_14 v0_15 v0_16 v0_17 v0_19 v0_20 v0_22 v0_23 v0_24 v0_25 v0_26 v0_27 v0_28 v0_29 v0_30 v0_31 v0_32 v0_33 v0_34 v0_35 v0_36 v0_37 p1 basic1 state2 tagPlate3 r7 _ hc8) k_X10_262 (rm_le (by decide) (by decide)) 0 10 rfl rfl rfl rfl hl.1 rfl (Nat.le_of_ble_eq_true rfl) dX10_isConsidered_21 ⟨Nat.le_of_ble_eq_true rfl, Nat.le_of_ble_eq_true rfl⟩ (cells2 := 0) (slots2 := 0) ⟨rfl, rfl⟩ (fun _ H locs w => ?_)
      refine lv_if_lt (tgt := 31) hx hb dX10_isConsidered_24 (by decide) (fun c9 => ?_) (fun c9 => ?_)
      · replace hf := it_t c9 hf
        exact b31  _ _ _ hf w (lv_sub hl [] rfl)
      · replace hf := it_f c9 hf
        refine lv_iconst (v := 1) hx hb dX10_isConsidered_27 (by decide) ?_
        refine lv_goto (tgt := 32) hx hb dX10_isConsidered_28 (by decide) ?_
        exact b32 1 _ _ _ hf w (lv_sub hl [] rfl)

theorem dX10_lowestAt_0 : decode cX10_lowestAt 0 = .ok (.iconst 0, 1) := by decide +kernel
theorem dX10_lowestAt_1 : decode cX10_lowestAt 1 = .ok (.istore_n 2, 1) := by decide +kernel
theorem dX10_lowestAt_2 : decode cX10_lowestAt 2 = .ok (.iconst 0, 1) := by decide +kernel
theorem dX10_lowestAt_3 : decode cX10_lowestAt 3 = .ok (.istore_n 3, 1) := by decide +kernel
theorem dX10_lowestAt_4 : decode cX10_lowestAt 4 = .ok (.iload_n 3, 1) := by decide +kernel
theorem dX10_lowestAt_5 : decode cX10_lowestAt 5 = .ok (.aload_n 0, 1) := by decide +kernel
theorem dX10_lowestAt_6 : decode cX10_lowestAt 6 = .ok (.getfield 13, 3) := by decide +kernel
theorem dX10_lowestAt_9 : decode cX10_lowestAt 9 = .ok (.iconst 1, 1) := by decide +kernel
theorem dX10_lowestAt_10 : decode cX10_lowestAt 10 = .ok (.iaload, 1) := by decide +kernel
theorem dX10_lowestAt_11 : decode cX10_lowestAt 11 = .ok (.if_icmp .ge 50, 3) := by decide +kernel
theorem dX10_lowestAt_14 : decode cX10_lowestAt 14 = .ok (.aload_n 0, 1) := by decide +kernel
theorem dX10_lowestAt_15 : decode cX10_lowestAt 15 = .ok (.getfield 20, 3) := by decide +kernel
theorem dX10_lowestAt_18 : decode cX10_lowestAt 18 = .ok (.iload_n 3, 1) := by decide +kernel
theorem dX10_lowestAt_19 : decode cX10_lowestAt 19 = .ok (.iaload, 1) := by decide +kernel
theorem dX10_lowestAt_20 : decode cX10_lowestAt 20 = .ok (.iload_n 1, 1) := by decide +kernel
theorem dX10_lowestAt_21 : decode cX10_lowestAt 21 = .ok (.if_icmp .eq 13, 3) := by decide +kernel
theorem dX10_lowestAt_24 : decode cX10_lowestAt 24 = .ok (.aload_n 0, 1) := by decide +kernel
theorem dX10_lowestAt_25 : decode cX10_lowestAt 25 = .ok (.getfield 23, 3) := by decide +kernel
theorem dX10_lowestAt_28 : decode cX10_lowestAt 28 = .ok (.iload_n 3, 1) := by decide +kernel
theorem dX10_lowestAt_29 : decode cX10_lowestAt 29 = .ok (.iaload, 1) := by decide +kernel
theorem dX10_lowestAt_30 : decode cX10_lowestAt 30 = .ok (.iload_n 1, 1) := by decide +kernel
theorem dX10_lowestAt_31 : decode cX10_lowestAt 31 = .ok (.if_icmp .ne 24, 3) := by decide +kernel
theorem dX10_lowestAt_34 : decode cX10_lowestAt 34 = .ok (.iload_n 2, 1) := by decide +kernel
theorem dX10_lowestAt_35 : decode cX10_lowestAt 35 = .ok (.ifCond .eq 13, 3) := by decide +kernel
theorem dX10_lowestAt_38 : decode cX10_lowestAt 38 = .ok (.aload_n 0, 1) := by decide +kernel
theorem dX10_lowestAt_39 : decode cX10_lowestAt 39 = .ok (.getfield 29, 3) := by decide +kernel
theorem dX10_lowestAt_42 : decode cX10_lowestAt 42 = .ok (.iload_n 3, 1) := by decide +kernel
theorem dX10_lowestAt_43 : decode cX10_lowestAt 43 = .ok (.iaload, 1) := by decide +kernel
theorem dX10_lowestAt_44 : decode cX10_lowestAt 44 = .ok (.iload_n 2, 1) := by decide +kernel
theorem dX10_lowestAt_45 : decode cX10_lowestAt 45 = .ok (.if_icmp .ge 10, 3) := by decide +kernel
theorem dX10_lowestAt_48 : decode cX10_lowestAt 48 = .ok (.aload_n 0, 1) := by decide +kernel
theorem dX10_lowestAt_49 : decode cX10_lowestAt 49 = .ok (.getfield 29, 3) := by decide +kernel
theorem dX10_lowestAt_52 : decode cX10_lowestAt 52 = .ok (.iload_n 3, 1) := by decide +kernel
theorem dX10_lowestAt_53 : decode cX10_lowestAt 53 = .ok (.iaload, 1) := by decide +kernel
theorem dX10_lowestAt_54 : decode cX10_lowestAt 54 = .ok (.istore_n 2, 1) := by decide +kernel
theorem dX10_lowestAt_55 : decode cX10_lowestAt 55 = .ok (.iinc 3 1, 3) := by decide +kernel
theorem dX10_lowestAt_58 : decode cX10_lowestAt 58 = .ok (.goto (-54), 3) := by decide +kernel
theorem dX10_lowestAt_61 : decode cX10_lowestAt 61 = .ok (.iload_n 2, 1) := by decide +kernel
theorem dX10_lowestAt_62 : decode cX10_lowestAt 62 = .ok (.ireturn, 1) := by decide +kernel
abbrev m_X10_lowestAt : MD := (yX10_lowestAt, cX10_lowestAt, 4, (some .int))

abbrev w_X10_lowestAt (g : GT) (h0 h1 h2 h3 h4 : Nat) (v0_0 v0_1 v0_2 v0_3 v0_4 v0_5 v0_6 v0_7 v0_8 v0_9 v0_11 v0_14 v0_16 v0_17 v0_18 v0_19 v0_20 v0_21 v0_22 v0_23 v0_24 v0_25 v0_26 v0_27 v0_28 v0_29 v0_30 v0_31 v0_32 v0_33 v0_34 v0_35 v0_36 v0_37 : Value) (basic1 linkFrom2 linkPrice3 linkTo4 : Nat → Int32) : va_W := [(h0, .inr (10, [v0_0, v0_1, v0_2, v0_3, v0_4, v0_5, v0_6, v0_7, v0_8, v0_9, .ref h1, v0_11, .ref h2, .ref h4, v0_14, .ref h3, v0_16, v0_17, v0_18, v0_19, v0_20, v0_21, v0_22, v0_23, v0_24, v0_25, v0_26, v0_27, v0_28, v0_29, v0_30, v0_31, v0_32, v0_33, v0_34, v0_35, v0_36, v0_37])), (h1, aI g 7 basic1), (h2, aI g 48 linkFrom2), (h3, aI g 48 linkPrice3), (h4, aI g 48 linkTo4)]
def f_X10_lowestAt_b55 (F : Nat) (k4 : (Int32 × Int32 × Int32) → Option (Int32)) (basic1 linkFrom2 linkPrice3 linkTo4 : Nat → Int32) (x1 x2 x3 : Int32) : Option (Int32) :=
  k4 (x1, x2, x3 + 1)
def f_X10_lowestAt_b48 (F : Nat) (k4 : (Int32 × Int32 × Int32) → Option (Int32)) (basic1 linkFrom2 linkPrice3 linkTo4 : Nat → Int32) (x1 x3 : Int32) : Option (Int32) :=
  rd linkPrice3 48 x3 fun a1 =>
  f_X10_lowestAt_b55 F k4 basic1 linkFrom2 linkPrice3 linkTo4 x1 a1 x3
def f_X10_lowestAt_b34 (F : Nat) (k4 : (Int32 × Int32 × Int32) → Option (Int32)) (basic1 linkFrom2 linkPrice3 linkTo4 : Nat → Int32) (x1 x2 x3 : Int32) : Option (Int32) :=
  if x2 = 0 then
    f_X10_lowestAt_b48 F k4 basic1 linkFrom2 linkPrice3 linkTo4 x1 x3
  else
    rd linkPrice3 48 x3 fun a3 =>
    if x2 ≤ a3 then
      f_X10_lowestAt_b55 F k4 basic1 linkFrom2 linkPrice3 linkTo4 x1 x2 x3
    else
      f_X10_lowestAt_b48 F k4 basic1 linkFrom2 linkPrice3 linkTo4 x1 x3
def f_X10_lowestAt_h4 (F : Nat) (basic1 linkFrom2 linkPrice3 linkTo4 : Nat → Int32) (k4 : (Int32 × Int32 × Int32) → Option (Int32)) (x1 x2 x3 : Int32) : Option (Int32) :=
  rd basic1 7 1 fun a5 =>
  if a5 ≤ x3 then
    some x2
  else
    rd linkFrom2 48 x3 fun a7 =>
    if a7 = x1 then
      f_X10_lowestAt_b34 F k4 basic1 linkFrom2 linkPrice3 linkTo4 x1 x2 x3
    else
      rd linkTo4 48 x3 fun a9 =>
      if a9 = x1 then
        f_X10_lowestAt_b34 F k4 basic1 linkFrom2 linkPrice3 linkTo4 x1 x2 x3
      else
        f_X10_lowestAt_b55 F k4 basic1 linkFrom2 linkPrice3 linkTo4 x1 x2 x3
def f_X10_lowestAt_L4 (F : Nat) (basic1 linkFrom2 linkPrice3 linkTo4 : Nat → Int32) (z : Int32 × Int32 × Int32) : Option (Int32) := lp (fun k z => f_X10_lowestAt_h4 F basic1 linkFrom2 linkPrice3 linkTo4 k z.1 z.2.1 z.2.2) F z
def f_X10_lowestAt (F : Nat) (p1 : Int32) (basic1 linkFrom2 linkPrice3 linkTo4 : Nat → Int32) : Option (Int32) :=
  f_X10_lowestAt_L4 F basic1 linkFrom2 linkPrice3 linkTo4 (p1, 0, 0)
set_option maxHeartbeats 4000000 in
set_option maxRecDepth 100000 in
theorem c_X10_lowestAt (l : Launch) (g : GT) (F : Nat) (h0 h1 h2 h3 h4 : Nat) (v0_0 v0_1 v0_2 v0_3 v0_4 v0_5 v0_6 v0_7 v0_8 v0_9 v0_11 v0_14 v0_16 v0_17 v0_18 v0_19 v0_20 v0_21 v0_22 v0_23 v0_24 v0_25 v0_26 v0_27 v0_28 v0_29 v0_30 v0_31 v0_32 v0_33 v0_34 v0_35 v0_36 v0_37 : Value) (p1 : Int32) (basic1 linkFrom2 linkPrice3 linkTo4 : Nat → Int32) (r : Int32) (sz : Nat) (hf : f_X10_lowestAt F p1 basic1 linkFrom2 linkPrice3 linkTo4 = some r) : CI l m_X10_lowestAt (rml 0 0 0) g (w_X10_lowestAt g h0 h1 h2 h3 h4 v0_0 v0_1 v0_2 v0_3 v0_4 v0_5 v0_6 v0_7 v0_8 v0_9 v0_11 v0_14 v0_16 v0_17 v0_18 v0_19 v0_20 v0_21 v0_22 v0_23 v0_24 v0_25 v0_26 v0_27 v0_28 v0_29 v0_30 v0_31 v0_32 v0_33 v0_34 v0_35 v0_36 v0_37 basic1 linkFrom2 linkPrice3 linkTo4) (fun _ => w_X10_lowestAt g h0 h1 h2 h3 h4 v0_0 v0_1 v0_2 v0_3 v0_4 v0_5 v0_6 v0_7 v0_8 v0_9 v0_11 v0_14 v0_16 v0_17 v0_18 v0_19 v0_20 v0_21 v0_22 v0_23 v0_24 v0_25 v0_26 v0_27 v0_28 v0_29 v0_30 v0_31 v0_32 v0_33 v0_34 v0_35 v0_36 v0_37 basic1 linkFrom2 linkPrice3 linkTo4) sz [.ref h0, .int p1] r := by
  refine en_i (by decide) (Nat.le_of_ble_eq_true rfl) (fun p e s m args below meth c A ls C w hl => ?_)
  have C : Cx p s m args meth c RX10 m_X10_lowestAt g A := C
  have hx := C.1
  have hb : c.code = cX10_lowestAt := C.2.1
  have hl : lv_has ls 4 [(0, .ref h0), (1, .int p1)] := hl
  obtain ⟨Q, hQ⟩ : ∃ Q, Q = QI below args s g A (fun _ => w_X10_lowestAt g h0 h1 h2 h3 h4 v0_0 v0_1 v0_2 v0_3 v0_4 v0_5 v0_6 v0_7 v0_8 v0_9 v0_11 v0_14 v0_16 v0_17 v0_18 v0_19 v0_20 v0_21 v0_22 v0_23 v0_24 v0_25 v0_26 v0_27 v0_28 v0_29 v0_30 v0_31 v0_32 v0_33 v0_34 v0_35 v0_36 v0_37 basic1 linkFrom2 linkPrice3 linkTo4) r 0 0 := ⟨_, rfl⟩
  suffices hW : W p l e (rml 0 0 0) s m args below meth c s.heap [] 0 0 Q (F0 m 0 ls []) from (by rw [hQ] at hW; exact hW)
  unfold f_X10_lowestAt at hf
  have L4 : ∀ (z : Int32 × Int32 × Int32), f_X10_lowestAt_L4 F basic1 linkFrom2 linkPrice3 linkTo4 z = some r → ∀ (H : Heap) (locs : List Loc) (ls : Array Slot), Wd g A (w_X10_lowestAt g h0 h1 h2 h3 h4 v0_0 v0_1 v0_2 v0_3 v0_4 v0_5 v0_6 v0_7 v0_8 v0_9 v0_11 v0_14 v0_16 v0_17 v0_18 v0_19 v0_20 v0_21 v0_22 v0_23 v0_24 v0_25 v0_26 v0_27 v0_28 v0_29 v0_30 v0_31 v0_32 v0_33 v0_34 v0_35 v0_36 v0_37 basic1 linkFrom2 linkPrice3 linkTo4) s.heap H locs → lv_has ls 4 [(0, .ref h0), (1, .int z.1), (2, .int z.2.1), (3, .int z.2.2)] → W p l e (rml 0 0 0) s m args below meth c H locs 0 0 Q (F0 m 4 ls []) := by
    intro z hf
    refine lp_W (r := r) (fun (z : Int32 × Int32 × Int32) => ∀ (H : Heap) (locs : List Loc) (ls : Array Slot), Wd g A (w_X10_lowestAt g h0 h1 h2 h3 h4 v0_0 v0_1 v0_2 v0_3 v0_4 v0_5 v0_6 v0_7 v0_8 v0_9 v0_11 v0_14 v0_16 v0_17 v0_18 v0_19 v0_20 v0_21 v0_22 v0_23 v0_24 v0_25 v0_26 v0_27 v0_28 v0_29 v0_30 v0_31 v0_32 v0_33 v0_34 v0_35 v0_36 v0_37 basic1 linkFrom2 linkPrice3 linkTo4) s.heap H locs → lv_has ls 4 [(0, .ref h0), (1, .int z.1), (2, .int z.2.1), (3, .int z.2.2)] → W p l e (rml 0 0 0) s m args below meth c H locs 0 0 Q (F0 m 4 ls [])) (fun k4 z ih4 hf => ?_) F z hf
    obtain ⟨x1, x2, x3⟩ := z
    intro H locs ls w hl
    try dsimp only at hf w hl ⊢
    unfold f_X10_lowestAt_h4 at hf
    have b55 : ∀ (x1 x2 x3 : Int32) (H : Heap) (locs : List Loc) (ls : Array Slot), f_X10_lowestAt_b55 F k4 basic1 linkFrom2 linkPrice3 linkTo4 x1 x2 x3 = some r → Wd g A (w_X10_lowestAt g h0 h1 h2 h3 h4 v0_0 v0_1 v0_2 v0_3 v0_4 v0_5 v0_6 v0_7 v0_8 v0_9 v0_11 v0_14 v0_16 v0_17 v0_18 v0_19 v0_20 v0_21 v0_22 v0_23 v0_24 v0_25 v0_26 v0_27 v0_28 v0_29 v0_30 v0_31 v0_32 v0_33 v0_34 v0_35 v0_36 v0_37 basic1 linkFrom2 linkPrice3 linkTo4) s.heap H locs → lv_has ls 4 [(0, .ref h0), (1, .int x1), (2, .int x2), (3, .int x3)] → W p l e (rml 0 0 0) s m args below meth c H locs 0 0 Q (F0 m 55 ls []) := by
      intro x1 x2 x3 H locs ls hf w hl
      unfold f_X10_lowestAt_b55 at hf
      refine lv_iinc (v := x3 + 1) (lv' := [(3, .int (x3 + 1)), (0, .ref h0), (1, .int x1), (2, .int x2)]) hx hb dX10_lowestAt_55 hl (k := 3) rfl rfl (by decide) rfl (fun ls hl => ?_)
      refine lv_goto (tgt := 4) hx hb dX10_lowestAt_58 (by decide) ?_
      exact ih4 (x1, x2, x3 + 1) hf _ _ _ w (lv_sub hl [1, 2, 3, 0] rfl)
    have b48 : ∀ (x1 x3 : Int32) (H : Heap) (locs : List Loc) (ls : Array Slot), f_X10_lowestAt_b48 F k4 basic1 linkFrom2 linkPrice3 linkTo4 x1 x3 = some r → Wd g A (w_X10_lowestAt g h0 h1 h2 h3 h4 v0_0 v0_1 v0_2 v0_3 v0_4 v0_5 v0_6 v0_7 v0_8 v0_9 v0_11 v0_14 v0_16 v0_17 v0_18 v0_19 v0_20 v0_21 v0_22 v0_23 v0_24 v0_25 v0_26 v0_27 v0_28 v0_29 v0_30 v0_31 v0_32 v0_33 v0_34 v0_35 v0_36 v0_37 basic1 linkFrom2 linkPrice3 linkTo4) s.heap H locs → lv_has ls 4 [(0, .ref h0), (1, .int x1), (3, .int x3)] → W p l e (rml 0 0 0) s m args below meth c H locs 0 0 Q (F0 m 48 ls []) := by
      intro x1 x3 H locs ls hf w hl
      unfold f_X10_lowestAt_b48 at hf
      refine lv_aload_n hx hb dX10_lowestAt_48 rfl (lv_at hl 0 rfl) ?_
      refine g_X10_29 C w 0 rfl rfl dX10_lowestAt_49 ?_
      refine lv_iload_n hx hb dX10_lowestAt_52 rfl (lv_at hl 2 rfl) ?_
      obtain ⟨a1, hia1, haa1, hf⟩ := rd_some hf
      refine ial C w 3 rfl hia1 haa1 dX10_lowestAt_53 ?_
      refine lv_istore_n (lv' := [(2, .int a1), (0, .ref h0), (1, .int x1), (3, .int x3)]) hx hb dX10_lowestAt_54 rfl hl (by decide) rfl (fun ls hl => ?_)
      exact b55 x1 a1 x3 _ _ _ hf w (lv_sub hl [1, 2, 0, 3] rfl)
    have b34 : ∀ (x1 x2 x3 : Int32) (H : Heap) (locs : List Loc) (ls : Array Slot), f_X10_lowestAt_b34 F k4 basic1 linkFrom2 linkPrice3 linkTo4 x1 x2 x3 = some r → Wd g A (w_X10_lowestAt g h0 h1 h2 h3 h4 v0_0 v0_1 v0_2 v0_3 v0_4 v0_5 v0_6 v0_7 v0_8 v0_9 v0_11 v0_14 v0_16 v0_17 v0_18 v0_19 v0_20 v0_21 v0_22 v0_23 v0_24 v0_25 v0_26 v0_27 v0_28 v0_29 v0_30 v0_31 v0_32 v0_33 v0_34 v0_35 v0_36 v0_37 basic1 linkFrom2 linkPrice3 linkTo4) s.heap H locs → lv_has ls 4 [(0, .ref h0), (1, .int x1), (2, .int x2), (3, .int x3)] → W p l e (rml 0 0 0) s m args below meth c H locs 0 0 Q (F0 m 34 ls []) := by
      intro x1 x2 x3 H locs ls hf w hl
      unfold f_X10_lowestAt_b34 at hf
      refine lv_iload_n hx hb dX10_lowestAt_34 rfl (lv_at hl 2 rfl) ?_
      refine lv_if_eq (tgt := 48) hx hb dX10_lowestAt_35 (by decide) (fun c2 => ?_) (fun c2 => ?_)
      · replace hf := it_t c2 hf
        exact b48 x1 x3 _ _ _ hf w (lv_sub hl [0, 1, 3] rfl)
      · replace hf := it_f c2 hf
        refine lv_aload_n hx hb dX10_lowestAt_38 rfl (lv_at hl 0 rfl) ?_
        refine g_X10_29 C w 0 rfl rfl dX10_lowestAt_39 ?_
        refine lv_iload_n hx hb dX10_lowestAt_42 rfl (lv_at hl 3 rfl) ?_
        obtain ⟨a3, hia3, haa3, hf⟩ := rd_some hf
        refine ial C w 3 rfl hia3 haa3 dX10_lowestAt_43 ?_
        refine lv_iload_n hx hb dX10_lowestAt_44 rfl (lv_at hl 2 rfl) ?_
        refine lv_icmp_ge (tgt := 55) hx hb dX10_lowestAt_45 (by decide) (fun c4 => ?_) (fun c4 => ?_)
        · replace hf := it_t c4 hf
          exact b55 x1 x2 x3 _ _ _ hf w (lv_sub hl [0, 1, 2, 3] rfl)
        · replace hf := it_f c4 hf
          exact b48 x1 x3 _ _ _ hf w (lv_sub hl [0, 1, 3] rfl)
    refine lv_iload_n hx hb dX10_lowestAt_4 rfl (lv_at hl 3 rfl) ?_
    refine lv_aload_n hx hb dX10_lowestAt_5 rfl (lv_at hl 0 rfl) ?_
    refine g_X10_13 C w 0 rfl rfl dX10_lowestAt_6 ?_
    refine lv_iconst (v := 1) hx hb dX10_lowestAt_9 (by decide) ?_
    obtain ⟨a5, hia5, haa5, hf⟩ := rd_some hf
    refine ial C w 1 rfl hia5 haa5 dX10_lowestAt_10 ?_
    refine lv_icmp_ge (tgt := 61) hx hb dX10_lowestAt_11 (by decide) (fun c6 => ?_) (fun c6 => ?_)
    · replace hf := it_t c6 hf
      refine lv_iload_n hx hb dX10_lowestAt_61 rfl (lv_at hl 2 rfl) ?_
      obtain e1 := tp1 hf
      rw [hQ]
      exact rt_i C w rfl (fun _ => 0) rfl e1 dX10_lowestAt_62
    · replace hf := it_f c6 hf
      refine lv_aload_n hx hb dX10_lowestAt_14 rfl (lv_at hl 0 rfl) ?_
      refine g_X10_20 C w 0 rfl rfl dX10_lowestAt_15 ?_
      refine lv_iload_n hx hb dX10_lowestAt_18 rfl (lv_at hl 3 rfl) ?_
      obtain ⟨a7, hia7, haa7, hf⟩ := rd_some hf
      refine ial C w 2 rfl hia7 haa7 dX10_lowestAt_19 ?_
      refine lv_iload_n hx hb dX10_lowestAt_20 rfl (lv_at hl 1 rfl) ?_
      refine lv_icmp_eq (tgt := 34) hx hb dX10_lowestAt_21 (by decide) (fun c8 => ?_) (fun c8 => ?_)
      · replace hf := it_t c8 hf
        exact b34 x1 x2 x3 _ _ _ hf w (lv_sub hl [0, 1, 2, 3] rfl)
      · replace hf := it_f c8 hf
        refine lv_aload_n hx hb dX10_lowestAt_24 rfl (lv_at hl 0 rfl) ?_
        refine g_X10_23 C w 0 rfl rfl dX10_lowestAt_25 ?_
        refine lv_iload_n hx hb dX10_lowestAt_28 rfl (lv_at hl 3 rfl) ?_
        obtain ⟨a9, hia9, haa9, hf⟩ := rd_some hf
        refine ial C w 4 rfl hia9 haa9 dX10_lowestAt_29 ?_
        refine lv_iload_n hx hb dX10_lowestAt_30 rfl (lv_at hl 1 rfl) ?_
        refine lv_icmp_ne (tgt := 55) hx hb dX10_lowestAt_31 (by decide) (fun c10 => ?_) (fun c10 => ?_)
        · replace hf := it_f c10 hf
          exact b55 x1 x2 x3 _ _ _ hf w (lv_sub hl [0, 1, 2, 3] rfl)
        · replace hf := it_t c10 hf
          exact b34 x1 x2 x3 _ _ _ hf w (lv_sub hl [0, 1, 2, 3] rfl)
  refine lv_iconst (v := 0) hx hb dX10_lowestAt_0 (by decide) ?_
  refine lv_istore_n (lv' := [(2, .int 0), (0, .ref h0), (1, .int p1)]) hx hb dX10_lowestAt_1 rfl hl (by decide) rfl (fun ls hl => ?_)
  refine lv_iconst (v := 0) hx hb dX10_lowestAt_2 (by decide) ?_
  refine lv_istore_n (lv' := [(3, .int 0), (2, .int 0), (0, .ref h0), (1, .int p1)]) hx hb dX10_lowestAt_3 rfl hl (by decide) rfl (fun ls hl => ?_)
  exact L4 (p1, 0, 0) hf _ _ _ w (lv_sub hl [2, 3, 1, 0] rfl)

theorem dX10_legLinks_0 : decode cX10_legLinks 0 = .ok (.aload_n 0, 1) := by decide +kernel
theorem dX10_legLinks_1 : decode cX10_legLinks 1 = .ok (.aload_n 0, 1) := by decide +kernel
theorem dX10_legLinks_2 : decode cX10_legLinks 2 = .ok (.iload_n 1, 1) := by decide +kernel
theorem dX10_legLinks_3 : decode cX10_legLinks 3 = .ok (.iconst 0, 1) := by decide +kernel
theorem dX10_legLinks_4 : decode cX10_legLinks 4 = .ok (.invokevirtual 250, 3) := by decide +kernel
theorem dX10_legLinks_7 : decode cX10_legLinks 7 = .ok (.aload_n 0, 1) := by decide +kernel
theorem dX10_legLinks_8 : decode cX10_legLinks 8 = .ok (.iload_n 2, 1) := by decide +kernel
theorem dX10_legLinks_9 : decode cX10_legLinks 9 = .ok (.iconst 0, 1) := by decide +kernel
theorem dX10_legLinks_10 : decode cX10_legLinks 10 = .ok (.invokevirtual 250, 3) := by decide +kernel
theorem dX10_legLinks_13 : decode cX10_legLinks 13 = .ok (.aload_n 0, 1) := by decide +kernel
theorem dX10_legLinks_14 : decode cX10_legLinks 14 = .ok (.iload_n 2, 1) := by decide +kernel
theorem dX10_legLinks_15 : decode cX10_legLinks 15 = .ok (.iconst 2, 1) := by decide +kernel
theorem dX10_legLinks_16 : decode cX10_legLinks 16 = .ok (.invokevirtual 250, 3) := by decide +kernel
theorem dX10_legLinks_19 : decode cX10_legLinks 19 = .ok (.aload_n 0, 1) := by decide +kernel
theorem dX10_legLinks_20 : decode cX10_legLinks 20 = .ok (.iload_n 1, 1) := by decide +kernel
theorem dX10_legLinks_21 : decode cX10_legLinks 21 = .ok (.iconst 2, 1) := by decide +kernel
theorem dX10_legLinks_22 : decode cX10_legLinks 22 = .ok (.invokevirtual 250, 3) := by decide +kernel
theorem dX10_legLinks_25 : decode cX10_legLinks 25 = .ok (.isub, 1) := by decide +kernel
theorem dX10_legLinks_26 : decode cX10_legLinks 26 = .ok (.invokevirtual 247, 3) := by decide +kernel
theorem dX10_legLinks_29 : decode cX10_legLinks 29 = .ok (.ireturn, 1) := by decide +kernel
abbrev m_X10_legLinks : MD := (yX10_legLinks, cX10_legLinks, 3, (some .int))

abbrev w_X10_legLinks (g : GT) (h0 h1 h2 h3 h4 h5 h6 h7 h8 : Nat) (v0_0 v0_1 v0_2 v0_3 v0_4 v0_5 v0_6 v0_7 v0_8 v0_9 v0_11 v0_16 v0_17 v0_18 v0_19 v0_20 v0_22 v0_23 v0_24 v0_25 v0_30 v0_31 v0_32 v0_33 v0_34 v0_35 v0_36 v0_37 : Value) (routeMany0 routeCost0 : Int32) (basic1 linkFrom2 linkMinutes3 linkPrice4 linkTo5 route6 state7 tried8 : Nat → Int32) : va_W := [(h0, .inr (10, [v0_0, v0_1, v0_2, v0_3, v0_4, v0_5, v0_6, v0_7, v0_8, v0_9, .ref h1, v0_11, .ref h2, .ref h5, .ref h3, .ref h4, v0_16, v0_17, v0_18, v0_19, v0_20, .ref h7, v0_22, v0_23, v0_24, v0_25, .int routeMany0, .int routeCost0, .ref h6, .ref h8, v0_30, v0_31, v0_32, v0_33, v0_34, v0_35, v0_36, v0_37])), (h1, aI g 7 basic1), (h2, aI g 48 linkFrom2), (h3, aI g 48 linkMinutes3), (h4, aI g 48 linkPrice4), (h5, aI g 48 linkTo5), (h6, aI g 4 route6), (h7, aI g 2524 state7), (h8, aI g 4 tried8)]
def f_X10_legLinks (F : Nat) (p1 p2 routeMany0 routeCost0 : Int32) (basic1 linkFrom2 linkMinutes3 linkPrice4 linkTo5 route6 state7 tried8 : Nat → Int32) : Option (Int32 × Int32 × Int32 × (Nat → Int32) × (Nat → Int32)) :=
  bd1 (f_X10_ofPassage F p1 0 state7) fun r1 =>
  bd1 (f_X10_ofPassage F p2 0 state7) fun r3 =>
  bd1 (f_X10_ofPassage F p2 2 state7) fun r5 =>
  bd1 (f_X10_ofPassage F p1 2 state7) fun r7 =>
  bd5 (f_X10_layRoute F r1 r3 (r5 - r7) routeMany0 routeCost0 basic1 linkFrom2 linkMinutes3 linkPrice4 linkTo5 route6 tried8) fun r9 o10 o11 o12 o13 =>
  some (r9, o10, o11, o12, o13)
set_option maxHeartbeats 4000000 in
set_option maxRecDepth 100000 in
theorem c_X10_legLinks (l : Launch) (g : GT) (F : Nat) (h0 h1 h2 h3 h4 h5 h6 h7 h8 : Nat) (v0_0 v0_1 v0_2 v0_3 v0_4 v0_5 v0_6 v0_7 v0_8 v0_9 v0_11 v0_16 v0_17 v0_18 v0_19 v0_20 v0_22 v0_23 v0_24 v0_25 v0_30 v0_31 v0_32 v0_33 v0_34 v0_35 v0_36 v0_37 : Value) (p1 p2 routeMany0 routeCost0 : Int32) (basic1 linkFrom2 linkMinutes3 linkPrice4 linkTo5 route6 state7 tried8 : Nat → Int32) (r o_routeMany0 o_routeCost0 : Int32) (o_route6 o_tried8 : Nat → Int32) (sz : Nat) (hf : f_X10_legLinks F p1 p2 routeMany0 routeCost0 basic1 linkFrom2 linkMinutes3 linkPrice4 linkTo5 route6 state7 tried8 = some (r, o_routeMany0, o_routeCost0, o_route6, o_tried8)) : CI l m_X10_legLinks (rml 7 0 0) g (w_X10_legLinks g h0 h1 h2 h3 h4 h5 h6 h7 h8 v0_0 v0_1 v0_2 v0_3 v0_4 v0_5 v0_6 v0_7 v0_8 v0_9 v0_11 v0_16 v0_17 v0_18 v0_19 v0_20 v0_22 v0_23 v0_24 v0_25 v0_30 v0_31 v0_32 v0_33 v0_34 v0_35 v0_36 v0_37 routeMany0 routeCost0 basic1 linkFrom2 linkMinutes3 linkPrice4 linkTo5 route6 state7 tried8) (fun _ => w_X10_legLinks g h0 h1 h2 h3 h4 h5 h6 h7 h8 v0_0 v0_1 v0_2 v0_3 v0_4 v0_5 v0_6 v0_7 v0_8 v0_9 v0_11 v0_16 v0_17 v0_18 v0_19 v0_20 v0_22 v0_23 v0_24 v0_25 v0_30 v0_31 v0_32 v0_33 v0_34 v0_35 v0_36 v0_37 o_routeMany0 o_routeCost0 basic1 linkFrom2 linkMinutes3 linkPrice4 linkTo5 o_route6 state7 o_tried8) sz [.ref h0, .int p1, .int p2] r := by
  refine en_i (by decide) (Nat.le_of_ble_eq_true rfl) (fun p e s m args below meth c A ls C w hl => ?_)
  have C : Cx p s m args meth c RX10 m_X10_legLinks g A := C
  have hx := C.1
  have hb : c.code = cX10_legLinks := C.2.1
  have hl : lv_has ls 3 [(0, .ref h0), (1, .int p1), (2, .int p2)] := hl
  obtain ⟨Q, hQ⟩ : ∃ Q, Q = QI below args s g A (fun _ => w_X10_legLinks g h0 h1 h2 h3 h4 h5 h6 h7 h8 v0_0 v0_1 v0_2 v0_3 v0_4 v0_5 v0_6 v0_7 v0_8 v0_9 v0_11 v0_16 v0_17 v0_18 v0_19 v0_20 v0_22 v0_23 v0_24 v0_25 v0_30 v0_31 v0_32 v0_33 v0_34 v0_35 v0_36 v0_37 o_routeMany0 o_routeCost0 basic1 linkFrom2 linkMinutes3 linkPrice4 linkTo5 o_route6 state7 o_tried8) r 0 0 := ⟨_, rfl⟩
  suffices hW : W p l e (rml 7 0 0) s m args below meth c s.heap [] 0 0 Q (F0 m 0 ls []) from (by rw [hQ] at hW; exact hW)
  unfold f_X10_legLinks at hf
  refine lv_aload_n hx hb dX10_legLinks_0 rfl (lv_at hl 0 rfl) ?_
  refine lv_aload_n hx hb dX10_legLinks_1 rfl (lv_at hl 0 rfl) ?_
  refine lv_iload_n hx hb dX10_legLinks_2 rfl (lv_at hl 1 rfl) ?_
  refine lv_iconst (v := 0) hx hb dX10_legLinks_3 (by decide) ?_
  obtain ⟨r1, hc2, hf⟩ := bd1_some hf
  refine ca_iV C w (wn := fun _ => w_X10_legLinks g h0 h1 h2 h3 h4 h5 h6 h7 h8 v0_0 v0_1 v0_2 v0_3 v0_4 v0_5 v0_6 v0_7 v0_8 v0_9 v0_11 v0_16 v0_17 v0_18 v0_19 v0_20 v0_22 v0_23 v0_24 v0_25 v0_30 v0_31 v0_32 v0_33 v0_34 v0_35 v0_36 v0_37 routeMany0 routeCost0 basic1 linkFrom2 linkMinutes3 linkPrice4 linkTo5 route6 state7 tried8) (pm_k [true, false, false, false, false, false, false, true, false] rfl rfl (fun _ => Nat.le_of_ble_eq_true rfl) (fun _ => rfl)) (c_X10_ofPassage l g F h0 h7 v0_0 v0_1 v0_2 v0_3 v0_4 v0_5 v0_6 v0_7 v0_8 v0_9 (.ref h1) v0_11 (.ref h2) (.ref h5) (.ref h3) (.ref h4) v0_16 v0_17 v0_18 v0_19 v0_20 v0_22 v0_23 v0_24 v0_25 (.int routeMany0) (.int routeCost0) (.ref h6) (.ref h8) v0_30 v0_31 v0_32 v0_33 v0_34 v0_35 v0_36 v0_37 p1 0 state7 r1 _ hc2) k_X10_250 (rm_le (by decide) (by decide)) 0 10 rfl rfl rfl rfl hl.1 rfl (Nat.le_of_ble_eq_true rfl) dX10_legLinks_4 ⟨Nat.le_of_ble_eq_true rfl, Nat.le_of_ble_eq_true rfl⟩ (cells2 := 0) (slots2 := 0) ⟨rfl, rfl⟩ (fun _ H locs w => ?_)
  refine lv_aload_n hx hb dX10_legLinks_7 rfl (lv_at hl 0 rfl) ?_
  refine lv_iload_n hx hb dX10_legLinks_8 rfl (lv_at hl 2 rfl) ?_
  refine lv_iconst (v := 0) hx hb dX10_legLinks_9 (by decide) ?_
  obtain ⟨r3, hc4, hf⟩ := bd1_some hf
  refine ca_iV C w (wn := fun _ => w_X10_legLinks g h0 h1 h2 h3 h4 h5 h6 h7 h8 v0_0 v0_1 v0_2 v0_3 v0_4 v0_5 v0_6 v0_7 v0_8 v0_9 v0_11 v0_16 v0_17 v0_18 v0_19 v0_20 v0_22 v0_23 v0_24 v0_25 v0_30 v0_31 v0_32 v0_33 v0_34 v0_35 v0_36 v0_37 routeMany0 routeCost0 basic1 linkFrom2 linkMinutes3 linkPrice4 linkTo5 route6 state7 tried8) (pm_k [true, false, false, false, false, false, false, true, false] rfl rfl (fun _ => Nat.le_of_ble_eq_true rfl) (fun _ => rfl)) (c_X10_ofPassage l g F h0 h7 v0_0 v0_1 v0_2 v0_3 v0_4 v0_5 v0_6 v0_7 v0_8 v0_9 (.ref h1) v0_11 (.ref h2) (.ref h5) (.ref h3) (.ref h4) v0_16 v0_17 v0_18 v0_19 v0_20 v0_22 v0_23 v0_24 v0_25 (.int routeMany0) (.int routeCost0) (.ref h6) (.ref h8) v0_30 v0_31 v0_32 v0_33 v0_34 v0_35 v0_36 v0_37 p2 0 state7 r3 _ hc4) k_X10_250 (rm_le (by decide) (by decide)) 0 10 rfl rfl rfl rfl hl.1 rfl (Nat.le_of_ble_eq_true rfl) dX10_legLinks_10 ⟨Nat.le_of_ble_eq_true rfl, Nat.le_of_ble_eq_true rfl⟩ (cells2 := 0) (slots2 := 0) ⟨rfl, rfl⟩ (fun _ H locs w => ?_)
  refine lv_aload_n hx hb dX10_legLinks_13 rfl (lv_at hl 0 rfl) ?_
  refine lv_iload_n hx hb dX10_legLinks_14 rfl (lv_at hl 2 rfl) ?_
  refine lv_iconst (v := 2) hx hb dX10_legLinks_15 (by decide) ?_
  obtain ⟨r5, hc6, hf⟩ := bd1_some hf
  refine ca_iV C w (wn := fun _ => w_X10_legLinks g h0 h1 h2 h3 h4 h5 h6 h7 h8 v0_0 v0_1 v0_2 v0_3 v0_4 v0_5 v0_6 v0_7 v0_8 v0_9 v0_11 v0_16 v0_17 v0_18 v0_19 v0_20 v0_22 v0_23 v0_24 v0_25 v0_30 v0_31 v0_32 v0_33 v0_34 v0_35 v0_36 v0_37 routeMany0 routeCost0 basic1 linkFrom2 linkMinutes3 linkPrice4 linkTo5 route6 state7 tried8) (pm_k [true, false, false, false, false, false, false, true, false] rfl rfl (fun _ => Nat.le_of_ble_eq_true rfl) (fun _ => rfl)) (c_X10_ofPassage l g F h0 h7 v0_0 v0_1 v0_2 v0_3 v0_4 v0_5 v0_6 v0_7 v0_8 v0_9 (.ref h1) v0_11 (.ref h2) (.ref h5) (.ref h3) (.ref h4) v0_16 v0_17 v0_18 v0_19 v0_20 v0_22 v0_23 v0_24 v0_25 (.int routeMany0) (.int routeCost0) (.ref h6) (.ref h8) v0_30 v0_31 v0_32 v0_33 v0_34 v0_35 v0_36 v0_37 p2 2 state7 r5 _ hc6) k_X10_250 (rm_le (by decide) (by decide)) 0 10 rfl rfl rfl rfl hl.1 rfl (Nat.le_of_ble_eq_true rfl) dX10_legLinks_16 ⟨Nat.le_of_ble_eq_true rfl, Nat.le_of_ble_eq_true rfl⟩ (cells2 := 0) (slots2 := 0) ⟨rfl, rfl⟩ (fun _ H locs w => ?_)
  refine lv_aload_n hx hb dX10_legLinks_19 rfl (lv_at hl 0 rfl) ?_
  refine lv_iload_n hx hb dX10_legLinks_20 rfl (lv_at hl 1 rfl) ?_
  refine lv_iconst (v := 2) hx hb dX10_legLinks_21 (by decide) ?_
  obtain ⟨r7, hc8, hf⟩ := bd1_some hf
  refine ca_iV C w (wn := fun _ => w_X10_legLinks g h0 h1 h2 h3 h4 h5 h6 h7 h8 v0_0 v0_1 v0_2 v0_3 v0_4 v0_5 v0_6 v0_7 v0_8 v0_9 v0_11 v0_16 v0_17 v0_18 v0_19 v0_20 v0_22 v0_23 v0_24 v0_25 v0_30 v0_31 v0_32 v0_33 v0_34 v0_35 v0_36 v0_37 routeMany0 routeCost0 basic1 linkFrom2 linkMinutes3 linkPrice4 linkTo5 route6 state7 tried8) (pm_k [true, false, false, false, false, false, false, true, false] rfl rfl (fun _ => Nat.le_of_ble_eq_true rfl) (fun _ => rfl)) (c_X10_ofPassage l g F h0 h7 v0_0 v0_1 v0_2 v0_3 v0_4 v0_5 v0_6 v0_7 v0_8 v0_9 (.ref h1) v0_11 (.ref h2) (.ref h5) (.ref h3) (.ref h4) v0_16 v0_17 v0_18 v0_19 v0_20 v0_22 v0_23 v0_24 v0_25 (.int routeMany0) (.int routeCost0) (.ref h6) (.ref h8) v0_30 v0_31 v0_32 v0_33 v0_34 v0_35 v0_36 v0_37 p1 2 state7 r7 _ hc8) k_X10_250 (rm_le (by decide) (by decide)) 0 10 rfl rfl rfl rfl hl.1 rfl (Nat.le_of_ble_eq_true rfl) dX10_legLinks_22 ⟨Nat.le_of_ble_eq_true rfl, Nat.le_of_ble_eq_true rfl⟩ (cells2 := 0) (slots2 := 0) ⟨rfl, rfl⟩ (fun _ H locs w => ?_)
  refine lv_isub hx hb dX10_legLinks_25 ?_
  obtain ⟨r9, o10, o11, o12, o13, hc14, hf⟩ := bd5_some hf
  refine ca_iV C w (wn := fun _ => w_X10_legLinks g h0 h1 h2 h3 h4 h5 h6 h7 h8 v0_0 v0_1 v0_2 v0_3 v0_4 v0_5 v0_6 v0_7 v0_8 v0_9 v0_11 v0_16 v0_17 v0_18 v0_19 v0_20 v0_22 v0_23 v0_24 v0_25 v0_30 v0_31 v0_32 v0_33 v0_34 v0_35 v0_36 v0_37 o10 o11 basic1 linkFrom2 linkMinutes3 linkPrice4 linkTo5 o12 state7 o13) (pm_k [true, true, true, true, true, true, true, false, true] rfl rfl (fun _ => Nat.le_of_ble_eq_true rfl) (fun _ => rfl)) (c_X10_layRoute l g F h0 h1 h2 h3 h4 h5 h6 h8 v0_0 v0_1 v0_2 v0_3 v0_4 v0_5 v0_6 v0_7 v0_8 v0_9 v0_11 v0_16 v0_17 v0_18 v0_19 v0_20 (.ref h7) v0_22 v0_23 v0_24 v0_25 v0_30 v0_31 v0_32 v0_33 v0_34 v0_35 v0_36 v0_37 r1 r3 (r5 - r7) routeMany0 routeCost0 basic1 linkFrom2 linkMinutes3 linkPrice4 linkTo5 route6 tried8 r9 o10 o11 o12 o13 _ hc14) k_X10_247 (rm_le (by decide) (by decide)) 0 10 rfl rfl rfl rfl hl.1 rfl (Nat.le_of_ble_eq_true rfl) dX10_legLinks_26 ⟨Nat.le_of_ble_eq_true rfl, Nat.le_of_ble_eq_true rfl⟩ (cells2 := 0) (slots2 := 0) ⟨rfl, rfl⟩ (fun _ H locs w => ?_)
  obtain ⟨e1, e2, e3, e4, e5⟩ := tp5 hf
  rw [hQ]
  exact rt_i C w rfl (fun _ => 0) (by rw [← e2, ← e3, ← e4, ← e5]) e1 dX10_legLinks_29

theorem dX10_layVehicle_0 : decode cX10_layVehicle 0 = .ok (.aload_n 0, 1) := by decide +kernel
theorem dX10_layVehicle_1 : decode cX10_layVehicle 1 = .ok (.iload_n 1, 1) := by decide +kernel
theorem dX10_layVehicle_2 : decode cX10_layVehicle 2 = .ok (.invokevirtual 262, 3) := by decide +kernel
theorem dX10_layVehicle_5 : decode cX10_layVehicle 5 = .ok (.istore_n 3, 1) := by decide +kernel
theorem dX10_layVehicle_6 : decode cX10_layVehicle 6 = .ok (.aload_n 0, 1) := by decide +kernel
theorem dX10_layVehicle_7 : decode cX10_layVehicle 7 = .ok (.getfield 75, 3) := by decide +kernel
theorem dX10_layVehicle_10 : decode cX10_layVehicle 10 = .ok (.aload_n 0, 1) := by decide +kernel
theorem dX10_layVehicle_11 : decode cX10_layVehicle 11 = .ok (.getfield 283, 3) := by decide +kernel
theorem dX10_layVehicle_14 : decode cX10_layVehicle 14 = .ok (.iload_n 3, 1) := by decide +kernel
theorem dX10_layVehicle_15 : decode cX10_layVehicle 15 = .ok (.iastore, 1) := by decide +kernel
theorem dX10_layVehicle_16 : decode cX10_layVehicle 16 = .ok (.iconst (-1), 1) := by decide +kernel
theorem dX10_layVehicle_17 : decode cX10_layVehicle 17 = .ok (.istore 4, 2) := by decide +kernel
theorem dX10_layVehicle_19 : decode cX10_layVehicle 19 = .ok (.iload_n 1, 1) := by decide +kernel
theorem dX10_layVehicle_20 : decode cX10_layVehicle 20 = .ok (.istore 5, 2) := by decide +kernel
theorem dX10_layVehicle_22 : decode cX10_layVehicle 22 = .ok (.iload 5, 2) := by decide +kernel
theorem dX10_layVehicle_24 : decode cX10_layVehicle 24 = .ok (.aload_n 0, 1) := by decide +kernel
theorem dX10_layVehicle_25 : decode cX10_layVehicle 25 = .ok (.getfield 44, 3) := by decide +kernel
theorem dX10_layVehicle_28 : decode cX10_layVehicle 28 = .ok (.iconst 0, 1) := by decide +kernel
theorem dX10_layVehicle_29 : decode cX10_layVehicle 29 = .ok (.iaload, 1) := by decide +kernel
theorem dX10_layVehicle_30 : decode cX10_layVehicle 30 = .ok (.if_icmp .ge 113, 3) := by decide +kernel
theorem dX10_layVehicle_33 : decode cX10_layVehicle 33 = .ok (.aload_n 0, 1) := by decide +kernel
theorem dX10_layVehicle_34 : decode cX10_layVehicle 34 = .ok (.iload 5, 2) := by decide +kernel
theorem dX10_layVehicle_36 : decode cX10_layVehicle 36 = .ok (.iload_n 2, 1) := by decide +kernel
theorem dX10_layVehicle_37 : decode cX10_layVehicle 37 = .ok (.invokevirtual 286, 3) := by decide +kernel
theorem dX10_layVehicle_40 : decode cX10_layVehicle 40 = .ok (.ifCond .eq 97, 3) := by decide +kernel
theorem dX10_layVehicle_43 : decode cX10_layVehicle 43 = .ok (.aload_n 0, 1) := by decide +kernel
theorem dX10_layVehicle_44 : decode cX10_layVehicle 44 = .ok (.iload 5, 2) := by decide +kernel
theorem dX10_layVehicle_46 : decode cX10_layVehicle 46 = .ok (.invokevirtual 262, 3) := by decide +kernel
theorem dX10_layVehicle_49 : decode cX10_layVehicle 49 = .ok (.iload_n 3, 1) := by decide +kernel
theorem dX10_layVehicle_50 : decode cX10_layVehicle 50 = .ok (.if_icmp .eq 6, 3) := by decide +kernel
theorem dX10_layVehicle_53 : decode cX10_layVehicle 53 = .ok (.goto 84, 3) := by decide +kernel
theorem dX10_layVehicle_56 : decode cX10_layVehicle 56 = .ok (.iload 4, 2) := by decide +kernel
theorem dX10_layVehicle_58 : decode cX10_layVehicle 58 = .ok (.ifCond .lt 14, 3) := by decide +kernel
theorem dX10_layVehicle_61 : decode cX10_layVehicle 61 = .ok (.aload_n 0, 1) := by decide +kernel
theorem dX10_layVehicle_62 : decode cX10_layVehicle 62 = .ok (.iload 4, 2) := by decide +kernel
theorem dX10_layVehicle_64 : decode cX10_layVehicle 64 = .ok (.iload 5, 2) := by decide +kernel
theorem dX10_layVehicle_66 : decode cX10_layVehicle 66 = .ok (.invokevirtual 289, 3) := by decide +kernel
theorem dX10_layVehicle_69 : decode cX10_layVehicle 69 = .ok (.ifCond .ne 36, 3) := by decide +kernel
theorem dX10_layVehicle_72 : decode cX10_layVehicle 72 = .ok (.aload_n 0, 1) := by decide +kernel
theorem dX10_layVehicle_73 : decode cX10_layVehicle 73 = .ok (.getfield 63, 3) := by decide +kernel
theorem dX10_layVehicle_76 : decode cX10_layVehicle 76 = .ok (.aload_n 0, 1) := by decide +kernel
theorem dX10_layVehicle_77 : decode cX10_layVehicle 77 = .ok (.getfield 292, 3) := by decide +kernel
theorem dX10_layVehicle_80 : decode cX10_layVehicle 80 = .ok (.aload_n 0, 1) := by decide +kernel
theorem dX10_layVehicle_81 : decode cX10_layVehicle 81 = .ok (.getfield 283, 3) := by decide +kernel
theorem dX10_layVehicle_84 : decode cX10_layVehicle 84 = .ok (.iastore, 1) := by decide +kernel
theorem dX10_layVehicle_85 : decode cX10_layVehicle 85 = .ok (.aload_n 0, 1) := by decide +kernel
theorem dX10_layVehicle_86 : decode cX10_layVehicle 86 = .ok (.getfield 72, 3) := by decide +kernel
theorem dX10_layVehicle_89 : decode cX10_layVehicle 89 = .ok (.aload_n 0, 1) := by decide +kernel
theorem dX10_layVehicle_90 : decode cX10_layVehicle 90 = .ok (.getfield 292, 3) := by decide +kernel
theorem dX10_layVehicle_93 : decode cX10_layVehicle 93 = .ok (.iconst 0, 1) := by decide +kernel
theorem dX10_layVehicle_94 : decode cX10_layVehicle 94 = .ok (.iastore, 1) := by decide +kernel
theorem dX10_layVehicle_95 : decode cX10_layVehicle 95 = .ok (.aload_n 0, 1) := by decide +kernel
theorem dX10_layVehicle_96 : decode cX10_layVehicle 96 = .ok (.dup, 1) := by decide +kernel
theorem dX10_layVehicle_97 : decode cX10_layVehicle 97 = .ok (.getfield 292, 3) := by decide +kernel
theorem dX10_layVehicle_100 : decode cX10_layVehicle 100 = .ok (.iconst 1, 1) := by decide +kernel
theorem dX10_layVehicle_101 : decode cX10_layVehicle 101 = .ok (.iadd, 1) := by decide +kernel
theorem dX10_layVehicle_102 : decode cX10_layVehicle 102 = .ok (.putfield 292, 3) := by decide +kernel
theorem dX10_layVehicle_105 : decode cX10_layVehicle 105 = .ok (.aload_n 0, 1) := by decide +kernel
theorem dX10_layVehicle_106 : decode cX10_layVehicle 106 = .ok (.getfield 78, 3) := by decide +kernel
theorem dX10_layVehicle_109 : decode cX10_layVehicle 109 = .ok (.iload 5, 2) := by decide +kernel
theorem dX10_layVehicle_111 : decode cX10_layVehicle 111 = .ok (.aload_n 0, 1) := by decide +kernel
theorem dX10_layVehicle_112 : decode cX10_layVehicle 112 = .ok (.getfield 292, 3) := by decide +kernel
theorem dX10_layVehicle_115 : decode cX10_layVehicle 115 = .ok (.iconst 1, 1) := by decide +kernel
theorem dX10_layVehicle_116 : decode cX10_layVehicle 116 = .ok (.isub, 1) := by decide +kernel
theorem dX10_layVehicle_117 : decode cX10_layVehicle 117 = .ok (.iastore, 1) := by decide +kernel
theorem dX10_layVehicle_118 : decode cX10_layVehicle 118 = .ok (.aload_n 0, 1) := by decide +kernel
theorem dX10_layVehicle_119 : decode cX10_layVehicle 119 = .ok (.getfield 72, 3) := by decide +kernel
theorem dX10_layVehicle_122 : decode cX10_layVehicle 122 = .ok (.aload_n 0, 1) := by decide +kernel
theorem dX10_layVehicle_123 : decode cX10_layVehicle 123 = .ok (.getfield 292, 3) := by decide +kernel
theorem dX10_layVehicle_126 : decode cX10_layVehicle 126 = .ok (.iconst 1, 1) := by decide +kernel
theorem dX10_layVehicle_127 : decode cX10_layVehicle 127 = .ok (.isub, 1) := by decide +kernel
theorem dX10_layVehicle_128 : decode cX10_layVehicle 128 = .ok (.dup2, 1) := by decide +kernel
theorem dX10_layVehicle_129 : decode cX10_layVehicle 129 = .ok (.iaload, 1) := by decide +kernel
theorem dX10_layVehicle_130 : decode cX10_layVehicle 130 = .ok (.iconst 1, 1) := by decide +kernel
theorem dX10_layVehicle_131 : decode cX10_layVehicle 131 = .ok (.iadd, 1) := by decide +kernel
theorem dX10_layVehicle_132 : decode cX10_layVehicle 132 = .ok (.iastore, 1) := by decide +kernel
theorem dX10_layVehicle_133 : decode cX10_layVehicle 133 = .ok (.iload 5, 2) := by decide +kernel
theorem dX10_layVehicle_135 : decode cX10_layVehicle 135 = .ok (.istore 4, 2) := by decide +kernel
theorem dX10_layVehicle_137 : decode cX10_layVehicle 137 = .ok (.iinc 5 1, 3) := by decide +kernel
theorem dX10_layVehicle_140 : decode cX10_layVehicle 140 = .ok (.goto (-118), 3) := by decide +kernel
theorem dX10_layVehicle_143 : decode cX10_layVehicle 143 = .ok (.aload_n 0, 1) := by decide +kernel
theorem dX10_layVehicle_144 : decode cX10_layVehicle 144 = .ok (.dup, 1) := by decide +kernel
theorem dX10_layVehicle_145 : decode cX10_layVehicle 145 = .ok (.getfield 283, 3) := by decide +kernel
theorem dX10_layVehicle_148 : decode cX10_layVehicle 148 = .ok (.iconst 1, 1) := by decide +kernel
theorem dX10_layVehicle_149 : decode cX10_layVehicle 149 = .ok (.iadd, 1) := by decide +kernel
theorem dX10_layVehicle_150 : decode cX10_layVehicle 150 = .ok (.putfield 283, 3) := by decide +kernel
theorem dX10_layVehicle_153 : decode cX10_layVehicle 153 = .ok (.return_, 1) := by decide +kernel
abbrev m_X10_layVehicle : MD := (yX10_layVehicle, cX10_layVehicle, 6, none)
theorem g_X10_78 {p : Program} {l : Launch} {e : Env} {R : Room} {s : State} {m : MethodId} {args : Array Value} {below : List Frame} {meth : Method} {c : Code} {H : Heap} {locs : List Loc} {cells slots : Nat} {Q : State → Prop} {d : MD} {g : GT} {A : Nat → Prop} {ws : va_W} {pc : Nat} {ls : Array Slot} {rest : List Value} (C : Cx p s m args meth c RX10 d g A) (w : Wd g A ws s.heap H locs) (q0 : Nat) {a : Nat} {fs : List Value} {v : Value} (he : ws[q0]? = some (a, .inr (10, fs))) (hv : fs[35]? = some v) (hd : decode d.2.1 pc = .ok (.getfield 78, 3)) (kk : W p l e R s m args below meth c H locs cells slots Q (F0 m (pc + 3) ls (v :: rest))) : W p l e R s m args below meth c H locs cells slots Q (F0 m pc ls (.ref a :: rest)) := fg C w inX10s (ref := RX10) rfl 35 (by decide) (ts_t (w := Cond.fieldLink RX10 78 RX10 (TX10 35).2.1 (TX10 35).2.2.1) 1257 (by decide +kernel) (by decide +kernel)) rfl q0 he hv hd kk
theorem g_X10_292 {p : Program} {l : Launch} {e : Env} {R : Room} {s : State} {m : MethodId} {args : Array Value} {below : List Frame} {meth : Method} {c : Code} {H : Heap} {locs : List Loc} {cells slots : Nat} {Q : State → Prop} {d : MD} {g : GT} {A : Nat → Prop} {ws : va_W} {pc : Nat} {ls : Array Slot} {rest : List Value} (C : Cx p s m args meth c RX10 d g A) (w : Wd g A ws s.heap H locs) (q0 : Nat) {a : Nat} {fs : List Value} {v : Value} (he : ws[q0]? = some (a, .inr (10, fs))) (hv : fs[36]? = some v) (hd : decode d.2.1 pc = .ok (.getfield 292, 3)) (kk : W p l e R s m args below meth c H locs cells slots Q (F0 m (pc + 3) ls (v :: rest))) : W p l e R s m args below meth c H locs cells slots Q (F0 m pc ls (.ref a :: rest)) := fg C w inX10s (ref := RX10) rfl 36 (by decide) (ts_t (w := Cond.fieldLink RX10 292 RX10 (TX10 36).2.1 (TX10 36).2.2.1) 1258 (by decide +kernel) (by decide +kernel)) rfl q0 he hv hd kk
theorem g_X10_72 {p : Program} {l : Launch} {e : Env} {R : Room} {s : State} {m : MethodId} {args : Array Value} {below : List Frame} {meth : Method} {c : Code} {H : Heap} {locs : List Loc} {cells slots : Nat} {Q : State → Prop} {d : MD} {g : GT} {A : Nat → Prop} {ws : va_W} {pc : Nat} {ls : Array Slot} {rest : List Value} (C : Cx p s m args meth c RX10 d g A) (w : Wd g A ws s.heap H locs) (q0 : Nat) {a : Nat} {fs : List Value} {v : Value} (he : ws[q0]? = some (a, .inr (10, fs))) (hv : fs[33]? = some v) (hd : decode d.2.1 pc = .ok (.getfield 72, 3)) (kk : W p l e R s m args below meth c H locs cells slots Q (F0 m (pc + 3) ls (v :: rest))) : W p l e R s m args below meth c H locs cells slots Q (F0 m pc ls (.ref a :: rest)) := fg C w inX10s (ref := RX10) rfl 33 (by decide) (ts_t (w := Cond.fieldLink RX10 72 RX10 (TX10 33).2.1 (TX10 33).2.2.1) 1255 (by decide +kernel) (by decide +kernel)) rfl q0 he hv hd kk
theorem g_X10_63 {p : Program} {l : Launch} {e : Env} {R : Room} {s : State} {m : MethodId} {args : Array Value} {below : List Frame} {meth : Method} {c : Code} {H : Heap} {locs : List Loc} {cells slots : Nat} {Q : State → Prop} {d : MD} {g : GT} {A : Nat → Prop} {ws : va_W} {pc : Nat} {ls : Array Slot} {rest : List Value} (C : Cx p s m args meth c RX10 d g A) (w : Wd g A ws s.heap H locs) (q0 : Nat) {a : Nat} {fs : List Value} {v : Value} (he : ws[q0]? = some (a, .inr (10, fs))) (hv : fs[30]? = some v) (hd : decode d.2.1 pc = .ok (.getfield 63, 3)) (kk : W p l e R s m args below meth c H locs cells slots Q (F0 m (pc + 3) ls (v :: rest))) : W p l e R s m args below meth c H locs cells slots Q (F0 m pc ls (.ref a :: rest)) := fg C w inX10s (ref := RX10) rfl 30 (by decide) (ts_t (w := Cond.fieldLink RX10 63 RX10 (TX10 30).2.1 (TX10 30).2.2.1) 1252 (by decide +kernel) (by decide +kernel)) rfl q0 he hv hd kk
theorem g_X10_283 {p : Program} {l : Launch} {e : Env} {R : Room} {s : State} {m : MethodId} {args : Array Value} {below : List Frame} {meth : Method} {c : Code} {H : Heap} {locs : List Loc} {cells slots : Nat} {Q : State → Prop} {d : MD} {g : GT} {A : Nat → Prop} {ws : va_W} {pc : Nat} {ls : Array Slot} {rest : List Value} (C : Cx p s m args meth c RX10 d g A) (w : Wd g A ws s.heap H locs) (q0 : Nat) {a : Nat} {fs : List Value} {v : Value} (he : ws[q0]? = some (a, .inr (10, fs))) (hv : fs[37]? = some v) (hd : decode d.2.1 pc = .ok (.getfield 283, 3)) (kk : W p l e R s m args below meth c H locs cells slots Q (F0 m (pc + 3) ls (v :: rest))) : W p l e R s m args below meth c H locs cells slots Q (F0 m pc ls (.ref a :: rest)) := fg C w inX10s (ref := RX10) rfl 37 (by decide) (ts_t (w := Cond.fieldLink RX10 283 RX10 (TX10 37).2.1 (TX10 37).2.2.1) 1259 (by decide +kernel) (by decide +kernel)) rfl q0 he hv hd kk
theorem g_X10_75 {p : Program} {l : Launch} {e : Env} {R : Room} {s : State} {m : MethodId} {args : Array Value} {below : List Frame} {meth : Method} {c : Code} {H : Heap} {locs : List Loc} {cells slots : Nat} {Q : State → Prop} {d : MD} {g : GT} {A : Nat → Prop} {ws : va_W} {pc : Nat} {ls : Array Slot} {rest : List Value} (C : Cx p s m args meth c RX10 d g A) (w : Wd g A ws s.heap H locs) (q0 : Nat) {a : Nat} {fs : List Value} {v : Value} (he : ws[q0]? = some (a, .inr (10, fs))) (hv : fs[34]? = some v) (hd : decode d.2.1 pc = .ok (.getfield 75, 3)) (kk : W p l e R s m args below meth c H locs cells slots Q (F0 m (pc + 3) ls (v :: rest))) : W p l e R s m args below meth c H locs cells slots Q (F0 m pc ls (.ref a :: rest)) := fg C w inX10s (ref := RX10) rfl 34 (by decide) (ts_t (w := Cond.fieldLink RX10 75 RX10 (TX10 34).2.1 (TX10 34).2.2.1) 1256 (by decide +kernel) (by decide +kernel)) rfl q0 he hv hd kk
theorem p_X10_292 {p : Program} {l : Launch} {e : Env} {R : Room} {s : State} {m : MethodId} {args : Array Value} {below : List Frame} {meth : Method} {c : Code} {H : Heap} {locs : List Loc} {cells slots : Nat} {Q : State → Prop} {d : MD} {g : GT} {A : Nat → Prop} {ws : va_W} {pc : Nat} {ls : Array Slot} {rest : List Value} (C : Cx p s m args meth c RX10 d g A) (w : Wd g A ws s.heap H locs) (q0 : Nat) {a : Nat} {fs : List Value} {x : Int32} (he : ws[q0]? = some (a, .inr (10, fs))) (hlt : 36 < fs.length) {ws2 : va_W} (h2 : ws.set q0 (a, .inr (10, fs.set 36 (.int x))) = ws2) (hd : decode d.2.1 pc = .ok (.putfield 292, 3)) (kk : ∀ (H1 : Heap) (locs1 : List Loc), Wd g A ws2 s.heap H1 locs1 → W p l e R s m args below meth c H1 locs1 cells slots Q (F0 m (pc + 3) ls rest)) : W p l e R s m args below meth c H locs cells slots Q (F0 m pc ls (.int x :: .ref a :: rest)) := fp C w inX10s tyX10_ok nmX10 (ref := RX10) rfl 36 (by decide) (ts_t (w := Cond.fieldLink RX10 292 RX10 (TX10 36).2.1 (TX10 36).2.2.1) 1258 (by decide +kernel) (by decide +kernel)) rfl rfl q0 he rfl rfl hlt h2 hd kk
theorem p_X10_283 {p : Program} {l : Launch} {e : Env} {R : Room} {s : State} {m : MethodId} {args : Array Value} {below : List Frame} {meth : Method} {c : Code} {H : Heap} {locs : List Loc} {cells slots : Nat} {Q : State → Prop} {d : MD} {g : GT} {A : Nat → Prop} {ws : va_W} {pc : Nat} {ls : Array Slot} {rest : List Value} (C : Cx p s m args meth c RX10 d g A) (w : Wd g A ws s.heap H locs) (q0 : Nat) {a : Nat} {fs : List Value} {x : Int32} (he : ws[q0]? = some (a, .inr (10, fs))) (hlt : 37 < fs.length) {ws2 : va_W} (h2 : ws.set q0 (a, .inr (10, fs.set 37 (.int x))) = ws2) (hd : decode d.2.1 pc = .ok (.putfield 283, 3)) (kk : ∀ (H1 : Heap) (locs1 : List Loc), Wd g A ws2 s.heap H1 locs1 → W p l e R s m args below meth c H1 locs1 cells slots Q (F0 m (pc + 3) ls rest)) : W p l e R s m args below meth c H locs cells slots Q (F0 m pc ls (.int x :: .ref a :: rest)) := fp C w inX10s tyX10_ok nmX10 (ref := RX10) rfl 37 (by decide) (ts_t (w := Cond.fieldLink RX10 283 RX10 (TX10 37).2.1 (TX10 37).2.2.1) 1259 (by decide +kernel) (by decide +kernel)) rfl rfl q0 he rfl rfl hlt h2 hd kk
theorem q_1590 : Cond.code yX10_isConsidered cX10_isConsidered 3 (some .boolean) ∈ TS := ts_t 1590 (by decide +kernel) (by decide +kernel)
theorem q_1587 : Cond.methodLink RX10 286 yX10_isConsidered ∈ TS := ts_t 1587 (by decide +kernel) (by decide +kernel)
theorem q_1589 : Cond.instanceMethod yX10_isConsidered ∈ TS := ts_t 1589 (by decide +kernel) (by decide +kernel)
theorem qs_117 : Cond.selects yX10_isConsidered.cls yX10_isConsidered yX10_isConsidered ∈ TS := ts_s 117 (by decide +kernel) (by decide +kernel)
theorem k_X10_286 : LkV RX10 286 m_X10_isConsidered 2 := ⟨q_1587, q_1589, qs_117, ⟨q_11, q_1590, by decide, by decide, by decide +kernel⟩⟩
theorem q_1598 : Cond.code yX10_legLinks cX10_legLinks 3 (some .int) ∈ TS := ts_t 1598 (by decide +kernel) (by decide +kernel)
theorem q_1595 : Cond.methodLink RX10 289 yX10_legLinks ∈ TS := ts_t 1595 (by decide +kernel) (by decide +kernel)
theorem q_1597 : Cond.instanceMethod yX10_legLinks ∈ TS := ts_t 1597 (by decide +kernel) (by decide +kernel)
theorem qs_119 : Cond.selects yX10_legLinks.cls yX10_legLinks yX10_legLinks ∈ TS := ts_s 119 (by decide +kernel) (by decide +kernel)
theorem k_X10_289 : LkV RX10 289 m_X10_legLinks 2 := ⟨q_1595, q_1597, qs_119, ⟨q_11, q_1598, by decide, by decide, by decide +kernel⟩⟩
abbrev w_X10_layVehicle (g : GT) (h0 h1 h2 h3 h4 h5 h6 h7 h8 h9 h10 h11 h12 h13 : Nat) (v0_0 v0_1 v0_2 v0_3 v0_4 v0_5 v0_6 v0_7 v0_8 v0_9 v0_11 v0_16 v0_17 v0_19 v0_20 v0_22 v0_23 v0_24 v0_25 v0_31 v0_32 : Value) (routeMany0 routeCost0 newTrips0 newInvoices0 : Int32) (basic1 linkFrom2 linkMinutes3 linkPrice4 linkTo5 newInvoice6 newPassages7 newVehicle8 route9 state10 tagPlate11 tried12 tripFor13 : Nat → Int32) : va_W := [(h0, .inr (10, [v0_0, v0_1, v0_2, v0_3, v0_4, v0_5, v0_6, v0_7, v0_8, v0_9, .ref h1, v0_11, .ref h2, .ref h5, .ref h3, .ref h4, v0_16, v0_17, .ref h11, v0_19, v0_20, .ref h10, v0_22, v0_23, v0_24, v0_25, .int routeMany0, .int routeCost0, .ref h9, .ref h12, .ref h6, v0_31, v0_32, .ref h7, .ref h8, .ref h13, .int newTrips0, .int newInvoices0])), (h1, aI g 7 basic1), (h2, aI g 48 linkFrom2), (h3, aI g 48 linkMinutes3), (h4, aI g 48 linkPrice4), (h5, aI g 48 linkTo5), (h6, aI g 80 newInvoice6), (h7, aI g 80 newPassages7), (h8, aI g 80 newVehicle8), (h9, aI g 4 route9), (h10, aI g 2524 state10), (h11, aI g 24 tagPlate11), (h12, aI g 4 tried12), (h13, aI g 80 tripFor13)]
def f_X10_layVehicle_b137 (F : Nat) (k22 : (Int32 × Int32 × Int32 × Int32 × Int32 × Int32 × Int32 × Int32 × (Nat → Int32) × (Nat → Int32) × (Nat → Int32) × (Nat → Int32) × (Nat → Int32) × (Nat → Int32)) → Option (Int32 × Int32 × Int32 × Int32 × (Nat → Int32) × (Nat → Int32) × (Nat → Int32) × (Nat → Int32) × (Nat → Int32) × (Nat → Int32))) (basic1 linkFrom2 linkMinutes3 linkPrice4 linkTo5 state10 tagPlate11 : Nat → Int32) (x2 x3 x4 x5 routeMany0 routeCost0 newTrips0 newInvoices0 : Int32) (newInvoice6 newPassages7 newVehicle8 route9 tried12 tripFor13 : Nat → Int32) : Option (Int32 × Int32 × Int32 × Int32 × (Nat → Int32) × (Nat → Int32) × (Nat → Int32) × (Nat → Int32) × (Nat → Int32) × (Nat → Int32)) :=
  k22 (x2, x3, x4, x5 + 1, routeMany0, routeCost0, newTrips0, newInvoices0, newInvoice6, newPassages7, newVehicle8, route9, tried12, tripFor13)
def f_X10_layVehicle_b105 (F : Nat) (k22 : (Int32 × Int32 × Int32 × Int32 × Int32 × Int32 × Int32 × Int32 × (Nat → Int32) × (Nat → Int32) × (Nat → Int32) × (Nat → Int32) × (Nat → Int32) × (Nat → Int32)) → Option (Int32 × Int32 × Int32 × Int32 × (Nat → Int32) × (Nat → Int32) × (Nat → Int32) × (Nat → Int32) × (Nat → Int32) × (Nat → Int32))) (basic1 linkFrom2 linkMinutes3 linkPrice4 linkTo5 state10 tagPlate11 : Nat → Int32) (x2 x3 x5 routeMany0 routeCost0 newTrips0 newInvoices0 : Int32) (newInvoice6 newPassages7 newVehicle8 route9 tried12 tripFor13 : Nat → Int32) : Option (Int32 × Int32 × Int32 × Int32 × (Nat → Int32) × (Nat → Int32) × (Nat → Int32) × (Nat → Int32) × (Nat → Int32) × (Nat → Int32)) :=
  wr tripFor13 80 x5 (newTrips0 - 1) fun f1 =>
  rd newPassages7 80 (newTrips0 - 1) fun a2 =>
  wr newPassages7 80 (newTrips0 - 1) (a2 + 1) fun f3 =>
  f_X10_layVehicle_b137 F k22 basic1 linkFrom2 linkMinutes3 linkPrice4 linkTo5 state10 tagPlate11 x2 x3 x5 x5 routeMany0 routeCost0 newTrips0 newInvoices0 newInvoice6 f3 newVehicle8 route9 tried12 f1
def f_X10_layVehicle_b72 (F : Nat) (k22 : (Int32 × Int32 × Int32 × Int32 × Int32 × Int32 × Int32 × Int32 × (Nat → Int32) × (Nat → Int32) × (Nat → Int32) × (Nat → Int32) × (Nat → Int32) × (Nat → Int32)) → Option (Int32 × Int32 × Int32 × Int32 × (Nat → Int32) × (Nat → Int32) × (Nat → Int32) × (Nat → Int32) × (Nat → Int32) × (Nat → Int32))) (basic1 linkFrom2 linkMinutes3 linkPrice4 linkTo5 state10 tagPlate11 : Nat → Int32) (x2 x3 x5 routeMany0 routeCost0 newTrips0 newInvoices0 : Int32) (newInvoice6 newPassages7 newVehicle8 route9 tried12 tripFor13 : Nat → Int32) : Option (Int32 × Int32 × Int32 × Int32 × (Nat → Int32) × (Nat → Int32) × (Nat → Int32) × (Nat → Int32) × (Nat → Int32) × (Nat → Int32)) :=
  wr newInvoice6 80 newTrips0 newInvoices0 fun f4 =>
  wr newPassages7 80 newTrips0 0 fun f5 =>
  f_X10_layVehicle_b105 F k22 basic1 linkFrom2 linkMinutes3 linkPrice4 linkTo5 state10 tagPlate11 x2 x3 x5 routeMany0 routeCost0 (newTrips0 + 1) newInvoices0 f4 f5 newVehicle8 route9 tried12 tripFor13
def f_X10_layVehicle_h22 (F : Nat) (basic1 linkFrom2 linkMinutes3 linkPrice4 linkTo5 state10 tagPlate11 : Nat → Int32) (k22 : (Int32 × Int32 × Int32 × Int32 × Int32 × Int32 × Int32 × Int32 × (Nat → Int32) × (Nat → Int32) × (Nat → Int32) × (Nat → Int32) × (Nat → Int32) × (Nat → Int32)) → Option (Int32 × Int32 × Int32 × Int32 × (Nat → Int32) × (Nat → Int32) × (Nat → Int32) × (Nat → Int32) × (Nat → Int32) × (Nat → Int32))) (x2 x3 x4 x5 routeMany0 routeCost0 newTrips0 newInvoices0 : Int32) (newInvoice6 newPassages7 newVehicle8 route9 tried12 tripFor13 : Nat → Int32) : Option (Int32 × Int32 × Int32 × Int32 × (Nat → Int32) × (Nat → Int32) × (Nat → Int32) × (Nat → Int32) × (Nat → Int32) × (Nat → Int32)) :=
  rd state10 2524 0 fun a6 =>
  if a6 ≤ x5 then
    some (routeMany0, routeCost0, newTrips0, newInvoices0 + 1, newInvoice6, newPassages7, newVehicle8, route9, tried12, tripFor13)
  else
    bd1 (f_X10_isConsidered F x5 x2 basic1 state10 tagPlate11) fun r8 =>
    if r8 = 0 then
      f_X10_layVehicle_b137 F k22 basic1 linkFrom2 linkMinutes3 linkPrice4 linkTo5 state10 tagPlate11 x2 x3 x4 x5 routeMany0 routeCost0 newTrips0 newInvoices0 newInvoice6 newPassages7 newVehicle8 route9 tried12 tripFor13
    else
      bd1 (f_X10_vehicleOf F x5 basic1 state10 tagPlate11) fun r11 =>
      if r11 = x3 then
        if x4 < 0 then
          f_X10_layVehicle_b72 F k22 basic1 linkFrom2 linkMinutes3 linkPrice4 linkTo5 state10 tagPlate11 x2 x3 x5 routeMany0 routeCost0 newTrips0 newInvoices0 newInvoice6 newPassages7 newVehicle8 route9 tried12 tripFor13
        else
          bd5 (f_X10_legLinks F x4 x5 routeMany0 routeCost0 basic1 linkFrom2 linkMinutes3 linkPrice4 linkTo5 route9 state10 tried12) fun r15 o16 o17 o18 o19 =>
          if r15 = 0 then
            f_X10_layVehicle_b72 F k22 basic1 linkFrom2 linkMinutes3 linkPrice4 linkTo5 state10 tagPlate11 x2 x3 x5 o16 o17 newTrips0 newInvoices0 newInvoice6 newPassages7 newVehicle8 o18 o19 tripFor13
          else
            f_X10_layVehicle_b105 F k22 basic1 linkFrom2 linkMinutes3 linkPrice4 linkTo5 state10 tagPlate11 x2 x3 x5 o16 o17 newTrips0 newInvoices0 newInvoice6 newPassages7 newVehicle8 o18 o19 tripFor13
      else
        f_X10_layVehicle_b137 F k22 basic1 linkFrom2 linkMinutes3 linkPrice4 linkTo5 state10 tagPlate11 x2 x3 x4 x5 routeMany0 routeCost0 newTrips0 newInvoices0 newInvoice6 newPassages7 newVehicle8 route9 tried12 tripFor13
def f_X10_layVehicle_L22 (F : Nat) (basic1 linkFrom2 linkMinutes3 linkPrice4 linkTo5 state10 tagPlate11 : Nat → Int32) (z : Int32 × Int32 × Int32 × Int32 × Int32 × Int32 × Int32 × Int32 × (Nat → Int32) × (Nat → Int32) × (Nat → Int32) × (Nat → Int32) × (Nat → Int32) × (Nat → Int32)) : Option (Int32 × Int32 × Int32 × Int32 × (Nat → Int32) × (Nat → Int32) × (Nat → Int32) × (Nat → Int32) × (Nat → Int32) × (Nat → Int32)) := lp (fun k z => f_X10_layVehicle_h22 F basic1 linkFrom2 linkMinutes3 linkPrice4 linkTo5 state10 tagPlate11 k z.1 z.2.1 z.2.2.1 z.2.2.2.1 z.2.2.2.2.1 z.2.2.2.2.2.1 z.2.2.2.2.2.2.1 z.2.2.2.2.2.2.2.1 z.2.2.2.2.2.2.2.2.1 z.2.2.2.2.2.2.2.2.2.1 z.2.2.2.2.2.2.2.2.2.2.1 z.2.2.2.2.2.2.2.2.2.2.2.1 z.2.2.2.2.2.2.2.2.2.2.2.2.1 z.2.2.2.2.2.2.2.2.2.2.2.2.2) F z
def f_X10_layVehicle (F : Nat) (p1 p2 routeMany0 routeCost0 newTrips0 newInvoices0 : Int32) (basic1 linkFrom2 linkMinutes3 linkPrice4 linkTo5 newInvoice6 newPassages7 newVehicle8 route9 state10 tagPlate11 tried12 tripFor13 : Nat → Int32) : Option (Int32 × Int32 × Int32 × Int32 × (Nat → Int32) × (Nat → Int32) × (Nat → Int32) × (Nat → Int32) × (Nat → Int32) × (Nat → Int32)) :=
  bd1 (f_X10_vehicleOf F p1 basic1 state10 tagPlate11) fun r22 =>
  wr newVehicle8 80 newInvoices0 r22 fun f24 =>
  f_X10_layVehicle_L22 F basic1 linkFrom2 linkMinutes3 linkPrice4 linkTo5 state10 tagPlate11 (p2, r22, (-1), p1, routeMany0, routeCost0, newTrips0, newInvoices0, newInvoice6, newPassages7, f24, route9, tried12, tripFor13)
set_option maxHeartbeats 4000000 in
set_option maxRecDepth 100000 in
theorem c_X10_layVehicle (l : Launch) (g : GT) (F : Nat) (h0 h1 h2 h3 h4 h5 h6 h7 h8 h9 h10 h11 h12 h13 : Nat) (v0_0 v0_1 v0_2 v0_3 v0_4 v0_5 v0_6 v0_7 v0_8 v0_9 v0_11 v0_16 v0_17 v0_19 v0_20 v0_22 v0_23 v0_24 v0_25 v0_31 v0_32 : Value) (p1 p2 routeMany0 routeCost0 newTrips0 newInvoices0 : Int32) (basic1 linkFrom2 linkMinutes3 linkPrice4 linkTo5 newInvoice6 newPassages7 newVehicle8 route9 state10 tagPlate11 tried12 tripFor13 : Nat → Int32) (o_routeMany0 o_routeCost0 o_newTrips0 o_newInvoices0 : Int32) (o_newInvoice6 o_newPassages7 o_newVehicle8 o_route9 o_tried12 o_tripFor13 : Nat → Int32) (sz : Nat) (hf : f_X10_layVehicle F p1 p2 routeMany0 routeCost0 newTrips0 newInvoices0 basic1 linkFrom2 linkMinutes3 linkPrice4 linkTo5 newInvoice6 newPassages7 newVehicle8 route9 state10 tagPlate11 tried12 tripFor13 = some (o_routeMany0, o_routeCost0, o_newTrips0, o_newInvoices0, o_newInvoice6, o_newPassages7, o_newVehicle8, o_route9, o_tried12, o_tripFor13)) : CV l m_X10_layVehicle (rml 8 0 0) g (w_X10_layVehicle g h0 h1 h2 h3 h4 h5 h6 h7 h8 h9 h10 h11 h12 h13 v0_0 v0_1 v0_2 v0_3 v0_4 v0_5 v0_6 v0_7 v0_8 v0_9 v0_11 v0_16 v0_17 v0_19 v0_20 v0_22 v0_23 v0_24 v0_25 v0_31 v0_32 routeMany0 routeCost0 newTrips0 newInvoices0 basic1 linkFrom2 linkMinutes3 linkPrice4 linkTo5 newInvoice6 newPassages7 newVehicle8 route9 state10 tagPlate11 tried12 tripFor13) (fun _ => w_X10_layVehicle g h0 h1 h2 h3 h4 h5 h6 h7 h8 h9 h10 h11 h12 h13 v0_0 v0_1 v0_2 v0_3 v0_4 v0_5 v0_6 v0_7 v0_8 v0_9 v0_11 v0_16 v0_17 v0_19 v0_20 v0_22 v0_23 v0_24 v0_25 v0_31 v0_32 o_routeMany0 o_routeCost0 o_newTrips0 o_newInvoices0 basic1 linkFrom2 linkMinutes3 linkPrice4 linkTo5 o_newInvoice6 o_newPassages7 o_newVehicle8 o_route9 state10 tagPlate11 o_tried12 o_tripFor13) sz [.ref h0, .int p1, .int p2] := by
  refine en_v (by decide) (Nat.le_of_ble_eq_true rfl) (fun p e s m args below meth c A ls C w hl => ?_)
  have C : Cx p s m args meth c RX10 m_X10_layVehicle g A := C
  have hx := C.1
  have hb : c.code = cX10_layVehicle := C.2.1
  have hl : lv_has ls 6 [(0, .ref h0), (1, .int p1), (2, .int p2)] := hl
  obtain ⟨Q, hQ⟩ : ∃ Q, Q = QV below args s g A (fun _ => w_X10_layVehicle g h0 h1 h2 h3 h4 h5 h6 h7 h8 h9 h10 h11 h12 h13 v0_0 v0_1 v0_2 v0_3 v0_4 v0_5 v0_6 v0_7 v0_8 v0_9 v0_11 v0_16 v0_17 v0_19 v0_20 v0_22 v0_23 v0_24 v0_25 v0_31 v0_32 o_routeMany0 o_routeCost0 o_newTrips0 o_newInvoices0 basic1 linkFrom2 linkMinutes3 linkPrice4 linkTo5 o_newInvoice6 o_newPassages7 o_newVehicle8 o_route9 state10 tagPlate11 o_tried12 o_tripFor13) 0 0 := ⟨_, rfl⟩
  suffices hW : W p l e (rml 8 0 0) s m args below meth c s.heap [] 0 0 Q (F0 m 0 ls []) from (by rw [hQ] at hW; exact hW)
  unfold f_X10_layVehicle at hf
  have L22 : ∀ (z : Int32 × Int32 × Int32 × Int32 × Int32 × Int32 × Int32 × Int32 × (Nat → Int32) × (Nat → Int32) × (Nat → Int32) × (Nat → Int32) × (Nat → Int32) × (Nat → Int32)), f_X10_layVehicle_L22 F basic1 linkFrom2 linkMinutes3 linkPrice4 linkTo5 state10 tagPlate11 z = some (o_routeMany0, o_routeCost0, o_newTrips0, o_newInvoices0, o_newInvoice6, o_newPassages7, o_newVehicle8, o_route9, o_tried12, o_tripFor13) → ∀ (H : Heap) (locs : List Loc) (ls : Array Slot), Wd g A (w_X10_layVehicle g h0 h1 h2 h3 h4 h5 h6 h7 h8 h9 h10 h11 h12 h13 v0_0 v0_1 v0_2 v0_3 v0_4 v0_5 v0_6 v0_7 v0_8 v0_9 v0_11 v0_16 v0_17 v0_19 v0_20 v0_22 v0_23 v0_24 v0_25 v0_31 v0_32 z.2.2.2.2.1 z.2.2.2.2.2.1 z.2.2.2.2.2.2.1 z.2.2.2.2.2.2.2.1 basic1 linkFrom2 linkMinutes3 linkPrice4 linkTo5 z.2.2.2.2.2.2.2.2.1 z.2.2.2.2.2.2.2.2.2.1 z.2.2.2.2.2.2.2.2.2.2.1 z.2.2.2.2.2.2.2.2.2.2.2.1 state10 tagPlate11 z.2.2.2.2.2.2.2.2.2.2.2.2.1 z.2.2.2.2.2.2.2.2.2.2.2.2.2) s.heap H locs → lv_has ls 6 [(0, .ref h0), (2, .int z.1), (3, .int z.2.1), (4, .int z.2.2.1), (5, .int z.2.2.2.1)] → W p l e (rml 8 0 0) s m args below meth c H locs 0 0 Q (F0 m 22 ls []) := by
    intro z hf
    refine lp_W (r := (o_routeMany0, o_routeCost0, o_newTrips0, o_newInvoices0, o_newInvoice6, o_newPassages7, o_newVehicle8, o_route9, o_tried12, o_tripFor13)) (fun (z : Int32 × Int32 × Int32 × Int32 × Int32 × Int32 × Int32 × Int32 × (Nat → Int32) × (Nat → Int32) × (Nat → Int32) × (Nat → Int32) × (Nat → Int32) × (Nat → Int32)) => ∀ (H : Heap) (locs : List Loc) (ls : Array Slot), Wd g A (w_X10_layVehicle g h0 h1 h2 h3 h4 h5 h6 h7 h8 h9 h10 h11 h12 h13 v0_0 v0_1 v0_2 v0_3 v0_4 v0_5 v0_6 v0_7 v0_8 v0_9 v0_11 v0_16 v0_17 v0_19 v0_20 v0_22 v0_23 v0_24 v0_25 v0_31 v0_32 z.2.2.2.2.1 z.2.2.2.2.2.1 z.2.2.2.2.2.2.1 z.2.2.2.2.2.2.2.1 basic1 linkFrom2 linkMinutes3 linkPrice4 linkTo5 z.2.2.2.2.2.2.2.2.1 z.2.2.2.2.2.2.2.2.2.1 z.2.2.2.2.2.2.2.2.2.2.1 z.2.2.2.2.2.2.2.2.2.2.2.1 state10 tagPlate11 z.2.2.2.2.2.2.2.2.2.2.2.2.1 z.2.2.2.2.2.2.2.2.2.2.2.2.2) s.heap H locs → lv_has ls 6 [(0, .ref h0), (2, .int z.1), (3, .int z.2.1), (4, .int z.2.2.1), (5, .int z.2.2.2.1)] → W p l e (rml 8 0 0) s m args below meth c H locs 0 0 Q (F0 m 22 ls [])) (fun k22 z ih22 hf => ?_) F z hf
    obtain ⟨x2, x3, x4, x5, routeMany0, routeCost0, newTrips0, newInvoices0, newInvoice6, newPassages7, newVehicle8, route9, tried12, tripFor13⟩ := z
    intro H locs ls w hl
    try dsimp only at hf w hl ⊢
    unfold f_X10_layVehicle_h22 at hf
    have b137 : ∀ (x2 x3 x4 x5 routeMany0 routeCost0 newTrips0 newInvoices0 : Int32) (newInvoice6 newPassages7 newVehicle8 route9 tried12 tripFor13 : Nat → Int32) (H : Heap) (locs : List Loc) (ls : Array Slot), f_X10_layVehicle_b137 F k22 basic1 linkFrom2 linkMinutes3 linkPrice4 linkTo5 state10 tagPlate11 x2 x3 x4 x5 routeMany0 routeCost0 newTrips0 newInvoices0 newInvoice6 newPassages7 newVehicle8 route9 tried12 tripFor13 = some (o_routeMany0, o_routeCost0, o_newTrips0, o_newInvoices0, o_newInvoice6, o_newPassages7, o_newVehicle8, o_route9, o_tried12, o_tripFor13) → Wd g A (w_X10_layVehicle g h0 h1 h2 h3 h4 h5 h6 h7 h8 h9 h10 h11 h12 h13 v0_0 v0_1 v0_2 v0_3 v0_4 v0_5 v0_6 v0_7 v0_8 v0_9 v0_11 v0_16 v0_17 v0_19 v0_20 v0_22 v0_23 v0_24 v0_25 v0_31 v0_32 routeMany0 routeCost0 newTrips0 newInvoices0 basic1 linkFrom2 linkMinutes3 linkPrice4 linkTo5 newInvoice6 newPassages7 newVehicle8 route9 state10 tagPlate11 tried12 tripFor13) s.heap H locs → lv_has ls 6 [(0, .ref h0), (2, .int x2), (3, .int x3), (4, .int x4), (5, .int x5)] → W p l e (rml 8 0 0) s m args below meth c H locs 0 0 Q (F0 m 137 ls []) := by
      intro x2 x3 x4 x5 routeMany0 routeCost0 newTrips0 newInvoices0 newInvoice6 newPassages7 newVehicle8 route9 tried12 tripFor13 H locs ls hf w hl
      unfold f_X10_layVehicle_b137 at hf
      refine lv_iinc (v := x5 + 1) (lv' := [(5, .int (x5 + 1)), (0, .ref h0), (2, .int x2), (3, .int x3), (4, .int x4)]) hx hb dX10_layVehicle_137 hl (k := 4) rfl rfl (by decide) rfl (fun ls hl => ?_)
      refine lv_goto (tgt := 22) hx hb dX10_layVehicle_140 (by decide) ?_
      exact ih22 (x2, x3, x4, x5 + 1, routeMany0, routeCost0, newTrips0, newInvoices0, newInvoice6, newPassages7, newVehicle8, route9, tried12, tripFor13) hf _ _ _ w (lv_sub hl [1, 2, 3, 4, 0] rfl)
    have b105 : ∀ (x2 x3 x5 routeMany0 routeCost0 newTrips0 newInvoices0 : Int32) (newInvoice6 newPassages7 newVehicle8 route9 tried12 tripFor13 : Nat → Int32) (H : Heap) (locs : List Loc) (ls : Array Slot), f_X10_layVehicle_b105 F k22 basic1 linkFrom2 linkMinutes3 linkPrice4 linkTo5 state10 tagPlate11 x2 x3 x5 routeMany0 routeCost0 newTrips0 newInvoices0 newInvoice6 newPassages7 newVehicle8 route9 tried12 tripFor13 = some (o_routeMany0, o_routeCost0, o_newTrips0, o_newInvoices0, o_newInvoice6, o_newPassages7, o_newVehicle8, o_route9, o_tried12, o_tripFor13) → Wd g A (w_X10_layVehicle g h0 h1 h2 h3 h4 h5 h6 h7 h8 h9 h10 h11 h12 h13 v0_0 v0_1 v0_2 v0_3 v0_4 v0_5 v0_6 v0_7 v0_8 v0_9 v0_11 v0_16 v0_17 v0_19 v0_20 v0_22 v0_23 v0_24 v0_25 v0_31 v0_32 routeMany0 routeCost0 newTrips0 newInvoices0 basic1 linkFrom2 linkMinutes3 linkPrice4 linkTo5 newInvoice6 newPassages7 newVehicle8 route9 state10 tagPlate11 tried12 tripFor13) s.heap H locs → lv_has ls 6 [(0, .ref h0), (2, .int x2), (3, .int x3), (5, .int x5)] → W p l e (rml 8 0 0) s m args below meth c H locs 0 0 Q (F0 m 105 ls []) := by
      intro x2 x3 x5 routeMany0 routeCost0 newTrips0 newInvoices0 newInvoice6 newPassages7 newVehicle8 route9 tried12 tripFor13 H locs ls hf w hl
      unfold f_X10_layVehicle_b105 at hf
      refine lv_aload_n hx hb dX10_layVehicle_105 rfl (lv_at hl 0 rfl) ?_
      refine g_X10_78 C w 0 rfl rfl dX10_layVehicle_106 ?_
      refine lv_iload hx hb dX10_layVehicle_109 (lv_at hl 3 rfl) ?_
      refine lv_aload_n hx hb dX10_layVehicle_111 rfl (lv_at hl 0 rfl) ?_
      refine g_X10_292 C w 0 rfl rfl dX10_layVehicle_112 ?_
      refine lv_iconst (v := 1) hx hb dX10_layVehicle_115 (by decide) ?_
      refine lv_isub hx hb dX10_layVehicle_116 ?_
      obtain ⟨f1, hif1, haf1, hf⟩ := wr_some hf
      refine ias C w 13 rfl hif1 haf1 (ws2 := w_X10_layVehicle g h0 h1 h2 h3 h4 h5 h6 h7 h8 h9 h10 h11 h12 h13 v0_0 v0_1 v0_2 v0_3 v0_4 v0_5 v0_6 v0_7 v0_8 v0_9 v0_11 v0_16 v0_17 v0_19 v0_20 v0_22 v0_23 v0_24 v0_25 v0_31 v0_32 routeMany0 routeCost0 newTrips0 newInvoices0 basic1 linkFrom2 linkMinutes3 linkPrice4 linkTo5 newInvoice6 newPassages7 newVehicle8 route9 state10 tagPlate11 tried12 f1) rfl dX10_layVehicle_117 (fun H locs w => ?_)
      refine lv_aload_n hx hb dX10_layVehicle_118 rfl (lv_at hl 0 rfl) ?_
      refine g_X10_72 C w 0 rfl rfl dX10_layVehicle_119 ?_
      refine lv_aload_n hx hb dX10_layVehicle_122 rfl (lv_at hl 0 rfl) ?_
      refine g_X10_292 C w 0 rfl rfl dX10_layVehicle_123 ?_
      refine lv_iconst (v := 1) hx hb dX10_layVehicle_126 (by decide) ?_
      refine lv_isub hx hb dX10_layVehicle_127 ?_
      refine lv_dup2_11 hx hb dX10_layVehicle_128 rfl rfl ?_
      obtain ⟨a2, hia2, haa2, hf⟩ := rd_some hf
      refine ial C w 7 rfl hia2 haa2 dX10_layVehicle_129 ?_
      refine lv_iconst (v := 1) hx hb dX10_layVehicle_130 (by decide) ?_
      refine lv_iadd hx hb dX10_layVehicle_131 ?_
      obtain ⟨f3, hif3, haf3, hf⟩ := wr_some hf
      refine ias C w 7 rfl hif3 haf3 (ws2 := w_X10_layVehicle g h0 h1 h2 h3 h4 h5 h6 h7 h8 h9 h10 h11 h12 h13 v0_0 v0_1 v0_2 v0_3 v0_4 v0_5 v0_6 v0_7 v0_8 v0_9 v0_11 v0_16 v0_17 v0_19 v0_20 v0_22 v0_23 v0_24 v0_25 v0_31 v0_32 routeMany0 routeCost0 newTrips0 newInvoices0 basic1 linkFrom2 linkMinutes3 linkPrice4 linkTo5 newInvoice6 f3 newVehicle8 route9 state10 tagPlate11 tried12 f1) rfl dX10_layVehicle_132 (fun H locs w => ?_)
      refine lv_iload hx hb dX10_layVehicle_133 (lv_at hl 3 rfl) ?_
      refine lv_istore (lv' := [(4, .int x5), (0, .ref h0), (2, .int x2), (3, .int x3), (5, .int x5)]) hx hb dX10_layVehicle_135 hl (by decide) rfl (fun ls hl => ?_)
      exact b137 x2 x3 x5 x5 routeMany0 routeCost0 newTrips0 newInvoices0 newInvoice6 f3 newVehicle8 route9 tried12 f1 _ _ _ hf w (lv_sub hl [1, 2, 3, 0, 4] rfl)
    have b72 : ∀ (x2 x3 x5 routeMany0 routeCost0 newTrips0 newInvoices0 : Int32) (newInvoice6 newPassages7 newVehicle8 route9 tried12 tripFor13 : Nat → Int32) (H : Heap) (locs : List Loc) (ls : Array Slot), f_X10_layVehicle_b72 F k22 basic1 linkFrom2 linkMinutes3 linkPrice4 linkTo5 state10 tagPlate11 x2 x3 x5 routeMany0 routeCost0 newTrips0 newInvoices0 newInvoice6 newPassages7 newVehicle8 route9 tried12 tripFor13 = some (o_routeMany0, o_routeCost0, o_newTrips0, o_newInvoices0, o_newInvoice6, o_newPassages7, o_newVehicle8, o_route9, o_tried12, o_tripFor13) → Wd g A (w_X10_layVehicle g h0 h1 h2 h3 h4 h5 h6 h7 h8 h9 h10 h11 h12 h13 v0_0 v0_1 v0_2 v0_3 v0_4 v0_5 v0_6 v0_7 v0_8 v0_9 v0_11 v0_16 v0_17 v0_19 v0_20 v0_22 v0_23 v0_24 v0_25 v0_31 v0_32 routeMany0 routeCost0 newTrips0 newInvoices0 basic1 linkFrom2 linkMinutes3 linkPrice4 linkTo5 newInvoice6 newPassages7 newVehicle8 route9 state10 tagPlate11 tried12 tripFor13) s.heap H locs → lv_has ls 6 [(0, .ref h0), (2, .int x2), (3, .int x3), (5, .int x5)] → W p l e (rml 8 0 0) s m args below meth c H locs 0 0 Q (F0 m 72 ls []) := by
      intro x2 x3 x5 routeMany0 routeCost0 newTrips0 newInvoices0 newInvoice6 newPassages7 newVehicle8 route9 tried12 tripFor13 H locs ls hf w hl
      unfold f_X10_layVehicle_b72 at hf
      refine lv_aload_n hx hb dX10_layVehicle_72 rfl (lv_at hl 0 rfl) ?_
      refine g_X10_63 C w 0 rfl rfl dX10_layVehicle_73 ?_
      refine lv_aload_n hx hb dX10_layVehicle_76 rfl (lv_at hl 0 rfl) ?_
      refine g_X10_292 C w 0 rfl rfl dX10_layVehicle_77 ?_
      refine lv_aload_n hx hb dX10_layVehicle_80 rfl (lv_at hl 0 rfl) ?_
      refine g_X10_283 C w 0 rfl rfl dX10_layVehicle_81 ?_
      obtain ⟨f4, hif4, haf4, hf⟩ := wr_some hf
      refine ias C w 6 rfl hif4 haf4 (ws2 := w_X10_layVehicle g h0 h1 h2 h3 h4 h5 h6 h7 h8 h9 h10 h11 h12 h13 v0_0 v0_1 v0_2 v0_3 v0_4 v0_5 v0_6 v0_7 v0_8 v0_9 v0_11 v0_16 v0_17 v0_19 v0_20 v0_22 v0_23 v0_24 v0_25 v0_31 v0_32 routeMany0 routeCost0 newTrips0 newInvoices0 basic1 linkFrom2 linkMinutes3 linkPrice4 linkTo5 f4 newPassages7 newVehicle8 route9 state10 tagPlate11 tried12 tripFor13) rfl dX10_layVehicle_84 (fun H locs w => ?_)
      refine lv_aload_n hx hb dX10_layVehicle_85 rfl (lv_at hl 0 rfl) ?_
      refine g_X10_72 C w 0 rfl rfl dX10_layVehicle_86 ?_
      refine lv_aload_n hx hb dX10_layVehicle_89 rfl (lv_at hl 0 rfl) ?_
      refine g_X10_292 C w 0 rfl rfl dX10_layVehicle_90 ?_
      refine lv_iconst (v := 0) hx hb dX10_layVehicle_93 (by decide) ?_
      obtain ⟨f5, hif5, haf5, hf⟩ := wr_some hf
      refine ias C w 7 rfl hif5 haf5 (ws2 := w_X10_layVehicle g h0 h1 h2 h3 h4 h5 h6 h7 h8 h9 h10 h11 h12 h13 v0_0 v0_1 v0_2 v0_3 v0_4 v0_5 v0_6 v0_7 v0_8 v0_9 v0_11 v0_16 v0_17 v0_19 v0_20 v0_22 v0_23 v0_24 v0_25 v0_31 v0_32 routeMany0 routeCost0 newTrips0 newInvoices0 basic1 linkFrom2 linkMinutes3 linkPrice4 linkTo5 f4 f5 newVehicle8 route9 state10 tagPlate11 tried12 tripFor13) rfl dX10_layVehicle_94 (fun H locs w => ?_)
      refine lv_aload_n hx hb dX10_layVehicle_95 rfl (lv_at hl 0 rfl) ?_
      refine lv_dup hx hb dX10_layVehicle_96 rfl ?_
      refine g_X10_292 C w 0 rfl rfl dX10_layVehicle_97 ?_
      refine lv_iconst (v := 1) hx hb dX10_layVehicle_100 (by decide) ?_
      refine lv_iadd hx hb dX10_layVehicle_101 ?_
      refine p_X10_292 C w 0 rfl (Nat.le_of_ble_eq_true rfl) (ws2 := w_X10_layVehicle g h0 h1 h2 h3 h4 h5 h6 h7 h8 h9 h10 h11 h12 h13 v0_0 v0_1 v0_2 v0_3 v0_4 v0_5 v0_6 v0_7 v0_8 v0_9 v0_11 v0_16 v0_17 v0_19 v0_20 v0_22 v0_23 v0_24 v0_25 v0_31 v0_32 routeMany0 routeCost0 (newTrips0 + 1) newInvoices0 basic1 linkFrom2 linkMinutes3 linkPrice4 linkTo5 f4 f5 newVehicle8 route9 state10 tagPlate11 tried12 tripFor13) rfl dX10_layVehicle_102 (fun H locs w => ?_)
      exact b105 x2 x3 x5 routeMany0 routeCost0 (newTrips0 + 1) newInvoices0 f4 f5 newVehicle8 route9 tried12 tripFor13 _ _ _ hf w (lv_sub hl [0, 1, 2, 3] rfl)
    refine lv_iload hx hb dX10_layVehicle_22 (lv_at hl 4 rfl) ?_
    refine lv_aload_n hx hb dX10_layVehicle_24 rfl (lv_at hl 0 rfl) ?_
    refine g_X10_44 C w 0 rfl rfl dX10_layVehicle_25 ?_
    refine lv_iconst (v := 0) hx hb dX10_layVehicle_28 (by decide) ?_
    obtain ⟨a6, hia6, haa6, hf⟩ := rd_some hf
    refine ial C w 10 rfl hia6 haa6 dX10_layVehicle_29 ?_
    refine lv_icmp_ge (tgt := 143) hx hb dX10_layVehicle_30 (by decide) (fun c7 => ?_) (fun c7 => ?_)
    · replace hf := it_t c7 hf
      refine lv_aload_n hx hb dX10_layVehicle_143 rfl (lv_at hl 0 rfl) ?_
      refine lv_dup hx hb dX10_layVehicle_144 rfl ?_
      refine g_X10_283 C w 0 rfl rfl dX10_layVehicle_145 ?_
      refine lv_iconst (v := 1) hx hb dX10_layVehicle_148 (by decide) ?_
      refine lv_iadd hx hb dX10_layVehicle_149 ?_
      refine p_X10_283 C w 0 rfl (Nat.le_of_ble_eq_true rfl) (ws2 := w_X10_layVehicle g h0 h1 h2 h3 h4 h5 h6 h7 h8 h9 h10 h11 h12 h13 v0_0 v0_1 v0_2 v0_3 v0_4 v0_5 v0_6 v0_7 v0_8 v0_9 v0_11 v0_16 v0_17 v0_19 v0_20 v0_22 v0_23 v0_24 v0_25 v0_31 v0_32 routeMany0 routeCost0 newTrips0 (newInvoices0 + 1) basic1 linkFrom2 linkMinutes3 linkPrice4 linkTo5 newInvoice6 newPassages7 newVehicle8 route9 state10 tagPlate11 tried12 tripFor13) rfl dX10_layVehicle_150 (fun H locs w => ?_)
      obtain ⟨e1, e2, e3, e4, e5, e6, e7, e8, e9, e10⟩ := tp10 hf
      rw [hQ]
      exact rt_v C w rfl (fun _ => 0) (by rw [← e1, ← e2, ← e3, ← e4, ← e5, ← e6, ← e7, ← e8, ← e9, ← e10]) dX10_layVehicle_153
    · replace hf := it_f c7 hf
      refine lv_aload_n hx hb dX10_layVehicle_33 rfl (lv_at hl 0 rfl) ?_
      refine lv_iload hx hb dX10_layVehicle_34 (lv_at hl 4 rfl) ?_
      refine lv_iload_n hx hb dX10_layVehicle_36 rfl (lv_at hl 1 rfl) ?_
      obtain ⟨r8, hc9, hf⟩ := bd1_some hf
      refine ca_iV C w (wn := fun _ => w_X10_layVehicle g h0 h1 h2 h3 h4 h5 h6 h7 h8 h9 h10 h11 h12 h13 v0_0 v0_1 v0_2 v0_3 v0_4 v0_5 v0_6 v0_7 v0_8 v0_9 v0_11 v0_16 v0_17 v0_19 v0_20 v0_22 v0_23 v0_24 v0_25 v0_31 v0_32 routeMany0 routeCost0 newTrips0 newInvoices0 basic1 linkFrom2 linkMinutes3 linkPrice4 linkTo5 newInvoice6 newPassages7 newVehicle8 route9 state10 tagPlate11 tried12 tripFor13) (pm_k [true, true, false, false, false, false, false, false, false, false, true, true, false, false] rfl rfl (fun _ => Nat.le_of_ble_eq_true rfl) (fun _ => rfl)) (c_X10_isConsidered l g F h0 h1 h10 h11 v0_0 v0_1 v0_2 v0_3 v0_4 v0_5 v0_6 v0_7 v0_8 v0_9 v0_11 (.ref h2) (.ref h5) (.ref h3) (.ref h4) v0_16 v0_17 v0_19 v0_20 v0_22 v0_23 v0_24 v0_25 (.int routeMany0) (.int routeCost0) (.ref h9) (.ref h12) (.ref h6) v0_31 v0_32 (.ref h7) (.ref h8) (.ref h13) (.int newTrips0) (.int newInvoices0) x5 x2 basic1 state10 tagPlate11 r8 _ hc9) k_X10_286 (rm_le (by decide) (by decide)) 0 10 rfl rfl rfl rfl hl.1 rfl (Nat.le_of_ble_eq_true rfl) dX10_layVehicle_37 ⟨Nat.le_of_ble_eq_true rfl, Nat.le_of_ble_eq_true rfl⟩ (cells2 := 0) (slots2 := 0) ⟨rfl, rfl⟩ (fun _ H locs w => ?_)
      refine lv_if_eq (tgt := 137) hx hb dX10_layVehicle_40 (by decide) (fun c10 => ?_) (fun c10 => ?_)
      · replace hf := it_t c10 hf
        exact b137 x2 x3 x4 x5 routeMany0 routeCost0 newTrips0 newInvoices0 newInvoice6 newPassages7 newVehicle8 route9 tried12 tripFor13 _ _ _ hf w (lv_sub hl [0, 1, 2, 3, 4] rfl)
      · replace hf := it_f c10 hf
        refine lv_aload_n hx hb dX10_layVehicle_43 rfl (lv_at hl 0 rfl) ?_
        refine lv_iload hx hb dX10_layVehicle_44 (lv_at hl 4 rfl) ?_
        obtain ⟨r11, hc12, hf⟩ := bd1_some hf
        refine ca_iV C w (wn := fun _ => w_X10_layVehicle g h0 h1 h2 h3 h4 h5 h6 h7 h8 h9 h10 h11 h12 h13 v0_0 v0_1 v0_2 v0_3 v0_4 v0_5 v0_6 v0_7 v0_8 v0_9 v0_11 v0_16 v0_17 v0_19 v0_20 v0_22 v0_23 v0_24 v0_25 v0_31 v0_32 routeMany0 routeCost0 newTrips0 newInvoices0 basic1 linkFrom2 linkMinutes3 linkPrice4 linkTo5 newInvoice6 newPassages7 newVehicle8 route9 state10 tagPlate11 tried12 tripFor13) (pm_k [true, true, false, false, false, false, false, false, false, false, true, true, false, false] rfl rfl (fun _ => Nat.le_of_ble_eq_true rfl) (fun _ => rfl)) (c_X10_vehicleOf l g F h0 h1 h10 h11 v0_0 v0_1 v0_2 v0_3 v0_4 v0_5 v0_6 v0_7 v0_8 v0_9 v0_11 (.ref h2) (.ref h5) (.ref h3) (.ref h4) v0_16 v0_17 v0_19 v0_20 v0_22 v0_23 v0_24 v0_25 (.int routeMany0) (.int routeCost0) (.ref h9) (.ref h12) (.ref h6) v0_31 v0_32 (.ref h7) (.ref h8) (.ref h13) (.int newTrips0) (.int newInvoices0) x5 basic1 state10 tagPlate11 r11 _ hc12) k_X10_262 (rm_le (by decide) (by decide)) 0 10 rfl rfl rfl rfl hl.1 rfl (Nat.le_of_ble_eq_true rfl) dX10_layVehicle_46 ⟨Nat.le_of_ble_eq_true rfl, Nat.le_of_ble_eq_true rfl⟩ (cells2 := 0) (slots2 := 0) ⟨rfl, rfl⟩ (fun _ H locs w => ?_)
        refine lv_iload_n hx hb dX10_layVehicle_49 rfl (lv_at hl 2 rfl) ?_
        refine lv_icmp_eq (tgt := 56) hx hb dX10_layVehicle_50 (by decide) (fun c13 => ?_) (fun c13 => ?_)
        · replace hf := it_t c13 hf
          refine lv_iload hx hb dX10_layVehicle_56 (lv_at hl 3 rfl) ?_
          refine lv_if_lt (tgt := 72) hx hb dX10_layVehicle_58 (by decide) (fun c14 => ?_) (fun c14 => ?_)
          · replace hf := it_t c14 hf
            exact b72 x2 x3 x5 routeMany0 routeCost0 newTrips0 newInvoices0 newInvoice6 newPassages7 newVehicle8 route9 tried12 tripFor13 _ _ _ hf w (lv_sub hl [0, 1, 2, 4] rfl)
          · replace hf := it_f c14 hf
            refine lv_aload_n hx hb dX10_layVehicle_61 rfl (lv_at hl 0 rfl) ?_
            refine lv_iload hx hb dX10_layVehicle_62 (lv_at hl 3 rfl) ?_
            refine lv_iload hx hb dX10_layVehicle_64 (lv_at hl 4 rfl) ?_
            obtain ⟨r15, o16, o17, o18, o19, hc20, hf⟩ := bd5_some hf
            refine ca_iV C w (wn := fun _ => w_X10_layVehicle g h0 h1 h2 h3 h4 h5 h6 h7 h8 h9 h10 h11 h12 h13 v0_0 v0_1 v0_2 v0_3 v0_4 v0_5 v0_6 v0_7 v0_8 v0_9 v0_11 v0_16 v0_17 v0_19 v0_20 v0_22 v0_23 v0_24 v0_25 v0_31 v0_32 o16 o17 newTrips0 newInvoices0 basic1 linkFrom2 linkMinutes3 linkPrice4 linkTo5 newInvoice6 newPassages7 newVehicle8 o18 state10 tagPlate11 o19 tripFor13) (pm_k [true, true, true, true, true, true, false, false, false, true, true, false, true, false] rfl rfl (fun _ => Nat.le_of_ble_eq_true rfl) (fun _ => rfl)) (c_X10_legLinks l g F h0 h1 h2 h3 h4 h5 h9 h10 h12 v0_0 v0_1 v0_2 v0_3 v0_4 v0_5 v0_6 v0_7 v0_8 v0_9 v0_11 v0_16 v0_17 (.ref h11) v0_19 v0_20 v0_22 v0_23 v0_24 v0_25 (.ref h6) v0_31 v0_32 (.ref h7) (.ref h8) (.ref h13) (.int newTrips0) (.int newInvoices0) x4 x5 routeMany0 routeCost0 basic1 linkFrom2 linkMinutes3 linkPrice4 linkTo5 route9 state10 tried12 r15 o16 o17 o18 o19 _ hc20) k_X10_289 (rm_le (by decide) (by decide)) 0 10 rfl rfl rfl rfl hl.1 rfl (Nat.le_of_ble_eq_true rfl) dX10_layVehicle_66 ⟨Nat.le_of_ble_eq_true rfl, Nat.le_of_ble_eq_true rfl⟩ (cells2 := 0) (slots2 := 0) ⟨rfl, rfl⟩ (fun _ H locs w => ?_)
            refine lv_if_ne (tgt := 105) hx hb dX10_layVehicle_69 (by decide) (fun c21 => ?_) (fun c21 => ?_)
            · replace hf := it_f c21 hf
              exact b105 x2 x3 x5 o16 o17 newTrips0 newInvoices0 newInvoice6 newPassages7 newVehicle8 o18 o19 tripFor13 _ _ _ hf w (lv_sub hl [0, 1, 2, 4] rfl)
            · replace hf := it_t c21 hf
              exact b72 x2 x3 x5 o16 o17 newTrips0 newInvoices0 newInvoice6 newPassages7 newVehicle8 o18 o19 tripFor13 _ _ _ hf w (lv_sub hl [0, 1, 2, 4] rfl)
        · replace hf := it_f c13 hf
          refine lv_goto (tgt := 137) hx hb dX10_layVehicle_53 (by decide) ?_
          exact b137 x2 x3 x4 x5 routeMany0 routeCost0 newTrips0 newInvoices0 newInvoice6 newPassages7 newVehicle8 route9 tried12 tripFor13 _ _ _ hf w (lv_sub hl [0, 1, 2, 3, 4] rfl)
  refine lv_aload_n hx hb dX10_layVehicle_0 rfl (lv_at hl 0 rfl) ?_
  refine lv_iload_n hx hb dX10_layVehicle_1 rfl (lv_at hl 1 rfl) ?_
  obtain ⟨r22, hc23, hf⟩ := bd1_some hf
  refine ca_iV C w (wn := fun _ => w_X10_layVehicle g h0 h1 h2 h3 h4 h5 h6 h7 h8 h9 h10 h11 h12 h13 v0_0 v0_1 v0_2 v0_3 v0_4 v0_5 v0_6 v0_7 v0_8 v0_9 v0_11 v0_16 v0_17 v0_19 v0_20 v0_22 v0_23 v0_24 v0_25 v0_31 v0_32 routeMany0 routeCost0 newTrips0 newInvoices0 basic1 linkFrom2 linkMinutes3 linkPrice4 linkTo5 newInvoice6 newPassages7 newVehicle8 route9 state10 tagPlate11 tried12 tripFor13) (pm_k [true, true, false, false, false, false, false, false, false, false, true, true, false, false] rfl rfl (fun _ => Nat.le_of_ble_eq_true rfl) (fun _ => rfl)) (c_X10_vehicleOf l g F h0 h1 h10 h11 v0_0 v0_1 v0_2 v0_3 v0_4 v0_5 v0_6 v0_7 v0_8 v0_9 v0_11 (.ref h2) (.ref h5) (.ref h3) (.ref h4) v0_16 v0_17 v0_19 v0_20 v0_22 v0_23 v0_24 v0_25 (.int routeMany0) (.int routeCost0) (.ref h9) (.ref h12) (.ref h6) v0_31 v0_32 (.ref h7) (.ref h8) (.ref h13) (.int newTrips0) (.int newInvoices0) p1 basic1 state10 tagPlate11 r22 _ hc23) k_X10_262 (rm_le (by decide) (by decide)) 0 10 rfl rfl rfl rfl hl.1 rfl (Nat.le_of_ble_eq_true rfl) dX10_layVehicle_2 ⟨Nat.le_of_ble_eq_true rfl, Nat.le_of_ble_eq_true rfl⟩ (cells2 := 0) (slots2 := 0) ⟨rfl, rfl⟩ (fun _ H locs w => ?_)
  refine lv_istore_n (lv' := [(3, .int r22), (0, .ref h0), (1, .int p1), (2, .int p2)]) hx hb dX10_layVehicle_5 rfl hl (by decide) rfl (fun ls hl => ?_)
  refine lv_aload_n hx hb dX10_layVehicle_6 rfl (lv_at hl 1 rfl) ?_
  refine g_X10_75 C w 0 rfl rfl dX10_layVehicle_7 ?_
  refine lv_aload_n hx hb dX10_layVehicle_10 rfl (lv_at hl 1 rfl) ?_
  refine g_X10_283 C w 0 rfl rfl dX10_layVehicle_11 ?_
  refine lv_iload_n hx hb dX10_layVehicle_14 rfl (lv_at hl 0 rfl) ?_
  obtain ⟨f24, hif24, haf24, hf⟩ := wr_some hf
  refine ias C w 8 rfl hif24 haf24 (ws2 := w_X10_layVehicle g h0 h1 h2 h3 h4 h5 h6 h7 h8 h9 h10 h11 h12 h13 v0_0 v0_1 v0_2 v0_3 v0_4 v0_5 v0_6 v0_7 v0_8 v0_9 v0_11 v0_16 v0_17 v0_19 v0_20 v0_22 v0_23 v0_24 v0_25 v0_31 v0_32 routeMany0 routeCost0 newTrips0 newInvoices0 basic1 linkFrom2 linkMinutes3 linkPrice4 linkTo5 newInvoice6 newPassages7 f24 route9 state10 tagPlate11 tried12 tripFor13) rfl dX10_layVehicle_15 (fun H locs w => ?_)
  refine lv_iconst (v := -1) hx hb dX10_layVehicle_16 (by decide) ?_
  refine lv_istore (lv' := [(4, .int (-1)), (3, .int r22), (0, .ref h0), (1, .int p1), (2, .int p2)]) hx hb dX10_layVehicle_17 hl (by decide) rfl (fun ls hl => ?_)
  refine lv_iload_n hx hb dX10_layVehicle_19 rfl (lv_at hl 3 rfl) ?_
  refine lv_istore (lv' := [(5, .int p1), (4, .int (-1)), (3, .int r22), (0, .ref h0), (1, .int p1), (2, .int p2)]) hx hb dX10_layVehicle_20 hl (by decide) rfl (fun ls hl => ?_)
  exact L22 (p2, r22, (-1), p1, routeMany0, routeCost0, newTrips0, newInvoices0, newInvoice6, newPassages7, f24, route9, tried12, tripFor13) hf _ _ _ w (lv_sub hl [3, 5, 2, 1, 0] rfl)

theorem dX10_layAmount_0 : decode cX10_layAmount 0 = .ok (.iconst (-1), 1) := by decide +kernel
theorem dX10_layAmount_1 : decode cX10_layAmount 1 = .ok (.istore_n 2, 1) := by decide +kernel
theorem dX10_layAmount_2 : decode cX10_layAmount 2 = .ok (.iconst 0, 1) := by decide +kernel
theorem dX10_layAmount_3 : decode cX10_layAmount 3 = .ok (.istore_n 3, 1) := by decide +kernel
theorem dX10_layAmount_4 : decode cX10_layAmount 4 = .ok (.iload_n 3, 1) := by decide +kernel
theorem dX10_layAmount_5 : decode cX10_layAmount 5 = .ok (.aload_n 0, 1) := by decide +kernel
theorem dX10_layAmount_6 : decode cX10_layAmount 6 = .ok (.getfield 44, 3) := by decide +kernel
theorem dX10_layAmount_9 : decode cX10_layAmount 9 = .ok (.iconst 0, 1) := by decide +kernel
theorem dX10_layAmount_10 : decode cX10_layAmount 10 = .ok (.iaload, 1) := by decide +kernel
theorem dX10_layAmount_11 : decode cX10_layAmount 11 = .ok (.if_icmp .ge 29, 3) := by decide +kernel
theorem dX10_layAmount_14 : decode cX10_layAmount 14 = .ok (.aload_n 0, 1) := by decide +kernel
theorem dX10_layAmount_15 : decode cX10_layAmount 15 = .ok (.getfield 78, 3) := by decide +kernel
theorem dX10_layAmount_18 : decode cX10_layAmount 18 = .ok (.iload_n 3, 1) := by decide +kernel
theorem dX10_layAmount_19 : decode cX10_layAmount 19 = .ok (.iaload, 1) := by decide +kernel
theorem dX10_layAmount_20 : decode cX10_layAmount 20 = .ok (.iload_n 1, 1) := by decide +kernel
theorem dX10_layAmount_21 : decode cX10_layAmount 21 = .ok (.if_icmp .ne 13, 3) := by decide +kernel
theorem dX10_layAmount_24 : decode cX10_layAmount 24 = .ok (.iload_n 2, 1) := by decide +kernel
theorem dX10_layAmount_25 : decode cX10_layAmount 25 = .ok (.aload_n 0, 1) := by decide +kernel
theorem dX10_layAmount_26 : decode cX10_layAmount 26 = .ok (.iload_n 3, 1) := by decide +kernel
theorem dX10_layAmount_27 : decode cX10_layAmount 27 = .ok (.invokevirtual 265, 3) := by decide +kernel
theorem dX10_layAmount_30 : decode cX10_layAmount 30 = .ok (.invokestatic 295, 3) := by decide +kernel
theorem dX10_layAmount_33 : decode cX10_layAmount 33 = .ok (.istore_n 2, 1) := by decide +kernel
theorem dX10_layAmount_34 : decode cX10_layAmount 34 = .ok (.iinc 3 1, 3) := by decide +kernel
theorem dX10_layAmount_37 : decode cX10_layAmount 37 = .ok (.goto (-33), 3) := by decide +kernel
theorem dX10_layAmount_40 : decode cX10_layAmount 40 = .ok (.aload_n 0, 1) := by decide +kernel
theorem dX10_layAmount_41 : decode cX10_layAmount 41 = .ok (.getfield 75, 3) := by decide +kernel
theorem dX10_layAmount_44 : decode cX10_layAmount 44 = .ok (.aload_n 0, 1) := by decide +kernel
theorem dX10_layAmount_45 : decode cX10_layAmount 45 = .ok (.getfield 63, 3) := by decide +kernel
theorem dX10_layAmount_48 : decode cX10_layAmount 48 = .ok (.iload_n 1, 1) := by decide +kernel
theorem dX10_layAmount_49 : decode cX10_layAmount 49 = .ok (.iaload, 1) := by decide +kernel
theorem dX10_layAmount_50 : decode cX10_layAmount 50 = .ok (.iaload, 1) := by decide +kernel
theorem dX10_layAmount_51 : decode cX10_layAmount 51 = .ok (.istore_n 3, 1) := by decide +kernel
theorem dX10_layAmount_52 : decode cX10_layAmount 52 = .ok (.iload_n 2, 1) := by decide +kernel
theorem dX10_layAmount_53 : decode cX10_layAmount 53 = .ok (.ifCond .ge 21, 3) := by decide +kernel
theorem dX10_layAmount_56 : decode cX10_layAmount 56 = .ok (.iload_n 3, 1) := by decide +kernel
theorem dX10_layAmount_57 : decode cX10_layAmount 57 = .ok (.invokestatic 268, 3) := by decide +kernel
theorem dX10_layAmount_60 : decode cX10_layAmount 60 = .ok (.ifCond .eq 12, 3) := by decide +kernel
theorem dX10_layAmount_63 : decode cX10_layAmount 63 = .ok (.aload_n 0, 1) := by decide +kernel
theorem dX10_layAmount_64 : decode cX10_layAmount 64 = .ok (.getfield 41, 3) := by decide +kernel
theorem dX10_layAmount_67 : decode cX10_layAmount 67 = .ok (.iload_n 3, 1) := by decide +kernel
theorem dX10_layAmount_68 : decode cX10_layAmount 68 = .ok (.iaload, 1) := by decide +kernel
theorem dX10_layAmount_69 : decode cX10_layAmount 69 = .ok (.goto 4, 3) := by decide +kernel
theorem dX10_layAmount_72 : decode cX10_layAmount 72 = .ok (.iconst 2, 1) := by decide +kernel
theorem dX10_layAmount_73 : decode cX10_layAmount 73 = .ok (.istore_n 2, 1) := by decide +kernel
theorem dX10_layAmount_74 : decode cX10_layAmount 74 = .ok (.aload_n 0, 1) := by decide +kernel
theorem dX10_layAmount_75 : decode cX10_layAmount 75 = .ok (.getfield 69, 3) := by decide +kernel
theorem dX10_layAmount_78 : decode cX10_layAmount 78 = .ok (.iload_n 1, 1) := by decide +kernel
theorem dX10_layAmount_79 : decode cX10_layAmount 79 = .ok (.aload_n 0, 1) := by decide +kernel
theorem dX10_layAmount_80 : decode cX10_layAmount 80 = .ok (.iload_n 2, 1) := by decide +kernel
theorem dX10_layAmount_81 : decode cX10_layAmount 81 = .ok (.invokevirtual 222, 3) := by decide +kernel
theorem dX10_layAmount_84 : decode cX10_layAmount 84 = .ok (.iastore, 1) := by decide +kernel
theorem dX10_layAmount_85 : decode cX10_layAmount 85 = .ok (.iconst 0, 1) := by decide +kernel
theorem dX10_layAmount_86 : decode cX10_layAmount 86 = .ok (.istore 4, 2) := by decide +kernel
theorem dX10_layAmount_88 : decode cX10_layAmount 88 = .ok (.iconst (-1), 1) := by decide +kernel
theorem dX10_layAmount_89 : decode cX10_layAmount 89 = .ok (.istore 5, 2) := by decide +kernel
theorem dX10_layAmount_91 : decode cX10_layAmount 91 = .ok (.iconst 0, 1) := by decide +kernel
theorem dX10_layAmount_92 : decode cX10_layAmount 92 = .ok (.istore 6, 2) := by decide +kernel
theorem dX10_layAmount_94 : decode cX10_layAmount 94 = .ok (.iload 6, 2) := by decide +kernel
theorem dX10_layAmount_96 : decode cX10_layAmount 96 = .ok (.aload_n 0, 1) := by decide +kernel
theorem dX10_layAmount_97 : decode cX10_layAmount 97 = .ok (.getfield 44, 3) := by decide +kernel
theorem dX10_layAmount_100 : decode cX10_layAmount 100 = .ok (.iconst 0, 1) := by decide +kernel
theorem dX10_layAmount_101 : decode cX10_layAmount 101 = .ok (.iaload, 1) := by decide +kernel
theorem dX10_layAmount_102 : decode cX10_layAmount 102 = .ok (.if_icmp .ge 95, 3) := by decide +kernel
theorem dX10_layAmount_105 : decode cX10_layAmount 105 = .ok (.aload_n 0, 1) := by decide +kernel
theorem dX10_layAmount_106 : decode cX10_layAmount 106 = .ok (.getfield 78, 3) := by decide +kernel
theorem dX10_layAmount_109 : decode cX10_layAmount 109 = .ok (.iload 6, 2) := by decide +kernel
theorem dX10_layAmount_111 : decode cX10_layAmount 111 = .ok (.iaload, 1) := by decide +kernel
theorem dX10_layAmount_112 : decode cX10_layAmount 112 = .ok (.iload_n 1, 1) := by decide +kernel
theorem dX10_layAmount_113 : decode cX10_layAmount 113 = .ok (.if_icmp .eq 6, 3) := by decide +kernel
theorem dX10_layAmount_116 : decode cX10_layAmount 116 = .ok (.goto 75, 3) := by decide +kernel
theorem dX10_layAmount_119 : decode cX10_layAmount 119 = .ok (.aload_n 0, 1) := by decide +kernel
theorem dX10_layAmount_120 : decode cX10_layAmount 120 = .ok (.getfield 72, 3) := by decide +kernel
theorem dX10_layAmount_123 : decode cX10_layAmount 123 = .ok (.iload_n 1, 1) := by decide +kernel
theorem dX10_layAmount_124 : decode cX10_layAmount 124 = .ok (.iaload, 1) := by decide +kernel
theorem dX10_layAmount_125 : decode cX10_layAmount 125 = .ok (.iconst 1, 1) := by decide +kernel
theorem dX10_layAmount_126 : decode cX10_layAmount 126 = .ok (.if_icmp .ne 26, 3) := by decide +kernel
theorem dX10_layAmount_129 : decode cX10_layAmount 129 = .ok (.aload_n 0, 1) := by decide +kernel
theorem dX10_layAmount_130 : decode cX10_layAmount 130 = .ok (.aload_n 0, 1) := by decide +kernel
theorem dX10_layAmount_131 : decode cX10_layAmount 131 = .ok (.aload_n 0, 1) := by decide +kernel
theorem dX10_layAmount_132 : decode cX10_layAmount 132 = .ok (.iload 6, 2) := by decide +kernel
theorem dX10_layAmount_134 : decode cX10_layAmount 134 = .ok (.iconst 0, 1) := by decide +kernel
theorem dX10_layAmount_135 : decode cX10_layAmount 135 = .ok (.invokevirtual 250, 3) := by decide +kernel
theorem dX10_layAmount_138 : decode cX10_layAmount 138 = .ok (.invokevirtual 300, 3) := by decide +kernel
theorem dX10_layAmount_141 : decode cX10_layAmount 141 = .ok (.aload_n 0, 1) := by decide +kernel
theorem dX10_layAmount_142 : decode cX10_layAmount 142 = .ok (.getfield 69, 3) := by decide +kernel
theorem dX10_layAmount_145 : decode cX10_layAmount 145 = .ok (.iload_n 1, 1) := by decide +kernel
theorem dX10_layAmount_146 : decode cX10_layAmount 146 = .ok (.iaload, 1) := by decide +kernel
theorem dX10_layAmount_147 : decode cX10_layAmount 147 = .ok (.invokevirtual 303, 3) := by decide +kernel
theorem dX10_layAmount_150 : decode cX10_layAmount 150 = .ok (.istore 4, 2) := by decide +kernel
theorem dX10_layAmount_152 : decode cX10_layAmount 152 = .ok (.iload 5, 2) := by decide +kernel
theorem dX10_layAmount_154 : decode cX10_layAmount 154 = .ok (.ifCond .lt 33, 3) := by decide +kernel
theorem dX10_layAmount_157 : decode cX10_layAmount 157 = .ok (.aload_n 0, 1) := by decide +kernel
theorem dX10_layAmount_158 : decode cX10_layAmount 158 = .ok (.iload 5, 2) := by decide +kernel
theorem dX10_layAmount_160 : decode cX10_layAmount 160 = .ok (.iload 6, 2) := by decide +kernel
theorem dX10_layAmount_162 : decode cX10_layAmount 162 = .ok (.invokevirtual 289, 3) := by decide +kernel
theorem dX10_layAmount_165 : decode cX10_layAmount 165 = .ok (.ifCond .le 22, 3) := by decide +kernel
theorem dX10_layAmount_168 : decode cX10_layAmount 168 = .ok (.iload 4, 2) := by decide +kernel
theorem dX10_layAmount_170 : decode cX10_layAmount 170 = .ok (.aload_n 0, 1) := by decide +kernel
theorem dX10_layAmount_171 : decode cX10_layAmount 171 = .ok (.aload_n 0, 1) := by decide +kernel
theorem dX10_layAmount_172 : decode cX10_layAmount 172 = .ok (.getfield 228, 3) := by decide +kernel
theorem dX10_layAmount_175 : decode cX10_layAmount 175 = .ok (.aload_n 0, 1) := by decide +kernel
theorem dX10_layAmount_176 : decode cX10_layAmount 176 = .ok (.getfield 69, 3) := by decide +kernel
theorem dX10_layAmount_179 : decode cX10_layAmount 179 = .ok (.iload_n 1, 1) := by decide +kernel
theorem dX10_layAmount_180 : decode cX10_layAmount 180 = .ok (.iaload, 1) := by decide +kernel
theorem dX10_layAmount_181 : decode cX10_layAmount 181 = .ok (.invokevirtual 303, 3) := by decide +kernel
theorem dX10_layAmount_184 : decode cX10_layAmount 184 = .ok (.iadd, 1) := by decide +kernel
theorem dX10_layAmount_185 : decode cX10_layAmount 185 = .ok (.istore 4, 2) := by decide +kernel
theorem dX10_layAmount_187 : decode cX10_layAmount 187 = .ok (.iload 6, 2) := by decide +kernel
theorem dX10_layAmount_189 : decode cX10_layAmount 189 = .ok (.istore 5, 2) := by decide +kernel
theorem dX10_layAmount_191 : decode cX10_layAmount 191 = .ok (.iinc 6 1, 3) := by decide +kernel
theorem dX10_layAmount_194 : decode cX10_layAmount 194 = .ok (.goto (-100), 3) := by decide +kernel
theorem dX10_layAmount_197 : decode cX10_layAmount 197 = .ok (.aload_n 0, 1) := by decide +kernel
theorem dX10_layAmount_198 : decode cX10_layAmount 198 = .ok (.getfield 66, 3) := by decide +kernel
theorem dX10_layAmount_201 : decode cX10_layAmount 201 = .ok (.iload_n 1, 1) := by decide +kernel
theorem dX10_layAmount_202 : decode cX10_layAmount 202 = .ok (.iload 4, 2) := by decide +kernel
theorem dX10_layAmount_204 : decode cX10_layAmount 204 = .ok (.iastore, 1) := by decide +kernel
theorem dX10_layAmount_205 : decode cX10_layAmount 205 = .ok (.return_, 1) := by decide +kernel
abbrev m_X10_layAmount : MD := (yX10_layAmount, cX10_layAmount, 7, none)
theorem q_1603 : Cond.methodLink RX10 295 Lib.Math.max.name ∈ TS := ts_t 1603 (by decide +kernel) (by decide +kernel)
theorem g_X10_69 {p : Program} {l : Launch} {e : Env} {R : Room} {s : State} {m : MethodId} {args : Array Value} {below : List Frame} {meth : Method} {c : Code} {H : Heap} {locs : List Loc} {cells slots : Nat} {Q : State → Prop} {d : MD} {g : GT} {A : Nat → Prop} {ws : va_W} {pc : Nat} {ls : Array Slot} {rest : List Value} (C : Cx p s m args meth c RX10 d g A) (w : Wd g A ws s.heap H locs) (q0 : Nat) {a : Nat} {fs : List Value} {v : Value} (he : ws[q0]? = some (a, .inr (10, fs))) (hv : fs[32]? = some v) (hd : decode d.2.1 pc = .ok (.getfield 69, 3)) (kk : W p l e R s m args below meth c H locs cells slots Q (F0 m (pc + 3) ls (v :: rest))) : W p l e R s m args below meth c H locs cells slots Q (F0 m pc ls (.ref a :: rest)) := fg C w inX10s (ref := RX10) rfl 32 (by decide) (ts_t (w := Cond.fieldLink RX10 69 RX10 (TX10 32).2.1 (TX10 32).2.2.1) 1254 (by decide +kernel) (by decide +kernel)) rfl q0 he hv hd kk
theorem g_X10_66 {p : Program} {l : Launch} {e : Env} {R : Room} {s : State} {m : MethodId} {args : Array Value} {below : List Frame} {meth : Method} {c : Code} {H : Heap} {locs : List Loc} {cells slots : Nat} {Q : State → Prop} {d : MD} {g : GT} {A : Nat → Prop} {ws : va_W} {pc : Nat} {ls : Array Slot} {rest : List Value} (C : Cx p s m args meth c RX10 d g A) (w : Wd g A ws s.heap H locs) (q0 : Nat) {a : Nat} {fs : List Value} {v : Value} (he : ws[q0]? = some (a, .inr (10, fs))) (hv : fs[31]? = some v) (hd : decode d.2.1 pc = .ok (.getfield 66, 3)) (kk : W p l e R s m args below meth c H locs cells slots Q (F0 m (pc + 3) ls (v :: rest))) : W p l e R s m args below meth c H locs cells slots Q (F0 m pc ls (.ref a :: rest)) := fg C w inX10s (ref := RX10) rfl 31 (by decide) (ts_t (w := Cond.fieldLink RX10 66 RX10 (TX10 31).2.1 (TX10 31).2.2.1) 1253 (by decide +kernel) (by decide +kernel)) rfl q0 he hv hd kk
theorem q_1611 : Cond.code yX10_priceFor cX10_priceFor 3 (some .int) ∈ TS := ts_t 1611 (by decide +kernel) (by decide +kernel)
theorem q_1608 : Cond.methodLink RX10 303 yX10_priceFor ∈ TS := ts_t 1608 (by decide +kernel) (by decide +kernel)
theorem q_1610 : Cond.instanceMethod yX10_priceFor ∈ TS := ts_t 1610 (by decide +kernel) (by decide +kernel)
theorem qs_122 : Cond.selects yX10_priceFor.cls yX10_priceFor yX10_priceFor ∈ TS := ts_s 122 (by decide +kernel) (by decide +kernel)
theorem k_X10_303 : LkV RX10 303 m_X10_priceFor 2 := ⟨q_1608, q_1610, qs_122, ⟨q_11, q_1611, by decide, by decide, by decide +kernel⟩⟩
theorem q_1607 : Cond.code yX10_lowestAt cX10_lowestAt 4 (some .int) ∈ TS := ts_t 1607 (by decide +kernel) (by decide +kernel)
theorem q_1604 : Cond.methodLink RX10 300 yX10_lowestAt ∈ TS := ts_t 1604 (by decide +kernel) (by decide +kernel)
theorem q_1606 : Cond.instanceMethod yX10_lowestAt ∈ TS := ts_t 1606 (by decide +kernel) (by decide +kernel)
theorem qs_121 : Cond.selects yX10_lowestAt.cls yX10_lowestAt yX10_lowestAt ∈ TS := ts_s 121 (by decide +kernel) (by decide +kernel)
theorem k_X10_300 : LkV RX10 300 m_X10_lowestAt 1 := ⟨q_1604, q_1606, qs_121, ⟨q_11, q_1607, by decide, by decide, by decide +kernel⟩⟩
abbrev w_X10_layAmount (g : GT) (h0 h1 h2 h3 h4 h5 h6 h7 h8 h9 h10 h11 h12 h13 h14 h15 h16 h17 : Nat) (v0_0 v0_1 v0_2 v0_3 v0_4 v0_5 v0_6 v0_7 v0_8 v0_9 v0_11 v0_18 v0_20 v0_22 v0_23 v0_24 v0_25 v0_36 v0_37 : Value) (routeMany0 routeCost0 : Int32) (basic1 classAxles2 classPercent3 linkFrom4 linkMinutes5 linkPrice6 linkTo7 newAmount8 newClass9 newInvoice10 newPassages11 newVehicle12 route13 state14 tagAxles15 tried16 tripFor17 : Nat → Int32) : va_W := [(h0, .inr (10, [v0_0, v0_1, v0_2, v0_3, v0_4, v0_5, v0_6, v0_7, v0_8, v0_9, .ref h1, v0_11, .ref h4, .ref h7, .ref h5, .ref h6, .ref h2, .ref h3, v0_18, .ref h15, v0_20, .ref h14, v0_22, v0_23, v0_24, v0_25, .int routeMany0, .int routeCost0, .ref h13, .ref h16, .ref h10, .ref h8, .ref h9, .ref h11, .ref h12, .ref h17, v0_36, v0_37])), (h1, aI g 7 basic1), (h2, aI g 8 classAxles2), (h3, aI g 8 classPercent3), (h4, aI g 48 linkFrom4), (h5, aI g 48 linkMinutes5), (h6, aI g 48 linkPrice6), (h7, aI g 48 linkTo7), (h8, aI g 80 newAmount8), (h9, aI g 80 newClass9), (h10, aI g 80 newInvoice10), (h11, aI g 80 newPassages11), (h12, aI g 80 newVehicle12), (h13, aI g 4 route13), (h14, aI g 2524 state14), (h15, aI g 24 tagAxles15), (h16, aI g 4 tried16), (h17, aI g 80 tripFor17)]
def f_X10_layAmount_b191 (F : Nat) (k94 : (Int32 × Int32 × Int32 × Int32 × Int32 × Int32 × (Nat → Int32) × (Nat → Int32) × (Nat → Int32) × (Nat → Int32)) → Option (Int32 × Int32 × (Nat → Int32) × (Nat → Int32) × (Nat → Int32) × (Nat → Int32))) (basic1 classAxles2 classPercent3 linkFrom4 linkMinutes5 linkPrice6 linkTo7 newInvoice10 newPassages11 newVehicle12 state14 tagAxles15 tripFor17 : Nat → Int32) (x1 x4 x5 x6 routeMany0 routeCost0 : Int32) (newAmount8 newClass9 route13 tried16 : Nat → Int32) : Option (Int32 × Int32 × (Nat → Int32) × (Nat → Int32) × (Nat → Int32) × (Nat → Int32)) :=
  k94 (x1, x4, x5, x6 + 1, routeMany0, routeCost0, newAmount8, newClass9, route13, tried16)
def f_X10_layAmount_b187 (F : Nat) (k94 : (Int32 × Int32 × Int32 × Int32 × Int32 × Int32 × (Nat → Int32) × (Nat → Int32) × (Nat → Int32) × (Nat → Int32)) → Option (Int32 × Int32 × (Nat → Int32) × (Nat → Int32) × (Nat → Int32) × (Nat → Int32))) (basic1 classAxles2 classPercent3 linkFrom4 linkMinutes5 linkPrice6 linkTo7 newInvoice10 newPassages11 newVehicle12 state14 tagAxles15 tripFor17 : Nat → Int32) (x1 x4 x6 routeMany0 routeCost0 : Int32) (newAmount8 newClass9 route13 tried16 : Nat → Int32) : Option (Int32 × Int32 × (Nat → Int32) × (Nat → Int32) × (Nat → Int32) × (Nat → Int32)) :=
  f_X10_layAmount_b191 F k94 basic1 classAxles2 classPercent3 linkFrom4 linkMinutes5 linkPrice6 linkTo7 newInvoice10 newPassages11 newVehicle12 state14 tagAxles15 tripFor17 x1 x4 x6 x6 routeMany0 routeCost0 newAmount8 newClass9 route13 tried16
def f_X10_layAmount_b152 (F : Nat) (k94 : (Int32 × Int32 × Int32 × Int32 × Int32 × Int32 × (Nat → Int32) × (Nat → Int32) × (Nat → Int32) × (Nat → Int32)) → Option (Int32 × Int32 × (Nat → Int32) × (Nat → Int32) × (Nat → Int32) × (Nat → Int32))) (basic1 classAxles2 classPercent3 linkFrom4 linkMinutes5 linkPrice6 linkTo7 newInvoice10 newPassages11 newVehicle12 state14 tagAxles15 tripFor17 : Nat → Int32) (x1 x4 x5 x6 routeMany0 routeCost0 : Int32) (newAmount8 newClass9 route13 tried16 : Nat → Int32) : Option (Int32 × Int32 × (Nat → Int32) × (Nat → Int32) × (Nat → Int32) × (Nat → Int32)) :=
  if x5 < 0 then
    f_X10_layAmount_b187 F k94 basic1 classAxles2 classPercent3 linkFrom4 linkMinutes5 linkPrice6 linkTo7 newInvoice10 newPassages11 newVehicle12 state14 tagAxles15 tripFor17 x1 x4 x6 routeMany0 routeCost0 newAmount8 newClass9 route13 tried16
  else
    bd5 (f_X10_legLinks F x5 x6 routeMany0 routeCost0 basic1 linkFrom4 linkMinutes5 linkPrice6 linkTo7 route13 state14 tried16) fun r2 o3 o4 o5 o6 =>
    if r2 ≤ 0 then
      f_X10_layAmount_b187 F k94 basic1 classAxles2 classPercent3 linkFrom4 linkMinutes5 linkPrice6 linkTo7 newInvoice10 newPassages11 newVehicle12 state14 tagAxles15 tripFor17 x1 x4 x6 o3 o4 newAmount8 newClass9 o5 o6
    else
      rd newClass9 80 x1 fun a9 =>
      bd1 (f_X10_priceFor F o4 a9 classPercent3) fun r10 =>
      f_X10_layAmount_b187 F k94 basic1 classAxles2 classPercent3 linkFrom4 linkMinutes5 linkPrice6 linkTo7 newInvoice10 newPassages11 newVehicle12 state14 tagAxles15 tripFor17 x1 (x4 + r10) x6 o3 o4 newAmount8 newClass9 o5 o6
def f_X10_layAmount_h94 (F : Nat) (basic1 classAxles2 classPercent3 linkFrom4 linkMinutes5 linkPrice6 linkTo7 newInvoice10 newPassages11 newVehicle12 state14 tagAxles15 tripFor17 : Nat → Int32) (k94 : (Int32 × Int32 × Int32 × Int32 × Int32 × Int32 × (Nat → Int32) × (Nat → Int32) × (Nat → Int32) × (Nat → Int32)) → Option (Int32 × Int32 × (Nat → Int32) × (Nat → Int32) × (Nat → Int32) × (Nat → Int32))) (x1 x4 x5 x6 routeMany0 routeCost0 : Int32) (newAmount8 newClass9 route13 tried16 : Nat → Int32) : Option (Int32 × Int32 × (Nat → Int32) × (Nat → Int32) × (Nat → Int32) × (Nat → Int32)) :=
  rd state14 2524 0 fun a12 =>
  if a12 ≤ x6 then
    wr newAmount8 80 x1 x4 fun f14 =>
    some (routeMany0, routeCost0, f14, newClass9, route13, tried16)
  else
    rd tripFor17 80 x6 fun a15 =>
    if a15 = x1 then
      rd newPassages11 80 x1 fun a17 =>
      if a17 = 1 then
        bd1 (f_X10_ofPassage F x6 0 state14) fun r19 =>
        bd1 (f_X10_lowestAt F r19 basic1 linkFrom4 linkPrice6 linkTo7) fun r21 =>
        rd newClass9 80 x1 fun a23 =>
        bd1 (f_X10_priceFor F r21 a23 classPercent3) fun r24 =>
        f_X10_layAmount_b152 F k94 basic1 classAxles2 classPercent3 linkFrom4 linkMinutes5 linkPrice6 linkTo7 newInvoice10 newPassages11 newVehicle12 state14 tagAxles15 tripFor17 x1 r24 x5 x6 routeMany0 routeCost0 newAmount8 newClass9 route13 tried16
      else
        f_X10_layAmount_b152 F k94 basic1 classAxles2 classPercent3 linkFrom4 linkMinutes5 linkPrice6 linkTo7 newInvoice10 newPassages11 newVehicle12 state14 tagAxles15 tripFor17 x1 x4 x5 x6 routeMany0 routeCost0 newAmount8 newClass9 route13 tried16
    else
      f_X10_layAmount_b191 F k94 basic1 classAxles2 classPercent3 linkFrom4 linkMinutes5 linkPrice6 linkTo7 newInvoice10 newPassages11 newVehicle12 state14 tagAxles15 tripFor17 x1 x4 x5 x6 routeMany0 routeCost0 newAmount8 newClass9 route13 tried16
def f_X10_layAmount_L94 (F : Nat) (basic1 classAxles2 classPercent3 linkFrom4 linkMinutes5 linkPrice6 linkTo7 newInvoice10 newPassages11 newVehicle12 state14 tagAxles15 tripFor17 : Nat → Int32) (z : Int32 × Int32 × Int32 × Int32 × Int32 × Int32 × (Nat → Int32) × (Nat → Int32) × (Nat → Int32) × (Nat → Int32)) : Option (Int32 × Int32 × (Nat → Int32) × (Nat → Int32) × (Nat → Int32) × (Nat → Int32)) := lp (fun k z => f_X10_layAmount_h94 F basic1 classAxles2 classPercent3 linkFrom4 linkMinutes5 linkPrice6 linkTo7 newInvoice10 newPassages11 newVehicle12 state14 tagAxles15 tripFor17 k z.1 z.2.1 z.2.2.1 z.2.2.2.1 z.2.2.2.2.1 z.2.2.2.2.2.1 z.2.2.2.2.2.2.1 z.2.2.2.2.2.2.2.1 z.2.2.2.2.2.2.2.2.1 z.2.2.2.2.2.2.2.2.2) F z
def f_X10_layAmount_b74 (F : Nat) (basic1 classAxles2 classPercent3 linkFrom4 linkMinutes5 linkPrice6 linkTo7 newInvoice10 newPassages11 newVehicle12 state14 tagAxles15 tripFor17 : Nat → Int32) (x1 x2 routeMany0 routeCost0 : Int32) (newAmount8 newClass9 route13 tried16 : Nat → Int32) : Option (Int32 × Int32 × (Nat → Int32) × (Nat → Int32) × (Nat → Int32) × (Nat → Int32)) :=
  bd1 (f_X10_classFor F x2 basic1 classAxles2) fun r26 =>
  wr newClass9 80 x1 r26 fun f28 =>
  f_X10_layAmount_L94 F basic1 classAxles2 classPercent3 linkFrom4 linkMinutes5 linkPrice6 linkTo7 newInvoice10 newPassages11 newVehicle12 state14 tagAxles15 tripFor17 (x1, 0, (-1), 0, routeMany0, routeCost0, newAmount8, f28, route13, tried16)
def f_X10_layAmount_b73 (F : Nat) (basic1 classAxles2 classPercent3 linkFrom4 linkMinutes5 linkPrice6 linkTo7 newInvoice10 newPassages11 newVehicle12 state14 tagAxles15 tripFor17 : Nat → Int32) (x1 s0 routeMany0 routeCost0 : Int32) (newAmount8 newClass9 route13 tried16 : Nat → Int32) : Option (Int32 × Int32 × (Nat → Int32) × (Nat → Int32) × (Nat → Int32) × (Nat → Int32)) :=
  f_X10_layAmount_b74 F basic1 classAxles2 classPercent3 linkFrom4 linkMinutes5 linkPrice6 linkTo7 newInvoice10 newPassages11 newVehicle12 state14 tagAxles15 tripFor17 x1 s0 routeMany0 routeCost0 newAmount8 newClass9 route13 tried16
def f_X10_layAmount_b34 (F : Nat) (k4 : (Int32 × Int32 × Int32 × Int32 × Int32 × (Nat → Int32) × (Nat → Int32) × (Nat → Int32) × (Nat → Int32)) → Option (Int32 × Int32 × (Nat → Int32) × (Nat → Int32) × (Nat → Int32) × (Nat → Int32))) (basic1 classAxles2 classPercent3 linkFrom4 linkMinutes5 linkPrice6 linkTo7 newInvoice10 newPassages11 newVehicle12 state14 tagAxles15 tripFor17 : Nat → Int32) (x1 x2 x3 routeMany0 routeCost0 : Int32) (newAmount8 newClass9 route13 tried16 : Nat → Int32) : Option (Int32 × Int32 × (Nat → Int32) × (Nat → Int32) × (Nat → Int32) × (Nat → Int32)) :=
  k4 (x1, x2, x3 + 1, routeMany0, routeCost0, newAmount8, newClass9, route13, tried16)
def f_X10_layAmount_h4 (F : Nat) (basic1 classAxles2 classPercent3 linkFrom4 linkMinutes5 linkPrice6 linkTo7 newInvoice10 newPassages11 newVehicle12 state14 tagAxles15 tripFor17 : Nat → Int32) (k4 : (Int32 × Int32 × Int32 × Int32 × Int32 × (Nat → Int32) × (Nat → Int32) × (Nat → Int32) × (Nat → Int32)) → Option (Int32 × Int32 × (Nat → Int32) × (Nat → Int32) × (Nat → Int32) × (Nat → Int32))) (x1 x2 x3 routeMany0 routeCost0 : Int32) (newAmount8 newClass9 route13 tried16 : Nat → Int32) : Option (Int32 × Int32 × (Nat → Int32) × (Nat → Int32) × (Nat → Int32) × (Nat → Int32)) :=
  rd state14 2524 0 fun a29 =>
  if a29 ≤ x3 then
    rd newInvoice10 80 x1 fun a31 =>
    rd newVehicle12 80 a31 fun a32 =>
    if 0 ≤ x2 then
      f_X10_layAmount_b74 F basic1 classAxles2 classPercent3 linkFrom4 linkMinutes5 linkPrice6 linkTo7 newInvoice10 newPassages11 newVehicle12 state14 tagAxles15 tripFor17 x1 x2 routeMany0 routeCost0 newAmount8 newClass9 route13 tried16
    else
      bd1 (f_X10_isTag F a32) fun r34 =>
      if r34 = 0 then
        f_X10_layAmount_b73 F basic1 classAxles2 classPercent3 linkFrom4 linkMinutes5 linkPrice6 linkTo7 newInvoice10 newPassages11 newVehicle12 state14 tagAxles15 tripFor17 x1 2 routeMany0 routeCost0 newAmount8 newClass9 route13 tried16
      else
        rd tagAxles15 24 a32 fun a37 =>
        f_X10_layAmount_b73 F basic1 classAxles2 classPercent3 linkFrom4 linkMinutes5 linkPrice6 linkTo7 newInvoice10 newPassages11 newVehicle12 state14 tagAxles15 tripFor17 x1 a37 routeMany0 routeCost0 newAmount8 newClass9 route13 tried16
  else
    rd tripFor17 80 x3 fun a38 =>
    if a38 = x1 then
      bd1 (f_X10_axlesOf F x3 state14) fun r40 =>
      f_X10_layAmount_b34 F k4 basic1 classAxles2 classPercent3 linkFrom4 linkMinutes5 linkPrice6 linkTo7 newInvoice10 newPassages11 newVehicle12 state14 tagAxles15 tripFor17 x1 (if x2 < r40 then r40 else x2) x3 routeMany0 routeCost0 newAmount8 newClass9 route13 tried16
    else
      f_X10_layAmount_b34 F k4 basic1 classAxles2 classPercent3 linkFrom4 linkMinutes5 linkPrice6 linkTo7 newInvoice10 newPassages11 newVehicle12 state14 tagAxles15 tripFor17 x1 x2 x3 routeMany0 routeCost0 newAmount8 newClass9 route13 tried16
def f_X10_layAmount_L4 (F : Nat) (basic1 classAxles2 classPercent3 linkFrom4 linkMinutes5 linkPrice6 linkTo7 newInvoice10 newPassages11 newVehicle12 state14 tagAxles15 tripFor17 : Nat → Int32) (z : Int32 × Int32 × Int32 × Int32 × Int32 × (Nat → Int32) × (Nat → Int32) × (Nat → Int32) × (Nat → Int32)) : Option (Int32 × Int32 × (Nat → Int32) × (Nat → Int32) × (Nat → Int32) × (Nat → Int32)) := lp (fun k z => f_X10_layAmount_h4 F basic1 classAxles2 classPercent3 linkFrom4 linkMinutes5 linkPrice6 linkTo7 newInvoice10 newPassages11 newVehicle12 state14 tagAxles15 tripFor17 k z.1 z.2.1 z.2.2.1 z.2.2.2.1 z.2.2.2.2.1 z.2.2.2.2.2.1 z.2.2.2.2.2.2.1 z.2.2.2.2.2.2.2.1 z.2.2.2.2.2.2.2.2) F z
def f_X10_layAmount (F : Nat) (p1 routeMany0 routeCost0 : Int32) (basic1 classAxles2 classPercent3 linkFrom4 linkMinutes5 linkPrice6 linkTo7 newAmount8 newClass9 newInvoice10 newPassages11 newVehicle12 route13 state14 tagAxles15 tried16 tripFor17 : Nat → Int32) : Option (Int32 × Int32 × (Nat → Int32) × (Nat → Int32) × (Nat → Int32) × (Nat → Int32)) :=
  f_X10_layAmount_L4 F basic1 classAxles2 classPercent3 linkFrom4 linkMinutes5 linkPrice6 linkTo7 newInvoice10 newPassages11 newVehicle12 state14 tagAxles15 tripFor17 (p1, (-1), 0, routeMany0, routeCost0, newAmount8, newClass9, route13, tried16)
set_option maxHeartbeats 4000000 in
set_option maxRecDepth 100000 in
theorem c_X10_layAmount (l : Launch) (g : GT) (F : Nat) (h0 h1 h2 h3 h4 h5 h6 h7 h8 h9 h10 h11 h12 h13 h14 h15 h16 h17 : Nat) (v0_0 v0_1 v0_2 v0_3 v0_4 v0_5 v0_6 v0_7 v0_8 v0_9 v0_11 v0_18 v0_20 v0_22 v0_23 v0_24 v0_25 v0_36 v0_37 : Value) (p1 routeMany0 routeCost0 : Int32) (basic1 classAxles2 classPercent3 linkFrom4 linkMinutes5 linkPrice6 linkTo7 newAmount8 newClass9 newInvoice10 newPassages11 newVehicle12 route13 state14 tagAxles15 tried16 tripFor17 : Nat → Int32) (o_routeMany0 o_routeCost0 : Int32) (o_newAmount8 o_newClass9 o_route13 o_tried16 : Nat → Int32) (sz : Nat) (hf : f_X10_layAmount F p1 routeMany0 routeCost0 basic1 classAxles2 classPercent3 linkFrom4 linkMinutes5 linkPrice6 linkTo7 newAmount8 newClass9 newInvoice10 newPassages11 newVehicle12 route13 state14 tagAxles15 tried16 tripFor17 = some (o_routeMany0, o_routeCost0, o_newAmount8, o_newClass9, o_route13, o_tried16)) : CV l m_X10_layAmount (rml 8 0 0) g (w_X10_layAmount g h0 h1 h2 h3 h4 h5 h6 h7 h8 h9 h10 h11 h12 h13 h14 h15 h16 h17 v0_0 v0_1 v0_2 v0_3 v0_4 v0_5 v0_6 v0_7 v0_8 v0_9 v0_11 v0_18 v0_20 v0_22 v0_23 v0_24 v0_25 v0_36 v0_37 routeMany0 routeCost0 basic1 classAxles2 classPercent3 linkFrom4 linkMinutes5 linkPrice6 linkTo7 newAmount8 newClass9 newInvoice10 newPassages11 newVehicle12 route13 state14 tagAxles15 tried16 tripFor17) (fun _ => w_X10_layAmount g h0 h1 h2 h3 h4 h5 h6 h7 h8 h9 h10 h11 h12 h13 h14 h15 h16 h17 v0_0 v0_1 v0_2 v0_3 v0_4 v0_5 v0_6 v0_7 v0_8 v0_9 v0_11 v0_18 v0_20 v0_22 v0_23 v0_24 v0_25 v0_36 v0_37 o_routeMany0 o_routeCost0 basic1 classAxles2 classPercent3 linkFrom4 linkMinutes5 linkPrice6 linkTo7 o_newAmount8 o_newClass9 newInvoice10 newPassages11 newVehicle12 o_route13 state14 tagAxles15 o_tried16 tripFor17) sz [.ref h0, .int p1] := by
  refine en_v (by decide) (Nat.le_of_ble_eq_true rfl) (fun p e s m args below meth c A ls C w hl => ?_)
  have C : Cx p s m args meth c RX10 m_X10_layAmount g A := C
  have hx := C.1
  have hb : c.code = cX10_layAmount := C.2.1
  have hl : lv_has ls 7 [(0, .ref h0), (1, .int p1)] := hl
  obtain ⟨Q, hQ⟩ : ∃ Q, Q = QV below args s g A (fun _ => w_X10_layAmount g h0 h1 h2 h3 h4 h5 h6 h7 h8 h9 h10 h11 h12 h13 h14 h15 h16 h17 v0_0 v0_1 v0_2 v0_3 v0_4 v0_5 v0_6 v0_7 v0_8 v0_9 v0_11 v0_18 v0_20 v0_22 v0_23 v0_24 v0_25 v0_36 v0_37 o_routeMany0 o_routeCost0 basic1 classAxles2 classPercent3 linkFrom4 linkMinutes5 linkPrice6 linkTo7 o_newAmount8 o_newClass9 newInvoice10 newPassages11 newVehicle12 o_route13 state14 tagAxles15 o_tried16 tripFor17) 0 0 := ⟨_, rfl⟩
  suffices hW : W p l e (rml 8 0 0) s m args below meth c s.heap [] 0 0 Q (F0 m 0 ls []) from (by rw [hQ] at hW; exact hW)
  unfold f_X10_layAmount at hf
  have L94 : ∀ (z : Int32 × Int32 × Int32 × Int32 × Int32 × Int32 × (Nat → Int32) × (Nat → Int32) × (Nat → Int32) × (Nat → Int32)), f_X10_layAmount_L94 F basic1 classAxles2 classPercent3 linkFrom4 linkMinutes5 linkPrice6 linkTo7 newInvoice10 newPassages11 newVehicle12 state14 tagAxles15 tripFor17 z = some (o_routeMany0, o_routeCost0, o_newAmount8, o_newClass9, o_route13, o_tried16) → ∀ (H : Heap) (locs : List Loc) (ls : Array Slot), Wd g A (w_X10_layAmount g h0 h1 h2 h3 h4 h5 h6 h7 h8 h9 h10 h11 h12 h13 h14 h15 h16 h17 v0_0 v0_1 v0_2 v0_3 v0_4 v0_5 v0_6 v0_7 v0_8 v0_9 v0_11 v0_18 v0_20 v0_22 v0_23 v0_24 v0_25 v0_36 v0_37 z.2.2.2.2.1 z.2.2.2.2.2.1 basic1 classAxles2 classPercent3 linkFrom4 linkMinutes5 linkPrice6 linkTo7 z.2.2.2.2.2.2.1 z.2.2.2.2.2.2.2.1 newInvoice10 newPassages11 newVehicle12 z.2.2.2.2.2.2.2.2.1 state14 tagAxles15 z.2.2.2.2.2.2.2.2.2 tripFor17) s.heap H locs → lv_has ls 7 [(0, .ref h0), (1, .int z.1), (4, .int z.2.1), (5, .int z.2.2.1), (6, .int z.2.2.2.1)] → W p l e (rml 8 0 0) s m args below meth c H locs 0 0 Q (F0 m 94 ls []) := by
    intro z hf
    refine lp_W (r := (o_routeMany0, o_routeCost0, o_newAmount8, o_newClass9, o_route13, o_tried16)) (fun (z : Int32 × Int32 × Int32 × Int32 × Int32 × Int32 × (Nat → Int32) × (Nat → Int32) × (Nat → Int32) × (Nat → Int32)) => ∀ (H : Heap) (locs : List Loc) (ls : Array Slot), Wd g A (w_X10_layAmount g h0 h1 h2 h3 h4 h5 h6 h7 h8 h9 h10 h11 h12 h13 h14 h15 h16 h17 v0_0 v0_1 v0_2 v0_3 v0_4 v0_5 v0_6 v0_7 v0_8 v0_9 v0_11 v0_18 v0_20 v0_22 v0_23 v0_24 v0_25 v0_36 v0_37 z.2.2.2.2.1 z.2.2.2.2.2.1 basic1 classAxles2 classPercent3 linkFrom4 linkMinutes5 linkPrice6 linkTo7 z.2.2.2.2.2.2.1 z.2.2.2.2.2.2.2.1 newInvoice10 newPassages11 newVehicle12 z.2.2.2.2.2.2.2.2.1 state14 tagAxles15 z.2.2.2.2.2.2.2.2.2 tripFor17) s.heap H locs → lv_has ls 7 [(0, .ref h0), (1, .int z.1), (4, .int z.2.1), (5, .int z.2.2.1), (6, .int z.2.2.2.1)] → W p l e (rml 8 0 0) s m args below meth c H locs 0 0 Q (F0 m 94 ls [])) (fun k94 z ih94 hf => ?_) F z hf
    obtain ⟨x1, x4, x5, x6, routeMany0, routeCost0, newAmount8, newClass9, route13, tried16⟩ := z
    intro H locs ls w hl
    try dsimp only at hf w hl ⊢
    unfold f_X10_layAmount_h94 at hf
    have b191 : ∀ (x1 x4 x5 x6 routeMany0 routeCost0 : Int32) (newAmount8 newClass9 route13 tried16 : Nat → Int32) (H : Heap) (locs : List Loc) (ls : Array Slot), f_X10_layAmount_b191 F k94 basic1 classAxles2 classPercent3 linkFrom4 linkMinutes5 linkPrice6 linkTo7 newInvoice10 newPassages11 newVehicle12 state14 tagAxles15 tripFor17 x1 x4 x5 x6 routeMany0 routeCost0 newAmount8 newClass9 route13 tried16 = some (o_routeMany0, o_routeCost0, o_newAmount8, o_newClass9, o_route13, o_tried16) → Wd g A (w_X10_layAmount g h0 h1 h2 h3 h4 h5 h6 h7 h8 h9 h10 h11 h12 h13 h14 h15 h16 h17 v0_0 v0_1 v0_2 v0_3 v0_4 v0_5 v0_6 v0_7 v0_8 v0_9 v0_11 v0_18 v0_20 v0_22 v0_23 v0_24 v0_25 v0_36 v0_37 routeMany0 routeCost0 basic1 classAxles2 classPercent3 linkFrom4 linkMinutes5 linkPrice6 linkTo7 newAmount8 newClass9 newInvoice10 newPassages11 newVehicle12 route13 state14 tagAxles15 tried16 tripFor17) s.heap H locs → lv_has ls 7 [(0, .ref h0), (1, .int x1), (4, .int x4), (5, .int x5), (6, .int x6)] → W p l e (rml 8 0 0) s m args below meth c H locs 0 0 Q (F0 m 191 ls []) := by
      intro x1 x4 x5 x6 routeMany0 routeCost0 newAmount8 newClass9 route13 tried16 H locs ls hf w hl
      unfold f_X10_layAmount_b191 at hf
      refine lv_iinc (v := x6 + 1) (lv' := [(6, .int (x6 + 1)), (0, .ref h0), (1, .int x1), (4, .int x4), (5, .int x5)]) hx hb dX10_layAmount_191 hl (k := 4) rfl rfl (by decide) rfl (fun ls hl => ?_)
      refine lv_goto (tgt := 94) hx hb dX10_layAmount_194 (by decide) ?_
      exact ih94 (x1, x4, x5, x6 + 1, routeMany0, routeCost0, newAmount8, newClass9, route13, tried16) hf _ _ _ w (lv_sub hl [1, 2, 3, 4, 0] rfl)
    have b187 : ∀ (x1 x4 x6 routeMany0 routeCost0 : Int32) (newAmount8 newClass9 route13 tried16 : Nat → Int32) (H : Heap) (locs : List Loc) (ls : Array Slot), f_X10_layAmount_b187 F k94 basic1 classAxles2 classPercent3 linkFrom4 linkMinutes5 linkPrice6 linkTo7 newInvoice10 newPassages11 newVehicle12 state14 tagAxles15 tripFor17 x1 x4 x6 routeMany0 routeCost0 newAmount8 newClass9 route13 tried16 = some (o_routeMany0, o_routeCost0, o_newAmount8, o_newClass9, o_route13, o_tried16) → Wd g A (w_X10_layAmount g h0 h1 h2 h3 h4 h5 h6 h7 h8 h9 h10 h11 h12 h13 h14 h15 h16 h17 v0_0 v0_1 v0_2 v0_3 v0_4 v0_5 v0_6 v0_7 v0_8 v0_9 v0_11 v0_18 v0_20 v0_22 v0_23 v0_24 v0_25 v0_36 v0_37 routeMany0 routeCost0 basic1 classAxles2 classPercent3 linkFrom4 linkMinutes5 linkPrice6 linkTo7 newAmount8 newClass9 newInvoice10 newPassages11 newVehicle12 route13 state14 tagAxles15 tried16 tripFor17) s.heap H locs → lv_has ls 7 [(0, .ref h0), (1, .int x1), (4, .int x4), (6, .int x6)] → W p l e (rml 8 0 0) s m args below meth c H locs 0 0 Q (F0 m 187 ls []) := by
      intro x1 x4 x6 routeMany0 routeCost0 newAmount8 newClass9 route13 tried16 H locs ls hf w hl
      unfold f_X10_layAmount_b187 at hf
      refine lv_iload hx hb dX10_layAmount_187 (lv_at hl 3 rfl) ?_
      refine lv_istore (lv' := [(5, .int x6), (0, .ref h0), (1, .int x1), (4, .int x4), (6, .int x6)]) hx hb dX10_layAmount_189 hl (by decide) rfl (fun ls hl => ?_)
      exact b191 x1 x4 x6 x6 routeMany0 routeCost0 newAmount8 newClass9 route13 tried16 _ _ _ hf w (lv_sub hl [1, 2, 3, 0, 4] rfl)
    have b152 : ∀ (x1 x4 x5 x6 routeMany0 routeCost0 : Int32) (newAmount8 newClass9 route13 tried16 : Nat → Int32) (H : Heap) (locs : List Loc) (ls : Array Slot), f_X10_layAmount_b152 F k94 basic1 classAxles2 classPercent3 linkFrom4 linkMinutes5 linkPrice6 linkTo7 newInvoice10 newPassages11 newVehicle12 state14 tagAxles15 tripFor17 x1 x4 x5 x6 routeMany0 routeCost0 newAmount8 newClass9 route13 tried16 = some (o_routeMany0, o_routeCost0, o_newAmount8, o_newClass9, o_route13, o_tried16) → Wd g A (w_X10_layAmount g h0 h1 h2 h3 h4 h5 h6 h7 h8 h9 h10 h11 h12 h13 h14 h15 h16 h17 v0_0 v0_1 v0_2 v0_3 v0_4 v0_5 v0_6 v0_7 v0_8 v0_9 v0_11 v0_18 v0_20 v0_22 v0_23 v0_24 v0_25 v0_36 v0_37 routeMany0 routeCost0 basic1 classAxles2 classPercent3 linkFrom4 linkMinutes5 linkPrice6 linkTo7 newAmount8 newClass9 newInvoice10 newPassages11 newVehicle12 route13 state14 tagAxles15 tried16 tripFor17) s.heap H locs → lv_has ls 7 [(0, .ref h0), (1, .int x1), (4, .int x4), (5, .int x5), (6, .int x6)] → W p l e (rml 8 0 0) s m args below meth c H locs 0 0 Q (F0 m 152 ls []) := by
      intro x1 x4 x5 x6 routeMany0 routeCost0 newAmount8 newClass9 route13 tried16 H locs ls hf w hl
      unfold f_X10_layAmount_b152 at hf
      refine lv_iload hx hb dX10_layAmount_152 (lv_at hl 3 rfl) ?_
      refine lv_if_lt (tgt := 187) hx hb dX10_layAmount_154 (by decide) (fun c1 => ?_) (fun c1 => ?_)
      · replace hf := it_t c1 hf
        exact b187 x1 x4 x6 routeMany0 routeCost0 newAmount8 newClass9 route13 tried16 _ _ _ hf w (lv_sub hl [0, 1, 2, 4] rfl)
      · replace hf := it_f c1 hf
        refine lv_aload_n hx hb dX10_layAmount_157 rfl (lv_at hl 0 rfl) ?_
        refine lv_iload hx hb dX10_layAmount_158 (lv_at hl 3 rfl) ?_
        refine lv_iload hx hb dX10_layAmount_160 (lv_at hl 4 rfl) ?_
        obtain ⟨r2, o3, o4, o5, o6, hc7, hf⟩ := bd5_some hf
        refine ca_iV C w (wn := fun _ => w_X10_layAmount g h0 h1 h2 h3 h4 h5 h6 h7 h8 h9 h10 h11 h12 h13 h14 h15 h16 h17 v0_0 v0_1 v0_2 v0_3 v0_4 v0_5 v0_6 v0_7 v0_8 v0_9 v0_11 v0_18 v0_20 v0_22 v0_23 v0_24 v0_25 v0_36 v0_37 o3 o4 basic1 classAxles2 classPercent3 linkFrom4 linkMinutes5 linkPrice6 linkTo7 newAmount8 newClass9 newInvoice10 newPassages11 newVehicle12 o5 state14 tagAxles15 o6 tripFor17) (pm_k [true, true, false, false, true, true, true, true, false, false, false, false, false, true, true, false, true, false] rfl rfl (fun _ => Nat.le_of_ble_eq_true rfl) (fun _ => rfl)) (c_X10_legLinks l g F h0 h1 h4 h5 h6 h7 h13 h14 h16 v0_0 v0_1 v0_2 v0_3 v0_4 v0_5 v0_6 v0_7 v0_8 v0_9 v0_11 (.ref h2) (.ref h3) v0_18 (.ref h15) v0_20 v0_22 v0_23 v0_24 v0_25 (.ref h10) (.ref h8) (.ref h9) (.ref h11) (.ref h12) (.ref h17) v0_36 v0_37 x5 x6 routeMany0 routeCost0 basic1 linkFrom4 linkMinutes5 linkPrice6 linkTo7 route13 state14 tried16 r2 o3 o4 o5 o6 _ hc7) k_X10_289 (rm_le (by decide) (by decide)) 0 10 rfl rfl rfl rfl hl.1 rfl (Nat.le_of_ble_eq_true rfl) dX10_layAmount_162 ⟨Nat.le_of_ble_eq_true rfl, Nat.le_of_ble_eq_true rfl⟩ (cells2 := 0) (slots2 := 0) ⟨rfl, rfl⟩ (fun _ H locs w => ?_)
        refine lv_if_le (tgt := 187) hx hb dX10_layAmount_165 (by decide) (fun c8 => ?_) (fun c8 => ?_)
        · replace hf := it_t c8 hf
          exact b187 x1 x4 x6 o3 o4 newAmount8 newClass9 o5 o6 _ _ _ hf w (lv_sub hl [0, 1, 2, 4] rfl)
        · replace hf := it_f c8 hf
          refine lv_iload hx hb dX10_layAmount_168 (lv_at hl 2 rfl) ?_
          refine lv_aload_n hx hb dX10_layAmount_170 rfl (lv_at hl 0 rfl) ?_
          refine lv_aload_n hx hb dX10_layAmount_171 rfl (lv_at hl 0 rfl) ?_
          refine g_X10_228 C w 0 rfl rfl dX10_layAmount_172 ?_
          refine lv_aload_n hx hb dX10_layAmount_175 rfl (lv_at hl 0 rfl) ?_
          refine g_X10_69 C w 0 rfl rfl dX10_layAmount_176 ?_
          refine lv_iload_n hx hb dX10_layAmount_179 rfl (lv_at hl 1 rfl) ?_
          obtain ⟨a9, hia9, haa9, hf⟩ := rd_some hf
          refine ial C w 9 rfl hia9 haa9 dX10_layAmount_180 ?_
          obtain ⟨r10, hc11, hf⟩ := bd1_some hf
          refine ca_iV C w (wn := fun _ => w_X10_layAmount g h0 h1 h2 h3 h4 h5 h6 h7 h8 h9 h10 h11 h12 h13 h14 h15 h16 h17 v0_0 v0_1 v0_2 v0_3 v0_4 v0_5 v0_6 v0_7 v0_8 v0_9 v0_11 v0_18 v0_20 v0_22 v0_23 v0_24 v0_25 v0_36 v0_37 o3 o4 basic1 classAxles2 classPercent3 linkFrom4 linkMinutes5 linkPrice6 linkTo7 newAmount8 newClass9 newInvoice10 newPassages11 newVehicle12 o5 state14 tagAxles15 o6 tripFor17) (pm_k [true, false, false, true, false, false, false, false, false, false, false, false, false, false, false, false, false, false] rfl rfl (fun _ => Nat.le_of_ble_eq_true rfl) (fun _ => rfl)) (c_X10_priceFor l g F h0 h3 v0_0 v0_1 v0_2 v0_3 v0_4 v0_5 v0_6 v0_7 v0_8 v0_9 (.ref h1) v0_11 (.ref h4) (.ref h7) (.ref h5) (.ref h6) (.ref h2) v0_18 (.ref h15) v0_20 (.ref h14) v0_22 v0_23 v0_24 v0_25 (.int o3) (.int o4) (.ref h13) (.ref h16) (.ref h10) (.ref h8) (.ref h9) (.ref h11) (.ref h12) (.ref h17) v0_36 v0_37 o4 a9 classPercent3 r10 _ hc11) k_X10_303 (rm_le (by decide) (by decide)) 0 10 rfl rfl rfl rfl hl.1 rfl (Nat.le_of_ble_eq_true rfl) dX10_layAmount_181 ⟨Nat.le_of_ble_eq_true rfl, Nat.le_of_ble_eq_true rfl⟩ (cells2 := 0) (slots2 := 0) ⟨rfl, rfl⟩ (fun _ H locs w => ?_)
          refine lv_iadd hx hb dX10_layAmount_184 ?_
          refine lv_istore (lv' := [(4, .int (x4 + r10)), (0, .ref h0), (1, .int x1), (5, .int x5), (6, .int x6)]) hx hb dX10_layAmount_185 hl (by decide) rfl (fun ls hl => ?_)
          exact b187 x1 (x4 + r10) x6 o3 o4 newAmount8 newClass9 o5 o6 _ _ _ hf w (lv_sub hl [1, 2, 0, 4] rfl)
    refine lv_iload hx hb dX10_layAmount_94 (lv_at hl 4 rfl) ?_
    refine lv_aload_n hx hb dX10_layAmount_96 rfl (lv_at hl 0 rfl) ?_
    refine g_X10_44 C w 0 rfl rfl dX10_layAmount_97 ?_
    refine lv_iconst (v := 0) hx hb dX10_layAmount_100 (by decide) ?_
    obtain ⟨a12, hia12, haa12, hf⟩ := rd_some hf
    refine ial C w 14 rfl hia12 haa12 dX10_layAmount_101 ?_
    refine lv_icmp_ge (tgt := 197) hx hb dX10_layAmount_102 (by decide) (fun c13 => ?_) (fun c13 => ?_)
    · replace hf := it_t c13 hf
      refine lv_aload_n hx hb dX10_layAmount_197 rfl (lv_at hl 0 rfl) ?_
      refine g_X10_66 C w 0 rfl rfl dX10_layAmount_198 ?_
      refine lv_iload_n hx hb dX10_layAmount_201 rfl (lv_at hl 1 rfl) ?_
      refine lv_iload hx hb dX10_layAmount_202 (lv_at hl 2 rfl) ?_
      obtain ⟨f14, hif14, haf14, hf⟩ := wr_some hf
      refine ias C w 8 rfl hif14 haf14 (ws2 := w_X10_layAmount g h0 h1 h2 h3 h4 h5 h6 h7 h8 h9 h10 h11 h12 h13 h14 h15 h16 h17 v0_0 v0_1 v0_2 v0_3 v0_4 v0_5 v0_6 v0_7 v0_8 v0_9 v0_11 v0_18 v0_20 v0_22 v0_23 v0_24 v0_25 v0_36 v0_37 routeMany0 routeCost0 basic1 classAxles2 classPercent3 linkFrom4 linkMinutes5 linkPrice6 linkTo7 f14 newClass9 newInvoice10 newPassages11 newVehicle12 route13 state14 tagAxles15 tried16 tripFor17) rfl dX10_layAmount_204 (fun H locs w => ?_)
      obtain ⟨e1, e2, e3, e4, e5, e6⟩ := tp6 hf
      rw [hQ]
      exact rt_v C w rfl (fun _ => 0) (by rw [← e1, ← e2, ← e3, ← e4, ← e5, ← e6]) dX10_layAmount_205
    · replace hf := it_f c13 hf
      refine lv_aload_n hx hb dX10_layAmount_105 rfl (lv_at hl 0 rfl) ?_
      refine g_X10_78 C w 0 rfl rfl dX10_layAmount_106 ?_
      refine lv_iload hx hb dX10_layAmount_109 (lv_at hl 4 rfl) ?_
      obtain ⟨a15, hia15, haa15, hf⟩ := rd_some hf
      refine ial C w 17 rfl hia15 haa15 dX10_layAmount_111 ?_
      refine lv_iload_n hx hb dX10_layAmount_112 rfl (lv_at hl 1 rfl) ?_
      refine lv_icmp_eq (tgt := 119) hx hb dX10_layAmount_113 (by decide) (fun c16 => ?_) (fun c16 => ?_)
      · replace hf := it_t c16 hf
        refine lv_aload_n hx hb dX10_layAmount_119 rfl (lv_at hl 0 rfl) ?_
        refine g_X10_72 C w 0 rfl rfl dX10_layAmount_120 ?_
        refine lv_iload_n hx hb dX10_layAmount_123 rfl (lv_at hl 1 rfl) ?_
        obtain ⟨a17, hia17, haa17, hf⟩ := rd_some hf
        refine ial C w 11 rfl hia17 haa17 dX10_layAmount_124 ?_
        refine lv_iconst (v := 1) hx hb dX10_layAmount_125 (by decide) ?_
        refine lv_icmp_ne (tgt := 152) hx hb dX10_layAmount_126 (by decide) (fun c18 => ?_) (fun c18 => ?_)
        · replace hf := it_f c18 hf
          exact b152 x1 x4 x5 x6 routeMany0 routeCost0 newAmount8 newClass9 route13 tried16 _ _ _ hf w (lv_sub hl [0, 1, 2, 3, 4] rfl)
        · replace hf := it_t c18 hf
          refine lv_aload_n hx hb dX10_layAmount_129 rfl (lv_at hl 0 rfl) ?_
          refine lv_aload_n hx hb dX10_layAmount_130 rfl (lv_at hl 0 rfl) ?_
          refine lv_aload_n hx hb dX10_layAmount_131 rfl (lv_at hl 0 rfl) ?_
          refine lv_iload hx hb dX10_layAmount_132 (lv_at hl 4 rfl) ?_
          refine lv_iconst (v := 0) hx hb dX10_layAmount_134 (by decide) ?_
          obtain ⟨r19, hc20, hf⟩ := bd1_some hf
          refine ca_iV C w (wn := fun _ => w_X10_layAmount g h0 h1 h2 h3 h4 h5 h6 h7 h8 h9 h10 h11 h12 h13 h14 h15 h16 h17 v0_0 v0_1 v0_2 v0_3 v0_4 v0_5 v0_6 v0_7 v0_8 v0_9 v0_11 v0_18 v0_20 v0_22 v0_23 v0_24 v0_25 v0_36 v0_37 routeMany0 routeCost0 basic1 classAxles2 classPercent3 linkFrom4 linkMinutes5 linkPrice6 linkTo7 newAmount8 newClass9 newInvoice10 newPassages11 newVehicle12 route13 state14 tagAxles15 tried16 tripFor17) (pm_k [true, false, false, false, false, false, false, false, false, false, false, false, false, false, true, false, false, false] rfl rfl (fun _ => Nat.le_of_ble_eq_true rfl) (fun _ => rfl)) (c_X10_ofPassage l g F h0 h14 v0_0 v0_1 v0_2 v0_3 v0_4 v0_5 v0_6 v0_7 v0_8 v0_9 (.ref h1) v0_11 (.ref h4) (.ref h7) (.ref h5) (.ref h6) (.ref h2) (.ref h3) v0_18 (.ref h15) v0_20 v0_22 v0_23 v0_24 v0_25 (.int routeMany0) (.int routeCost0) (.ref h13) (.ref h16) (.ref h10) (.ref h8) (.ref h9) (.ref h11) (.ref h12) (.ref h17) v0_36 v0_37 x6 0 state14 r19 _ hc20) k_X10_250 (rm_le (by decide) (by decide)) 0 10 rfl rfl rfl rfl hl.1 rfl (Nat.le_of_ble_eq_true rfl) dX10_layAmount_135 ⟨Nat.le_of_ble_eq_true rfl, Nat.le_of_ble_eq_true rfl⟩ (cells2 := 0) (slots2 := 0) ⟨rfl, rfl⟩ (fun _ H locs w => ?_)
          obtain ⟨r21, hc22, hf⟩ := bd1_some hf
          refine ca_iV C w (wn := fun _ => w_X10_layAmount g h0 h1 h2 h3 h4 h5 h6 h7 h8 h9 h10 h11 h12 h13 h14 h15 h16 h17 v0_0 v0_1 v0_2 v0_3 v0_4 v0_5 v0_6 v0_7 v0_8 v0_9 v0_11 v0_18 v0_20 v0_22 v0_23 v0_24 v0_25 v0_36 v0_37 routeMany0 routeCost0 basic1 classAxles2 classPercent3 linkFrom4 linkMinutes5 linkPrice6 linkTo7 newAmount8 newClass9 newInvoice10 newPassages11 newVehicle12 route13 state14 tagAxles15 tried16 tripFor17) (pm_k [true, true, false, false, true, false, true, true, false, false, false, false, false, false, false, false, false, false] rfl rfl (fun _ => Nat.le_of_ble_eq_true rfl) (fun _ => rfl)) (c_X10_lowestAt l g F h0 h1 h4 h6 h7 v0_0 v0_1 v0_2 v0_3 v0_4 v0_5 v0_6 v0_7 v0_8 v0_9 v0_11 (.ref h5) (.ref h2) (.ref h3) v0_18 (.ref h15) v0_20 (.ref h14) v0_22 v0_23 v0_24 v0_25 (.int routeMany0) (.int routeCost0) (.ref h13) (.ref h16) (.ref h10) (.ref h8) (.ref h9) (.ref h11) (.ref h12) (.ref h17) v0_36 v0_37 r19 basic1 linkFrom4 linkPrice6 linkTo7 r21 _ hc22) k_X10_300 (rm_le (by decide) (by decide)) 0 10 rfl rfl rfl rfl hl.1 rfl (Nat.le_of_ble_eq_true rfl) dX10_layAmount_138 ⟨Nat.le_of_ble_eq_true rfl, Nat.le_of_ble_eq_true rfl⟩ (cells2 := 0) (slots2 := 0) ⟨rfl, rfl⟩ (fun _ H locs w => ?_)
          refine lv_aload_n hx hb dX10_layAmount_141 rfl (lv_at hl 0 rfl) ?_
          refine g_X10_69 C w 0 rfl rfl dX10_layAmount_142 ?_
          refine lv_iload_n hx hb dX10_layAmount_145 rfl (lv_at hl 1 rfl) ?_
          obtain ⟨a23, hia23, haa23, hf⟩ := rd_some hf
          refine ial C w 9 rfl hia23 haa23 dX10_layAmount_146 ?_
          obtain ⟨r24, hc25, hf⟩ := bd1_some hf
          refine ca_iV C w (wn := fun _ => w_X10_layAmount g h0 h1 h2 h3 h4 h5 h6 h7 h8 h9 h10 h11 h12 h13 h14 h15 h16 h17 v0_0 v0_1 v0_2 v0_3 v0_4 v0_5 v0_6 v0_7 v0_8 v0_9 v0_11 v0_18 v0_20 v0_22 v0_23 v0_24 v0_25 v0_36 v0_37 routeMany0 routeCost0 basic1 classAxles2 classPercent3 linkFrom4 linkMinutes5 linkPrice6 linkTo7 newAmount8 newClass9 newInvoice10 newPassages11 newVehicle12 route13 state14 tagAxles15 tried16 tripFor17) (pm_k [true, false, false, true, false, false, false, false, false, false, false, false, false, false, false, false, false, false] rfl rfl (fun _ => Nat.le_of_ble_eq_true rfl) (fun _ => rfl)) (c_X10_priceFor l g F h0 h3 v0_0 v0_1 v0_2 v0_3 v0_4 v0_5 v0_6 v0_7 v0_8 v0_9 (.ref h1) v0_11 (.ref h4) (.ref h7) (.ref h5) (.ref h6) (.ref h2) v0_18 (.ref h15) v0_20 (.ref h14) v0_22 v0_23 v0_24 v0_25 (.int routeMany0) (.int routeCost0) (.ref h13) (.ref h16) (.ref h10) (.ref h8) (.ref h9) (.ref h11) (.ref h12) (.ref h17) v0_36 v0_37 r21 a23 classPercent3 r24 _ hc25) k_X10_303 (rm_le (by decide) (by decide)) 0 10 rfl rfl rfl rfl hl.1 rfl (Nat.le_of_ble_eq_true rfl) dX10_layAmount_147 ⟨Nat.le_of_ble_eq_true rfl, Nat.le_of_ble_eq_true rfl⟩ (cells2 := 0) (slots2 := 0) ⟨rfl, rfl⟩ (fun _ H locs w => ?_)
          refine lv_istore (lv' := [(4, .int r24), (0, .ref h0), (1, .int x1), (5, .int x5), (6, .int x6)]) hx hb dX10_layAmount_150 hl (by decide) rfl (fun ls hl => ?_)
          exact b152 x1 r24 x5 x6 routeMany0 routeCost0 newAmount8 newClass9 route13 tried16 _ _ _ hf w (lv_sub hl [1, 2, 0, 3, 4] rfl)
      · replace hf := it_f c16 hf
        refine lv_goto (tgt := 191) hx hb dX10_layAmount_116 (by decide) ?_
        exact b191 x1 x4 x5 x6 routeMany0 routeCost0 newAmount8 newClass9 route13 tried16 _ _ _ hf w (lv_sub hl [0, 1, 2, 3, 4] rfl)
  have b74 : ∀ (x1 x2 routeMany0 routeCost0 : Int32) (newAmount8 newClass9 route13 tried16 : Nat → Int32) (H : Heap) (locs : List Loc) (ls : Array Slot), f_X10_layAmount_b74 F basic1 classAxles2 classPercent3 linkFrom4 linkMinutes5 linkPrice6 linkTo7 newInvoice10 newPassages11 newVehicle12 state14 tagAxles15 tripFor17 x1 x2 routeMany0 routeCost0 newAmount8 newClass9 route13 tried16 = some (o_routeMany0, o_routeCost0, o_newAmount8, o_newClass9, o_route13, o_tried16) → Wd g A (w_X10_layAmount g h0 h1 h2 h3 h4 h5 h6 h7 h8 h9 h10 h11 h12 h13 h14 h15 h16 h17 v0_0 v0_1 v0_2 v0_3 v0_4 v0_5 v0_6 v0_7 v0_8 v0_9 v0_11 v0_18 v0_20 v0_22 v0_23 v0_24 v0_25 v0_36 v0_37 routeMany0 routeCost0 basic1 classAxles2 classPercent3 linkFrom4 linkMinutes5 linkPrice6 linkTo7 newAmount8 newClass9 newInvoice10 newPassages11 newVehicle12 route13 state14 tagAxles15 tried16 tripFor17) s.heap H locs → lv_has ls 7 [(0, .ref h0), (1, .int x1), (2, .int x2)] → W p l e (rml 8 0 0) s m args below meth c H locs 0 0 Q (F0 m 74 ls []) := by
    intro x1 x2 routeMany0 routeCost0 newAmount8 newClass9 route13 tried16 H locs ls hf w hl
    unfold f_X10_layAmount_b74 at hf
    refine lv_aload_n hx hb dX10_layAmount_74 rfl (lv_at hl 0 rfl) ?_
    refine g_X10_69 C w 0 rfl rfl dX10_layAmount_75 ?_
    refine lv_iload_n hx hb dX10_layAmount_78 rfl (lv_at hl 1 rfl) ?_
    refine lv_aload_n hx hb dX10_layAmount_79 rfl (lv_at hl 0 rfl) ?_
    refine lv_iload_n hx hb dX10_layAmount_80 rfl (lv_at hl 2 rfl) ?_
    obtain ⟨r26, hc27, hf⟩ := bd1_some hf
    refine ca_iV C w (wn := fun _ => w_X10_layAmount g h0 h1 h2 h3 h4 h5 h6 h7 h8 h9 h10 h11 h12 h13 h14 h15 h16 h17 v0_0 v0_1 v0_2 v0_3 v0_4 v0_5 v0_6 v0_7 v0_8 v0_9 v0_11 v0_18 v0_20 v0_22 v0_23 v0_24 v0_25 v0_36 v0_37 routeMany0 routeCost0 basic1 classAxles2 classPercent3 linkFrom4 linkMinutes5 linkPrice6 linkTo7 newAmount8 newClass9 newInvoice10 newPassages11 newVehicle12 route13 state14 tagAxles15 tried16 tripFor17) (pm_k [true, true, true, false, false, false, false, false, false, false, false, false, false, false, false, false, false, false] rfl rfl (fun _ => Nat.le_of_ble_eq_true rfl) (fun _ => rfl)) (c_X10_classFor l g F h0 h1 h2 v0_0 v0_1 v0_2 v0_3 v0_4 v0_5 v0_6 v0_7 v0_8 v0_9 v0_11 (.ref h4) (.ref h7) (.ref h5) (.ref h6) (.ref h3) v0_18 (.ref h15) v0_20 (.ref h14) v0_22 v0_23 v0_24 v0_25 (.int routeMany0) (.int routeCost0) (.ref h13) (.ref h16) (.ref h10) (.ref h8) (.ref h9) (.ref h11) (.ref h12) (.ref h17) v0_36 v0_37 x2 basic1 classAxles2 r26 _ hc27) k_X10_222 (rm_le (by decide) (by decide)) 0 10 rfl rfl rfl rfl hl.1 rfl (Nat.le_of_ble_eq_true rfl) dX10_layAmount_81 ⟨Nat.le_of_ble_eq_true rfl, Nat.le_of_ble_eq_true rfl⟩ (cells2 := 0) (slots2 := 0) ⟨rfl, rfl⟩ (fun _ H locs w => ?_)
    obtain ⟨f28, hif28, haf28, hf⟩ := wr_some hf
    refine ias C w 9 rfl hif28 haf28 (ws2 := w_X10_layAmount g h0 h1 h2 h3 h4 h5 h6 h7 h8 h9 h10 h11 h12 h13 h14 h15 h16 h17 v0_0 v0_1 v0_2 v0_3 v0_4 v0_5 v0_6 v0_7 v0_8 v0_9 v0_11 v0_18 v0_20 v0_22 v0_23 v0_24 v0_25 v0_36 v0_37 routeMany0 routeCost0 basic1 classAxles2 classPercent3 linkFrom4 linkMinutes5 linkPrice6 linkTo7 newAmount8 f28 newInvoice10 newPassages11 newVehicle12 route13 state14 tagAxles15 tried16 tripFor17) rfl dX10_layAmount_84 (fun H locs w => ?_)
    refine lv_iconst (v := 0) hx hb dX10_layAmount_85 (by decide) ?_
    refine lv_istore (lv' := [(4, .int 0), (0, .ref h0), (1, .int x1), (2, .int x2)]) hx hb dX10_layAmount_86 hl (by decide) rfl (fun ls hl => ?_)
    refine lv_iconst (v := -1) hx hb dX10_layAmount_88 (by decide) ?_
    refine lv_istore (lv' := [(5, .int (-1)), (4, .int 0), (0, .ref h0), (1, .int x1), (2, .int x2)]) hx hb dX10_layAmount_89 hl (by decide) rfl (fun ls hl => ?_)
    refine lv_iconst (v := 0) hx hb dX10_layAmount_91 (by decide) ?_
    refine lv_istore (lv' := [(6, .int 0), (5, .int (-1)), (4, .int 0), (0, .ref h0), (1, .int x1), (2, .int x2)]) hx hb dX10_layAmount_92 hl (by decide) rfl (fun ls hl => ?_)
    exact L94 (x1, 0, (-1), 0, routeMany0, routeCost0, newAmount8, f28, route13, tried16) hf _ _ _ w (lv_sub hl [3, 4, 2, 1, 0] rfl)
  have b73 : ∀ (x1 s0 routeMany0 routeCost0 : Int32) (newAmount8 newClass9 route13 tried16 : Nat → Int32) (H : Heap) (locs : List Loc) (ls : Array Slot), f_X10_layAmount_b73 F basic1 classAxles2 classPercent3 linkFrom4 linkMinutes5 linkPrice6 linkTo7 newInvoice10 newPassages11 newVehicle12 state14 tagAxles15 tripFor17 x1 s0 routeMany0 routeCost0 newAmount8 newClass9 route13 tried16 = some (o_routeMany0, o_routeCost0, o_newAmount8, o_newClass9, o_route13, o_tried16) → Wd g A (w_X10_layAmount g h0 h1 h2 h3 h4 h5 h6 h7 h8 h9 h10 h11 h12 h13 h14 h15 h16 h17 v0_0 v0_1 v0_2 v0_3 v0_4 v0_5 v0_6 v0_7 v0_8 v0_9 v0_11 v0_18 v0_20 v0_22 v0_23 v0_24 v0_25 v0_36 v0_37 routeMany0 routeCost0 basic1 classAxles2 classPercent3 linkFrom4 linkMinutes5 linkPrice6 linkTo7 newAmount8 newClass9 newInvoice10 newPassages11 newVehicle12 route13 state14 tagAxles15 tried16 tripFor17) s.heap H locs → lv_has ls 7 [(0, .ref h0), (1, .int x1)] → W p l e (rml 8 0 0) s m args below meth c H locs 0 0 Q (F0 m 73 ls [.int s0]) := by
    intro x1 s0 routeMany0 routeCost0 newAmount8 newClass9 route13 tried16 H locs ls hf w hl
    unfold f_X10_layAmount_b73 at hf
    refine lv_istore_n (lv' := [(2, .int s0), (0, .ref h0), (1, .int x1)]) hx hb dX10_layAmount_73 rfl hl (by decide) rfl (fun ls hl => ?_)
    exact b74 x1 s0 routeMany0 routeCost0 newAmount8 newClass9 route13 tried16 _ _ _ hf w (lv_sub hl [1, 2, 0] rfl)
  have L4 : ∀ (z : Int32 × Int32 × Int32 × Int32 × Int32 × (Nat → Int32) × (Nat → Int32) × (Nat → Int32) × (Nat → Int32)), f_X10_layAmount_L4 F basic1 classAxles2 classPercent3 linkFrom4 linkMinutes5 linkPrice6 linkTo7 newInvoice10 newPassages11 newVehicle12 state14 tagAxles15 tripFor17 z = some (o_routeMany0, o_routeCost0, o_newAmount8, o_newClass9, o_route13, o_tried16) → ∀ (H : Heap) (locs : List Loc) (ls : Array Slot), Wd g A (w_X10_layAmount g h0 h1 h2 h3 h4 h5 h6 h7 h8 h9 h10 h11 h12 h13 h14 h15 h16 h17 v0_0 v0_1 v0_2 v0_3 v0_4 v0_5 v0_6 v0_7 v0_8 v0_9 v0_11 v0_18 v0_20 v0_22 v0_23 v0_24 v0_25 v0_36 v0_37 z.2.2.2.1 z.2.2.2.2.1 basic1 classAxles2 classPercent3 linkFrom4 linkMinutes5 linkPrice6 linkTo7 z.2.2.2.2.2.1 z.2.2.2.2.2.2.1 newInvoice10 newPassages11 newVehicle12 z.2.2.2.2.2.2.2.1 state14 tagAxles15 z.2.2.2.2.2.2.2.2 tripFor17) s.heap H locs → lv_has ls 7 [(0, .ref h0), (1, .int z.1), (2, .int z.2.1), (3, .int z.2.2.1)] → W p l e (rml 8 0 0) s m args below meth c H locs 0 0 Q (F0 m 4 ls []) := by
    intro z hf
    refine lp_W (r := (o_routeMany0, o_routeCost0, o_newAmount8, o_newClass9, o_route13, o_tried16)) (fun (z : Int32 × Int32 × Int32 × Int32 × Int32 × (Nat → Int32) × (Nat → Int32) × (Nat → Int32) × (Nat → Int32)) => ∀ (H : Heap) (locs : List Loc) (ls : Array Slot), Wd g A (w_X10_layAmount g h0 h1 h2 h3 h4 h5 h6 h7 h8 h9 h10 h11 h12 h13 h14 h15 h16 h17 v0_0 v0_1 v0_2 v0_3 v0_4 v0_5 v0_6 v0_7 v0_8 v0_9 v0_11 v0_18 v0_20 v0_22 v0_23 v0_24 v0_25 v0_36 v0_37 z.2.2.2.1 z.2.2.2.2.1 basic1 classAxles2 classPercent3 linkFrom4 linkMinutes5 linkPrice6 linkTo7 z.2.2.2.2.2.1 z.2.2.2.2.2.2.1 newInvoice10 newPassages11 newVehicle12 z.2.2.2.2.2.2.2.1 state14 tagAxles15 z.2.2.2.2.2.2.2.2 tripFor17) s.heap H locs → lv_has ls 7 [(0, .ref h0), (1, .int z.1), (2, .int z.2.1), (3, .int z.2.2.1)] → W p l e (rml 8 0 0) s m args below meth c H locs 0 0 Q (F0 m 4 ls [])) (fun k4 z ih4 hf => ?_) F z hf
    obtain ⟨x1, x2, x3, routeMany0, routeCost0, newAmount8, newClass9, route13, tried16⟩ := z
    intro H locs ls w hl
    try dsimp only at hf w hl ⊢
    unfold f_X10_layAmount_h4 at hf
    have b34 : ∀ (x1 x2 x3 routeMany0 routeCost0 : Int32) (newAmount8 newClass9 route13 tried16 : Nat → Int32) (H : Heap) (locs : List Loc) (ls : Array Slot), f_X10_layAmount_b34 F k4 basic1 classAxles2 classPercent3 linkFrom4 linkMinutes5 linkPrice6 linkTo7 newInvoice10 newPassages11 newVehicle12 state14 tagAxles15 tripFor17 x1 x2 x3 routeMany0 routeCost0 newAmount8 newClass9 route13 tried16 = some (o_routeMany0, o_routeCost0, o_newAmount8, o_newClass9, o_route13, o_tried16) → Wd g A (w_X10_layAmount g h0 h1 h2 h3 h4 h5 h6 h7 h8 h9 h10 h11 h12 h13 h14 h15 h16 h17 v0_0 v0_1 v0_2 v0_3 v0_4 v0_5 v0_6 v0_7 v0_8 v0_9 v0_11 v0_18 v0_20 v0_22 v0_23 v0_24 v0_25 v0_36 v0_37 routeMany0 routeCost0 basic1 classAxles2 classPercent3 linkFrom4 linkMinutes5 linkPrice6 linkTo7 newAmount8 newClass9 newInvoice10 newPassages11 newVehicle12 route13 state14 tagAxles15 tried16 tripFor17) s.heap H locs → lv_has ls 7 [(0, .ref h0), (1, .int x1), (2, .int x2), (3, .int x3)] → W p l e (rml 8 0 0) s m args below meth c H locs 0 0 Q (F0 m 34 ls []) := by
      intro x1 x2 x3 routeMany0 routeCost0 newAmount8 newClass9 route13 tried16 H locs ls hf w hl
      unfold f_X10_layAmount_b34 at hf
      refine lv_iinc (v := x3 + 1) (lv' := [(3, .int (x3 + 1)), (0, .ref h0), (1, .int x1), (2, .int x2)]) hx hb dX10_layAmount_34 hl (k := 3) rfl rfl (by decide) rfl (fun ls hl => ?_)
      refine lv_goto (tgt := 4) hx hb dX10_layAmount_37 (by decide) ?_
      exact ih4 (x1, x2, x3 + 1, routeMany0, routeCost0, newAmount8, newClass9, route13, tried16) hf _ _ _ w (lv_sub hl [1, 2, 3, 0] rfl)
    refine lv_iload_n hx hb dX10_layAmount_4 rfl (lv_at hl 3 rfl) ?_
    refine lv_aload_n hx hb dX10_layAmount_5 rfl (lv_at hl 0 rfl) ?_
    refine g_X10_44 C w 0 rfl rfl dX10_layAmount_6 ?_
    refine lv_iconst (v := 0) hx hb dX10_layAmount_9 (by decide) ?_
    obtain ⟨a29, hia29, haa29, hf⟩ := rd_some hf
    refine ial C w 14 rfl hia29 haa29 dX10_layAmount_10 ?_
    refine lv_icmp_ge (tgt := 40) hx hb dX10_layAmount_11 (by decide) (fun c30 => ?_) (fun c30 => ?_)
    · replace hf := it_t c30 hf
      refine lv_aload_n hx hb dX10_layAmount_40 rfl (lv_at hl 0 rfl) ?_
      refine g_X10_75 C w 0 rfl rfl dX10_layAmount_41 ?_
      refine lv_aload_n hx hb dX10_layAmount_44 rfl (lv_at hl 0 rfl) ?_
      refine g_X10_63 C w 0 rfl rfl dX10_layAmount_45 ?_
      refine lv_iload_n hx hb dX10_layAmount_48 rfl (lv_at hl 1 rfl) ?_
      obtain ⟨a31, hia31, haa31, hf⟩ := rd_some hf
      refine ial C w 10 rfl hia31 haa31 dX10_layAmount_49 ?_
      obtain ⟨a32, hia32, haa32, hf⟩ := rd_some hf
      refine ial C w 12 rfl hia32 haa32 dX10_layAmount_50 ?_
      refine lv_istore_n (lv' := [(3, .int a32), (0, .ref h0), (1, .int x1), (2, .int x2)]) hx hb dX10_layAmount_51 rfl hl (by decide) rfl (fun ls hl => ?_)
      refine lv_iload_n hx hb dX10_layAmount_52 rfl (lv_at hl 3 rfl) ?_
      refine lv_if_ge (tgt := 74) hx hb dX10_layAmount_53 (by decide) (fun c33 => ?_) (fun c33 => ?_)
      · replace hf := it_t c33 hf
        exact b74 x1 x2 routeMany0 routeCost0 newAmount8 newClass9 route13 tried16 _ _ _ hf w (lv_sub hl [1, 2, 3] rfl)
      · replace hf := it_f c33 hf
        refine lv_iload_n hx hb dX10_layAmount_56 rfl (lv_at hl 0 rfl) ?_
        obtain ⟨r34, hc35, hf⟩ := bd1_some hf
        refine ca_iS C w (wn := fun _ => w_X10_layAmount g h0 h1 h2 h3 h4 h5 h6 h7 h8 h9 h10 h11 h12 h13 h14 h15 h16 h17 v0_0 v0_1 v0_2 v0_3 v0_4 v0_5 v0_6 v0_7 v0_8 v0_9 v0_11 v0_18 v0_20 v0_22 v0_23 v0_24 v0_25 v0_36 v0_37 routeMany0 routeCost0 basic1 classAxles2 classPercent3 linkFrom4 linkMinutes5 linkPrice6 linkTo7 newAmount8 newClass9 newInvoice10 newPassages11 newVehicle12 route13 state14 tagAxles15 tried16 tripFor17) (pm_k [false, false, false, false, false, false, false, false, false, false, false, false, false, false, false, false, false, false] rfl rfl (fun _ => Nat.le_of_ble_eq_true rfl) (fun _ => rfl)) (c_X10_isTag l g F a32 r34 _ hc35) k_X10_268 (rm_le (by decide) (by decide)) rfl hl.1 rfl (Nat.le_of_ble_eq_true rfl) dX10_layAmount_57 ⟨Nat.le_of_ble_eq_true rfl, Nat.le_of_ble_eq_true rfl⟩ (cells2 := 0) (slots2 := 0) ⟨rfl, rfl⟩ (fun _ H locs w => ?_)
        refine lv_if_eq (tgt := 72) hx hb dX10_layAmount_60 (by decide) (fun c36 => ?_) (fun c36 => ?_)
        · replace hf := it_t c36 hf
          refine lv_iconst (v := 2) hx hb dX10_layAmount_72 (by decide) ?_
          exact b73 x1 2 routeMany0 routeCost0 newAmount8 newClass9 route13 tried16 _ _ _ hf w (lv_sub hl [1, 2] rfl)
        · replace hf := it_f c36 hf
          refine lv_aload_n hx hb dX10_layAmount_63 rfl (lv_at hl 1 rfl) ?_
          refine g_X10_41 C w 0 rfl rfl dX10_layAmount_64 ?_
          refine lv_iload_n hx hb dX10_layAmount_67 rfl (lv_at hl 0 rfl) ?_
          obtain ⟨a37, hia37, haa37, hf⟩ := rd_some hf
          refine ial C w 15 rfl hia37 haa37 dX10_layAmount_68 ?_
          refine lv_goto (tgt := 73) hx hb dX10_layAmount_69 (by decide) ?_
          exact b73 x1 a37 routeMany0 routeCost0 newAmount8 newClass9 route13 tried16 _ _ _ hf w (lv_sub hl [1, 2] rfl)
    · replace hf := it_f c30 hf
      refine lv_aload_n hx hb dX10_layAmount_14 rfl (lv_at hl 0 rfl) ?_
      refine g_X10_78 C w 0 rfl rfl dX10_layAmount_15 ?_
      refine lv_iload_n hx hb dX10_layAmount_18 rfl (lv_at hl 3 rfl) ?_
      obtain ⟨a38, hia38, haa38, hf⟩ := rd_some hf
      refine ial C w 17 rfl hia38 haa38 dX10_layAmount_19 ?_
      refine lv_iload_n hx hb dX10_layAmount_20 rfl (lv_at hl 1 rfl) ?_
      refine lv_icmp_ne (tgt := 34) hx hb dX10_layAmount_21 (by decide) (fun c39 => ?_) (fun c39 => ?_)
      · replace hf := it_f c39 hf
        exact b34 x1 x2 x3 routeMany0 routeCost0 newAmount8 newClass9 route13 tried16 _ _ _ hf w (lv_sub hl [0, 1, 2, 3] rfl)
      · replace hf := it_t c39 hf
        refine lv_iload_n hx hb dX10_layAmount_24 rfl (lv_at hl 2 rfl) ?_
        refine lv_aload_n hx hb dX10_layAmount_25 rfl (lv_at hl 0 rfl) ?_
        refine lv_iload_n hx hb dX10_layAmount_26 rfl (lv_at hl 3 rfl) ?_
        obtain ⟨r40, hc41, hf⟩ := bd1_some hf
        refine ca_iV C w (wn := fun _ => w_X10_layAmount g h0 h1 h2 h3 h4 h5 h6 h7 h8 h9 h10 h11 h12 h13 h14 h15 h16 h17 v0_0 v0_1 v0_2 v0_3 v0_4 v0_5 v0_6 v0_7 v0_8 v0_9 v0_11 v0_18 v0_20 v0_22 v0_23 v0_24 v0_25 v0_36 v0_37 routeMany0 routeCost0 basic1 classAxles2 classPercent3 linkFrom4 linkMinutes5 linkPrice6 linkTo7 newAmount8 newClass9 newInvoice10 newPassages11 newVehicle12 route13 state14 tagAxles15 tried16 tripFor17) (pm_k [true, false, false, false, false, false, false, false, false, false, false, false, false, false, true, false, false, false] rfl rfl (fun _ => Nat.le_of_ble_eq_true rfl) (fun _ => rfl)) (c_X10_axlesOf l g F h0 h14 v0_0 v0_1 v0_2 v0_3 v0_4 v0_5 v0_6 v0_7 v0_8 v0_9 (.ref h1) v0_11 (.ref h4) (.ref h7) (.ref h5) (.ref h6) (.ref h2) (.ref h3) v0_18 (.ref h15) v0_20 v0_22 v0_23 v0_24 v0_25 (.int routeMany0) (.int routeCost0) (.ref h13) (.ref h16) (.ref h10) (.ref h8) (.ref h9) (.ref h11) (.ref h12) (.ref h17) v0_36 v0_37 x3 state14 r40 _ hc41) k_X10_265 (rm_le (by decide) (by decide)) 0 10 rfl rfl rfl rfl hl.1 rfl (Nat.le_of_ble_eq_true rfl) dX10_layAmount_27 ⟨Nat.le_of_ble_eq_true rfl, Nat.le_of_ble_eq_true rfl⟩ (cells2 := 0) (slots2 := 0) ⟨rfl, rfl⟩ (fun _ H locs w => ?_)
        refine mmx C hl.1 q_1603 q_474 q_16 q_475 (Nat.le_of_ble_eq_true rfl) (Nat.le_of_ble_eq_true rfl) (Nat.le_of_ble_eq_true rfl) (Nat.le_of_ble_eq_true rfl) dX10_layAmount_30 ?_
        refine lv_istore_n (lv' := [(2, .int (if x2 < r40 then r40 else x2)), (0, .ref h0), (1, .int x1), (3, .int x3)]) hx hb dX10_layAmount_33 rfl hl (by decide) rfl (fun ls hl => ?_)
        exact b34 x1 (if x2 < r40 then r40 else x2) x3 routeMany0 routeCost0 newAmount8 newClass9 route13 tried16 _ _ _ hf w (lv_sub hl [1, 2, 0, 3] rfl)
  refine lv_iconst (v := -1) hx hb dX10_layAmount_0 (by decide) ?_
  refine lv_istore_n (lv' := [(2, .int (-1)), (0, .ref h0), (1, .int p1)]) hx hb dX10_layAmount_1 rfl hl (by decide) rfl (fun ls hl => ?_)
  refine lv_iconst (v := 0) hx hb dX10_layAmount_2 (by decide) ?_
  refine lv_istore_n (lv' := [(3, .int 0), (2, .int (-1)), (0, .ref h0), (1, .int p1)]) hx hb dX10_layAmount_3 rfl hl (by decide) rfl (fun ls hl => ?_)
  exact L4 (p1, (-1), 0, routeMany0, routeCost0, newAmount8, newClass9, route13, tried16) hf _ _ _ w (lv_sub hl [2, 3, 1, 0] rfl)

theorem dX10_layBilling_0 : decode cX10_layBilling 0 = .ok (.aload_n 0, 1) := by decide +kernel
theorem dX10_layBilling_1 : decode cX10_layBilling 1 = .ok (.iconst 0, 1) := by decide +kernel
theorem dX10_layBilling_2 : decode cX10_layBilling 2 = .ok (.putfield 292, 3) := by decide +kernel
theorem dX10_layBilling_5 : decode cX10_layBilling 5 = .ok (.aload_n 0, 1) := by decide +kernel
theorem dX10_layBilling_6 : decode cX10_layBilling 6 = .ok (.iconst 0, 1) := by decide +kernel
theorem dX10_layBilling_7 : decode cX10_layBilling 7 = .ok (.putfield 283, 3) := by decide +kernel
theorem dX10_layBilling_10 : decode cX10_layBilling 10 = .ok (.iconst 0, 1) := by decide +kernel
theorem dX10_layBilling_11 : decode cX10_layBilling 11 = .ok (.istore_n 2, 1) := by decide +kernel
theorem dX10_layBilling_12 : decode cX10_layBilling 12 = .ok (.iload_n 2, 1) := by decide +kernel
theorem dX10_layBilling_13 : decode cX10_layBilling 13 = .ok (.bipush 80, 2) := by decide +kernel
theorem dX10_layBilling_15 : decode cX10_layBilling 15 = .ok (.if_icmp .ge 16, 3) := by decide +kernel
theorem dX10_layBilling_18 : decode cX10_layBilling 18 = .ok (.aload_n 0, 1) := by decide +kernel
theorem dX10_layBilling_19 : decode cX10_layBilling 19 = .ok (.getfield 78, 3) := by decide +kernel
theorem dX10_layBilling_22 : decode cX10_layBilling 22 = .ok (.iload_n 2, 1) := by decide +kernel
theorem dX10_layBilling_23 : decode cX10_layBilling 23 = .ok (.iconst (-1), 1) := by decide +kernel
theorem dX10_layBilling_24 : decode cX10_layBilling 24 = .ok (.iastore, 1) := by decide +kernel
theorem dX10_layBilling_25 : decode cX10_layBilling 25 = .ok (.iinc 2 1, 3) := by decide +kernel
theorem dX10_layBilling_28 : decode cX10_layBilling 28 = .ok (.goto (-16), 3) := by decide +kernel
theorem dX10_layBilling_31 : decode cX10_layBilling 31 = .ok (.iconst 0, 1) := by decide +kernel
theorem dX10_layBilling_32 : decode cX10_layBilling 32 = .ok (.istore_n 2, 1) := by decide +kernel
theorem dX10_layBilling_33 : decode cX10_layBilling 33 = .ok (.iload_n 2, 1) := by decide +kernel
theorem dX10_layBilling_34 : decode cX10_layBilling 34 = .ok (.aload_n 0, 1) := by decide +kernel
theorem dX10_layBilling_35 : decode cX10_layBilling 35 = .ok (.getfield 44, 3) := by decide +kernel
theorem dX10_layBilling_38 : decode cX10_layBilling 38 = .ok (.iconst 0, 1) := by decide +kernel
theorem dX10_layBilling_39 : decode cX10_layBilling 39 = .ok (.iaload, 1) := by decide +kernel
theorem dX10_layBilling_40 : decode cX10_layBilling 40 = .ok (.if_icmp .ge 33, 3) := by decide +kernel
theorem dX10_layBilling_43 : decode cX10_layBilling 43 = .ok (.aload_n 0, 1) := by decide +kernel
theorem dX10_layBilling_44 : decode cX10_layBilling 44 = .ok (.iload_n 2, 1) := by decide +kernel
theorem dX10_layBilling_45 : decode cX10_layBilling 45 = .ok (.iload_n 1, 1) := by decide +kernel
theorem dX10_layBilling_46 : decode cX10_layBilling 46 = .ok (.invokevirtual 286, 3) := by decide +kernel
theorem dX10_layBilling_49 : decode cX10_layBilling 49 = .ok (.ifCond .eq 18, 3) := by decide +kernel
theorem dX10_layBilling_52 : decode cX10_layBilling 52 = .ok (.aload_n 0, 1) := by decide +kernel
theorem dX10_layBilling_53 : decode cX10_layBilling 53 = .ok (.getfield 78, 3) := by decide +kernel
theorem dX10_layBilling_56 : decode cX10_layBilling 56 = .ok (.iload_n 2, 1) := by decide +kernel
theorem dX10_layBilling_57 : decode cX10_layBilling 57 = .ok (.iaload, 1) := by decide +kernel
theorem dX10_layBilling_58 : decode cX10_layBilling 58 = .ok (.ifCond .ge 9, 3) := by decide +kernel
theorem dX10_layBilling_61 : decode cX10_layBilling 61 = .ok (.aload_n 0, 1) := by decide +kernel
theorem dX10_layBilling_62 : decode cX10_layBilling 62 = .ok (.iload_n 2, 1) := by decide +kernel
theorem dX10_layBilling_63 : decode cX10_layBilling 63 = .ok (.iload_n 1, 1) := by decide +kernel
theorem dX10_layBilling_64 : decode cX10_layBilling 64 = .ok (.invokevirtual 306, 3) := by decide +kernel
theorem dX10_layBilling_67 : decode cX10_layBilling 67 = .ok (.iinc 2 1, 3) := by decide +kernel
theorem dX10_layBilling_70 : decode cX10_layBilling 70 = .ok (.goto (-37), 3) := by decide +kernel
theorem dX10_layBilling_73 : decode cX10_layBilling 73 = .ok (.iconst 0, 1) := by decide +kernel
theorem dX10_layBilling_74 : decode cX10_layBilling 74 = .ok (.istore_n 2, 1) := by decide +kernel
theorem dX10_layBilling_75 : decode cX10_layBilling 75 = .ok (.iload_n 2, 1) := by decide +kernel
theorem dX10_layBilling_76 : decode cX10_layBilling 76 = .ok (.aload_n 0, 1) := by decide +kernel
theorem dX10_layBilling_77 : decode cX10_layBilling 77 = .ok (.getfield 292, 3) := by decide +kernel
theorem dX10_layBilling_80 : decode cX10_layBilling 80 = .ok (.if_icmp .ge 14, 3) := by decide +kernel
theorem dX10_layBilling_83 : decode cX10_layBilling 83 = .ok (.aload_n 0, 1) := by decide +kernel
theorem dX10_layBilling_84 : decode cX10_layBilling 84 = .ok (.iload_n 2, 1) := by decide +kernel
theorem dX10_layBilling_85 : decode cX10_layBilling 85 = .ok (.invokevirtual 310, 3) := by decide +kernel
theorem dX10_layBilling_88 : decode cX10_layBilling 88 = .ok (.iinc 2 1, 3) := by decide +kernel
theorem dX10_layBilling_91 : decode cX10_layBilling 91 = .ok (.goto (-16), 3) := by decide +kernel
theorem dX10_layBilling_94 : decode cX10_layBilling 94 = .ok (.return_, 1) := by decide +kernel
abbrev m_X10_layBilling : MD := (yX10_layBilling, cX10_layBilling, 3, none)
theorem q_1602 : Cond.code yX10_layAmount cX10_layAmount 7 none ∈ TS := ts_t 1602 (by decide +kernel) (by decide +kernel)
theorem q_1599 : Cond.methodLink RX10 310 yX10_layAmount ∈ TS := ts_t 1599 (by decide +kernel) (by decide +kernel)
theorem q_1601 : Cond.instanceMethod yX10_layAmount ∈ TS := ts_t 1601 (by decide +kernel) (by decide +kernel)
theorem qs_120 : Cond.selects yX10_layAmount.cls yX10_layAmount yX10_layAmount ∈ TS := ts_s 120 (by decide +kernel) (by decide +kernel)
theorem k_X10_310 : LkV RX10 310 m_X10_layAmount 1 := ⟨q_1599, q_1601, qs_120, ⟨q_11, q_1602, by decide, by decide, by decide +kernel⟩⟩
theorem q_1594 : Cond.code yX10_layVehicle cX10_layVehicle 6 none ∈ TS := ts_t 1594 (by decide +kernel) (by decide +kernel)
theorem q_1591 : Cond.methodLink RX10 306 yX10_layVehicle ∈ TS := ts_t 1591 (by decide +kernel) (by decide +kernel)
theorem q_1593 : Cond.instanceMethod yX10_layVehicle ∈ TS := ts_t 1593 (by decide +kernel) (by decide +kernel)
theorem qs_118 : Cond.selects yX10_layVehicle.cls yX10_layVehicle yX10_layVehicle ∈ TS := ts_s 118 (by decide +kernel) (by decide +kernel)
theorem k_X10_306 : LkV RX10 306 m_X10_layVehicle 2 := ⟨q_1591, q_1593, qs_118, ⟨q_11, q_1594, by decide, by decide, by decide +kernel⟩⟩
abbrev w_X10_layBilling (g : GT) (h0 h1 h2 h3 h4 h5 h6 h7 h8 h9 h10 h11 h12 h13 h14 h15 h16 h17 h18 : Nat) (v0_0 v0_1 v0_2 v0_3 v0_4 v0_5 v0_6 v0_7 v0_8 v0_9 v0_11 v0_20 v0_22 v0_23 v0_24 v0_25 : Value) (routeMany0 routeCost0 newTrips0 newInvoices0 : Int32) (basic1 classAxles2 classPercent3 linkFrom4 linkMinutes5 linkPrice6 linkTo7 newAmount8 newClass9 newInvoice10 newPassages11 newVehicle12 route13 state14 tagAxles15 tagPlate16 tried17 tripFor18 : Nat → Int32) : va_W := [(h0, .inr (10, [v0_0, v0_1, v0_2, v0_3, v0_4, v0_5, v0_6, v0_7, v0_8, v0_9, .ref h1, v0_11, .ref h4, .ref h7, .ref h5, .ref h6, .ref h2, .ref h3, .ref h16, .ref h15, v0_20, .ref h14, v0_22, v0_23, v0_24, v0_25, .int routeMany0, .int routeCost0, .ref h13, .ref h17, .ref h10, .ref h8, .ref h9, .ref h11, .ref h12, .ref h18, .int newTrips0, .int newInvoices0])), (h1, aI g 7 basic1), (h2, aI g 8 classAxles2), (h3, aI g 8 classPercent3), (h4, aI g 48 linkFrom4), (h5, aI g 48 linkMinutes5), (h6, aI g 48 linkPrice6), (h7, aI g 48 linkTo7), (h8, aI g 80 newAmount8), (h9, aI g 80 newClass9), (h10, aI g 80 newInvoice10), (h11, aI g 80 newPassages11), (h12, aI g 80 newVehicle12), (h13, aI g 4 route13), (h14, aI g 2524 state14), (h15, aI g 24 tagAxles15), (h16, aI g 24 tagPlate16), (h17, aI g 4 tried17), (h18, aI g 80 tripFor18)]
def f_X10_layBilling_h75 (F : Nat) (basic1 classAxles2 classPercent3 linkFrom4 linkMinutes5 linkPrice6 linkTo7 state14 tagAxles15 tagPlate16 : Nat → Int32) (k75 : (Int32 × Int32 × Int32 × Int32 × Int32 × (Nat → Int32) × (Nat → Int32) × (Nat → Int32) × (Nat → Int32) × (Nat → Int32) × (Nat → Int32) × (Nat → Int32) × (Nat → Int32)) → Option (Int32 × Int32 × Int32 × Int32 × (Nat → Int32) × (Nat → Int32) × (Nat → Int32) × (Nat → Int32) × (Nat → Int32) × (Nat → Int32) × (Nat → Int32) × (Nat → Int32))) (x2 routeMany0 routeCost0 newTrips0 newInvoices0 : Int32) (newAmount8 newClass9 newInvoice10 newPassages11 newVehicle12 route13 tried17 tripFor18 : Nat → Int32) : Option (Int32 × Int32 × Int32 × Int32 × (Nat → Int32) × (Nat → Int32) × (Nat → Int32) × (Nat → Int32) × (Nat → Int32) × (Nat → Int32) × (Nat → Int32) × (Nat → Int32)) :=
  if newTrips0 ≤ x2 then
    some (routeMany0, routeCost0, newTrips0, newInvoices0, newAmount8, newClass9, newInvoice10, newPassages11, newVehicle12, route13, tried17, tripFor18)
  else
    bd6 (f_X10_layAmount F x2 routeMany0 routeCost0 basic1 classAxles2 classPercent3 linkFrom4 linkMinutes5 linkPrice6 linkTo7 newAmount8 newClass9 newInvoice10 newPassages11 newVehicle12 route13 state14 tagAxles15 tried17 tripFor18) fun o2 o3 o4 o5 o6 o7 =>
    k75 (x2 + 1, o2, o3, newTrips0, newInvoices0, o4, o5, newInvoice10, newPassages11, newVehicle12, o6, o7, tripFor18)
def f_X10_layBilling_L75 (F : Nat) (basic1 classAxles2 classPercent3 linkFrom4 linkMinutes5 linkPrice6 linkTo7 state14 tagAxles15 tagPlate16 : Nat → Int32) (z : Int32 × Int32 × Int32 × Int32 × Int32 × (Nat → Int32) × (Nat → Int32) × (Nat → Int32) × (Nat → Int32) × (Nat → Int32) × (Nat → Int32) × (Nat → Int32) × (Nat → Int32)) : Option (Int32 × Int32 × Int32 × Int32 × (Nat → Int32) × (Nat → Int32) × (Nat → Int32) × (Nat → Int32) × (Nat → Int32) × (Nat → Int32) × (Nat → Int32) × (Nat → Int32)) := lp (fun k z => f_X10_layBilling_h75 F basic1 classAxles2 classPercent3 linkFrom4 linkMinutes5 linkPrice6 linkTo7 state14 tagAxles15 tagPlate16 k z.1 z.2.1 z.2.2.1 z.2.2.2.1 z.2.2.2.2.1 z.2.2.2.2.2.1 z.2.2.2.2.2.2.1 z.2.2.2.2.2.2.2.1 z.2.2.2.2.2.2.2.2.1 z.2.2.2.2.2.2.2.2.2.1 z.2.2.2.2.2.2.2.2.2.2.1 z.2.2.2.2.2.2.2.2.2.2.2.1 z.2.2.2.2.2.2.2.2.2.2.2.2) F z
def f_X10_layBilling_b67 (F : Nat) (k33 : (Int32 × Int32 × Int32 × Int32 × Int32 × Int32 × (Nat → Int32) × (Nat → Int32) × (Nat → Int32) × (Nat → Int32) × (Nat → Int32) × (Nat → Int32) × (Nat → Int32) × (Nat → Int32)) → Option (Int32 × Int32 × Int32 × Int32 × (Nat → Int32) × (Nat → Int32) × (Nat → Int32) × (Nat → Int32) × (Nat → Int32) × (Nat → Int32) × (Nat → Int32) × (Nat → Int32))) (basic1 classAxles2 classPercent3 linkFrom4 linkMinutes5 linkPrice6 linkTo7 state14 tagAxles15 tagPlate16 : Nat → Int32) (x1 x2 routeMany0 routeCost0 newTrips0 newInvoices0 : Int32) (newAmount8 newClass9 newInvoice10 newPassages11 newVehicle12 route13 tried17 tripFor18 : Nat → Int32) : Option (Int32 × Int32 × Int32 × Int32 × (Nat → Int32) × (Nat → Int32) × (Nat → Int32) × (Nat → Int32) × (Nat → Int32) × (Nat → Int32) × (Nat → Int32) × (Nat → Int32)) :=
  k33 (x1, x2 + 1, routeMany0, routeCost0, newTrips0, newInvoices0, newAmount8, newClass9, newInvoice10, newPassages11, newVehicle12, route13, tried17, tripFor18)
def f_X10_layBilling_h33 (F : Nat) (basic1 classAxles2 classPercent3 linkFrom4 linkMinutes5 linkPrice6 linkTo7 state14 tagAxles15 tagPlate16 : Nat → Int32) (k33 : (Int32 × Int32 × Int32 × Int32 × Int32 × Int32 × (Nat → Int32) × (Nat → Int32) × (Nat → Int32) × (Nat → Int32) × (Nat → Int32) × (Nat → Int32) × (Nat → Int32) × (Nat → Int32)) → Option (Int32 × Int32 × Int32 × Int32 × (Nat → Int32) × (Nat → Int32) × (Nat → Int32) × (Nat → Int32) × (Nat → Int32) × (Nat → Int32) × (Nat → Int32) × (Nat → Int32))) (x1 x2 routeMany0 routeCost0 newTrips0 newInvoices0 : Int32) (newAmount8 newClass9 newInvoice10 newPassages11 newVehicle12 route13 tried17 tripFor18 : Nat → Int32) : Option (Int32 × Int32 × Int32 × Int32 × (Nat → Int32) × (Nat → Int32) × (Nat → Int32) × (Nat → Int32) × (Nat → Int32) × (Nat → Int32) × (Nat → Int32) × (Nat → Int32)) :=
  rd state14 2524 0 fun a9 =>
  if a9 ≤ x2 then
    f_X10_layBilling_L75 F basic1 classAxles2 classPercent3 linkFrom4 linkMinutes5 linkPrice6 linkTo7 state14 tagAxles15 tagPlate16 (0, routeMany0, routeCost0, newTrips0, newInvoices0, newAmount8, newClass9, newInvoice10, newPassages11, newVehicle12, route13, tried17, tripFor18)
  else
    bd1 (f_X10_isConsidered F x2 x1 basic1 state14 tagPlate16) fun r11 =>
    if r11 = 0 then
      f_X10_layBilling_b67 F k33 basic1 classAxles2 classPercent3 linkFrom4 linkMinutes5 linkPrice6 linkTo7 state14 tagAxles15 tagPlate16 x1 x2 routeMany0 routeCost0 newTrips0 newInvoices0 newAmount8 newClass9 newInvoice10 newPassages11 newVehicle12 route13 tried17 tripFor18
    else
      rd tripFor18 80 x2 fun a14 =>
      if 0 ≤ a14 then
        f_X10_layBilling_b67 F k33 basic1 classAxles2 classPercent3 linkFrom4 linkMinutes5 linkPrice6 linkTo7 state14 tagAxles15 tagPlate16 x1 x2 routeMany0 routeCost0 newTrips0 newInvoices0 newAmount8 newClass9 newInvoice10 newPassages11 newVehicle12 route13 tried17 tripFor18
      else
        bd10 (f_X10_layVehicle F x2 x1 routeMany0 routeCost0 newTrips0 newInvoices0 basic1 linkFrom4 linkMinutes5 linkPrice6 linkTo7 newInvoice10 newPassages11 newVehicle12 route13 state14 tagPlate16 tried17 tripFor18) fun o16 o17 o18 o19 o20 o21 o22 o23 o24 o25 =>
        f_X10_layBilling_b67 F k33 basic1 classAxles2 classPercent3 linkFrom4 linkMinutes5 linkPrice6 linkTo7 state14 tagAxles15 tagPlate16 x1 x2 o16 o17 o18 o19 newAmount8 newClass9 o20 o21 o22 o23 o24 o25
def f_X10_layBilling_L33 (F : Nat) (basic1 classAxles2 classPercent3 linkFrom4 linkMinutes5 linkPrice6 linkTo7 state14 tagAxles15 tagPlate16 : Nat → Int32) (z : Int32 × Int32 × Int32 × Int32 × Int32 × Int32 × (Nat → Int32) × (Nat → Int32) × (Nat → Int32) × (Nat → Int32) × (Nat → Int32) × (Nat → Int32) × (Nat → Int32) × (Nat → Int32)) : Option (Int32 × Int32 × Int32 × Int32 × (Nat → Int32) × (Nat → Int32) × (Nat → Int32) × (Nat → Int32) × (Nat → Int32) × (Nat → Int32) × (Nat → Int32) × (Nat → Int32)) := lp (fun k z => f_X10_layBilling_h33 F basic1 classAxles2 classPercent3 linkFrom4 linkMinutes5 linkPrice6 linkTo7 state14 tagAxles15 tagPlate16 k z.1 z.2.1 z.2.2.1 z.2.2.2.1 z.2.2.2.2.1 z.2.2.2.2.2.1 z.2.2.2.2.2.2.1 z.2.2.2.2.2.2.2.1 z.2.2.2.2.2.2.2.2.1 z.2.2.2.2.2.2.2.2.2.1 z.2.2.2.2.2.2.2.2.2.2.1 z.2.2.2.2.2.2.2.2.2.2.2.1 z.2.2.2.2.2.2.2.2.2.2.2.2.1 z.2.2.2.2.2.2.2.2.2.2.2.2.2) F z
def f_X10_layBilling_h12 (F : Nat) (basic1 classAxles2 classPercent3 linkFrom4 linkMinutes5 linkPrice6 linkTo7 state14 tagAxles15 tagPlate16 : Nat → Int32) (k12 : (Int32 × Int32 × Int32 × Int32 × Int32 × Int32 × (Nat → Int32) × (Nat → Int32) × (Nat → Int32) × (Nat → Int32) × (Nat → Int32) × (Nat → Int32) × (Nat → Int32) × (Nat → Int32)) → Option (Int32 × Int32 × Int32 × Int32 × (Nat → Int32) × (Nat → Int32) × (Nat → Int32) × (Nat → Int32) × (Nat → Int32) × (Nat → Int32) × (Nat → Int32) × (Nat → Int32))) (x1 x2 routeMany0 routeCost0 newTrips0 newInvoices0 : Int32) (newAmount8 newClass9 newInvoice10 newPassages11 newVehicle12 route13 tried17 tripFor18 : Nat → Int32) : Option (Int32 × Int32 × Int32 × Int32 × (Nat → Int32) × (Nat → Int32) × (Nat → Int32) × (Nat → Int32) × (Nat → Int32) × (Nat → Int32) × (Nat → Int32) × (Nat → Int32)) :=
  if 80 ≤ x2 then
    f_X10_layBilling_L33 F basic1 classAxles2 classPercent3 linkFrom4 linkMinutes5 linkPrice6 linkTo7 state14 tagAxles15 tagPlate16 (x1, 0, routeMany0, routeCost0, newTrips0, newInvoices0, newAmount8, newClass9, newInvoice10, newPassages11, newVehicle12, route13, tried17, tripFor18)
  else
    wr tripFor18 80 x2 (-1) fun f28 =>
    k12 (x1, x2 + 1, routeMany0, routeCost0, newTrips0, newInvoices0, newAmount8, newClass9, newInvoice10, newPassages11, newVehicle12, route13, tried17, f28)
def f_X10_layBilling_L12 (F : Nat) (basic1 classAxles2 classPercent3 linkFrom4 linkMinutes5 linkPrice6 linkTo7 state14 tagAxles15 tagPlate16 : Nat → Int32) (z : Int32 × Int32 × Int32 × Int32 × Int32 × Int32 × (Nat → Int32) × (Nat → Int32) × (Nat → Int32) × (Nat → Int32) × (Nat → Int32) × (Nat → Int32) × (Nat → Int32) × (Nat → Int32)) : Option (Int32 × Int32 × Int32 × Int32 × (Nat → Int32) × (Nat → Int32) × (Nat → Int32) × (Nat → Int32) × (Nat → Int32) × (Nat → Int32) × (Nat → Int32) × (Nat → Int32)) := lp (fun k z => f_X10_layBilling_h12 F basic1 classAxles2 classPercent3 linkFrom4 linkMinutes5 linkPrice6 linkTo7 state14 tagAxles15 tagPlate16 k z.1 z.2.1 z.2.2.1 z.2.2.2.1 z.2.2.2.2.1 z.2.2.2.2.2.1 z.2.2.2.2.2.2.1 z.2.2.2.2.2.2.2.1 z.2.2.2.2.2.2.2.2.1 z.2.2.2.2.2.2.2.2.2.1 z.2.2.2.2.2.2.2.2.2.2.1 z.2.2.2.2.2.2.2.2.2.2.2.1 z.2.2.2.2.2.2.2.2.2.2.2.2.1 z.2.2.2.2.2.2.2.2.2.2.2.2.2) F z
def f_X10_layBilling (F : Nat) (p1 routeMany0 routeCost0 newTrips0 newInvoices0 : Int32) (basic1 classAxles2 classPercent3 linkFrom4 linkMinutes5 linkPrice6 linkTo7 newAmount8 newClass9 newInvoice10 newPassages11 newVehicle12 route13 state14 tagAxles15 tagPlate16 tried17 tripFor18 : Nat → Int32) : Option (Int32 × Int32 × Int32 × Int32 × (Nat → Int32) × (Nat → Int32) × (Nat → Int32) × (Nat → Int32) × (Nat → Int32) × (Nat → Int32) × (Nat → Int32) × (Nat → Int32)) :=
  f_X10_layBilling_L12 F basic1 classAxles2 classPercent3 linkFrom4 linkMinutes5 linkPrice6 linkTo7 state14 tagAxles15 tagPlate16 (p1, 0, routeMany0, routeCost0, 0, 0, newAmount8, newClass9, newInvoice10, newPassages11, newVehicle12, route13, tried17, tripFor18)
set_option maxHeartbeats 4000000 in
set_option maxRecDepth 100000 in
theorem c_X10_layBilling (l : Launch) (g : GT) (F : Nat) (h0 h1 h2 h3 h4 h5 h6 h7 h8 h9 h10 h11 h12 h13 h14 h15 h16 h17 h18 : Nat) (v0_0 v0_1 v0_2 v0_3 v0_4 v0_5 v0_6 v0_7 v0_8 v0_9 v0_11 v0_20 v0_22 v0_23 v0_24 v0_25 : Value) (p1 routeMany0 routeCost0 newTrips0 newInvoices0 : Int32) (basic1 classAxles2 classPercent3 linkFrom4 linkMinutes5 linkPrice6 linkTo7 newAmount8 newClass9 newInvoice10 newPassages11 newVehicle12 route13 state14 tagAxles15 tagPlate16 tried17 tripFor18 : Nat → Int32) (o_routeMany0 o_routeCost0 o_newTrips0 o_newInvoices0 : Int32) (o_newAmount8 o_newClass9 o_newInvoice10 o_newPassages11 o_newVehicle12 o_route13 o_tried17 o_tripFor18 : Nat → Int32) (sz : Nat) (hf : f_X10_layBilling F p1 routeMany0 routeCost0 newTrips0 newInvoices0 basic1 classAxles2 classPercent3 linkFrom4 linkMinutes5 linkPrice6 linkTo7 newAmount8 newClass9 newInvoice10 newPassages11 newVehicle12 route13 state14 tagAxles15 tagPlate16 tried17 tripFor18 = some (o_routeMany0, o_routeCost0, o_newTrips0, o_newInvoices0, o_newAmount8, o_newClass9, o_newInvoice10, o_newPassages11, o_newVehicle12, o_route13, o_tried17, o_tripFor18)) : CV l m_X10_layBilling (rml 9 0 0) g (w_X10_layBilling g h0 h1 h2 h3 h4 h5 h6 h7 h8 h9 h10 h11 h12 h13 h14 h15 h16 h17 h18 v0_0 v0_1 v0_2 v0_3 v0_4 v0_5 v0_6 v0_7 v0_8 v0_9 v0_11 v0_20 v0_22 v0_23 v0_24 v0_25 routeMany0 routeCost0 newTrips0 newInvoices0 basic1 classAxles2 classPercent3 linkFrom4 linkMinutes5 linkPrice6 linkTo7 newAmount8 newClass9 newInvoice10 newPassages11 newVehicle12 route13 state14 tagAxles15 tagPlate16 tried17 tripFor18) (fun _ => w_X10_layBilling g h0 h1 h2 h3 h4 h5 h6 h7 h8 h9 h10 h11 h12 h13 h14 h15 h16 h17 h18 v0_0 v0_1 v0_2 v0_3 v0_4 v0_5 v0_6 v0_7 v0_8 v0_9 v0_11 v0_20 v0_22 v0_23 v0_24 v0_25 o_routeMany0 o_routeCost0 o_newTrips0 o_newInvoices0 basic1 classAxles2 classPercent3 linkFrom4 linkMinutes5 linkPrice6 linkTo7 o_newAmount8 o_newClass9 o_newInvoice10 o_newPassages11 o_newVehicle12 o_route13 state14 tagAxles15 tagPlate16 o_tried17 o_tripFor18) sz [.ref h0, .int p1] := by
  refine en_v (by decide) (Nat.le_of_ble_eq_true rfl) (fun p e s m args below meth c A ls C w hl => ?_)
  have C : Cx p s m args meth c RX10 m_X10_layBilling g A := C
  have hx := C.1
  have hb : c.code = cX10_layBilling := C.2.1
  have hl : lv_has ls 3 [(0, .ref h0), (1, .int p1)] := hl
  obtain ⟨Q, hQ⟩ : ∃ Q, Q = QV below args s g A (fun _ => w_X10_layBilling g h0 h1 h2 h3 h4 h5 h6 h7 h8 h9 h10 h11 h12 h13 h14 h15 h16 h17 h18 v0_0 v0_1 v0_2 v0_3 v0_4 v0_5 v0_6 v0_7 v0_8 v0_9 v0_11 v0_20 v0_22 v0_23 v0_24 v0_25 o_routeMany0 o_routeCost0 o_newTrips0 o_newInvoices0 basic1 classAxles2 classPercent3 linkFrom4 linkMinutes5 linkPrice6 linkTo7 o_newAmount8 o_newClass9 o_newInvoice10 o_newPassages11 o_newVehicle12 o_route13 state14 tagAxles15 tagPlate16 o_tried17 o_tripFor18) 0 0 := ⟨_, rfl⟩
  suffices hW : W p l e (rml 9 0 0) s m args below meth c s.heap [] 0 0 Q (F0 m 0 ls []) from (by rw [hQ] at hW; exact hW)
  unfold f_X10_layBilling at hf
  have L75 : ∀ (z : Int32 × Int32 × Int32 × Int32 × Int32 × (Nat → Int32) × (Nat → Int32) × (Nat → Int32) × (Nat → Int32) × (Nat → Int32) × (Nat → Int32) × (Nat → Int32) × (Nat → Int32)), f_X10_layBilling_L75 F basic1 classAxles2 classPercent3 linkFrom4 linkMinutes5 linkPrice6 linkTo7 state14 tagAxles15 tagPlate16 z = some (o_routeMany0, o_routeCost0, o_newTrips0, o_newInvoices0, o_newAmount8, o_newClass9, o_newInvoice10, o_newPassages11, o_newVehicle12, o_route13, o_tried17, o_tripFor18) → ∀ (H : Heap) (locs : List Loc) (ls : Array Slot), Wd g A (w_X10_layBilling g h0 h1 h2 h3 h4 h5 h6 h7 h8 h9 h10 h11 h12 h13 h14 h15 h16 h17 h18 v0_0 v0_1 v0_2 v0_3 v0_4 v0_5 v0_6 v0_7 v0_8 v0_9 v0_11 v0_20 v0_22 v0_23 v0_24 v0_25 z.2.1 z.2.2.1 z.2.2.2.1 z.2.2.2.2.1 basic1 classAxles2 classPercent3 linkFrom4 linkMinutes5 linkPrice6 linkTo7 z.2.2.2.2.2.1 z.2.2.2.2.2.2.1 z.2.2.2.2.2.2.2.1 z.2.2.2.2.2.2.2.2.1 z.2.2.2.2.2.2.2.2.2.1 z.2.2.2.2.2.2.2.2.2.2.1 state14 tagAxles15 tagPlate16 z.2.2.2.2.2.2.2.2.2.2.2.1 z.2.2.2.2.2.2.2.2.2.2.2.2) s.heap H locs → lv_has ls 3 [(0, .ref h0), (2, .int z.1)] → W p l e (rml 9 0 0) s m args below meth c H locs 0 0 Q (F0 m 75 ls []) := by
    intro z hf
    refine lp_W (r := (o_routeMany0, o_routeCost0, o_newTrips0, o_newInvoices0, o_newAmount8, o_newClass9, o_newInvoice10, o_newPassages11, o_newVehicle12, o_route13, o_tried17, o_tripFor18)) (fun (z : Int32 × Int32 × Int32 × Int32 × Int32 × (Nat → Int32) × (Nat → Int32) × (Nat → Int32) × (Nat → Int32) × (Nat → Int32) × (Nat → Int32) × (Nat → Int32) × (Nat → Int32)) => ∀ (H : Heap) (locs : List Loc) (ls : Array Slot), Wd g A (w_X10_layBilling g h0 h1 h2 h3 h4 h5 h6 h7 h8 h9 h10 h11 h12 h13 h14 h15 h16 h17 h18 v0_0 v0_1 v0_2 v0_3 v0_4 v0_5 v0_6 v0_7 v0_8 v0_9 v0_11 v0_20 v0_22 v0_23 v0_24 v0_25 z.2.1 z.2.2.1 z.2.2.2.1 z.2.2.2.2.1 basic1 classAxles2 classPercent3 linkFrom4 linkMinutes5 linkPrice6 linkTo7 z.2.2.2.2.2.1 z.2.2.2.2.2.2.1 z.2.2.2.2.2.2.2.1 z.2.2.2.2.2.2.2.2.1 z.2.2.2.2.2.2.2.2.2.1 z.2.2.2.2.2.2.2.2.2.2.1 state14 tagAxles15 tagPlate16 z.2.2.2.2.2.2.2.2.2.2.2.1 z.2.2.2.2.2.2.2.2.2.2.2.2) s.heap H locs → lv_has ls 3 [(0, .ref h0), (2, .int z.1)] → W p l e (rml 9 0 0) s m args below meth c H locs 0 0 Q (F0 m 75 ls [])) (fun k75 z ih75 hf => ?_) F z hf
    obtain ⟨x2, routeMany0, routeCost0, newTrips0, newInvoices0, newAmount8, newClass9, newInvoice10, newPassages11, newVehicle12, route13, tried17, tripFor18⟩ := z
    intro H locs ls w hl
    try dsimp only at hf w hl ⊢
    unfold f_X10_layBilling_h75 at hf
    refine lv_iload_n hx hb dX10_layBilling_75 rfl (lv_at hl 1 rfl) ?_
    refine lv_aload_n hx hb dX10_layBilling_76 rfl (lv_at hl 0 rfl) ?_
    refine g_X10_292 C w 0 rfl rfl dX10_layBilling_77 ?_
    refine lv_icmp_ge (tgt := 94) hx hb dX10_layBilling_80 (by decide) (fun c1 => ?_) (fun c1 => ?_)
    · replace hf := it_t c1 hf
      obtain ⟨e1, e2, e3, e4, e5, e6, e7, e8, e9, e10, e11, e12⟩ := tp12 hf
      rw [hQ]
      exact rt_v C w rfl (fun _ => 0) (by rw [← e1, ← e2, ← e3, ← e4, ← e5, ← e6, ← e7, ← e8, ← e9, ← e10, ← e11, ← e12]) dX10_layBilling_94
    · replace hf := it_f c1 hf
      refine lv_aload_n hx hb dX10_layBilling_83 rfl (lv_at hl 0 rfl) ?_
      refine lv_iload_n hx hb dX10_layBilling_84 rfl (lv_at hl 1 rfl) ?_
      obtain ⟨o2, o3, o4, o5, o6, o7, hc8, hf⟩ := bd6_some hf
      refine ca_vV C w (wn := fun _ => w_X10_layBilling g h0 h1 h2 h3 h4 h5 h6 h7 h8 h9 h10 h11 h12 h13 h14 h15 h16 h17 h18 v0_0 v0_1 v0_2 v0_3 v0_4 v0_5 v0_6 v0_7 v0_8 v0_9 v0_11 v0_20 v0_22 v0_23 v0_24 v0_25 o2 o3 newTrips0 newInvoices0 basic1 classAxles2 classPercent3 linkFrom4 linkMinutes5 linkPrice6 linkTo7 o4 o5 newInvoice10 newPassages11 newVehicle12 o6 state14 tagAxles15 tagPlate16 o7 tripFor18) (pm_k [true, true, true, true, true, true, true, true, true, true, true, true, true, true, true, true, false, true, true] rfl rfl (fun _ => Nat.le_of_ble_eq_true rfl) (fun _ => rfl)) (c_X10_layAmount l g F h0 h1 h2 h3 h4 h5 h6 h7 h8 h9 h10 h11 h12 h13 h14 h15 h17 h18 v0_0 v0_1 v0_2 v0_3 v0_4 v0_5 v0_6 v0_7 v0_8 v0_9 v0_11 (.ref h16) v0_20 v0_22 v0_23 v0_24 v0_25 (.int newTrips0) (.int newInvoices0) x2 routeMany0 routeCost0 basic1 classAxles2 classPercent3 linkFrom4 linkMinutes5 linkPrice6 linkTo7 newAmount8 newClass9 newInvoice10 newPassages11 newVehicle12 route13 state14 tagAxles15 tried17 tripFor18 o2 o3 o4 o5 o6 o7 _ hc8) k_X10_310 (rm_le (by decide) (by decide)) 0 10 rfl rfl rfl rfl hl.1 rfl (Nat.le_of_ble_eq_true rfl) dX10_layBilling_85 ⟨Nat.le_of_ble_eq_true rfl, Nat.le_of_ble_eq_true rfl⟩ (cells2 := 0) (slots2 := 0) ⟨rfl, rfl⟩ (fun _ H locs w => ?_)
      refine lv_iinc (v := x2 + 1) (lv' := [(2, .int (x2 + 1)), (0, .ref h0)]) hx hb dX10_layBilling_88 hl (k := 1) rfl rfl (by decide) rfl (fun ls hl => ?_)
      refine lv_goto (tgt := 75) hx hb dX10_layBilling_91 (by decide) ?_
      exact ih75 (x2 + 1, o2, o3, newTrips0, newInvoices0, o4, o5, newInvoice10, newPassages11, newVehicle12, o6, o7, tripFor18) hf _ _ _ w (lv_sub hl [1, 0] rfl)
  have L33 : ∀ (z : Int32 × Int32 × Int32 × Int32 × Int32 × Int32 × (Nat → Int32) × (Nat → Int32) × (Nat → Int32) × (Nat → Int32) × (Nat → Int32) × (Nat → Int32) × (Nat → Int32) × (Nat → Int32)), f_X10_layBilling_L33 F basic1 classAxles2 classPercent3 linkFrom4 linkMinutes5 linkPrice6 linkTo7 state14 tagAxles15 tagPlate16 z = some (o_routeMany0, o_routeCost0, o_newTrips0, o_newInvoices0, o_newAmount8, o_newClass9, o_newInvoice10, o_newPassages11, o_newVehicle12, o_route13, o_tried17, o_tripFor18) → ∀ (H : Heap) (locs : List Loc) (ls : Array Slot), Wd g A (w_X10_layBilling g h0 h1 h2 h3 h4 h5 h6 h7 h8 h9 h10 h11 h12 h13 h14 h15 h16 h17 h18 v0_0 v0_1 v0_2 v0_3 v0_4 v0_5 v0_6 v0_7 v0_8 v0_9 v0_11 v0_20 v0_22 v0_23 v0_24 v0_25 z.2.2.1 z.2.2.2.1 z.2.2.2.2.1 z.2.2.2.2.2.1 basic1 classAxles2 classPercent3 linkFrom4 linkMinutes5 linkPrice6 linkTo7 z.2.2.2.2.2.2.1 z.2.2.2.2.2.2.2.1 z.2.2.2.2.2.2.2.2.1 z.2.2.2.2.2.2.2.2.2.1 z.2.2.2.2.2.2.2.2.2.2.1 z.2.2.2.2.2.2.2.2.2.2.2.1 state14 tagAxles15 tagPlate16 z.2.2.2.2.2.2.2.2.2.2.2.2.1 z.2.2.2.2.2.2.2.2.2.2.2.2.2) s.heap H locs → lv_has ls 3 [(0, .ref h0), (1, .int z.1), (2, .int z.2.1)] → W p l e (rml 9 0 0) s m args below meth c H locs 0 0 Q (F0 m 33 ls []) := by
    intro z hf
    refine lp_W (r := (o_routeMany0, o_routeCost0, o_newTrips0, o_newInvoices0, o_newAmount8, o_newClass9, o_newInvoice10, o_newPassages11, o_newVehicle12, o_route13, o_tried17, o_tripFor18)) (fun (z : Int32 × Int32 × Int32 × Int32 × Int32 × Int32 × (Nat → Int32) × (Nat → Int32) × (Nat → Int32) × (Nat → Int32) × (Nat → Int32) × (Nat → Int32) × (Nat → Int32) × (Nat → Int32)) => ∀ (H : Heap) (locs : List Loc) (ls : Array Slot), Wd g A (w_X10_layBilling g h0 h1 h2 h3 h4 h5 h6 h7 h8 h9 h10 h11 h12 h13 h14 h15 h16 h17 h18 v0_0 v0_1 v0_2 v0_3 v0_4 v0_5 v0_6 v0_7 v0_8 v0_9 v0_11 v0_20 v0_22 v0_23 v0_24 v0_25 z.2.2.1 z.2.2.2.1 z.2.2.2.2.1 z.2.2.2.2.2.1 basic1 classAxles2 classPercent3 linkFrom4 linkMinutes5 linkPrice6 linkTo7 z.2.2.2.2.2.2.1 z.2.2.2.2.2.2.2.1 z.2.2.2.2.2.2.2.2.1 z.2.2.2.2.2.2.2.2.2.1 z.2.2.2.2.2.2.2.2.2.2.1 z.2.2.2.2.2.2.2.2.2.2.2.1 state14 tagAxles15 tagPlate16 z.2.2.2.2.2.2.2.2.2.2.2.2.1 z.2.2.2.2.2.2.2.2.2.2.2.2.2) s.heap H locs → lv_has ls 3 [(0, .ref h0), (1, .int z.1), (2, .int z.2.1)] → W p l e (rml 9 0 0) s m args below meth c H locs 0 0 Q (F0 m 33 ls [])) (fun k33 z ih33 hf => ?_) F z hf
    obtain ⟨x1, x2, routeMany0, routeCost0, newTrips0, newInvoices0, newAmount8, newClass9, newInvoice10, newPassages11, newVehicle12, route13, tried17, tripFor18⟩ := z
    intro H locs ls w hl
    try dsimp only at hf w hl ⊢
    unfold f_X10_layBilling_h33 at hf
    have b67 : ∀ (x1 x2 routeMany0 routeCost0 newTrips0 newInvoices0 : Int32) (newAmount8 newClass9 newInvoice10 newPassages11 newVehicle12 route13 tried17 tripFor18 : Nat → Int32) (H : Heap) (locs : List Loc) (ls : Array Slot), f_X10_layBilling_b67 F k33 basic1 classAxles2 classPercent3 linkFrom4 linkMinutes5 linkPrice6 linkTo7 state14 tagAxles15 tagPlate16 x1 x2 routeMany0 routeCost0 newTrips0 newInvoices0 newAmount8 newClass9 newInvoice10 newPassages11 newVehicle12 route13 tried17 tripFor18 = some (o_routeMany0, o_routeCost0, o_newTrips0, o_newInvoices0, o_newAmount8, o_newClass9, o_newInvoice10, o_newPassages11, o_newVehicle12, o_route13, o_tried17, o_tripFor18) → Wd g A (w_X10_layBilling g h0 h1 h2 h3 h4 h5 h6 h7 h8 h9 h10 h11 h12 h13 h14 h15 h16 h17 h18 v0_0 v0_1 v0_2 v0_3 v0_4 v0_5 v0_6 v0_7 v0_8 v0_9 v0_11 v0_20 v0_22 v0_23 v0_24 v0_25 routeMany0 routeCost0 newTrips0 newInvoices0 basic1 classAxles2 classPercent3 linkFrom4 linkMinutes5 linkPrice6 linkTo7 newAmount8 newClass9 newInvoice10 newPassages11 newVehicle12 route13 state14 tagAxles15 tagPlate16 tried17 tripFor18) s.heap H locs → lv_has ls 3 [(0, .ref h0), (1, .int x1), (2, .int x2)] → W p l e (rml 9 0 0) s m args below meth c H locs 0 0 Q (F0 m 67 ls []) := by
      intro x1 x2 routeMany0 routeCost0 newTrips0 newInvoices0 newAmount8 newClass9 newInvoice10 newPassages11 newVehicle12 route13 tried17 tripFor18 H locs ls hf w hl
      unfold f_X10_layBilling_b67 at hf
      refine lv_iinc (v := x2 + 1) (lv' := [(2, .int (x2 + 1)), (0, .ref h0), (1, .int x1)]) hx hb dX10_layBilling_67 hl (k := 2) rfl rfl (by decide) rfl (fun ls hl => ?_)
      refine lv_goto (tgt := 33) hx hb dX10_layBilling_70 (by decide) ?_
      exact ih33 (x1, x2 + 1, routeMany0, routeCost0, newTrips0, newInvoices0, newAmount8, newClass9, newInvoice10, newPassages11, newVehicle12, route13, tried17, tripFor18) hf _ _ _ w (lv_sub hl [1, 2, 0] rfl)
    refine lv_iload_n hx hb dX10_layBilling_33 rfl (lv_at hl 2 rfl) ?_
    refine lv_aload_n hx hb dX10_layBilling_34 rfl (lv_at hl 0 rfl) ?_
    refine g_X10_44 C w 0 rfl rfl dX10_layBilling_35 ?_
    refine lv_iconst (v := 0) hx hb dX10_layBilling_38 (by decide) ?_
    obtain ⟨a9, hia9, haa9, hf⟩ := rd_some hf
    refine ial C w 14 rfl hia9 haa9 dX10_layBilling_39 ?_
    refine lv_icmp_ge (tgt := 73) hx hb dX10_layBilling_40 (by decide) (fun c10 => ?_) (fun c10 => ?_)
    · replace hf := it_t c10 hf
      refine lv_iconst (v := 0) hx hb dX10_layBilling_73 (by decide) ?_
      refine lv_istore_n (lv' := [(2, .int 0), (0, .ref h0), (1, .int x1)]) hx hb dX10_layBilling_74 rfl hl (by decide) rfl (fun ls hl => ?_)
      exact L75 (0, routeMany0, routeCost0, newTrips0, newInvoices0, newAmount8, newClass9, newInvoice10, newPassages11, newVehicle12, route13, tried17, tripFor18) hf _ _ _ w (lv_sub hl [1, 0] rfl)
    · replace hf := it_f c10 hf
      refine lv_aload_n hx hb dX10_layBilling_43 rfl (lv_at hl 0 rfl) ?_
      refine lv_iload_n hx hb dX10_layBilling_44 rfl (lv_at hl 2 rfl) ?_
      refine lv_iload_n hx hb dX10_layBilling_45 rfl (lv_at hl 1 rfl) ?_
      obtain ⟨r11, hc12, hf⟩ := bd1_some hf
      refine ca_iV C w (wn := fun _ => w_X10_layBilling g h0 h1 h2 h3 h4 h5 h6 h7 h8 h9 h10 h11 h12 h13 h14 h15 h16 h17 h18 v0_0 v0_1 v0_2 v0_3 v0_4 v0_5 v0_6 v0_7 v0_8 v0_9 v0_11 v0_20 v0_22 v0_23 v0_24 v0_25 routeMany0 routeCost0 newTrips0 newInvoices0 basic1 classAxles2 classPercent3 linkFrom4 linkMinutes5 linkPrice6 linkTo7 newAmount8 newClass9 newInvoice10 newPassages11 newVehicle12 route13 state14 tagAxles15 tagPlate16 tried17 tripFor18) (pm_k [true, true, false, false, false, false, false, false, false, false, false, false, false, false, true, false, true, false, false] rfl rfl (fun _ => Nat.le_of_ble_eq_true rfl) (fun _ => rfl)) (c_X10_isConsidered l g F h0 h1 h14 h16 v0_0 v0_1 v0_2 v0_3 v0_4 v0_5 v0_6 v0_7 v0_8 v0_9 v0_11 (.ref h4) (.ref h7) (.ref h5) (.ref h6) (.ref h2) (.ref h3) (.ref h15) v0_20 v0_22 v0_23 v0_24 v0_25 (.int routeMany0) (.int routeCost0) (.ref h13) (.ref h17) (.ref h10) (.ref h8) (.ref h9) (.ref h11) (.ref h12) (.ref h18) (.int newTrips0) (.int newInvoices0) x2 x1 basic1 state14 tagPlate16 r11 _ hc12) k_X10_286 (rm_le (by decide) (by decide)) 0 10 rfl rfl rfl rfl hl.1 rfl (Nat.le_of_ble_eq_true rfl) dX10_layBilling_46 ⟨Nat.le_of_ble_eq_true rfl, Nat.le_of_ble_eq_true rfl⟩ (cells2 := 0) (slots2 := 0) ⟨rfl, rfl⟩ (fun _ H locs w => ?_)
      refine lv_if_eq (tgt := 67) hx hb dX10_layBilling_49 (by decide) (fun c13 => ?_) (fun c13 => ?_)
      · replace hf := it_t c13 hf
        exact b67 x1 x2 routeMany0 routeCost0 newTrips0 newInvoices0 newAmount8 newClass9 newInvoice10 newPassages11 newVehicle12 route13 tried17 tripFor18 _ _ _ hf w (lv_sub hl [0, 1, 2] rfl)
      · replace hf := it_f c13 hf
        refine lv_aload_n hx hb dX10_layBilling_52 rfl (lv_at hl 0 rfl) ?_
        refine g_X10_78 C w 0 rfl rfl dX10_layBilling_53 ?_
        refine lv_iload_n hx hb dX10_layBilling_56 rfl (lv_at hl 2 rfl) ?_
        obtain ⟨a14, hia14, haa14, hf⟩ := rd_some hf
        refine ial C w 18 rfl hia14 haa14 dX10_layBilling_57 ?_
        refine lv_if_ge (tgt := 67) hx hb dX10_layBilling_58 (by decide) (fun c15 => ?_) (fun c15 => ?_)
        · replace hf := it_t c15 hf
          exact b67 x1 x2 routeMany0 routeCost0 newTrips0 newInvoices0 newAmount8 newClass9 newInvoice10 newPassages11 newVehicle12 route13 tried17 tripFor18 _ _ _ hf w (lv_sub hl [0, 1, 2] rfl)
        · replace hf := it_f c15 hf
          refine lv_aload_n hx hb dX10_layBilling_61 rfl (lv_at hl 0 rfl) ?_
          refine lv_iload_n hx hb dX10_layBilling_62 rfl (lv_at hl 2 rfl) ?_
          refine lv_iload_n hx hb dX10_layBilling_63 rfl (lv_at hl 1 rfl) ?_
          obtain ⟨o16, o17, o18, o19, o20, o21, o22, o23, o24, o25, hc26, hf⟩ := bd10_some hf
          refine ca_vV C w (wn := fun _ => w_X10_layBilling g h0 h1 h2 h3 h4 h5 h6 h7 h8 h9 h10 h11 h12 h13 h14 h15 h16 h17 h18 v0_0 v0_1 v0_2 v0_3 v0_4 v0_5 v0_6 v0_7 v0_8 v0_9 v0_11 v0_20 v0_22 v0_23 v0_24 v0_25 o16 o17 o18 o19 basic1 classAxles2 classPercent3 linkFrom4 linkMinutes5 linkPrice6 linkTo7 newAmount8 newClass9 o20 o21 o22 o23 state14 tagAxles15 tagPlate16 o24 o25) (pm_k [true, true, false, false, true, true, true, true, false, false, true, true, true, true, true, false, true, true, true] rfl rfl (fun _ => Nat.le_of_ble_eq_true rfl) (fun _ => rfl)) (c_X10_layVehicle l g F h0 h1 h4 h5 h6 h7 h10 h11 h12 h13 h14 h16 h17 h18 v0_0 v0_1 v0_2 v0_3 v0_4 v0_5 v0_6 v0_7 v0_8 v0_9 v0_11 (.ref h2) (.ref h3) (.ref h15) v0_20 v0_22 v0_23 v0_24 v0_25 (.ref h8) (.ref h9) x2 x1 routeMany0 routeCost0 newTrips0 newInvoices0 basic1 linkFrom4 linkMinutes5 linkPrice6 linkTo7 newInvoice10 newPassages11 newVehicle12 route13 state14 tagPlate16 tried17 tripFor18 o16 o17 o18 o19 o20 o21 o22 o23 o24 o25 _ hc26) k_X10_306 (rm_le (by decide) (by decide)) 0 10 rfl rfl rfl rfl hl.1 rfl (Nat.le_of_ble_eq_true rfl) dX10_layBilling_64 ⟨Nat.le_of_ble_eq_true rfl, Nat.le_of_ble_eq_true rfl⟩ (cells2 := 0) (slots2 := 0) ⟨rfl, rfl⟩ (fun _ H locs w => ?_)
          exact b67 x1 x2 o16 o17 o18 o19 newAmount8 newClass9 o20 o21 o22 o23 o24 o25 _ _ _ hf w (lv_sub hl [0, 1, 2] rfl)
  have L12 : ∀ (z : Int32 × Int32 × Int32 × Int32 × Int32 × Int32 × (Nat → Int32) × (Nat → Int32) × (Nat → Int32) × (Nat → Int32) × (Nat → Int32) × (Nat → Int32) × (Nat → Int32) × (Nat → Int32)), f_X10_layBilling_L12 F basic1 classAxles2 classPercent3 linkFrom4 linkMinutes5 linkPrice6 linkTo7 state14 tagAxles15 tagPlate16 z = some (o_routeMany0, o_routeCost0, o_newTrips0, o_newInvoices0, o_newAmount8, o_newClass9, o_newInvoice10, o_newPassages11, o_newVehicle12, o_route13, o_tried17, o_tripFor18) → ∀ (H : Heap) (locs : List Loc) (ls : Array Slot), Wd g A (w_X10_layBilling g h0 h1 h2 h3 h4 h5 h6 h7 h8 h9 h10 h11 h12 h13 h14 h15 h16 h17 h18 v0_0 v0_1 v0_2 v0_3 v0_4 v0_5 v0_6 v0_7 v0_8 v0_9 v0_11 v0_20 v0_22 v0_23 v0_24 v0_25 z.2.2.1 z.2.2.2.1 z.2.2.2.2.1 z.2.2.2.2.2.1 basic1 classAxles2 classPercent3 linkFrom4 linkMinutes5 linkPrice6 linkTo7 z.2.2.2.2.2.2.1 z.2.2.2.2.2.2.2.1 z.2.2.2.2.2.2.2.2.1 z.2.2.2.2.2.2.2.2.2.1 z.2.2.2.2.2.2.2.2.2.2.1 z.2.2.2.2.2.2.2.2.2.2.2.1 state14 tagAxles15 tagPlate16 z.2.2.2.2.2.2.2.2.2.2.2.2.1 z.2.2.2.2.2.2.2.2.2.2.2.2.2) s.heap H locs → lv_has ls 3 [(0, .ref h0), (1, .int z.1), (2, .int z.2.1)] → W p l e (rml 9 0 0) s m args below meth c H locs 0 0 Q (F0 m 12 ls []) := by
    intro z hf
    refine lp_W (r := (o_routeMany0, o_routeCost0, o_newTrips0, o_newInvoices0, o_newAmount8, o_newClass9, o_newInvoice10, o_newPassages11, o_newVehicle12, o_route13, o_tried17, o_tripFor18)) (fun (z : Int32 × Int32 × Int32 × Int32 × Int32 × Int32 × (Nat → Int32) × (Nat → Int32) × (Nat → Int32) × (Nat → Int32) × (Nat → Int32) × (Nat → Int32) × (Nat → Int32) × (Nat → Int32)) => ∀ (H : Heap) (locs : List Loc) (ls : Array Slot), Wd g A (w_X10_layBilling g h0 h1 h2 h3 h4 h5 h6 h7 h8 h9 h10 h11 h12 h13 h14 h15 h16 h17 h18 v0_0 v0_1 v0_2 v0_3 v0_4 v0_5 v0_6 v0_7 v0_8 v0_9 v0_11 v0_20 v0_22 v0_23 v0_24 v0_25 z.2.2.1 z.2.2.2.1 z.2.2.2.2.1 z.2.2.2.2.2.1 basic1 classAxles2 classPercent3 linkFrom4 linkMinutes5 linkPrice6 linkTo7 z.2.2.2.2.2.2.1 z.2.2.2.2.2.2.2.1 z.2.2.2.2.2.2.2.2.1 z.2.2.2.2.2.2.2.2.2.1 z.2.2.2.2.2.2.2.2.2.2.1 z.2.2.2.2.2.2.2.2.2.2.2.1 state14 tagAxles15 tagPlate16 z.2.2.2.2.2.2.2.2.2.2.2.2.1 z.2.2.2.2.2.2.2.2.2.2.2.2.2) s.heap H locs → lv_has ls 3 [(0, .ref h0), (1, .int z.1), (2, .int z.2.1)] → W p l e (rml 9 0 0) s m args below meth c H locs 0 0 Q (F0 m 12 ls [])) (fun k12 z ih12 hf => ?_) F z hf
    obtain ⟨x1, x2, routeMany0, routeCost0, newTrips0, newInvoices0, newAmount8, newClass9, newInvoice10, newPassages11, newVehicle12, route13, tried17, tripFor18⟩ := z
    intro H locs ls w hl
    try dsimp only at hf w hl ⊢
    unfold f_X10_layBilling_h12 at hf
    refine lv_iload_n hx hb dX10_layBilling_12 rfl (lv_at hl 2 rfl) ?_
    refine lv_bipush (v := 80) hx hb dX10_layBilling_13 (by decide) ?_
    refine lv_icmp_ge (tgt := 31) hx hb dX10_layBilling_15 (by decide) (fun c27 => ?_) (fun c27 => ?_)
    · replace hf := it_t c27 hf
      refine lv_iconst (v := 0) hx hb dX10_layBilling_31 (by decide) ?_
      refine lv_istore_n (lv' := [(2, .int 0), (0, .ref h0), (1, .int x1)]) hx hb dX10_layBilling_32 rfl hl (by decide) rfl (fun ls hl => ?_)
      exact L33 (x1, 0, routeMany0, routeCost0, newTrips0, newInvoices0, newAmount8, newClass9, newInvoice10, newPassages11, newVehicle12, route13, tried17, tripFor18) hf _ _ _ w (lv_sub hl [1, 2, 0] rfl)
    · replace hf := it_f c27 hf
      refine lv_aload_n hx hb dX10_layBilling_18 rfl (lv_at hl 0 rfl) ?_
      refine g_X10_78 C w 0 rfl rfl dX10_layBilling_19 ?_
      refine lv_iload_n hx hb dX10_layBilling_22 rfl (lv_at hl 2 rfl) ?_
      refine lv_iconst (v := -1) hx hb dX10_layBilling_23 (by decide) ?_
      obtain ⟨f28, hif28, haf28, hf⟩ := wr_some hf
      refine ias C w 18 rfl hif28 haf28 (ws2 := w_X10_layBilling g h0 h1 h2 h3 h4 h5 h6 h7 h8 h9 h10 h11 h12 h13 h14 h15 h16 h17 h18 v0_0 v0_1 v0_2 v0_3 v0_4 v0_5 v0_6 v0_7 v0_8 v0_9 v0_11 v0_20 v0_22 v0_23 v0_24 v0_25 routeMany0 routeCost0 newTrips0 newInvoices0 basic1 classAxles2 classPercent3 linkFrom4 linkMinutes5 linkPrice6 linkTo7 newAmount8 newClass9 newInvoice10 newPassages11 newVehicle12 route13 state14 tagAxles15 tagPlate16 tried17 f28) rfl dX10_layBilling_24 (fun H locs w => ?_)
      refine lv_iinc (v := x2 + 1) (lv' := [(2, .int (x2 + 1)), (0, .ref h0), (1, .int x1)]) hx hb dX10_layBilling_25 hl (k := 2) rfl rfl (by decide) rfl (fun ls hl => ?_)
      refine lv_goto (tgt := 12) hx hb dX10_layBilling_28 (by decide) ?_
      exact ih12 (x1, x2 + 1, routeMany0, routeCost0, newTrips0, newInvoices0, newAmount8, newClass9, newInvoice10, newPassages11, newVehicle12, route13, tried17, f28) hf _ _ _ w (lv_sub hl [1, 2, 0] rfl)
  refine lv_aload_n hx hb dX10_layBilling_0 rfl (lv_at hl 0 rfl) ?_
  refine lv_iconst (v := 0) hx hb dX10_layBilling_1 (by decide) ?_
  refine p_X10_292 C w 0 rfl (Nat.le_of_ble_eq_true rfl) (ws2 := w_X10_layBilling g h0 h1 h2 h3 h4 h5 h6 h7 h8 h9 h10 h11 h12 h13 h14 h15 h16 h17 h18 v0_0 v0_1 v0_2 v0_3 v0_4 v0_5 v0_6 v0_7 v0_8 v0_9 v0_11 v0_20 v0_22 v0_23 v0_24 v0_25 routeMany0 routeCost0 0 newInvoices0 basic1 classAxles2 classPercent3 linkFrom4 linkMinutes5 linkPrice6 linkTo7 newAmount8 newClass9 newInvoice10 newPassages11 newVehicle12 route13 state14 tagAxles15 tagPlate16 tried17 tripFor18) rfl dX10_layBilling_2 (fun H locs w => ?_)
  refine lv_aload_n hx hb dX10_layBilling_5 rfl (lv_at hl 0 rfl) ?_
  refine lv_iconst (v := 0) hx hb dX10_layBilling_6 (by decide) ?_
  refine p_X10_283 C w 0 rfl (Nat.le_of_ble_eq_true rfl) (ws2 := w_X10_layBilling g h0 h1 h2 h3 h4 h5 h6 h7 h8 h9 h10 h11 h12 h13 h14 h15 h16 h17 h18 v0_0 v0_1 v0_2 v0_3 v0_4 v0_5 v0_6 v0_7 v0_8 v0_9 v0_11 v0_20 v0_22 v0_23 v0_24 v0_25 routeMany0 routeCost0 0 0 basic1 classAxles2 classPercent3 linkFrom4 linkMinutes5 linkPrice6 linkTo7 newAmount8 newClass9 newInvoice10 newPassages11 newVehicle12 route13 state14 tagAxles15 tagPlate16 tried17 tripFor18) rfl dX10_layBilling_7 (fun H locs w => ?_)
  refine lv_iconst (v := 0) hx hb dX10_layBilling_10 (by decide) ?_
  refine lv_istore_n (lv' := [(2, .int 0), (0, .ref h0), (1, .int p1)]) hx hb dX10_layBilling_11 rfl hl (by decide) rfl (fun ls hl => ?_)
  exact L12 (p1, 0, routeMany0, routeCost0, 0, 0, newAmount8, newClass9, newInvoice10, newPassages11, newVehicle12, route13, tried17, tripFor18) hf _ _ _ w (lv_sub hl [1, 2, 0] rfl)

theorem dX10_previewTrips_0 : decode cX10_previewTrips 0 = .ok (.aload_n 0, 1) := by decide +kernel
theorem dX10_previewTrips_1 : decode cX10_previewTrips 1 = .ok (.iconst 0, 1) := by decide +kernel
theorem dX10_previewTrips_2 : decode cX10_previewTrips 2 = .ok (.putfield 84, 3) := by decide +kernel
theorem dX10_previewTrips_5 : decode cX10_previewTrips 5 = .ok (.iload_n 1, 1) := by decide +kernel
theorem dX10_previewTrips_6 : decode cX10_previewTrips 6 = .ok (.i2l, 1) := by decide +kernel
theorem dX10_previewTrips_7 : decode cX10_previewTrips 7 = .ok (.lconst 0, 1) := by decide +kernel
theorem dX10_previewTrips_8 : decode cX10_previewTrips 8 = .ok (.ldc2_w 241, 3) := by decide +kernel
theorem dX10_previewTrips_11 : decode cX10_previewTrips 11 = .ok (.invokestatic 115, 3) := by decide +kernel
theorem dX10_previewTrips_14 : decode cX10_previewTrips 14 = .ok (.ifCond .ne 9, 3) := by decide +kernel
theorem dX10_previewTrips_17 : decode cX10_previewTrips 17 = .ok (.aload_n 0, 1) := by decide +kernel
theorem dX10_previewTrips_18 : decode cX10_previewTrips 18 = .ok (.iconst 1, 1) := by decide +kernel
theorem dX10_previewTrips_19 : decode cX10_previewTrips 19 = .ok (.invokevirtual 202, 3) := by decide +kernel
theorem dX10_previewTrips_22 : decode cX10_previewTrips 22 = .ok (.ireturn, 1) := by decide +kernel
theorem dX10_previewTrips_23 : decode cX10_previewTrips 23 = .ok (.aload_n 0, 1) := by decide +kernel
theorem dX10_previewTrips_24 : decode cX10_previewTrips 24 = .ok (.iload_n 1, 1) := by decide +kernel
theorem dX10_previewTrips_25 : decode cX10_previewTrips 25 = .ok (.invokevirtual 313, 3) := by decide +kernel
theorem dX10_previewTrips_28 : decode cX10_previewTrips 28 = .ok (.aload_n 0, 1) := by decide +kernel
theorem dX10_previewTrips_29 : decode cX10_previewTrips 29 = .ok (.getfield 292, 3) := by decide +kernel
theorem dX10_previewTrips_32 : decode cX10_previewTrips 32 = .ok (.ireturn, 1) := by decide +kernel
abbrev m_X10_previewTrips : MD := (yX10_previewTrips, cX10_previewTrips, 2, (some .int))
theorem q_1586 : Cond.code yX10_layBilling cX10_layBilling 3 none ∈ TS := ts_t 1586 (by decide +kernel) (by decide +kernel)
theorem q_1583 : Cond.methodLink RX10 313 yX10_layBilling ∈ TS := ts_t 1583 (by decide +kernel) (by decide +kernel)
theorem q_1585 : Cond.instanceMethod yX10_layBilling ∈ TS := ts_t 1585 (by decide +kernel) (by decide +kernel)
theorem qs_116 : Cond.selects yX10_layBilling.cls yX10_layBilling yX10_layBilling ∈ TS := ts_s 116 (by decide +kernel) (by decide +kernel)
theorem k_X10_313 : LkV RX10 313 m_X10_layBilling 1 := ⟨q_1583, q_1585, qs_116, ⟨q_11, q_1586, by decide, by decide, by decide +kernel⟩⟩
abbrev w_X10_previewTrips (g : GT) (h0 h1 h2 h3 h4 h5 h6 h7 h8 h9 h10 h11 h12 h13 h14 h15 h16 h17 h18 : Nat) (v0_1 v0_2 v0_3 v0_4 v0_5 v0_6 v0_7 v0_8 v0_9 v0_11 v0_20 v0_22 v0_23 v0_24 v0_25 : Value) (thrown0 routeMany0 routeCost0 newTrips0 newInvoices0 : Int32) (basic1 classAxles2 classPercent3 linkFrom4 linkMinutes5 linkPrice6 linkTo7 newAmount8 newClass9 newInvoice10 newPassages11 newVehicle12 route13 state14 tagAxles15 tagPlate16 tried17 tripFor18 : Nat → Int32) : va_W := [(h0, .inr (10, [.int thrown0, v0_1, v0_2, v0_3, v0_4, v0_5, v0_6, v0_7, v0_8, v0_9, .ref h1, v0_11, .ref h4, .ref h7, .ref h5, .ref h6, .ref h2, .ref h3, .ref h16, .ref h15, v0_20, .ref h14, v0_22, v0_23, v0_24, v0_25, .int routeMany0, .int routeCost0, .ref h13, .ref h17, .ref h10, .ref h8, .ref h9, .ref h11, .ref h12, .ref h18, .int newTrips0, .int newInvoices0])), (h1, aI g 7 basic1), (h2, aI g 8 classAxles2), (h3, aI g 8 classPercent3), (h4, aI g 48 linkFrom4), (h5, aI g 48 linkMinutes5), (h6, aI g 48 linkPrice6), (h7, aI g 48 linkTo7), (h8, aI g 80 newAmount8), (h9, aI g 80 newClass9), (h10, aI g 80 newInvoice10), (h11, aI g 80 newPassages11), (h12, aI g 80 newVehicle12), (h13, aI g 4 route13), (h14, aI g 2524 state14), (h15, aI g 24 tagAxles15), (h16, aI g 24 tagPlate16), (h17, aI g 4 tried17), (h18, aI g 80 tripFor18)]
def f_X10_previewTrips (F : Nat) (p1 thrown0 routeMany0 routeCost0 newTrips0 newInvoices0 : Int32) (basic1 classAxles2 classPercent3 linkFrom4 linkMinutes5 linkPrice6 linkTo7 newAmount8 newClass9 newInvoice10 newPassages11 newVehicle12 route13 state14 tagAxles15 tagPlate16 tried17 tripFor18 : Nat → Int32) : Option (Int32 × Int32 × Int32 × Int32 × Int32 × Int32 × (Nat → Int32) × (Nat → Int32) × (Nat → Int32) × (Nat → Int32) × (Nat → Int32) × (Nat → Int32) × (Nat → Int32) × (Nat → Int32)) :=
  bd1 (f_X10_within F p1.toInt64 0 99999) fun r1 =>
  if r1 = 0 then
    bd2 (f_X10_fail F 1 0) fun r17 o18 =>
    some (r17, o18, routeMany0, routeCost0, newTrips0, newInvoices0, newAmount8, newClass9, newInvoice10, newPassages11, newVehicle12, route13, tried17, tripFor18)
  else
    bd12 (f_X10_layBilling F p1 routeMany0 routeCost0 newTrips0 newInvoices0 basic1 classAxles2 classPercent3 linkFrom4 linkMinutes5 linkPrice6 linkTo7 newAmount8 newClass9 newInvoice10 newPassages11 newVehicle12 route13 state14 tagAxles15 tagPlate16 tried17 tripFor18) fun o4 o5 o6 o7 o8 o9 o10 o11 o12 o13 o14 o15 =>
    some (o6, 0, o4, o5, o6, o7, o8, o9, o10, o11, o12, o13, o14, o15)
set_option maxHeartbeats 4000000 in
set_option maxRecDepth 100000 in
theorem c_X10_previewTrips (l : Launch) (g : GT) (F : Nat) (h0 h1 h2 h3 h4 h5 h6 h7 h8 h9 h10 h11 h12 h13 h14 h15 h16 h17 h18 : Nat) (v0_1 v0_2 v0_3 v0_4 v0_5 v0_6 v0_7 v0_8 v0_9 v0_11 v0_20 v0_22 v0_23 v0_24 v0_25 : Value) (p1 thrown0 routeMany0 routeCost0 newTrips0 newInvoices0 : Int32) (basic1 classAxles2 classPercent3 linkFrom4 linkMinutes5 linkPrice6 linkTo7 newAmount8 newClass9 newInvoice10 newPassages11 newVehicle12 route13 state14 tagAxles15 tagPlate16 tried17 tripFor18 : Nat → Int32) (r o_thrown0 o_routeMany0 o_routeCost0 o_newTrips0 o_newInvoices0 : Int32) (o_newAmount8 o_newClass9 o_newInvoice10 o_newPassages11 o_newVehicle12 o_route13 o_tried17 o_tripFor18 : Nat → Int32) (sz : Nat) (hf : f_X10_previewTrips F p1 thrown0 routeMany0 routeCost0 newTrips0 newInvoices0 basic1 classAxles2 classPercent3 linkFrom4 linkMinutes5 linkPrice6 linkTo7 newAmount8 newClass9 newInvoice10 newPassages11 newVehicle12 route13 state14 tagAxles15 tagPlate16 tried17 tripFor18 = some (r, o_thrown0, o_routeMany0, o_routeCost0, o_newTrips0, o_newInvoices0, o_newAmount8, o_newClass9, o_newInvoice10, o_newPassages11, o_newVehicle12, o_route13, o_tried17, o_tripFor18)) : CI l m_X10_previewTrips (rml 10 0 0) g (w_X10_previewTrips g h0 h1 h2 h3 h4 h5 h6 h7 h8 h9 h10 h11 h12 h13 h14 h15 h16 h17 h18 v0_1 v0_2 v0_3 v0_4 v0_5 v0_6 v0_7 v0_8 v0_9 v0_11 v0_20 v0_22 v0_23 v0_24 v0_25 thrown0 routeMany0 routeCost0 newTrips0 newInvoices0 basic1 classAxles2 classPercent3 linkFrom4 linkMinutes5 linkPrice6 linkTo7 newAmount8 newClass9 newInvoice10 newPassages11 newVehicle12 route13 state14 tagAxles15 tagPlate16 tried17 tripFor18) (fun _ => w_X10_previewTrips g h0 h1 h2 h3 h4 h5 h6 h7 h8 h9 h10 h11 h12 h13 h14 h15 h16 h17 h18 v0_1 v0_2 v0_3 v0_4 v0_5 v0_6 v0_7 v0_8 v0_9 v0_11 v0_20 v0_22 v0_23 v0_24 v0_25 o_thrown0 o_routeMany0 o_routeCost0 o_newTrips0 o_newInvoices0 basic1 classAxles2 classPercent3 linkFrom4 linkMinutes5 linkPrice6 linkTo7 o_newAmount8 o_newClass9 o_newInvoice10 o_newPassages11 o_newVehicle12 o_route13 state14 tagAxles15 tagPlate16 o_tried17 o_tripFor18) sz [.ref h0, .int p1] r := by
  refine en_i (by decide) (Nat.le_of_ble_eq_true rfl) (fun p e s m args below meth c A ls C w hl => ?_)
  have C : Cx p s m args meth c RX10 m_X10_previewTrips g A := C
  have hx := C.1
  have hb : c.code = cX10_previewTrips := C.2.1
  have hl : lv_has ls 2 [(0, .ref h0), (1, .int p1)] := hl
  obtain ⟨Q, hQ⟩ : ∃ Q, Q = QI below args s g A (fun _ => w_X10_previewTrips g h0 h1 h2 h3 h4 h5 h6 h7 h8 h9 h10 h11 h12 h13 h14 h15 h16 h17 h18 v0_1 v0_2 v0_3 v0_4 v0_5 v0_6 v0_7 v0_8 v0_9 v0_11 v0_20 v0_22 v0_23 v0_24 v0_25 o_thrown0 o_routeMany0 o_routeCost0 o_newTrips0 o_newInvoices0 basic1 classAxles2 classPercent3 linkFrom4 linkMinutes5 linkPrice6 linkTo7 o_newAmount8 o_newClass9 o_newInvoice10 o_newPassages11 o_newVehicle12 o_route13 state14 tagAxles15 tagPlate16 o_tried17 o_tripFor18) r 0 0 := ⟨_, rfl⟩
  suffices hW : W p l e (rml 10 0 0) s m args below meth c s.heap [] 0 0 Q (F0 m 0 ls []) from (by rw [hQ] at hW; exact hW)
  unfold f_X10_previewTrips at hf
  refine lv_aload_n hx hb dX10_previewTrips_0 rfl (lv_at hl 0 rfl) ?_
  refine lv_iconst (v := 0) hx hb dX10_previewTrips_1 (by decide) ?_
  refine p_X10_84 C w 0 rfl (Nat.le_of_ble_eq_true rfl) (ws2 := w_X10_previewTrips g h0 h1 h2 h3 h4 h5 h6 h7 h8 h9 h10 h11 h12 h13 h14 h15 h16 h17 h18 v0_1 v0_2 v0_3 v0_4 v0_5 v0_6 v0_7 v0_8 v0_9 v0_11 v0_20 v0_22 v0_23 v0_24 v0_25 0 routeMany0 routeCost0 newTrips0 newInvoices0 basic1 classAxles2 classPercent3 linkFrom4 linkMinutes5 linkPrice6 linkTo7 newAmount8 newClass9 newInvoice10 newPassages11 newVehicle12 route13 state14 tagAxles15 tagPlate16 tried17 tripFor18) rfl dX10_previewTrips_2 (fun H locs w => ?_)
  refine lv_iload_n hx hb dX10_previewTrips_5 rfl (lv_at hl 1 rfl) ?_
  refine lv_i2l (v := p1.toInt64) hx hb dX10_previewTrips_6 rfl ?_
  refine lv_lconst (v := 0) hx hb dX10_previewTrips_7 (by decide) ?_
  refine lv_ldc2 (v := 99999) hx hb C.2.2.2.1 (C.2.2.2.2.1 _ q_1467) dX10_previewTrips_8 ?_
  obtain ⟨r1, hc2, hf⟩ := bd1_some hf
  refine ca_iS C w (wn := fun _ => w_X10_previewTrips g h0 h1 h2 h3 h4 h5 h6 h7 h8 h9 h10 h11 h12 h13 h14 h15 h16 h17 h18 v0_1 v0_2 v0_3 v0_4 v0_5 v0_6 v0_7 v0_8 v0_9 v0_11 v0_20 v0_22 v0_23 v0_24 v0_25 0 routeMany0 routeCost0 newTrips0 newInvoices0 basic1 classAxles2 classPercent3 linkFrom4 linkMinutes5 linkPrice6 linkTo7 newAmount8 newClass9 newInvoice10 newPassages11 newVehicle12 route13 state14 tagAxles15 tagPlate16 tried17 tripFor18) (pm_k [false, false, false, false, false, false, false, false, false, false, false, false, false, false, false, false, false, false, false] rfl rfl (fun _ => Nat.le_of_ble_eq_true rfl) (fun _ => rfl)) (c_X10_within l g F p1.toInt64 0 99999 r1 _ hc2) k_X10_115 (rm_le (by decide) (by decide)) rfl hl.1 rfl (Nat.le_of_ble_eq_true rfl) dX10_previewTrips_11 ⟨Nat.le_of_ble_eq_true rfl, Nat.le_of_ble_eq_true rfl⟩ (cells2 := 0) (slots2 := 0) ⟨rfl, rfl⟩ (fun _ H locs w => ?_)
  refine lv_if_ne (tgt := 23) hx hb dX10_previewTrips_14 (by decide) (fun c3 => ?_) (fun c3 => ?_)
  · replace hf := it_f c3 hf
    refine lv_aload_n hx hb dX10_previewTrips_23 rfl (lv_at hl 0 rfl) ?_
    refine lv_iload_n hx hb dX10_previewTrips_24 rfl (lv_at hl 1 rfl) ?_
    obtain ⟨o4, o5, o6, o7, o8, o9, o10, o11, o12, o13, o14, o15, hc16, hf⟩ := bd12_some hf
    refine ca_vV C w (wn := fun _ => w_X10_previewTrips g h0 h1 h2 h3 h4 h5 h6 h7 h8 h9 h10 h11 h12 h13 h14 h15 h16 h17 h18 v0_1 v0_2 v0_3 v0_4 v0_5 v0_6 v0_7 v0_8 v0_9 v0_11 v0_20 v0_22 v0_23 v0_24 v0_25 0 o4 o5 o6 o7 basic1 classAxles2 classPercent3 linkFrom4 linkMinutes5 linkPrice6 linkTo7 o8 o9 o10 o11 o12 o13 state14 tagAxles15 tagPlate16 o14 o15) (pm_k [true, true, true, true, true, true, true, true, true, true, true, true, true, true, true, true, true, true, true] rfl rfl (fun _ => Nat.le_of_ble_eq_true rfl) (fun _ => rfl)) (c_X10_layBilling l g F h0 h1 h2 h3 h4 h5 h6 h7 h8 h9 h10 h11 h12 h13 h14 h15 h16 h17 h18 (.int 0) v0_1 v0_2 v0_3 v0_4 v0_5 v0_6 v0_7 v0_8 v0_9 v0_11 v0_20 v0_22 v0_23 v0_24 v0_25 p1 routeMany0 routeCost0 newTrips0 newInvoices0 basic1 classAxles2 classPercent3 linkFrom4 linkMinutes5 linkPrice6 linkTo7 newAmount8 newClass9 newInvoice10 newPassages11 newVehicle12 route13 state14 tagAxles15 tagPlate16 tried17 tripFor18 o4 o5 o6 o7 o8 o9 o10 o11 o12 o13 o14 o15 _ hc16) k_X10_313 (rm_le (by decide) (by decide)) 0 10 rfl rfl rfl rfl hl.1 rfl (Nat.le_of_ble_eq_true rfl) dX10_previewTrips_25 ⟨Nat.le_of_ble_eq_true rfl, Nat.le_of_ble_eq_true rfl⟩ (cells2 := 0) (slots2 := 0) ⟨rfl, rfl⟩ (fun _ H locs w => ?_)
    refine lv_aload_n hx hb dX10_previewTrips_28 rfl (lv_at hl 0 rfl) ?_
    refine g_X10_292 C w 0 rfl rfl dX10_previewTrips_29 ?_
    obtain ⟨e1, e2, e3, e4, e5, e6, e7, e8, e9, e10, e11, e12, e13, e14⟩ := tp14 hf
    rw [hQ]
    exact rt_i C w rfl (fun _ => 0) (by rw [← e2, ← e3, ← e4, ← e5, ← e6, ← e7, ← e8, ← e9, ← e10, ← e11, ← e12, ← e13, ← e14]) e1 dX10_previewTrips_32
  · replace hf := it_t c3 hf
    refine lv_aload_n hx hb dX10_previewTrips_17 rfl (lv_at hl 0 rfl) ?_
    refine lv_iconst (v := 1) hx hb dX10_previewTrips_18 (by decide) ?_
    obtain ⟨r17, o18, hc19, hf⟩ := bd2_some hf
    refine ca_iV C w (wn := fun _ => w_X10_previewTrips g h0 h1 h2 h3 h4 h5 h6 h7 h8 h9 h10 h11 h12 h13 h14 h15 h16 h17 h18 v0_1 v0_2 v0_3 v0_4 v0_5 v0_6 v0_7 v0_8 v0_9 v0_11 v0_20 v0_22 v0_23 v0_24 v0_25 o18 routeMany0 routeCost0 newTrips0 newInvoices0 basic1 classAxles2 classPercent3 linkFrom4 linkMinutes5 linkPrice6 linkTo7 newAmount8 newClass9 newInvoice10 newPassages11 newVehicle12 route13 state14 tagAxles15 tagPlate16 tried17 tripFor18) (pm_k [true, false, false, false, false, false, false, false, false, false, false, false, false, false, false, false, false, false, false] rfl rfl (fun _ => Nat.le_of_ble_eq_true rfl) (fun _ => rfl)) (c_X10_fail l g F h0 v0_1 v0_2 v0_3 v0_4 v0_5 v0_6 v0_7 v0_8 v0_9 (.ref h1) v0_11 (.ref h4) (.ref h7) (.ref h5) (.ref h6) (.ref h2) (.ref h3) (.ref h16) (.ref h15) v0_20 (.ref h14) v0_22 v0_23 v0_24 v0_25 (.int routeMany0) (.int routeCost0) (.ref h13) (.ref h17) (.ref h10) (.ref h8) (.ref h9) (.ref h11) (.ref h12) (.ref h18) (.int newTrips0) (.int newInvoices0) 1 0 r17 o18 _ hc19) k_X10_202 (rm_le (by decide) (by decide)) 0 10 rfl rfl rfl rfl hl.1 rfl (Nat.le_of_ble_eq_true rfl) dX10_previewTrips_19 ⟨Nat.le_of_ble_eq_true rfl, Nat.le_of_ble_eq_true rfl⟩ (cells2 := 0) (slots2 := 0) ⟨rfl, rfl⟩ (fun _ H locs w => ?_)
    obtain ⟨e1, e2, e3, e4, e5, e6, e7, e8, e9, e10, e11, e12, e13, e14⟩ := tp14 hf
    rw [hQ]
    exact rt_i C w rfl (fun _ => 0) (by rw [← e2, ← e3, ← e4, ← e5, ← e6, ← e7, ← e8, ← e9, ← e10, ← e11, ← e12, ← e13, ← e14]) e1 dX10_previewTrips_22
