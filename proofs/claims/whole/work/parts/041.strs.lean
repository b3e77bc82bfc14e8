theorem dJ0_coder_7d493_0 : decode cJ0_coder_7d493 0 = .ok (.getstatic 38, 3) := by decide +kernel
theorem dJ0_coder_7d493_3 : decode cJ0_coder_7d493 3 = .ok (.ifCond .eq 10, 3) := by decide +kernel
theorem dJ0_coder_7d493_6 : decode cJ0_coder_7d493 6 = .ok (.aload_n 0, 1) := by decide +kernel
theorem dJ0_coder_7d493_7 : decode cJ0_coder_7d493 7 = .ok (.getfield 15, 3) := by decide +kernel
theorem dJ0_coder_7d493_10 : decode cJ0_coder_7d493 10 = .ok (.goto 4, 3) := by decide +kernel
theorem dJ0_coder_7d493_13 : decode cJ0_coder_7d493 13 = .ok (.iconst 1, 1) := by decide +kernel
theorem dJ0_coder_7d493_14 : decode cJ0_coder_7d493 14 = .ok (.ireturn, 1) := by decide +kernel
abbrev m_J0_coder_7d493 : MD := (yJ0_coder_7d493, cJ0_coder_7d493, 1, (some .byte))
theorem dJ0_length_8abf5_0 : decode cJ0_length_8abf5 0 = .ok (.aload_n 0, 1) := by decide +kernel
theorem dJ0_length_8abf5_1 : decode cJ0_length_8abf5 1 = .ok (.getfield 9, 3) := by decide +kernel
theorem dJ0_length_8abf5_4 : decode cJ0_length_8abf5 4 = .ok (.arraylength, 1) := by decide +kernel
theorem dJ0_length_8abf5_5 : decode cJ0_length_8abf5 5 = .ok (.aload_n 0, 1) := by decide +kernel
theorem dJ0_length_8abf5_6 : decode cJ0_length_8abf5 6 = .ok (.invokevirtual 335, 3) := by decide +kernel
theorem dJ0_length_8abf5_9 : decode cJ0_length_8abf5 9 = .ok (.ishr, 1) := by decide +kernel
theorem dJ0_length_8abf5_10 : decode cJ0_length_8abf5 10 = .ok (.ireturn, 1) := by decide +kernel
abbrev m_J0_length_8abf5 : MD := (yJ0_length_8abf5, cJ0_length_8abf5, 1, (some .int))
theorem dJ0_isLatin1_aae02_0 : decode cJ0_isLatin1_aae02 0 = .ok (.getstatic 38, 3) := by decide +kernel
theorem dJ0_isLatin1_aae02_3 : decode cJ0_isLatin1_aae02 3 = .ok (.ifCond .eq 14, 3) := by decide +kernel
theorem dJ0_isLatin1_aae02_6 : decode cJ0_isLatin1_aae02 6 = .ok (.aload_n 0, 1) := by decide +kernel
theorem dJ0_isLatin1_aae02_7 : decode cJ0_isLatin1_aae02 7 = .ok (.getfield 15, 3) := by decide +kernel
theorem dJ0_isLatin1_aae02_10 : decode cJ0_isLatin1_aae02 10 = .ok (.ifCond .ne 7, 3) := by decide +kernel
theorem dJ0_isLatin1_aae02_13 : decode cJ0_isLatin1_aae02 13 = .ok (.iconst 1, 1) := by decide +kernel
theorem dJ0_isLatin1_aae02_14 : decode cJ0_isLatin1_aae02 14 = .ok (.goto 4, 3) := by decide +kernel
theorem dJ0_isLatin1_aae02_17 : decode cJ0_isLatin1_aae02 17 = .ok (.iconst 0, 1) := by decide +kernel
theorem dJ0_isLatin1_aae02_18 : decode cJ0_isLatin1_aae02 18 = .ok (.ireturn, 1) := by decide +kernel
abbrev m_J0_isLatin1_aae02 : MD := (yJ0_isLatin1_aae02, cJ0_isLatin1_aae02, 1, (some .boolean))
theorem dJ3_checkIndex_8e157_0 : decode cJ3_checkIndex_8e157 0 = .ok (.iload_n 0, 1) := by decide +kernel
theorem dJ3_checkIndex_8e157_1 : decode cJ3_checkIndex_8e157 1 = .ok (.ifCond .lt 8, 3) := by decide +kernel
theorem dJ3_checkIndex_8e157_4 : decode cJ3_checkIndex_8e157 4 = .ok (.iload_n 0, 1) := by decide +kernel
theorem dJ3_checkIndex_8e157_5 : decode cJ3_checkIndex_8e157 5 = .ok (.iload_n 1, 1) := by decide +kernel
theorem dJ3_checkIndex_8e157_6 : decode cJ3_checkIndex_8e157 6 = .ok (.if_icmp .lt 10, 3) := by decide +kernel
theorem dJ3_checkIndex_8e157_9 : decode cJ3_checkIndex_8e157 9 = .ok (.aload_n 2, 1) := by decide +kernel
theorem dJ3_checkIndex_8e157_10 : decode cJ3_checkIndex_8e157 10 = .ok (.iload_n 0, 1) := by decide +kernel
theorem dJ3_checkIndex_8e157_11 : decode cJ3_checkIndex_8e157 11 = .ok (.iload_n 1, 1) := by decide +kernel
theorem dJ3_checkIndex_8e157_12 : decode cJ3_checkIndex_8e157 12 = .ok (.invokestatic 95, 3) := by decide +kernel
theorem dJ3_checkIndex_8e157_15 : decode cJ3_checkIndex_8e157 15 = .ok (.athrow, 1) := by decide +kernel
theorem dJ3_checkIndex_8e157_16 : decode cJ3_checkIndex_8e157 16 = .ok (.iload_n 0, 1) := by decide +kernel
theorem dJ3_checkIndex_8e157_17 : decode cJ3_checkIndex_8e157 17 = .ok (.ireturn, 1) := by decide +kernel
abbrev m_J3_checkIndex_8e157 : MD := (yJ3_checkIndex_8e157, cJ3_checkIndex_8e157, 3, (some .int))
theorem dJ0_checkIndex_df160_0 : decode cJ0_checkIndex_df160 0 = .ok (.iload_n 0, 1) := by decide +kernel
theorem dJ0_checkIndex_df160_1 : decode cJ0_checkIndex_df160 1 = .ok (.iload_n 1, 1) := by decide +kernel
theorem dJ0_checkIndex_df160_2 : decode cJ0_checkIndex_df160 2 = .ok (.getstatic 1053, 3) := by decide +kernel
theorem dJ0_checkIndex_df160_5 : decode cJ0_checkIndex_df160 5 = .ok (.invokestatic 1059, 3) := by decide +kernel
theorem dJ0_checkIndex_df160_8 : decode cJ0_checkIndex_df160 8 = .ok (.pop, 1) := by decide +kernel
theorem dJ0_checkIndex_df160_9 : decode cJ0_checkIndex_df160 9 = .ok (.return_, 1) := by decide +kernel
abbrev m_J0_checkIndex_df160 : MD := (yJ0_checkIndex_df160, cJ0_checkIndex_df160, 2, none)
theorem dJ1_charAt_3b067_0 : decode cJ1_charAt_3b067 0 = .ok (.iload_n 1, 1) := by decide +kernel
theorem dJ1_charAt_3b067_1 : decode cJ1_charAt_3b067 1 = .ok (.aload_n 0, 1) := by decide +kernel
theorem dJ1_charAt_3b067_2 : decode cJ1_charAt_3b067 2 = .ok (.arraylength, 1) := by decide +kernel
theorem dJ1_charAt_3b067_3 : decode cJ1_charAt_3b067 3 = .ok (.invokestatic 9, 3) := by decide +kernel
theorem dJ1_charAt_3b067_6 : decode cJ1_charAt_3b067 6 = .ok (.aload_n 0, 1) := by decide +kernel
theorem dJ1_charAt_3b067_7 : decode cJ1_charAt_3b067 7 = .ok (.iload_n 1, 1) := by decide +kernel
theorem dJ1_charAt_3b067_8 : decode cJ1_charAt_3b067 8 = .ok (.baload, 1) := by decide +kernel
theorem dJ1_charAt_3b067_9 : decode cJ1_charAt_3b067 9 = .ok (.sipush 255, 3) := by decide +kernel
theorem dJ1_charAt_3b067_12 : decode cJ1_charAt_3b067 12 = .ok (.iand, 1) := by decide +kernel
theorem dJ1_charAt_3b067_13 : decode cJ1_charAt_3b067 13 = .ok (.i2c, 1) := by decide +kernel
theorem dJ1_charAt_3b067_14 : decode cJ1_charAt_3b067 14 = .ok (.ireturn, 1) := by decide +kernel
abbrev m_J1_charAt_3b067 : MD := (yJ1_charAt_3b067, cJ1_charAt_3b067, 2, (some .char))
theorem dJ0_charAt_5068e_0 : decode cJ0_charAt_5068e 0 = .ok (.aload_n 0, 1) := by decide +kernel
theorem dJ0_charAt_5068e_1 : decode cJ0_charAt_5068e 1 = .ok (.invokevirtual 492, 3) := by decide +kernel
theorem dJ0_charAt_5068e_4 : decode cJ0_charAt_5068e 4 = .ok (.ifCond .eq 12, 3) := by decide +kernel
theorem dJ0_charAt_5068e_7 : decode cJ0_charAt_5068e 7 = .ok (.aload_n 0, 1) := by decide +kernel
theorem dJ0_charAt_5068e_8 : decode cJ0_charAt_5068e 8 = .ok (.getfield 9, 3) := by decide +kernel
theorem dJ0_charAt_5068e_11 : decode cJ0_charAt_5068e 11 = .ok (.iload_n 1, 1) := by decide +kernel
theorem dJ0_charAt_5068e_12 : decode cJ0_charAt_5068e 12 = .ok (.invokestatic 495, 3) := by decide +kernel
theorem dJ0_charAt_5068e_15 : decode cJ0_charAt_5068e 15 = .ok (.ireturn, 1) := by decide +kernel
theorem dJ0_charAt_5068e_16 : decode cJ0_charAt_5068e 16 = .ok (.aload_n 0, 1) := by decide +kernel
theorem dJ0_charAt_5068e_17 : decode cJ0_charAt_5068e 17 = .ok (.getfield 9, 3) := by decide +kernel
theorem dJ0_charAt_5068e_20 : decode cJ0_charAt_5068e 20 = .ok (.iload_n 1, 1) := by decide +kernel
theorem dJ0_charAt_5068e_21 : decode cJ0_charAt_5068e 21 = .ok (.invokestatic 498, 3) := by decide +kernel
theorem dJ0_charAt_5068e_24 : decode cJ0_charAt_5068e 24 = .ok (.ireturn, 1) := by decide +kernel
abbrev m_J0_charAt_5068e : MD := (yJ0_charAt_5068e, cJ0_charAt_5068e, 2, (some .char))
theorem q_636 : Cond.fieldLink RJ0 38 "java/lang/String" "COMPACT_STRINGS" "Z" ∈ TS := ts_t 636 (by decide +kernel) (by decide +kernel)
theorem q_1778 : Cond.fieldLink RJ0 15 "java/lang/String" "coder" "B" ∈ TS := ts_t 1778 (by decide +kernel) (by decide +kernel)
theorem q_1777 : Cond.fieldLink RJ0 9 "java/lang/String" "value" "[B" ∈ TS := ts_t 1777 (by decide +kernel) (by decide +kernel)
theorem q_652 : Cond.fieldLink RJ0 1053 "jdk/internal/util/Preconditions" "SIOOBE_FORMATTER" "Ljava/util/function/BiFunction;" ∈ TS := ts_t 652 (by decide +kernel) (by decide +kernel)
theorem q_18 : Cond.initialized RJ0 ∈ TS := ts_t 18 (by decide +kernel) (by decide +kernel)
theorem q_635 : Cond.code yJ0_coder_7d493 cJ0_coder_7d493 1 (some .byte) ∈ TS := ts_t 635 (by decide +kernel) (by decide +kernel)
theorem q_632 : Cond.methodLink RJ0 335 yJ0_coder_7d493 ∈ TS := ts_t 632 (by decide +kernel) (by decide +kernel)
theorem q_633 : Cond.instanceMethod yJ0_coder_7d493 ∈ TS := ts_t 633 (by decide +kernel) (by decide +kernel)
theorem q_634 : Cond.selects yJ0_coder_7d493.cls yJ0_coder_7d493 yJ0_coder_7d493 ∈ TS := ts_t 634 (by decide +kernel) (by decide +kernel)
theorem k_J0_335 : LkV RJ0 335 m_J0_coder_7d493 0 := ⟨q_632, q_633, q_634, ⟨q_18, q_635, by decide, by decide, by decide +kernel⟩⟩
theorem q_645 : Cond.code yJ0_isLatin1_aae02 cJ0_isLatin1_aae02 1 (some .boolean) ∈ TS := ts_t 645 (by decide +kernel) (by decide +kernel)
theorem q_642 : Cond.methodLink RJ0 492 yJ0_isLatin1_aae02 ∈ TS := ts_t 642 (by decide +kernel) (by decide +kernel)
theorem q_643 : Cond.instanceMethod yJ0_isLatin1_aae02 ∈ TS := ts_t 643 (by decide +kernel) (by decide +kernel)
theorem q_644 : Cond.selects yJ0_isLatin1_aae02.cls yJ0_isLatin1_aae02 yJ0_isLatin1_aae02 ∈ TS := ts_t 644 (by decide +kernel) (by decide +kernel)
theorem k_J0_492 : LkV RJ0 492 m_J0_isLatin1_aae02 0 := ⟨q_642, q_643, q_644, ⟨q_18, q_645, by decide, by decide, by decide +kernel⟩⟩
theorem q_19 : Cond.initialized RJ1 ∈ TS := ts_t 19 (by decide +kernel) (by decide +kernel)
theorem q_648 : Cond.code yJ1_charAt_3b067 cJ1_charAt_3b067 2 (some .char) ∈ TS := ts_t 648 (by decide +kernel) (by decide +kernel)
theorem q_646 : Cond.methodLink RJ0 495 yJ1_charAt_3b067 ∈ TS := ts_t 646 (by decide +kernel) (by decide +kernel)
theorem q_647 : Cond.static yJ1_charAt_3b067 ∈ TS := ts_t 647 (by decide +kernel) (by decide +kernel)
theorem k_J0_495 : LkS RJ0 495 m_J1_charAt_3b067 2 := ⟨q_646, q_647, ⟨q_19, q_648, by decide, by decide, by decide +kernel⟩⟩
theorem q_651 : Cond.code yJ0_checkIndex_df160 cJ0_checkIndex_df160 2 none ∈ TS := ts_t 651 (by decide +kernel) (by decide +kernel)
theorem q_649 : Cond.methodLink RJ1 9 yJ0_checkIndex_df160 ∈ TS := ts_t 649 (by decide +kernel) (by decide +kernel)
theorem q_650 : Cond.static yJ0_checkIndex_df160 ∈ TS := ts_t 650 (by decide +kernel) (by decide +kernel)
theorem k_J1_9 : LkS RJ1 9 m_J0_checkIndex_df160 2 := ⟨q_649, q_650, ⟨q_18, q_651, by decide, by decide, by decide +kernel⟩⟩
theorem q_20 : Cond.initialized RJ3 ∈ TS := ts_t 20 (by decide +kernel) (by decide +kernel)
theorem q_656 : Cond.code yJ3_checkIndex_8e157 cJ3_checkIndex_8e157 3 (some .int) ∈ TS := ts_t 656 (by decide +kernel) (by decide +kernel)
theorem q_654 : Cond.methodLink RJ0 1059 yJ3_checkIndex_8e157 ∈ TS := ts_t 654 (by decide +kernel) (by decide +kernel)
theorem q_655 : Cond.static yJ3_checkIndex_8e157 ∈ TS := ts_t 655 (by decide +kernel) (by decide +kernel)
theorem k_J0_1059 : LkS RJ0 1059 m_J3_checkIndex_8e157 3 := ⟨q_654, q_655, ⟨q_20, q_656, by decide, by decide, by decide +kernel⟩⟩

/-- the char at k of text j -/
def sch (j k : Nat) : Int32 := (SBYT.getD j []).getD k 0 &&& 255
theorem slen_lt : ∀ j, j < 7 → SLEN.getD j 0 < 2 ^ 31 := by decide
set_option maxHeartbeats 4000000 in
theorem c_J0_coder_7d493 (l : Launch) (g : GT) (j : Nat) (hj : j < 7) (sz : Nat) : CI l m_J0_coder_7d493 (rml 0 0 0) g [] (fun _ => []) sz [.ref (sK g j)] 0 := by
  refine en_i (by decide) (Nat.le_of_ble_eq_true rfl) (fun p e s m args below meth c A ls C w hl => ?_)
  have C : Cx p s m args meth c RJ0 m_J0_coder_7d493 g A := C
  have hx := C.1
  have hb : c.code = cJ0_coder_7d493 := C.2.1
  have hl : lv_has ls 1 [(0, .ref (sK g j))] := hl
  obtain ⟨-, -, -, -, hK, hZ, hq, -, -⟩ := id C.2.2.2.2.2.2.2.1
  refine va_gets hx hb hZ w.2.2 C.2.2.2.1 (C.2.2.2.2.1 _ q_636) (fun _ h => h) dJ0_coder_7d493_0 ?_
  refine lv_if_eq (tgt := 13) hx hb dJ0_coder_7d493_3 (by decide) (fun h => absurd h (by decide)) (fun _ => ?_)
  refine lv_aload_n hx hb dJ0_coder_7d493_6 rfl (lv_at hl 0 rfl) ?_
  refine vk_getf hx hb (hK.1 j hj).2.1 w.2.2 C.2.2.2.1 (C.2.2.2.2.1 _ q_1778) (fun _ h => h) dJ0_coder_7d493_7 ?_
  refine lv_goto (tgt := 14) hx hb dJ0_coder_7d493_10 (by decide) ?_
  exact rt_t C w rfl rfl (fun _ => 0) rfl rfl dJ0_coder_7d493_14
set_option maxHeartbeats 4000000 in
theorem c_J0_length_8abf5 (l : Launch) (g : GT) (j : Nat) (hj : j < 7) (sz : Nat) : CI l m_J0_length_8abf5 (rml 1 0 0) g [] (fun _ => []) sz [.ref (sK g j)] (nI (SLEN.getD j 0)) := by
  refine en_i (by decide) (Nat.le_of_ble_eq_true rfl) (fun p e s m args below meth c A ls C w hl => ?_)
  have C : Cx p s m args meth c RJ0 m_J0_length_8abf5 g A := C
  have hx := C.1
  have hb : c.code = cJ0_length_8abf5 := C.2.1
  have hl : lv_has ls 1 [(0, .ref (sK g j))] := hl
  obtain ⟨-, -, -, -, hK, hZ, hq, -, -⟩ := id C.2.2.2.2.2.2.2.1
  refine lv_aload_n hx hb dJ0_length_8abf5_0 rfl (lv_at hl 0 rfl) ?_
  refine vk_getf hx hb (hK.1 j hj).2.2.1 w.2.2 C.2.2.2.1 (C.2.2.2.2.1 _ q_1777) (fun _ h => h) dJ0_length_8abf5_1 ?_
  refine va_tlen hx hb (hK.1 j hj).2.2.2 w.2.2 rfl dJ0_length_8abf5_4 ?_
  refine lv_aload_n hx hb dJ0_length_8abf5_5 rfl (lv_at hl 0 rfl) ?_
  refine ca_iX C w (wn := fun _ => []) pm_e (c_J0_coder_7d493 l g j hj _) k_J0_335 (rm_le (by decide) (by decide)) (vk_recv hK hj w.2.2) rfl hl.1 rfl (Nat.le_of_ble_eq_true rfl) dJ0_length_8abf5_6 ⟨Nat.le_of_ble_eq_true rfl, Nat.le_of_ble_eq_true rfl⟩ (cells2 := 0) (slots2 := 0) ⟨rfl, rfl⟩ (fun _ H locs w => ?_)
  refine lv_ishr hx hb dJ0_length_8abf5_9 ?_
  exact rt_i C w rfl (fun _ => 0) rfl (sc_shr0 (slen_lt j hj)) dJ0_length_8abf5_10
set_option maxHeartbeats 4000000 in
theorem c_J0_isLatin1_aae02 (l : Launch) (g : GT) (j : Nat) (hj : j < 7) (sz : Nat) : CI l m_J0_isLatin1_aae02 (rml 0 0 0) g [] (fun _ => []) sz [.ref (sK g j)] 1 := by
  refine en_i (by decide) (Nat.le_of_ble_eq_true rfl) (fun p e s m args below meth c A ls C w hl => ?_)
  have C : Cx p s m args meth c RJ0 m_J0_isLatin1_aae02 g A := C
  have hx := C.1
  have hb : c.code = cJ0_isLatin1_aae02 := C.2.1
  have hl : lv_has ls 1 [(0, .ref (sK g j))] := hl
  obtain ⟨-, -, -, -, hK, hZ, hq, -, -⟩ := id C.2.2.2.2.2.2.2.1
  refine va_gets hx hb hZ w.2.2 C.2.2.2.1 (C.2.2.2.2.1 _ q_636) (fun _ h => h) dJ0_isLatin1_aae02_0 ?_
  refine lv_if_eq (tgt := 17) hx hb dJ0_isLatin1_aae02_3 (by decide) (fun h => absurd h (by decide)) (fun _ => ?_)
  refine lv_aload_n hx hb dJ0_isLatin1_aae02_6 rfl (lv_at hl 0 rfl) ?_
  refine vk_getf hx hb (hK.1 j hj).2.1 w.2.2 C.2.2.2.1 (C.2.2.2.2.1 _ q_1778) (fun _ h => h) dJ0_isLatin1_aae02_7 ?_
  refine lv_if_ne (tgt := 17) hx hb dJ0_isLatin1_aae02_10 (by decide) (fun h => absurd rfl h) (fun _ => ?_)
  refine lv_iconst (v := 1) hx hb dJ0_isLatin1_aae02_13 (by decide) ?_
  refine lv_goto (tgt := 18) hx hb dJ0_isLatin1_aae02_14 (by decide) ?_
  exact rt_t C w rfl rfl (fun _ => 0) rfl rfl dJ0_isLatin1_aae02_18
set_option maxHeartbeats 4000000 in
theorem c_J3_checkIndex_8e157 (l : Launch) (g : GT) (i n : Int32) (v : Value) (hv : v = .null ∨ ∃ t : Nat, v = .ref t) (h0 : ¬ i < 0) (h1 : i < n) (sz : Nat) : CI l m_J3_checkIndex_8e157 (rml 0 0 0) g [] (fun _ => []) sz [.int i, .int n, v] i := by
  rcases hv with rfl | ⟨t, rfl⟩
  · refine en_i (by decide) (Nat.le_of_ble_eq_true rfl) (fun p e s m args below meth c A ls C w hl => ?_)
    have C : Cx p s m args meth c RJ3 m_J3_checkIndex_8e157 g A := C
    have hx := C.1
    have hb : c.code = cJ3_checkIndex_8e157 := C.2.1
    have hl : lv_has ls 3 [(0, .int i), (1, .int n), (2, .null)] := hl
    refine lv_iload_n hx hb dJ3_checkIndex_8e157_0 rfl (lv_at hl 0 rfl) ?_
    refine lv_if_lt (tgt := 9) hx hb dJ3_checkIndex_8e157_1 (by decide) (fun h => absurd h h0) (fun _ => ?_)
    refine lv_iload_n hx hb dJ3_checkIndex_8e157_4 rfl (lv_at hl 0 rfl) ?_
    refine lv_iload_n hx hb dJ3_checkIndex_8e157_5 rfl (lv_at hl 1 rfl) ?_
    refine lv_icmp_lt (tgt := 16) hx hb dJ3_checkIndex_8e157_6 (by decide) (fun _ => ?_) (fun h => absurd h1 h)
    refine lv_iload_n hx hb dJ3_checkIndex_8e157_16 rfl (lv_at hl 0 rfl) ?_
    exact rt_i C w rfl (fun _ => 0) rfl rfl dJ3_checkIndex_8e157_17
  · refine en_i (by decide) (Nat.le_of_ble_eq_true rfl) (fun p e s m args below meth c A ls C w hl => ?_)
    have C : Cx p s m args meth c RJ3 m_J3_checkIndex_8e157 g A := C
    have hx := C.1
    have hb : c.code = cJ3_checkIndex_8e157 := C.2.1
    have hl : lv_has ls 3 [(0, .int i), (1, .int n), (2, .ref t)] := hl
    refine lv_iload_n hx hb dJ3_checkIndex_8e157_0 rfl (lv_at hl 0 rfl) ?_
    refine lv_if_lt (tgt := 9) hx hb dJ3_checkIndex_8e157_1 (by decide) (fun h => absurd h h0) (fun _ => ?_)
    refine lv_iload_n hx hb dJ3_checkIndex_8e157_4 rfl (lv_at hl 0 rfl) ?_
    refine lv_iload_n hx hb dJ3_checkIndex_8e157_5 rfl (lv_at hl 1 rfl) ?_
    refine lv_icmp_lt (tgt := 16) hx hb dJ3_checkIndex_8e157_6 (by decide) (fun _ => ?_) (fun h => absurd h1 h)
    refine lv_iload_n hx hb dJ3_checkIndex_8e157_16 rfl (lv_at hl 0 rfl) ?_
    exact rt_i C w rfl (fun _ => 0) rfl rfl dJ3_checkIndex_8e157_17
set_option maxHeartbeats 4000000 in
theorem c_J0_checkIndex_df160 (l : Launch) (g : GT) (i n : Int32) (h0 : ¬ i < 0) (h1 : i < n) (sz : Nat) : CV l m_J0_checkIndex_df160 (rml 1 0 0) g [] (fun _ => []) sz [.int i, .int n] := by
  refine en_v (by decide) (Nat.le_of_ble_eq_true rfl) (fun p e s m args below meth c A ls C w hl => ?_)
  have C : Cx p s m args meth c RJ0 m_J0_checkIndex_df160 g A := C
  have hx := C.1
  have hb : c.code = cJ0_checkIndex_df160 := C.2.1
  have hl : lv_has ls 2 [(0, .int i), (1, .int n)] := hl
  obtain ⟨-, -, -, -, hK, hZ, hq, -, -⟩ := id C.2.2.2.2.2.2.2.1
  refine lv_iload_n hx hb dJ0_checkIndex_df160_0 rfl (lv_at hl 0 rfl) ?_
  refine lv_iload_n hx hb dJ0_checkIndex_df160_1 rfl (lv_at hl 1 rfl) ?_
  rcases hq with hq | ⟨t, hq⟩
  · refine va_gets hx hb hq w.2.2 C.2.2.2.1 (C.2.2.2.2.1 _ q_652) (fun _ h => h) dJ0_checkIndex_df160_2 ?_
    refine ca_iS C w (wn := fun _ => []) pm_e (c_J3_checkIndex_8e157 l g i n .null (Or.inl rfl) h0 h1 _) k_J0_1059 (rm_le (by decide) (by decide)) rfl hl.1 rfl (Nat.le_of_ble_eq_true rfl) dJ0_checkIndex_df160_5 ⟨Nat.le_of_ble_eq_true rfl, Nat.le_of_ble_eq_true rfl⟩ (cells2 := 0) (slots2 := 0) ⟨rfl, rfl⟩ (fun _ H locs w => ?_)
    refine lv_pop hx hb dJ0_checkIndex_df160_8 rfl ?_
    exact rt_v C w rfl (fun _ => 0) rfl dJ0_checkIndex_df160_9
  · refine va_gets hx hb hq w.2.2 C.2.2.2.1 (C.2.2.2.2.1 _ q_652) (fun _ h => h) dJ0_checkIndex_df160_2 ?_
    refine ca_iS C w (wn := fun _ => []) pm_e (c_J3_checkIndex_8e157 l g i n (.ref t) (Or.inr ⟨t, rfl⟩) h0 h1 _) k_J0_1059 (rm_le (by decide) (by decide)) rfl hl.1 rfl (Nat.le_of_ble_eq_true rfl) dJ0_checkIndex_df160_5 ⟨Nat.le_of_ble_eq_true rfl, Nat.le_of_ble_eq_true rfl⟩ (cells2 := 0) (slots2 := 0) ⟨rfl, rfl⟩ (fun _ H locs w => ?_)
    refine lv_pop hx hb dJ0_checkIndex_df160_8 rfl ?_
    exact rt_v C w rfl (fun _ => 0) rfl dJ0_checkIndex_df160_9
theorem vp_in_lt {i : Int32} {n : Nat} (hn : n < 2 ^ 31) (h : vp_in i n) : ¬ i < 0 ∧ i < nI n := by
  obtain ⟨j, hj, rfl⟩ := vp_in_of h hn
  exact ⟨nI_pos (by omega), nI_lt hj hn⟩
set_option maxHeartbeats 4000000 in
theorem c_J1_charAt_3b067 (l : Launch) (g : GT) (j : Nat) (hj : j < 7) (i : Int32) (hi : vp_in i (SLEN.getD j 0)) (sz : Nat) : CI l m_J1_charAt_3b067 (rml 2 0 0) g [] (fun _ => []) sz [.ref (sV g j), .int i] (sch j i.toNatClampNeg) := by
  obtain ⟨h0, h1⟩ := vp_in_lt (slen_lt j hj) hi
  refine en_i (by decide) (Nat.le_of_ble_eq_true rfl) (fun p e s m args below meth c A ls C w hl => ?_)
  have C : Cx p s m args meth c RJ1 m_J1_charAt_3b067 g A := C
  have hx := C.1
  have hb : c.code = cJ1_charAt_3b067 := C.2.1
  have hl : lv_has ls 2 [(0, .ref (sV g j)), (1, .int i)] := hl
  obtain ⟨-, -, -, -, hK, hZ, hq, -, -⟩ := id C.2.2.2.2.2.2.2.1
  refine lv_iload_n hx hb dJ1_charAt_3b067_0 rfl (lv_at hl 1 rfl) ?_
  refine lv_aload_n hx hb dJ1_charAt_3b067_1 rfl (lv_at hl 0 rfl) ?_
  refine va_tlen hx hb (hK.1 j hj).2.2.2 w.2.2 rfl dJ1_charAt_3b067_2 ?_
  refine ca_vS C w (wn := fun _ => []) pm_e (c_J0_checkIndex_df160 l g i (nI (SLEN.getD j 0)) h0 h1 _) k_J1_9 (rm_le (by decide) (by decide)) rfl hl.1 rfl (Nat.le_of_ble_eq_true rfl) dJ1_charAt_3b067_3 ⟨Nat.le_of_ble_eq_true rfl, Nat.le_of_ble_eq_true rfl⟩ (cells2 := 0) (slots2 := 0) ⟨rfl, rfl⟩ (fun _ H locs w => ?_)
  refine lv_aload_n hx hb dJ1_charAt_3b067_6 rfl (lv_at hl 0 rfl) ?_
  refine lv_iload_n hx hb dJ1_charAt_3b067_7 rfl (lv_at hl 1 rfl) ?_
  refine va_tb hx hb (hK.1 j hj).2.2.2 w.2.2 hi rfl dJ1_charAt_3b067_8 ?_
  refine lv_sipush (v := 255) hx hb dJ1_charAt_3b067_9 (by decide) ?_
  refine lv_iand hx hb dJ1_charAt_3b067_12 ?_
  refine lv_i2c (v := sch j i.toNatClampNeg) hx hb dJ1_charAt_3b067_13 (sc_c2 _) ?_
  exact rt_t C w rfl (sc_nar _) (fun _ => 0) rfl rfl dJ1_charAt_3b067_14
set_option maxHeartbeats 4000000 in
theorem c_J0_charAt_5068e (l : Launch) (g : GT) (j : Nat) (hj : j < 7) (i : Int32) (hi : vp_in i (SLEN.getD j 0)) (sz : Nat) : CI l m_J0_charAt_5068e (rml 3 0 0) g [] (fun _ => []) sz [.ref (sK g j), .int i] (sch j i.toNatClampNeg) := by
  refine en_i (by decide) (Nat.le_of_ble_eq_true rfl) (fun p e s m args below meth c A ls C w hl => ?_)
  have C : Cx p s m args meth c RJ0 m_J0_charAt_5068e g A := C
  have hx := C.1
  have hb : c.code = cJ0_charAt_5068e := C.2.1
  have hl : lv_has ls 2 [(0, .ref (sK g j)), (1, .int i)] := hl
  obtain ⟨-, -, -, -, hK, hZ, hq, -, -⟩ := id C.2.2.2.2.2.2.2.1
  refine lv_aload_n hx hb dJ0_charAt_5068e_0 rfl (lv_at hl 0 rfl) ?_
  refine ca_iX C w (wn := fun _ => []) pm_e (c_J0_isLatin1_aae02 l g j hj _) k_J0_492 (rm_le (by decide) (by decide)) (vk_recv hK hj w.2.2) rfl hl.1 rfl (Nat.le_of_ble_eq_true rfl) dJ0_charAt_5068e_1 ⟨Nat.le_of_ble_eq_true rfl, Nat.le_of_ble_eq_true rfl⟩ (cells2 := 0) (slots2 := 0) ⟨rfl, rfl⟩ (fun _ H locs w => ?_)
  refine lv_if_eq (tgt := 16) hx hb dJ0_charAt_5068e_4 (by decide) (fun h => absurd h (by decide)) (fun _ => ?_)
  refine lv_aload_n hx hb dJ0_charAt_5068e_7 rfl (lv_at hl 0 rfl) ?_
  refine vk_getf hx hb (hK.1 j hj).2.2.1 w.2.2 C.2.2.2.1 (C.2.2.2.2.1 _ q_1777) (fun _ h => h) dJ0_charAt_5068e_8 ?_
  refine lv_iload_n hx hb dJ0_charAt_5068e_11 rfl (lv_at hl 1 rfl) ?_
  refine ca_iS C w (wn := fun _ => []) pm_e (c_J1_charAt_3b067 l g j hj i hi _) k_J0_495 (rm_le (by decide) (by decide)) rfl hl.1 rfl (Nat.le_of_ble_eq_true rfl) dJ0_charAt_5068e_12 ⟨Nat.le_of_ble_eq_true rfl, Nat.le_of_ble_eq_true rfl⟩ (cells2 := 0) (slots2 := 0) ⟨rfl, rfl⟩ (fun _ H locs w => ?_)
  exact rt_t C w rfl (sc_nar _) (fun _ => 0) rfl rfl dJ0_charAt_5068e_15
