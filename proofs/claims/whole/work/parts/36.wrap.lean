theorem dL_parse_0 : decode cL_parse 0 = .ok (.aload_n 2, 1) := by decide +kernel
theorem dL_parse_1 : decode cL_parse 1 = .ok (.iconst 0, 1) := by decide +kernel
theorem dL_parse_2 : decode cL_parse 2 = .ok (.aload_n 0, 1) := by decide +kernel
theorem dL_parse_3 : decode cL_parse 3 = .ok (.iload_n 1, 1) := by decide +kernel
theorem dL_parse_4 : decode cL_parse 4 = .ok (.invokevirtual 7, 3) := by decide +kernel
theorem dL_parse_7 : decode cL_parse 7 = .ok (.i2l, 1) := by decide +kernel
theorem dL_parse_8 : decode cL_parse 8 = .ok (.lastore, 1) := by decide +kernel
theorem dL_parse_9 : decode cL_parse 9 = .ok (.goto 6, 3) := by decide +kernel
theorem dL_parse_12 : decode cL_parse 12 = .ok (.astore_n 3, 1) := by decide +kernel
theorem dL_parse_13 : decode cL_parse 13 = .ok (.iconst 1, 1) := by decide +kernel
theorem dL_parse_14 : decode cL_parse 14 = .ok (.ireturn, 1) := by decide +kernel
theorem dL_parse_15 : decode cL_parse 15 = .ok (.iconst 0, 1) := by decide +kernel
theorem dL_parse_16 : decode cL_parse 16 = .ok (.ireturn, 1) := by decide +kernel
abbrev m_L_parse : MD := (yL_parse, cL_parse, 4, (some .int))
theorem q_525 : Cond.classLink RL 13 (exN 1) ∈ TS := ts_t 525 (by decide +kernel) (by decide +kernel)
theorem q_529 : Cond.code yX9_parse cX9_parse 3 (some .int) ∈ TS := ts_t 529 (by decide +kernel) (by decide +kernel)
theorem q_526 : Cond.methodLink RL 7 yX9_parse ∈ TS := ts_t 526 (by decide +kernel) (by decide +kernel)
theorem q_527 : Cond.instanceMethod yX9_parse ∈ TS := ts_t 527 (by decide +kernel) (by decide +kernel)
theorem q_528 : Cond.selects yX9_parse.cls yX9_parse yX9_parse ∈ TS := ts_t 528 (by decide +kernel) (by decide +kernel)
theorem k_L_7 : LkV RL 7 m_X9_parse 1 := ⟨q_526, q_527, q_528, ⟨q_1, q_529, by decide, by decide, by decide +kernel⟩⟩
set_option maxHeartbeats 4000000 in
theorem c_L_parse (l : Launch) (g : GT) (hx hout : Nat) (fs : List Value) (wt wsx : va_W) (ws' : (Nat → Nat) → va_W) (fo : Nat → Int64) (p1 : Int32) (x : Nat) (r : Int32) (kk mc ms : Nat) (hM : ∀ sz, YI l m_X9_parse (rml kk mc ms) g ((hx, .inr (9, fs)) :: wt) ws' wsx sz [.ref hx, .int p1] x r) (hxs : x = 0 ∨ x = 1) (sz : Nat) : KI l m_L_parse [(0, 9, 12, 13)] (rml (kk + 1) mc ms) g ((hx, .inr (9, fs)) :: wt ++ [(hout, aJ g 1 fo)]) (fun u => if x = 0 then ws' u ++ [(hout, aJ g 1 (vp_updL fo 0 r.toInt64))] else wsx ++ [(hout, aJ g 1 fo)]) sz [.ref hx, .int p1, .ref hout] (kc [1] x) := by
  refine ek_i (by decide) (Nat.le_of_ble_eq_true rfl) (fun p e s m args below meth c A ls ht C w hl => ?_)
  have C : Cx p s m args meth c RL m_L_parse g A := C
  have hx9 := C.1
  have hb : c.code = cL_parse := C.2.1
  have hl : lv_has ls 4 [(0, .ref hx), (1, .int p1), (2, .ref hout)] := hl
  refine lv_aload_n hx9 hb dL_parse_0 rfl (lv_at hl 2 rfl) ?_
  refine lv_iconst (v := 0) hx9 hb dL_parse_1 (by decide) ?_
  refine lv_aload_n hx9 hb dL_parse_2 rfl (lv_at hl 0 rfl) ?_
  refine lv_iload_n hx9 hb dL_parse_3 rfl (lv_at hl 1 rfl) ?_
  refine cy_iV C w (wn := fun u => ws' u ++ [(hout, aJ g 1 fo)]) (wnx := wsx ++ [(hout, aJ g 1 fo)]) pm_last pm_last (hM _) k_L_7 (rm_le (Nat.le_refl _) (by decide)) 0 9 rfl rfl rfl rfl hl.1 rfl (Nat.le_of_ble_eq_true rfl) dL_parse_4 ⟨Nat.le_of_eq (Nat.zero_add _), Nat.le_of_eq (Nat.zero_add _)⟩ (cells2 := mc) (slots2 := ms) ⟨Nat.zero_add _, Nat.zero_add _⟩ (fun n1 H locs w q9 ce h1 h2 h3 => ?_) (fun n1 u H locs w => ?_)
  · rcases hxs with h0 | rfl
    · exact absurd h0 n1
    · refine vx_catch (E := exN 1) (ce := ce) (name := exN 1) C.2.2.2.1 [] ⟨0, 9, 12, 13⟩ [] (by rw [ht]; rfl) (fun z hz => by cases hz) (by decide) (by decide) (C.2.2.2.2.1 _ q_525) (va_Nw.use rfl (C.2.2.2.2.2.2.2.1.1 _ (nw_t (w := Cond.castable (exN 1) (exN 1)) 532 (by decide +kernel) rfl))) h1 h2 h3 ?_
      refine lv_astore_n (lv' := [(3, .ref q9), (0, .ref hx), (1, .int p1), (2, .ref hout)]) hx9 hb dL_parse_12 rfl hl (by decide) rfl (fun ls hl => ?_)
      refine lv_iconst (v := 1) hx9 hb dL_parse_13 (by decide) ?_
      exact rt_i C w rfl (fun _ => 0) (by rw [if_neg n1]) (by decide) dL_parse_14
  · refine lv_i2l (v := r.toInt64) hx9 hb dL_parse_7 rfl ?_
    refine las_last C w dL_parse_8 (fun H locs w => ?_)
    refine lv_goto (tgt := 15) hx9 hb dL_parse_9 (by decide) ?_
    refine lv_iconst (v := 0) hx9 hb dL_parse_15 (by decide) ?_
    exact rt_i C w rfl u (by rw [if_pos n1]) (by rw [n1]; rfl) dL_parse_16

theorem dL_classOf_0 : decode cL_classOf 0 = .ok (.aload_n 2, 1) := by decide +kernel
theorem dL_classOf_1 : decode cL_classOf 1 = .ok (.iconst 0, 1) := by decide +kernel
theorem dL_classOf_2 : decode cL_classOf 2 = .ok (.aload_n 0, 1) := by decide +kernel
theorem dL_classOf_3 : decode cL_classOf 3 = .ok (.iload_n 1, 1) := by decide +kernel
theorem dL_classOf_4 : decode cL_classOf 4 = .ok (.invokevirtual 15, 3) := by decide +kernel
theorem dL_classOf_7 : decode cL_classOf 7 = .ok (.i2l, 1) := by decide +kernel
theorem dL_classOf_8 : decode cL_classOf 8 = .ok (.lastore, 1) := by decide +kernel
theorem dL_classOf_9 : decode cL_classOf 9 = .ok (.goto 6, 3) := by decide +kernel
theorem dL_classOf_12 : decode cL_classOf 12 = .ok (.astore_n 3, 1) := by decide +kernel
theorem dL_classOf_13 : decode cL_classOf 13 = .ok (.iconst 1, 1) := by decide +kernel
theorem dL_classOf_14 : decode cL_classOf 14 = .ok (.ireturn, 1) := by decide +kernel
theorem dL_classOf_15 : decode cL_classOf 15 = .ok (.iconst 0, 1) := by decide +kernel
theorem dL_classOf_16 : decode cL_classOf 16 = .ok (.ireturn, 1) := by decide +kernel
abbrev m_L_classOf : MD := (yL_classOf, cL_classOf, 4, (some .int))
theorem q_770 : Cond.code yX9_classOf cX9_classOf 2 (some .int) ∈ TS := ts_t 770 (by decide +kernel) (by decide +kernel)
theorem q_767 : Cond.methodLink RL 15 yX9_classOf ∈ TS := ts_t 767 (by decide +kernel) (by decide +kernel)
theorem q_768 : Cond.instanceMethod yX9_classOf ∈ TS := ts_t 768 (by decide +kernel) (by decide +kernel)
theorem q_769 : Cond.selects yX9_classOf.cls yX9_classOf yX9_classOf ∈ TS := ts_t 769 (by decide +kernel) (by decide +kernel)
theorem k_L_15 : LkV RL 15 m_X9_classOf 1 := ⟨q_767, q_768, q_769, ⟨q_1, q_770, by decide, by decide, by decide +kernel⟩⟩
set_option maxHeartbeats 4000000 in
theorem c_L_classOf (l : Launch) (g : GT) (hx hout : Nat) (fs : List Value) (wt wsx : va_W) (ws' : (Nat → Nat) → va_W) (fo : Nat → Int64) (p1 : Int32) (x : Nat) (r : Int32) (kk mc ms : Nat) (hM : ∀ sz, YI l m_X9_classOf (rml kk mc ms) g ((hx, .inr (9, fs)) :: wt) ws' wsx sz [.ref hx, .int p1] x r) (hxs : x = 0 ∨ x = 1) (sz : Nat) : KI l m_L_classOf [(0, 9, 12, 13)] (rml (kk + 1) mc ms) g ((hx, .inr (9, fs)) :: wt ++ [(hout, aJ g 1 fo)]) (fun u => if x = 0 then ws' u ++ [(hout, aJ g 1 (vp_updL fo 0 r.toInt64))] else wsx ++ [(hout, aJ g 1 fo)]) sz [.ref hx, .int p1, .ref hout] (kc [1] x) := by
  refine ek_i (by decide) (Nat.le_of_ble_eq_true rfl) (fun p e s m args below meth c A ls ht C w hl => ?_)
  have C : Cx p s m args meth c RL m_L_classOf g A := C
  have hx9 := C.1
  have hb : c.code = cL_classOf := C.2.1
  have hl : lv_has ls 4 [(0, .ref hx), (1, .int p1), (2, .ref hout)] := hl
  refine lv_aload_n hx9 hb dL_classOf_0 rfl (lv_at hl 2 rfl) ?_
  refine lv_iconst (v := 0) hx9 hb dL_classOf_1 (by decide) ?_
  refine lv_aload_n hx9 hb dL_classOf_2 rfl (lv_at hl 0 rfl) ?_
  refine lv_iload_n hx9 hb dL_classOf_3 rfl (lv_at hl 1 rfl) ?_
  refine cy_iV C w (wn := fun u => ws' u ++ [(hout, aJ g 1 fo)]) (wnx := wsx ++ [(hout, aJ g 1 fo)]) pm_last pm_last (hM _) k_L_15 (rm_le (Nat.le_refl _) (by decide)) 0 9 rfl rfl rfl rfl hl.1 rfl (Nat.le_of_ble_eq_true rfl) dL_classOf_4 ⟨Nat.le_of_eq (Nat.zero_add _), Nat.le_of_eq (Nat.zero_add _)⟩ (cells2 := mc) (slots2 := ms) ⟨Nat.zero_add _, Nat.zero_add _⟩ (fun n1 H locs w q9 ce h1 h2 h3 => ?_) (fun n1 u H locs w => ?_)
  · rcases hxs with h0 | rfl
    · exact absurd h0 n1
    · refine vx_catch (E := exN 1) (ce := ce) (name := exN 1) C.2.2.2.1 [] ⟨0, 9, 12, 13⟩ [] (by rw [ht]; rfl) (fun z hz => by cases hz) (by decide) (by decide) (C.2.2.2.2.1 _ q_525) (va_Nw.use rfl (C.2.2.2.2.2.2.2.1.1 _ (nw_t (w := Cond.castable (exN 1) (exN 1)) 532 (by decide +kernel) rfl))) h1 h2 h3 ?_
      refine lv_astore_n (lv' := [(3, .ref q9), (0, .ref hx), (1, .int p1), (2, .ref hout)]) hx9 hb dL_classOf_12 rfl hl (by decide) rfl (fun ls hl => ?_)
      refine lv_iconst (v := 1) hx9 hb dL_classOf_13 (by decide) ?_
      exact rt_i C w rfl (fun _ => 0) (by rw [if_neg n1]) (by decide) dL_classOf_14
  · refine lv_i2l (v := r.toInt64) hx9 hb dL_classOf_7 rfl ?_
    refine las_last C w dL_classOf_8 (fun H locs w => ?_)
    refine lv_goto (tgt := 15) hx9 hb dL_classOf_9 (by decide) ?_
    refine lv_iconst (v := 0) hx9 hb dL_classOf_15 (by decide) ?_
    exact rt_i C w rfl u (by rw [if_pos n1]) (by rw [n1]; rfl) dL_classOf_16

theorem dL_routeLinks_0 : decode cL_routeLinks 0 = .ok (.aload 4, 2) := by decide +kernel
theorem dL_routeLinks_2 : decode cL_routeLinks 2 = .ok (.iconst 0, 1) := by decide +kernel
theorem dL_routeLinks_3 : decode cL_routeLinks 3 = .ok (.aload_n 0, 1) := by decide +kernel
theorem dL_routeLinks_4 : decode cL_routeLinks 4 = .ok (.iload_n 1, 1) := by decide +kernel
theorem dL_routeLinks_5 : decode cL_routeLinks 5 = .ok (.iload_n 2, 1) := by decide +kernel
theorem dL_routeLinks_6 : decode cL_routeLinks 6 = .ok (.iload_n 3, 1) := by decide +kernel
theorem dL_routeLinks_7 : decode cL_routeLinks 7 = .ok (.invokevirtual 18, 3) := by decide +kernel
theorem dL_routeLinks_10 : decode cL_routeLinks 10 = .ok (.i2l, 1) := by decide +kernel
theorem dL_routeLinks_11 : decode cL_routeLinks 11 = .ok (.lastore, 1) := by decide +kernel
theorem dL_routeLinks_12 : decode cL_routeLinks 12 = .ok (.goto 7, 3) := by decide +kernel
theorem dL_routeLinks_15 : decode cL_routeLinks 15 = .ok (.astore 5, 2) := by decide +kernel
theorem dL_routeLinks_17 : decode cL_routeLinks 17 = .ok (.iconst 1, 1) := by decide +kernel
theorem dL_routeLinks_18 : decode cL_routeLinks 18 = .ok (.ireturn, 1) := by decide +kernel
theorem dL_routeLinks_19 : decode cL_routeLinks 19 = .ok (.iconst 0, 1) := by decide +kernel
theorem dL_routeLinks_20 : decode cL_routeLinks 20 = .ok (.ireturn, 1) := by decide +kernel
abbrev m_L_routeLinks : MD := (yL_routeLinks, cL_routeLinks, 6, (some .int))
theorem q_783 : Cond.code yX9_routeLinks cX9_routeLinks 4 (some .int) ∈ TS := ts_t 783 (by decide +kernel) (by decide +kernel)
theorem q_780 : Cond.methodLink RL 18 yX9_routeLinks ∈ TS := ts_t 780 (by decide +kernel) (by decide +kernel)
theorem q_781 : Cond.instanceMethod yX9_routeLinks ∈ TS := ts_t 781 (by decide +kernel) (by decide +kernel)
theorem q_782 : Cond.selects yX9_routeLinks.cls yX9_routeLinks yX9_routeLinks ∈ TS := ts_t 782 (by decide +kernel) (by decide +kernel)
theorem k_L_18 : LkV RL 18 m_X9_routeLinks 3 := ⟨q_780, q_781, q_782, ⟨q_1, q_783, by decide, by decide, by decide +kernel⟩⟩
set_option maxHeartbeats 4000000 in
theorem c_L_routeLinks (l : Launch) (g : GT) (hx hout : Nat) (fs : List Value) (wt wsx : va_W) (ws' : (Nat → Nat) → va_W) (fo : Nat → Int64) (p1 p2 p3 : Int32) (x : Nat) (r : Int32) (kk mc ms : Nat) (hM : ∀ sz, YI l m_X9_routeLinks (rml kk mc ms) g ((hx, .inr (9, fs)) :: wt) ws' wsx sz [.ref hx, .int p1, .int p2, .int p3] x r) (hxs : x = 0 ∨ x = 1) (sz : Nat) : KI l m_L_routeLinks [(0, 12, 15, 13)] (rml (kk + 1) mc ms) g ((hx, .inr (9, fs)) :: wt ++ [(hout, aJ g 1 fo)]) (fun u => if x = 0 then ws' u ++ [(hout, aJ g 1 (vp_updL fo 0 r.toInt64))] else wsx ++ [(hout, aJ g 1 fo)]) sz [.ref hx, .int p1, .int p2, .int p3, .ref hout] (kc [1] x) := by
  refine ek_i (by decide) (Nat.le_of_ble_eq_true rfl) (fun p e s m args below meth c A ls ht C w hl => ?_)
  have C : Cx p s m args meth c RL m_L_routeLinks g A := C
  have hx9 := C.1
  have hb : c.code = cL_routeLinks := C.2.1
  have hl : lv_has ls 6 [(0, .ref hx), (1, .int p1), (2, .int p2), (3, .int p3), (4, .ref hout)] := hl
  refine lv_aload hx9 hb dL_routeLinks_0 (lv_at hl 4 rfl) ?_
  refine lv_iconst (v := 0) hx9 hb dL_routeLinks_2 (by decide) ?_
  refine lv_aload_n hx9 hb dL_routeLinks_3 rfl (lv_at hl 0 rfl) ?_
  refine lv_iload_n hx9 hb dL_routeLinks_4 rfl (lv_at hl 1 rfl) ?_
  refine lv_iload_n hx9 hb dL_routeLinks_5 rfl (lv_at hl 2 rfl) ?_
  refine lv_iload_n hx9 hb dL_routeLinks_6 rfl (lv_at hl 3 rfl) ?_
  refine cy_iV C w (wn := fun u => ws' u ++ [(hout, aJ g 1 fo)]) (wnx := wsx ++ [(hout, aJ g 1 fo)]) pm_last pm_last (hM _) k_L_18 (rm_le (Nat.le_refl _) (by decide)) 0 9 rfl rfl rfl rfl hl.1 rfl (Nat.le_of_ble_eq_true rfl) dL_routeLinks_7 ⟨Nat.le_of_eq (Nat.zero_add _), Nat.le_of_eq (Nat.zero_add _)⟩ (cells2 := mc) (slots2 := ms) ⟨Nat.zero_add _, Nat.zero_add _⟩ (fun n1 H locs w q9 ce h1 h2 h3 => ?_) (fun n1 u H locs w => ?_)
  · rcases hxs with h0 | rfl
    · exact absurd h0 n1
    · refine vx_catch (E := exN 1) (ce := ce) (name := exN 1) C.2.2.2.1 [] ⟨0, 12, 15, 13⟩ [] (by rw [ht]; rfl) (fun z hz => by cases hz) (by decide) (by decide) (C.2.2.2.2.1 _ q_525) (va_Nw.use rfl (C.2.2.2.2.2.2.2.1.1 _ (nw_t (w := Cond.castable (exN 1) (exN 1)) 532 (by decide +kernel) rfl))) h1 h2 h3 ?_
      refine lv_astore (lv' := [(5, .ref q9), (0, .ref hx), (1, .int p1), (2, .int p2), (3, .int p3), (4, .ref hout)]) hx9 hb dL_routeLinks_15 hl (by decide) rfl (fun ls hl => ?_)
      refine lv_iconst (v := 1) hx9 hb dL_routeLinks_17 (by decide) ?_
      exact rt_i C w rfl (fun _ => 0) (by rw [if_neg n1]) (by decide) dL_routeLinks_18
  · refine lv_i2l (v := r.toInt64) hx9 hb dL_routeLinks_10 rfl ?_
    refine las_last C w dL_routeLinks_11 (fun H locs w => ?_)
    refine lv_goto (tgt := 19) hx9 hb dL_routeLinks_12 (by decide) ?_
    refine lv_iconst (v := 0) hx9 hb dL_routeLinks_19 (by decide) ?_
    exact rt_i C w rfl u (by rw [if_pos n1]) (by rw [n1]; rfl) dL_routeLinks_20

theorem dL_routePrice_0 : decode cL_routePrice 0 = .ok (.aload 4, 2) := by decide +kernel
theorem dL_routePrice_2 : decode cL_routePrice 2 = .ok (.iconst 0, 1) := by decide +kernel
theorem dL_routePrice_3 : decode cL_routePrice 3 = .ok (.aload_n 0, 1) := by decide +kernel
theorem dL_routePrice_4 : decode cL_routePrice 4 = .ok (.iload_n 1, 1) := by decide +kernel
theorem dL_routePrice_5 : decode cL_routePrice 5 = .ok (.iload_n 2, 1) := by decide +kernel
theorem dL_routePrice_6 : decode cL_routePrice 6 = .ok (.iload_n 3, 1) := by decide +kernel
theorem dL_routePrice_7 : decode cL_routePrice 7 = .ok (.invokevirtual 22, 3) := by decide +kernel
theorem dL_routePrice_10 : decode cL_routePrice 10 = .ok (.i2l, 1) := by decide +kernel
theorem dL_routePrice_11 : decode cL_routePrice 11 = .ok (.lastore, 1) := by decide +kernel
theorem dL_routePrice_12 : decode cL_routePrice 12 = .ok (.goto 7, 3) := by decide +kernel
theorem dL_routePrice_15 : decode cL_routePrice 15 = .ok (.astore 5, 2) := by decide +kernel
theorem dL_routePrice_17 : decode cL_routePrice 17 = .ok (.iconst 1, 1) := by decide +kernel
theorem dL_routePrice_18 : decode cL_routePrice 18 = .ok (.ireturn, 1) := by decide +kernel
theorem dL_routePrice_19 : decode cL_routePrice 19 = .ok (.iconst 0, 1) := by decide +kernel
theorem dL_routePrice_20 : decode cL_routePrice 20 = .ok (.ireturn, 1) := by decide +kernel
abbrev m_L_routePrice : MD := (yL_routePrice, cL_routePrice, 6, (some .int))
theorem q_827 : Cond.code yX9_routePrice cX9_routePrice 4 (some .int) ∈ TS := ts_t 827 (by decide +kernel) (by decide +kernel)
theorem q_824 : Cond.methodLink RL 22 yX9_routePrice ∈ TS := ts_t 824 (by decide +kernel) (by decide +kernel)
theorem q_825 : Cond.instanceMethod yX9_routePrice ∈ TS := ts_t 825 (by decide +kernel) (by decide +kernel)
theorem q_826 : Cond.selects yX9_routePrice.cls yX9_routePrice yX9_routePrice ∈ TS := ts_t 826 (by decide +kernel) (by decide +kernel)
theorem k_L_22 : LkV RL 22 m_X9_routePrice 3 := ⟨q_824, q_825, q_826, ⟨q_1, q_827, by decide, by decide, by decide +kernel⟩⟩
set_option maxHeartbeats 4000000 in
theorem c_L_routePrice (l : Launch) (g : GT) (hx hout : Nat) (fs : List Value) (wt wsx : va_W) (ws' : (Nat → Nat) → va_W) (fo : Nat → Int64) (p1 p2 p3 : Int32) (x : Nat) (r : Int32) (kk mc ms : Nat) (hM : ∀ sz, YI l m_X9_routePrice (rml kk mc ms) g ((hx, .inr (9, fs)) :: wt) ws' wsx sz [.ref hx, .int p1, .int p2, .int p3] x r) (hxs : x = 0 ∨ x = 1) (sz : Nat) : KI l m_L_routePrice [(0, 12, 15, 13)] (rml (kk + 1) mc ms) g ((hx, .inr (9, fs)) :: wt ++ [(hout, aJ g 1 fo)]) (fun u => if x = 0 then ws' u ++ [(hout, aJ g 1 (vp_updL fo 0 r.toInt64))] else wsx ++ [(hout, aJ g 1 fo)]) sz [.ref hx, .int p1, .int p2, .int p3, .ref hout] (kc [1] x) := by
  refine ek_i (by decide) (Nat.le_of_ble_eq_true rfl) (fun p e s m args below meth c A ls ht C w hl => ?_)
  have C : Cx p s m args meth c RL m_L_routePrice g A := C
  have hx9 := C.1
  have hb : c.code = cL_routePrice := C.2.1
  have hl : lv_has ls 6 [(0, .ref hx), (1, .int p1), (2, .int p2), (3, .int p3), (4, .ref hout)] := hl
  refine lv_aload hx9 hb dL_routePrice_0 (lv_at hl 4 rfl) ?_
  refine lv_iconst (v := 0) hx9 hb dL_routePrice_2 (by decide) ?_
  refine lv_aload_n hx9 hb dL_routePrice_3 rfl (lv_at hl 0 rfl) ?_
  refine lv_iload_n hx9 hb dL_routePrice_4 rfl (lv_at hl 1 rfl) ?_
  refine lv_iload_n hx9 hb dL_routePrice_5 rfl (lv_at hl 2 rfl) ?_
  refine lv_iload_n hx9 hb dL_routePrice_6 rfl (lv_at hl 3 rfl) ?_
  refine cy_iV C w (wn := fun u => ws' u ++ [(hout, aJ g 1 fo)]) (wnx := wsx ++ [(hout, aJ g 1 fo)]) pm_last pm_last (hM _) k_L_22 (rm_le (Nat.le_refl _) (by decide)) 0 9 rfl rfl rfl rfl hl.1 rfl (Nat.le_of_ble_eq_true rfl) dL_routePrice_7 ⟨Nat.le_of_eq (Nat.zero_add _), Nat.le_of_eq (Nat.zero_add _)⟩ (cells2 := mc) (slots2 := ms) ⟨Nat.zero_add _, Nat.zero_add _⟩ (fun n1 H locs w q9 ce h1 h2 h3 => ?_) (fun n1 u H locs w => ?_)
  · rcases hxs with h0 | rfl
    · exact absurd h0 n1
    · refine vx_catch (E := exN 1) (ce := ce) (name := exN 1) C.2.2.2.1 [] ⟨0, 12, 15, 13⟩ [] (by rw [ht]; rfl) (fun z hz => by cases hz) (by decide) (by decide) (C.2.2.2.2.1 _ q_525) (va_Nw.use rfl (C.2.2.2.2.2.2.2.1.1 _ (nw_t (w := Cond.castable (exN 1) (exN 1)) 532 (by decide +kernel) rfl))) h1 h2 h3 ?_
      refine lv_astore (lv' := [(5, .ref q9), (0, .ref hx), (1, .int p1), (2, .int p2), (3, .int p3), (4, .ref hout)]) hx9 hb dL_routePrice_15 hl (by decide) rfl (fun ls hl => ?_)
      refine lv_iconst (v := 1) hx9 hb dL_routePrice_17 (by decide) ?_
      exact rt_i C w rfl (fun _ => 0) (by rw [if_neg n1]) (by decide) dL_routePrice_18
  · refine lv_i2l (v := r.toInt64) hx9 hb dL_routePrice_10 rfl ?_
    refine las_last C w dL_routePrice_11 (fun H locs w => ?_)
    refine lv_goto (tgt := 19) hx9 hb dL_routePrice_12 (by decide) ?_
    refine lv_iconst (v := 0) hx9 hb dL_routePrice_19 (by decide) ?_
    exact rt_i C w rfl u (by rw [if_pos n1]) (by rw [n1]; rfl) dL_routePrice_20

theorem dL_routeGantry_0 : decode cL_routeGantry 0 = .ok (.aload 5, 2) := by decide +kernel
theorem dL_routeGantry_2 : decode cL_routeGantry 2 = .ok (.iconst 0, 1) := by decide +kernel
theorem dL_routeGantry_3 : decode cL_routeGantry 3 = .ok (.aload_n 0, 1) := by decide +kernel
theorem dL_routeGantry_4 : decode cL_routeGantry 4 = .ok (.iload_n 1, 1) := by decide +kernel
theorem dL_routeGantry_5 : decode cL_routeGantry 5 = .ok (.iload_n 2, 1) := by decide +kernel
theorem dL_routeGantry_6 : decode cL_routeGantry 6 = .ok (.iload_n 3, 1) := by decide +kernel
theorem dL_routeGantry_7 : decode cL_routeGantry 7 = .ok (.iload 4, 2) := by decide +kernel
theorem dL_routeGantry_9 : decode cL_routeGantry 9 = .ok (.invokevirtual 25, 3) := by decide +kernel
theorem dL_routeGantry_12 : decode cL_routeGantry 12 = .ok (.i2l, 1) := by decide +kernel
theorem dL_routeGantry_13 : decode cL_routeGantry 13 = .ok (.lastore, 1) := by decide +kernel
theorem dL_routeGantry_14 : decode cL_routeGantry 14 = .ok (.goto 7, 3) := by decide +kernel
theorem dL_routeGantry_17 : decode cL_routeGantry 17 = .ok (.astore 6, 2) := by decide +kernel
theorem dL_routeGantry_19 : decode cL_routeGantry 19 = .ok (.iconst 1, 1) := by decide +kernel
theorem dL_routeGantry_20 : decode cL_routeGantry 20 = .ok (.ireturn, 1) := by decide +kernel
theorem dL_routeGantry_21 : decode cL_routeGantry 21 = .ok (.iconst 0, 1) := by decide +kernel
theorem dL_routeGantry_22 : decode cL_routeGantry 22 = .ok (.ireturn, 1) := by decide +kernel
abbrev m_L_routeGantry : MD := (yL_routeGantry, cL_routeGantry, 7, (some .int))
theorem q_834 : Cond.code yX9_routeGantry cX9_routeGantry 5 (some .int) ∈ TS := ts_t 834 (by decide +kernel) (by decide +kernel)
theorem q_831 : Cond.methodLink RL 25 yX9_routeGantry ∈ TS := ts_t 831 (by decide +kernel) (by decide +kernel)
theorem q_832 : Cond.instanceMethod yX9_routeGantry ∈ TS := ts_t 832 (by decide +kernel) (by decide +kernel)
theorem q_833 : Cond.selects yX9_routeGantry.cls yX9_routeGantry yX9_routeGantry ∈ TS := ts_t 833 (by decide +kernel) (by decide +kernel)
theorem k_L_25 : LkV RL 25 m_X9_routeGantry 4 := ⟨q_831, q_832, q_833, ⟨q_1, q_834, by decide, by decide, by decide +kernel⟩⟩
set_option maxHeartbeats 4000000 in
theorem c_L_routeGantry (l : Launch) (g : GT) (hx hout : Nat) (fs : List Value) (wt wsx : va_W) (ws' : (Nat → Nat) → va_W) (fo : Nat → Int64) (p1 p2 p3 p4 : Int32) (x : Nat) (r : Int32) (kk mc ms : Nat) (hM : ∀ sz, YI l m_X9_routeGantry (rml kk mc ms) g ((hx, .inr (9, fs)) :: wt) ws' wsx sz [.ref hx, .int p1, .int p2, .int p3, .int p4] x r) (hxs : x = 0 ∨ x = 1) (sz : Nat) : KI l m_L_routeGantry [(0, 14, 17, 13)] (rml (kk + 1) mc ms) g ((hx, .inr (9, fs)) :: wt ++ [(hout, aJ g 1 fo)]) (fun u => if x = 0 then ws' u ++ [(hout, aJ g 1 (vp_updL fo 0 r.toInt64))] else wsx ++ [(hout, aJ g 1 fo)]) sz [.ref hx, .int p1, .int p2, .int p3, .int p4, .ref hout] (kc [1] x) := by
  refine ek_i (by decide) (Nat.le_of_ble_eq_true rfl) (fun p e s m args below meth c A ls ht C w hl => ?_)
  have C : Cx p s m args meth c RL m_L_routeGantry g A := C
  have hx9 := C.1
  have hb : c.code = cL_routeGantry := C.2.1
  have hl : lv_has ls 7 [(0, .ref hx), (1, .int p1), (2, .int p2), (3, .int p3), (4, .int p4), (5, .ref hout)] := hl
  refine lv_aload hx9 hb dL_routeGantry_0 (lv_at hl 5 rfl) ?_
  refine lv_iconst (v := 0) hx9 hb dL_routeGantry_2 (by decide) ?_
  refine lv_aload_n hx9 hb dL_routeGantry_3 rfl (lv_at hl 0 rfl) ?_
  refine lv_iload_n hx9 hb dL_routeGantry_4 rfl (lv_at hl 1 rfl) ?_
  refine lv_iload_n hx9 hb dL_routeGantry_5 rfl (lv_at hl 2 rfl) ?_
  refine lv_iload_n hx9 hb dL_routeGantry_6 rfl (lv_at hl 3 rfl) ?_
  refine lv_iload hx9 hb dL_routeGantry_7 (lv_at hl 4 rfl) ?_
  refine cy_iV C w (wn := fun u => ws' u ++ [(hout, aJ g 1 fo)]) (wnx := wsx ++ [(hout, aJ g 1 fo)]) pm_last pm_last (hM _) k_L_25 (rm_le (Nat.le_refl _) (by decide)) 0 9 rfl rfl rfl rfl hl.1 rfl (Nat.le_of_ble_eq_true rfl) dL_routeGantry_9 ⟨Nat.le_of_eq (Nat.zero_add _), Nat.le_of_eq (Nat.zero_add _)⟩ (cells2 := mc) (slots2 := ms) ⟨Nat.zero_add _, Nat.zero_add _⟩ (fun n1 H locs w q9 ce h1 h2 h3 => ?_) (fun n1 u H locs w => ?_)
  · rcases hxs with h0 | rfl
    · exact absurd h0 n1
    · refine vx_catch (E := exN 1) (ce := ce) (name := exN 1) C.2.2.2.1 [] ⟨0, 14, 17, 13⟩ [] (by rw [ht]; rfl) (fun z hz => by cases hz) (by decide) (by decide) (C.2.2.2.2.1 _ q_525) (va_Nw.use rfl (C.2.2.2.2.2.2.2.1.1 _ (nw_t (w := Cond.castable (exN 1) (exN 1)) 532 (by decide +kernel) rfl))) h1 h2 h3 ?_
      refine lv_astore (lv' := [(6, .ref q9), (0, .ref hx), (1, .int p1), (2, .int p2), (3, .int p3), (4, .int p4), (5, .ref hout)]) hx9 hb dL_routeGantry_17 hl (by decide) rfl (fun ls hl => ?_)
      refine lv_iconst (v := 1) hx9 hb dL_routeGantry_19 (by decide) ?_
      exact rt_i C w rfl (fun _ => 0) (by rw [if_neg n1]) (by decide) dL_routeGantry_20
  · refine lv_i2l (v := r.toInt64) hx9 hb dL_routeGantry_12 rfl ?_
    refine las_last C w dL_routeGantry_13 (fun H locs w => ?_)
    refine lv_goto (tgt := 21) hx9 hb dL_routeGantry_14 (by decide) ?_
    refine lv_iconst (v := 0) hx9 hb dL_routeGantry_21 (by decide) ?_
    exact rt_i C w rfl u (by rw [if_pos n1]) (by rw [n1]; rfl) dL_routeGantry_22

theorem dL_passageGantry_0 : decode cL_passageGantry 0 = .ok (.aload_n 2, 1) := by decide +kernel
theorem dL_passageGantry_1 : decode cL_passageGantry 1 = .ok (.iconst 0, 1) := by decide +kernel
theorem dL_passageGantry_2 : decode cL_passageGantry 2 = .ok (.aload_n 0, 1) := by decide +kernel
theorem dL_passageGantry_3 : decode cL_passageGantry 3 = .ok (.iload_n 1, 1) := by decide +kernel
theorem dL_passageGantry_4 : decode cL_passageGantry 4 = .ok (.invokevirtual 29, 3) := by decide +kernel
theorem dL_passageGantry_7 : decode cL_passageGantry 7 = .ok (.i2l, 1) := by decide +kernel
theorem dL_passageGantry_8 : decode cL_passageGantry 8 = .ok (.lastore, 1) := by decide +kernel
theorem dL_passageGantry_9 : decode cL_passageGantry 9 = .ok (.goto 6, 3) := by decide +kernel
theorem dL_passageGantry_12 : decode cL_passageGantry 12 = .ok (.astore_n 3, 1) := by decide +kernel
theorem dL_passageGantry_13 : decode cL_passageGantry 13 = .ok (.iconst 1, 1) := by decide +kernel
theorem dL_passageGantry_14 : decode cL_passageGantry 14 = .ok (.ireturn, 1) := by decide +kernel
theorem dL_passageGantry_15 : decode cL_passageGantry 15 = .ok (.iconst 0, 1) := by decide +kernel
theorem dL_passageGantry_16 : decode cL_passageGantry 16 = .ok (.ireturn, 1) := by decide +kernel
abbrev m_L_passageGantry : MD := (yL_passageGantry, cL_passageGantry, 4, (some .int))
theorem q_842 : Cond.classLink RL 32 (exN 2) ∈ TS := ts_t 842 (by decide +kernel) (by decide +kernel)
theorem q_846 : Cond.code yX9_passageGantry cX9_passageGantry 2 (some .int) ∈ TS := ts_t 846 (by decide +kernel) (by decide +kernel)
theorem q_843 : Cond.methodLink RL 29 yX9_passageGantry ∈ TS := ts_t 843 (by decide +kernel) (by decide +kernel)
theorem q_844 : Cond.instanceMethod yX9_passageGantry ∈ TS := ts_t 844 (by decide +kernel) (by decide +kernel)
theorem q_845 : Cond.selects yX9_passageGantry.cls yX9_passageGantry yX9_passageGantry ∈ TS := ts_t 845 (by decide +kernel) (by decide +kernel)
theorem k_L_29 : LkV RL 29 m_X9_passageGantry 1 := ⟨q_843, q_844, q_845, ⟨q_1, q_846, by decide, by decide, by decide +kernel⟩⟩
set_option maxHeartbeats 4000000 in
theorem c_L_passageGantry (l : Launch) (g : GT) (hx hout : Nat) (fs : List Value) (wt wsx : va_W) (ws' : (Nat → Nat) → va_W) (fo : Nat → Int64) (p1 : Int32) (x : Nat) (r : Int32) (kk mc ms : Nat) (hM : ∀ sz, YI l m_X9_passageGantry (rml kk mc ms) g ((hx, .inr (9, fs)) :: wt) ws' wsx sz [.ref hx, .int p1] x r) (hxs : x = 0 ∨ x = 2) (sz : Nat) : KI l m_L_passageGantry [(0, 9, 12, 32)] (rml (kk + 1) mc ms) g ((hx, .inr (9, fs)) :: wt ++ [(hout, aJ g 1 fo)]) (fun u => if x = 0 then ws' u ++ [(hout, aJ g 1 (vp_updL fo 0 r.toInt64))] else wsx ++ [(hout, aJ g 1 fo)]) sz [.ref hx, .int p1, .ref hout] (kc [2] x) := by
  refine ek_i (by decide) (Nat.le_of_ble_eq_true rfl) (fun p e s m args below meth c A ls ht C w hl => ?_)
  have C : Cx p s m args meth c RL m_L_passageGantry g A := C
  have hx9 := C.1
  have hb : c.code = cL_passageGantry := C.2.1
  have hl : lv_has ls 4 [(0, .ref hx), (1, .int p1), (2, .ref hout)] := hl
  refine lv_aload_n hx9 hb dL_passageGantry_0 rfl (lv_at hl 2 rfl) ?_
  refine lv_iconst (v := 0) hx9 hb dL_passageGantry_1 (by decide) ?_
  refine lv_aload_n hx9 hb dL_passageGantry_2 rfl (lv_at hl 0 rfl) ?_
  refine lv_iload_n hx9 hb dL_passageGantry_3 rfl (lv_at hl 1 rfl) ?_
  refine cy_iV C w (wn := fun u => ws' u ++ [(hout, aJ g 1 fo)]) (wnx := wsx ++ [(hout, aJ g 1 fo)]) pm_last pm_last (hM _) k_L_29 (rm_le (Nat.le_refl _) (by decide)) 0 9 rfl rfl rfl rfl hl.1 rfl (Nat.le_of_ble_eq_true rfl) dL_passageGantry_4 ⟨Nat.le_of_eq (Nat.zero_add _), Nat.le_of_eq (Nat.zero_add _)⟩ (cells2 := mc) (slots2 := ms) ⟨Nat.zero_add _, Nat.zero_add _⟩ (fun n1 H locs w q9 ce h1 h2 h3 => ?_) (fun n1 u H locs w => ?_)
  · rcases hxs with h0 | rfl
    · exact absurd h0 n1
    · refine vx_catch (E := exN 2) (ce := ce) (name := exN 2) C.2.2.2.1 [] ⟨0, 9, 12, 32⟩ [] (by rw [ht]; rfl) (fun z hz => by cases hz) (by decide) (by decide) (C.2.2.2.2.1 _ q_842) (va_Nw.use rfl (C.2.2.2.2.2.2.2.1.1 _ (nw_t (w := Cond.castable (exN 2) (exN 2)) 853 (by decide +kernel) rfl))) h1 h2 h3 ?_
      refine lv_astore_n (lv' := [(3, .ref q9), (0, .ref hx), (1, .int p1), (2, .ref hout)]) hx9 hb dL_passageGantry_12 rfl hl (by decide) rfl (fun ls hl => ?_)
      refine lv_iconst (v := 1) hx9 hb dL_passageGantry_13 (by decide) ?_
      exact rt_i C w rfl (fun _ => 0) (by rw [if_neg n1]) (by decide) dL_passageGantry_14
  · refine lv_i2l (v := r.toInt64) hx9 hb dL_passageGantry_7 rfl ?_
    refine las_last C w dL_passageGantry_8 (fun H locs w => ?_)
    refine lv_goto (tgt := 15) hx9 hb dL_passageGantry_9 (by decide) ?_
    refine lv_iconst (v := 0) hx9 hb dL_passageGantry_15 (by decide) ?_
    exact rt_i C w rfl u (by rw [if_pos n1]) (by rw [n1]; rfl) dL_passageGantry_16

theorem dL_passageTime_0 : decode cL_passageTime 0 = .ok (.aload_n 2, 1) := by decide +kernel
theorem dL_passageTime_1 : decode cL_passageTime 1 = .ok (.iconst 0, 1) := by decide +kernel
theorem dL_passageTime_2 : decode cL_passageTime 2 = .ok (.aload_n 0, 1) := by decide +kernel
theorem dL_passageTime_3 : decode cL_passageTime 3 = .ok (.iload_n 1, 1) := by decide +kernel
theorem dL_passageTime_4 : decode cL_passageTime 4 = .ok (.invokevirtual 34, 3) := by decide +kernel
theorem dL_passageTime_7 : decode cL_passageTime 7 = .ok (.i2l, 1) := by decide +kernel
theorem dL_passageTime_8 : decode cL_passageTime 8 = .ok (.lastore, 1) := by decide +kernel
theorem dL_passageTime_9 : decode cL_passageTime 9 = .ok (.goto 6, 3) := by decide +kernel
theorem dL_passageTime_12 : decode cL_passageTime 12 = .ok (.astore_n 3, 1) := by decide +kernel
theorem dL_passageTime_13 : decode cL_passageTime 13 = .ok (.iconst 1, 1) := by decide +kernel
theorem dL_passageTime_14 : decode cL_passageTime 14 = .ok (.ireturn, 1) := by decide +kernel
theorem dL_passageTime_15 : decode cL_passageTime 15 = .ok (.iconst 0, 1) := by decide +kernel
theorem dL_passageTime_16 : decode cL_passageTime 16 = .ok (.ireturn, 1) := by decide +kernel
abbrev m_L_passageTime : MD := (yL_passageTime, cL_passageTime, 4, (some .int))
theorem q_873 : Cond.code yX9_passageTime cX9_passageTime 2 (some .int) ∈ TS := ts_t 873 (by decide +kernel) (by decide +kernel)
theorem q_870 : Cond.methodLink RL 34 yX9_passageTime ∈ TS := ts_t 870 (by decide +kernel) (by decide +kernel)
theorem q_871 : Cond.instanceMethod yX9_passageTime ∈ TS := ts_t 871 (by decide +kernel) (by decide +kernel)
theorem q_872 : Cond.selects yX9_passageTime.cls yX9_passageTime yX9_passageTime ∈ TS := ts_t 872 (by decide +kernel) (by decide +kernel)
theorem k_L_34 : LkV RL 34 m_X9_passageTime 1 := ⟨q_870, q_871, q_872, ⟨q_1, q_873, by decide, by decide, by decide +kernel⟩⟩
set_option maxHeartbeats 4000000 in
theorem c_L_passageTime (l : Launch) (g : GT) (hx hout : Nat) (fs : List Value) (wt wsx : va_W) (ws' : (Nat → Nat) → va_W) (fo : Nat → Int64) (p1 : Int32) (x : Nat) (r : Int32) (kk mc ms : Nat) (hM : ∀ sz, YI l m_X9_passageTime (rml kk mc ms) g ((hx, .inr (9, fs)) :: wt) ws' wsx sz [.ref hx, .int p1] x r) (hxs : x = 0 ∨ x = 2) (sz : Nat) : KI l m_L_passageTime [(0, 9, 12, 32)] (rml (kk + 1) mc ms) g ((hx, .inr (9, fs)) :: wt ++ [(hout, aJ g 1 fo)]) (fun u => if x = 0 then ws' u ++ [(hout, aJ g 1 (vp_updL fo 0 r.toInt64))] else wsx ++ [(hout, aJ g 1 fo)]) sz [.ref hx, .int p1, .ref hout] (kc [2] x) := by
  refine ek_i (by decide) (Nat.le_of_ble_eq_true rfl) (fun p e s m args below meth c A ls ht C w hl => ?_)
  have C : Cx p s m args meth c RL m_L_passageTime g A := C
  have hx9 := C.1
  have hb : c.code = cL_passageTime := C.2.1
  have hl : lv_has ls 4 [(0, .ref hx), (1, .int p1), (2, .ref hout)] := hl
  refine lv_aload_n hx9 hb dL_passageTime_0 rfl (lv_at hl 2 rfl) ?_
  refine lv_iconst (v := 0) hx9 hb dL_passageTime_1 (by decide) ?_
  refine lv_aload_n hx9 hb dL_passageTime_2 rfl (lv_at hl 0 rfl) ?_
  refine lv_iload_n hx9 hb dL_passageTime_3 rfl (lv_at hl 1 rfl) ?_
  refine cy_iV C w (wn := fun u => ws' u ++ [(hout, aJ g 1 fo)]) (wnx := wsx ++ [(hout, aJ g 1 fo)]) pm_last pm_last (hM _) k_L_34 (rm_le (Nat.le_refl _) (by decide)) 0 9 rfl rfl rfl rfl hl.1 rfl (Nat.le_of_ble_eq_true rfl) dL_passageTime_4 ⟨Nat.le_of_eq (Nat.zero_add _), Nat.le_of_eq (Nat.zero_add _)⟩ (cells2 := mc) (slots2 := ms) ⟨Nat.zero_add _, Nat.zero_add _⟩ (fun n1 H locs w q9 ce h1 h2 h3 => ?_) (fun n1 u H locs w => ?_)
  · rcases hxs with h0 | rfl
    · exact absurd h0 n1
    · refine vx_catch (E := exN 2) (ce := ce) (name := exN 2) C.2.2.2.1 [] ⟨0, 9, 12, 32⟩ [] (by rw [ht]; rfl) (fun z hz => by cases hz) (by decide) (by decide) (C.2.2.2.2.1 _ q_842) (va_Nw.use rfl (C.2.2.2.2.2.2.2.1.1 _ (nw_t (w := Cond.castable (exN 2) (exN 2)) 853 (by decide +kernel) rfl))) h1 h2 h3 ?_
      refine lv_astore_n (lv' := [(3, .ref q9), (0, .ref hx), (1, .int p1), (2, .ref hout)]) hx9 hb dL_passageTime_12 rfl hl (by decide) rfl (fun ls hl => ?_)
      refine lv_iconst (v := 1) hx9 hb dL_passageTime_13 (by decide) ?_
      exact rt_i C w rfl (fun _ => 0) (by rw [if_neg n1]) (by decide) dL_passageTime_14
  · refine lv_i2l (v := r.toInt64) hx9 hb dL_passageTime_7 rfl ?_
    refine las_last C w dL_passageTime_8 (fun H locs w => ?_)
    refine lv_goto (tgt := 15) hx9 hb dL_passageTime_9 (by decide) ?_
    refine lv_iconst (v := 0) hx9 hb dL_passageTime_15 (by decide) ?_
    exact rt_i C w rfl u (by rw [if_pos n1]) (by rw [n1]; rfl) dL_passageTime_16

theorem dL_passageTag_0 : decode cL_passageTag 0 = .ok (.aload_n 2, 1) := by decide +kernel
theorem dL_passageTag_1 : decode cL_passageTag 1 = .ok (.iconst 0, 1) := by decide +kernel
theorem dL_passageTag_2 : decode cL_passageTag 2 = .ok (.aload_n 0, 1) := by decide +kernel
theorem dL_passageTag_3 : decode cL_passageTag 3 = .ok (.iload_n 1, 1) := by decide +kernel
theorem dL_passageTag_4 : decode cL_passageTag 4 = .ok (.invokevirtual 37, 3) := by decide +kernel
theorem dL_passageTag_7 : decode cL_passageTag 7 = .ok (.i2l, 1) := by decide +kernel
theorem dL_passageTag_8 : decode cL_passageTag 8 = .ok (.lastore, 1) := by decide +kernel
theorem dL_passageTag_9 : decode cL_passageTag 9 = .ok (.goto 6, 3) := by decide +kernel
theorem dL_passageTag_12 : decode cL_passageTag 12 = .ok (.astore_n 3, 1) := by decide +kernel
theorem dL_passageTag_13 : decode cL_passageTag 13 = .ok (.iconst 1, 1) := by decide +kernel
theorem dL_passageTag_14 : decode cL_passageTag 14 = .ok (.ireturn, 1) := by decide +kernel
theorem dL_passageTag_15 : decode cL_passageTag 15 = .ok (.iconst 0, 1) := by decide +kernel
theorem dL_passageTag_16 : decode cL_passageTag 16 = .ok (.ireturn, 1) := by decide +kernel
abbrev m_L_passageTag : MD := (yL_passageTag, cL_passageTag, 4, (some .int))
theorem q_880 : Cond.code yX9_passageTag cX9_passageTag 2 (some .int) ∈ TS := ts_t 880 (by decide +kernel) (by decide +kernel)
theorem q_877 : Cond.methodLink RL 37 yX9_passageTag ∈ TS := ts_t 877 (by decide +kernel) (by decide +kernel)
theorem q_878 : Cond.instanceMethod yX9_passageTag ∈ TS := ts_t 878 (by decide +kernel) (by decide +kernel)
theorem q_879 : Cond.selects yX9_passageTag.cls yX9_passageTag yX9_passageTag ∈ TS := ts_t 879 (by decide +kernel) (by decide +kernel)
theorem k_L_37 : LkV RL 37 m_X9_passageTag 1 := ⟨q_877, q_878, q_879, ⟨q_1, q_880, by decide, by decide, by decide +kernel⟩⟩
set_option maxHeartbeats 4000000 in
theorem c_L_passageTag (l : Launch) (g : GT) (hx hout : Nat) (fs : List Value) (wt wsx : va_W) (ws' : (Nat → Nat) → va_W) (fo : Nat → Int64) (p1 : Int32) (x : Nat) (r : Int32) (kk mc ms : Nat) (hM : ∀ sz, YI l m_X9_passageTag (rml kk mc ms) g ((hx, .inr (9, fs)) :: wt) ws' wsx sz [.ref hx, .int p1] x r) (hxs : x = 0 ∨ x = 2) (sz : Nat) : KI l m_L_passageTag [(0, 9, 12, 32)] (rml (kk + 1) mc ms) g ((hx, .inr (9, fs)) :: wt ++ [(hout, aJ g 1 fo)]) (fun u => if x = 0 then ws' u ++ [(hout, aJ g 1 (vp_updL fo 0 r.toInt64))] else wsx ++ [(hout, aJ g 1 fo)]) sz [.ref hx, .int p1, .ref hout] (kc [2] x) := by
  refine ek_i (by decide) (Nat.le_of_ble_eq_true rfl) (fun p e s m args below meth c A ls ht C w hl => ?_)
  have C : Cx p s m args meth c RL m_L_passageTag g A := C
  have hx9 := C.1
  have hb : c.code = cL_passageTag := C.2.1
  have hl : lv_has ls 4 [(0, .ref hx), (1, .int p1), (2, .ref hout)] := hl
  refine lv_aload_n hx9 hb dL_passageTag_0 rfl (lv_at hl 2 rfl) ?_
  refine lv_iconst (v := 0) hx9 hb dL_passageTag_1 (by decide) ?_
  refine lv_aload_n hx9 hb dL_passageTag_2 rfl (lv_at hl 0 rfl) ?_
  refine lv_iload_n hx9 hb dL_passageTag_3 rfl (lv_at hl 1 rfl) ?_
  refine cy_iV C w (wn := fun u => ws' u ++ [(hout, aJ g 1 fo)]) (wnx := wsx ++ [(hout, aJ g 1 fo)]) pm_last pm_last (hM _) k_L_37 (rm_le (Nat.le_refl _) (by decide)) 0 9 rfl rfl rfl rfl hl.1 rfl (Nat.le_of_ble_eq_true rfl) dL_passageTag_4 ⟨Nat.le_of_eq (Nat.zero_add _), Nat.le_of_eq (Nat.zero_add _)⟩ (cells2 := mc) (slots2 := ms) ⟨Nat.zero_add _, Nat.zero_add _⟩ (fun n1 H locs w q9 ce h1 h2 h3 => ?_) (fun n1 u H locs w => ?_)
  · rcases hxs with h0 | rfl
    · exact absurd h0 n1
    · refine vx_catch (E := exN 2) (ce := ce) (name := exN 2) C.2.2.2.1 [] ⟨0, 9, 12, 32⟩ [] (by rw [ht]; rfl) (fun z hz => by cases hz) (by decide) (by decide) (C.2.2.2.2.1 _ q_842) (va_Nw.use rfl (C.2.2.2.2.2.2.2.1.1 _ (nw_t (w := Cond.castable (exN 2) (exN 2)) 853 (by decide +kernel) rfl))) h1 h2 h3 ?_
      refine lv_astore_n (lv' := [(3, .ref q9), (0, .ref hx), (1, .int p1), (2, .ref hout)]) hx9 hb dL_passageTag_12 rfl hl (by decide) rfl (fun ls hl => ?_)
      refine lv_iconst (v := 1) hx9 hb dL_passageTag_13 (by decide) ?_
      exact rt_i C w rfl (fun _ => 0) (by rw [if_neg n1]) (by decide) dL_passageTag_14
  · refine lv_i2l (v := r.toInt64) hx9 hb dL_passageTag_7 rfl ?_
    refine las_last C w dL_passageTag_8 (fun H locs w => ?_)
    refine lv_goto (tgt := 15) hx9 hb dL_passageTag_9 (by decide) ?_
    refine lv_iconst (v := 0) hx9 hb dL_passageTag_15 (by decide) ?_
    exact rt_i C w rfl u (by rw [if_pos n1]) (by rw [n1]; rfl) dL_passageTag_16

theorem dL_passagePlate_0 : decode cL_passagePlate 0 = .ok (.aload_n 2, 1) := by decide +kernel
theorem dL_passagePlate_1 : decode cL_passagePlate 1 = .ok (.iconst 0, 1) := by decide +kernel
theorem dL_passagePlate_2 : decode cL_passagePlate 2 = .ok (.aload_n 0, 1) := by decide +kernel
theorem dL_passagePlate_3 : decode cL_passagePlate 3 = .ok (.iload_n 1, 1) := by decide +kernel
theorem dL_passagePlate_4 : decode cL_passagePlate 4 = .ok (.invokevirtual 40, 3) := by decide +kernel
theorem dL_passagePlate_7 : decode cL_passagePlate 7 = .ok (.i2l, 1) := by decide +kernel
theorem dL_passagePlate_8 : decode cL_passagePlate 8 = .ok (.lastore, 1) := by decide +kernel
theorem dL_passagePlate_9 : decode cL_passagePlate 9 = .ok (.goto 6, 3) := by decide +kernel
theorem dL_passagePlate_12 : decode cL_passagePlate 12 = .ok (.astore_n 3, 1) := by decide +kernel
theorem dL_passagePlate_13 : decode cL_passagePlate 13 = .ok (.iconst 1, 1) := by decide +kernel
theorem dL_passagePlate_14 : decode cL_passagePlate 14 = .ok (.ireturn, 1) := by decide +kernel
theorem dL_passagePlate_15 : decode cL_passagePlate 15 = .ok (.iconst 0, 1) := by decide +kernel
theorem dL_passagePlate_16 : decode cL_passagePlate 16 = .ok (.ireturn, 1) := by decide +kernel
abbrev m_L_passagePlate : MD := (yL_passagePlate, cL_passagePlate, 4, (some .int))
theorem q_887 : Cond.code yX9_passagePlate cX9_passagePlate 2 (some .int) ∈ TS := ts_t 887 (by decide +kernel) (by decide +kernel)
theorem q_884 : Cond.methodLink RL 40 yX9_passagePlate ∈ TS := ts_t 884 (by decide +kernel) (by decide +kernel)
theorem q_885 : Cond.instanceMethod yX9_passagePlate ∈ TS := ts_t 885 (by decide +kernel) (by decide +kernel)
theorem q_886 : Cond.selects yX9_passagePlate.cls yX9_passagePlate yX9_passagePlate ∈ TS := ts_t 886 (by decide +kernel) (by decide +kernel)
theorem k_L_40 : LkV RL 40 m_X9_passagePlate 1 := ⟨q_884, q_885, q_886, ⟨q_1, q_887, by decide, by decide, by decide +kernel⟩⟩
set_option maxHeartbeats 4000000 in
theorem c_L_passagePlate (l : Launch) (g : GT) (hx hout : Nat) (fs : List Value) (wt wsx : va_W) (ws' : (Nat → Nat) → va_W) (fo : Nat → Int64) (p1 : Int32) (x : Nat) (r : Int32) (kk mc ms : Nat) (hM : ∀ sz, YI l m_X9_passagePlate (rml kk mc ms) g ((hx, .inr (9, fs)) :: wt) ws' wsx sz [.ref hx, .int p1] x r) (hxs : x = 0 ∨ x = 2) (sz : Nat) : KI l m_L_passagePlate [(0, 9, 12, 32)] (rml (kk + 1) mc ms) g ((hx, .inr (9, fs)) :: wt ++ [(hout, aJ g 1 fo)]) (fun u => if x = 0 then ws' u ++ [(hout, aJ g 1 (vp_updL fo 0 r.toInt64))] else wsx ++ [(hout, aJ g 1 fo)]) sz [.ref hx, .int p1, .ref hout] (kc [2] x) := by
  refine ek_i (by decide) (Nat.le_of_ble_eq_true rfl) (fun p e s m args below meth c A ls ht C w hl => ?_)
  have C : Cx p s m args meth c RL m_L_passagePlate g A := C
  have hx9 := C.1
  have hb : c.code = cL_passagePlate := C.2.1
  have hl : lv_has ls 4 [(0, .ref hx), (1, .int p1), (2, .ref hout)] := hl
  refine lv_aload_n hx9 hb dL_passagePlate_0 rfl (lv_at hl 2 rfl) ?_
  refine lv_iconst (v := 0) hx9 hb dL_passagePlate_1 (by decide) ?_
  refine lv_aload_n hx9 hb dL_passagePlate_2 rfl (lv_at hl 0 rfl) ?_
  refine lv_iload_n hx9 hb dL_passagePlate_3 rfl (lv_at hl 1 rfl) ?_
  refine cy_iV C w (wn := fun u => ws' u ++ [(hout, aJ g 1 fo)]) (wnx := wsx ++ [(hout, aJ g 1 fo)]) pm_last pm_last (hM _) k_L_40 (rm_le (Nat.le_refl _) (by decide)) 0 9 rfl rfl rfl rfl hl.1 rfl (Nat.le_of_ble_eq_true rfl) dL_passagePlate_4 ⟨Nat.le_of_eq (Nat.zero_add _), Nat.le_of_eq (Nat.zero_add _)⟩ (cells2 := mc) (slots2 := ms) ⟨Nat.zero_add _, Nat.zero_add _⟩ (fun n1 H locs w q9 ce h1 h2 h3 => ?_) (fun n1 u H locs w => ?_)
  · rcases hxs with h0 | rfl
    · exact absurd h0 n1
    · refine vx_catch (E := exN 2) (ce := ce) (name := exN 2) C.2.2.2.1 [] ⟨0, 9, 12, 32⟩ [] (by rw [ht]; rfl) (fun z hz => by cases hz) (by decide) (by decide) (C.2.2.2.2.1 _ q_842) (va_Nw.use rfl (C.2.2.2.2.2.2.2.1.1 _ (nw_t (w := Cond.castable (exN 2) (exN 2)) 853 (by decide +kernel) rfl))) h1 h2 h3 ?_
      refine lv_astore_n (lv' := [(3, .ref q9), (0, .ref hx), (1, .int p1), (2, .ref hout)]) hx9 hb dL_passagePlate_12 rfl hl (by decide) rfl (fun ls hl => ?_)
      refine lv_iconst (v := 1) hx9 hb dL_passagePlate_13 (by decide) ?_
      exact rt_i C w rfl (fun _ => 0) (by rw [if_neg n1]) (by decide) dL_passagePlate_14
  · refine lv_i2l (v := r.toInt64) hx9 hb dL_passagePlate_7 rfl ?_
    refine las_last C w dL_passagePlate_8 (fun H locs w => ?_)
    refine lv_goto (tgt := 15) hx9 hb dL_passagePlate_9 (by decide) ?_
    refine lv_iconst (v := 0) hx9 hb dL_passagePlate_15 (by decide) ?_
    exact rt_i C w rfl u (by rw [if_pos n1]) (by rw [n1]; rfl) dL_passagePlate_16

theorem dL_passageAxles_0 : decode cL_passageAxles 0 = .ok (.aload_n 2, 1) := by decide +kernel
theorem dL_passageAxles_1 : decode cL_passageAxles 1 = .ok (.iconst 0, 1) := by decide +kernel
theorem dL_passageAxles_2 : decode cL_passageAxles 2 = .ok (.aload_n 0, 1) := by decide +kernel
theorem dL_passageAxles_3 : decode cL_passageAxles 3 = .ok (.iload_n 1, 1) := by decide +kernel
theorem dL_passageAxles_4 : decode cL_passageAxles 4 = .ok (.invokevirtual 43, 3) := by decide +kernel
theorem dL_passageAxles_7 : decode cL_passageAxles 7 = .ok (.i2l, 1) := by decide +kernel
theorem dL_passageAxles_8 : decode cL_passageAxles 8 = .ok (.lastore, 1) := by decide +kernel
theorem dL_passageAxles_9 : decode cL_passageAxles 9 = .ok (.goto 6, 3) := by decide +kernel
theorem dL_passageAxles_12 : decode cL_passageAxles 12 = .ok (.astore_n 3, 1) := by decide +kernel
theorem dL_passageAxles_13 : decode cL_passageAxles 13 = .ok (.iconst 1, 1) := by decide +kernel
theorem dL_passageAxles_14 : decode cL_passageAxles 14 = .ok (.ireturn, 1) := by decide +kernel
theorem dL_passageAxles_15 : decode cL_passageAxles 15 = .ok (.iconst 0, 1) := by decide +kernel
theorem dL_passageAxles_16 : decode cL_passageAxles 16 = .ok (.ireturn, 1) := by decide +kernel
abbrev m_L_passageAxles : MD := (yL_passageAxles, cL_passageAxles, 4, (some .int))
theorem q_895 : Cond.code yX9_passageAxles cX9_passageAxles 2 (some .int) ∈ TS := ts_t 895 (by decide +kernel) (by decide +kernel)
theorem q_892 : Cond.methodLink RL 43 yX9_passageAxles ∈ TS := ts_t 892 (by decide +kernel) (by decide +kernel)
theorem q_893 : Cond.instanceMethod yX9_passageAxles ∈ TS := ts_t 893 (by decide +kernel) (by decide +kernel)
theorem q_894 : Cond.selects yX9_passageAxles.cls yX9_passageAxles yX9_passageAxles ∈ TS := ts_t 894 (by decide +kernel) (by decide +kernel)
theorem k_L_43 : LkV RL 43 m_X9_passageAxles 1 := ⟨q_892, q_893, q_894, ⟨q_1, q_895, by decide, by decide, by decide +kernel⟩⟩
set_option maxHeartbeats 4000000 in
theorem c_L_passageAxles (l : Launch) (g : GT) (hx hout : Nat) (fs : List Value) (wt wsx : va_W) (ws' : (Nat → Nat) → va_W) (fo : Nat → Int64) (p1 : Int32) (x : Nat) (r : Int32) (kk mc ms : Nat) (hM : ∀ sz, YI l m_X9_passageAxles (rml kk mc ms) g ((hx, .inr (9, fs)) :: wt) ws' wsx sz [.ref hx, .int p1] x r) (hxs : x = 0 ∨ x = 2) (sz : Nat) : KI l m_L_passageAxles [(0, 9, 12, 32)] (rml (kk + 1) mc ms) g ((hx, .inr (9, fs)) :: wt ++ [(hout, aJ g 1 fo)]) (fun u => if x = 0 then ws' u ++ [(hout, aJ g 1 (vp_updL fo 0 r.toInt64))] else wsx ++ [(hout, aJ g 1 fo)]) sz [.ref hx, .int p1, .ref hout] (kc [2] x) := by
  refine ek_i (by decide) (Nat.le_of_ble_eq_true rfl) (fun p e s m args below meth c A ls ht C w hl => ?_)
  have C : Cx p s m args meth c RL m_L_passageAxles g A := C
  have hx9 := C.1
  have hb : c.code = cL_passageAxles := C.2.1
  have hl : lv_has ls 4 [(0, .ref hx), (1, .int p1), (2, .ref hout)] := hl
  refine lv_aload_n hx9 hb dL_passageAxles_0 rfl (lv_at hl 2 rfl) ?_
  refine lv_iconst (v := 0) hx9 hb dL_passageAxles_1 (by decide) ?_
  refine lv_aload_n hx9 hb dL_passageAxles_2 rfl (lv_at hl 0 rfl) ?_
  refine lv_iload_n hx9 hb dL_passageAxles_3 rfl (lv_at hl 1 rfl) ?_
  refine cy_iV C w (wn := fun u => ws' u ++ [(hout, aJ g 1 fo)]) (wnx := wsx ++ [(hout, aJ g 1 fo)]) pm_last pm_last (hM _) k_L_43 (rm_le (Nat.le_refl _) (by decide)) 0 9 rfl rfl rfl rfl hl.1 rfl (Nat.le_of_ble_eq_true rfl) dL_passageAxles_4 ⟨Nat.le_of_eq (Nat.zero_add _), Nat.le_of_eq (Nat.zero_add _)⟩ (cells2 := mc) (slots2 := ms) ⟨Nat.zero_add _, Nat.zero_add _⟩ (fun n1 H locs w q9 ce h1 h2 h3 => ?_) (fun n1 u H locs w => ?_)
  · rcases hxs with h0 | rfl
    · exact absurd h0 n1
    · refine vx_catch (E := exN 2) (ce := ce) (name := exN 2) C.2.2.2.1 [] ⟨0, 9, 12, 32⟩ [] (by rw [ht]; rfl) (fun z hz => by cases hz) (by decide) (by decide) (C.2.2.2.2.1 _ q_842) (va_Nw.use rfl (C.2.2.2.2.2.2.2.1.1 _ (nw_t (w := Cond.castable (exN 2) (exN 2)) 853 (by decide +kernel) rfl))) h1 h2 h3 ?_
      refine lv_astore_n (lv' := [(3, .ref q9), (0, .ref hx), (1, .int p1), (2, .ref hout)]) hx9 hb dL_passageAxles_12 rfl hl (by decide) rfl (fun ls hl => ?_)
      refine lv_iconst (v := 1) hx9 hb dL_passageAxles_13 (by decide) ?_
      exact rt_i C w rfl (fun _ => 0) (by rw [if_neg n1]) (by decide) dL_passageAxles_14
  · refine lv_i2l (v := r.toInt64) hx9 hb dL_passageAxles_7 rfl ?_
    refine las_last C w dL_passageAxles_8 (fun H locs w => ?_)
    refine lv_goto (tgt := 15) hx9 hb dL_passageAxles_9 (by decide) ?_
    refine lv_iconst (v := 0) hx9 hb dL_passageAxles_15 (by decide) ?_
    exact rt_i C w rfl u (by rw [if_pos n1]) (by rw [n1]; rfl) dL_passageAxles_16

theorem dL_votes_0 : decode cL_votes 0 = .ok (.aload_n 3, 1) := by decide +kernel
theorem dL_votes_1 : decode cL_votes 1 = .ok (.iconst 0, 1) := by decide +kernel
theorem dL_votes_2 : decode cL_votes 2 = .ok (.aload_n 0, 1) := by decide +kernel
theorem dL_votes_3 : decode cL_votes 3 = .ok (.iload_n 1, 1) := by decide +kernel
theorem dL_votes_4 : decode cL_votes 4 = .ok (.iload_n 2, 1) := by decide +kernel
theorem dL_votes_5 : decode cL_votes 5 = .ok (.invokevirtual 46, 3) := by decide +kernel
theorem dL_votes_8 : decode cL_votes 8 = .ok (.i2l, 1) := by decide +kernel
theorem dL_votes_9 : decode cL_votes 9 = .ok (.lastore, 1) := by decide +kernel
theorem dL_votes_10 : decode cL_votes 10 = .ok (.goto 7, 3) := by decide +kernel
theorem dL_votes_13 : decode cL_votes 13 = .ok (.astore 4, 2) := by decide +kernel
theorem dL_votes_15 : decode cL_votes 15 = .ok (.iconst 1, 1) := by decide +kernel
theorem dL_votes_16 : decode cL_votes 16 = .ok (.ireturn, 1) := by decide +kernel
theorem dL_votes_17 : decode cL_votes 17 = .ok (.iconst 0, 1) := by decide +kernel
theorem dL_votes_18 : decode cL_votes 18 = .ok (.ireturn, 1) := by decide +kernel
abbrev m_L_votes : MD := (yL_votes, cL_votes, 5, (some .int))
theorem q_903 : Cond.code yX9_votes cX9_votes 3 (some .int) ∈ TS := ts_t 903 (by decide +kernel) (by decide +kernel)
theorem q_900 : Cond.methodLink RL 46 yX9_votes ∈ TS := ts_t 900 (by decide +kernel) (by decide +kernel)
theorem q_901 : Cond.instanceMethod yX9_votes ∈ TS := ts_t 901 (by decide +kernel) (by decide +kernel)
theorem q_902 : Cond.selects yX9_votes.cls yX9_votes yX9_votes ∈ TS := ts_t 902 (by decide +kernel) (by decide +kernel)
theorem k_L_46 : LkV RL 46 m_X9_votes 2 := ⟨q_900, q_901, q_902, ⟨q_1, q_903, by decide, by decide, by decide +kernel⟩⟩
set_option maxHeartbeats 4000000 in
theorem c_L_votes (l : Launch) (g : GT) (hx hout : Nat) (fs : List Value) (wt wsx : va_W) (ws' : (Nat → Nat) → va_W) (fo : Nat → Int64) (p1 p2 : Int32) (x : Nat) (r : Int32) (kk mc ms : Nat) (hM : ∀ sz, YI l m_X9_votes (rml kk mc ms) g ((hx, .inr (9, fs)) :: wt) ws' wsx sz [.ref hx, .int p1, .int p2] x r) (hxs : x = 0 ∨ x = 2) (sz : Nat) : KI l m_L_votes [(0, 10, 13, 32)] (rml (kk + 1) mc ms) g ((hx, .inr (9, fs)) :: wt ++ [(hout, aJ g 1 fo)]) (fun u => if x = 0 then ws' u ++ [(hout, aJ g 1 (vp_updL fo 0 r.toInt64))] else wsx ++ [(hout, aJ g 1 fo)]) sz [.ref hx, .int p1, .int p2, .ref hout] (kc [2] x) := by
  refine ek_i (by decide) (Nat.le_of_ble_eq_true rfl) (fun p e s m args below meth c A ls ht C w hl => ?_)
  have C : Cx p s m args meth c RL m_L_votes g A := C
  have hx9 := C.1
  have hb : c.code = cL_votes := C.2.1
  have hl : lv_has ls 5 [(0, .ref hx), (1, .int p1), (2, .int p2), (3, .ref hout)] := hl
  refine lv_aload_n hx9 hb dL_votes_0 rfl (lv_at hl 3 rfl) ?_
  refine lv_iconst (v := 0) hx9 hb dL_votes_1 (by decide) ?_
  refine lv_aload_n hx9 hb dL_votes_2 rfl (lv_at hl 0 rfl) ?_
  refine lv_iload_n hx9 hb dL_votes_3 rfl (lv_at hl 1 rfl) ?_
  refine lv_iload_n hx9 hb dL_votes_4 rfl (lv_at hl 2 rfl) ?_
  refine cy_iV C w (wn := fun u => ws' u ++ [(hout, aJ g 1 fo)]) (wnx := wsx ++ [(hout, aJ g 1 fo)]) pm_last pm_last (hM _) k_L_46 (rm_le (Nat.le_refl _) (by decide)) 0 9 rfl rfl rfl rfl hl.1 rfl (Nat.le_of_ble_eq_true rfl) dL_votes_5 ⟨Nat.le_of_eq (Nat.zero_add _), Nat.le_of_eq (Nat.zero_add _)⟩ (cells2 := mc) (slots2 := ms) ⟨Nat.zero_add _, Nat.zero_add _⟩ (fun n1 H locs w q9 ce h1 h2 h3 => ?_) (fun n1 u H locs w => ?_)
  · rcases hxs with h0 | rfl
    · exact absurd h0 n1
    · refine vx_catch (E := exN 2) (ce := ce) (name := exN 2) C.2.2.2.1 [] ⟨0, 10, 13, 32⟩ [] (by rw [ht]; rfl) (fun z hz => by cases hz) (by decide) (by decide) (C.2.2.2.2.1 _ q_842) (va_Nw.use rfl (C.2.2.2.2.2.2.2.1.1 _ (nw_t (w := Cond.castable (exN 2) (exN 2)) 853 (by decide +kernel) rfl))) h1 h2 h3 ?_
      refine lv_astore (lv' := [(4, .ref q9), (0, .ref hx), (1, .int p1), (2, .int p2), (3, .ref hout)]) hx9 hb dL_votes_13 hl (by decide) rfl (fun ls hl => ?_)
      refine lv_iconst (v := 1) hx9 hb dL_votes_15 (by decide) ?_
      exact rt_i C w rfl (fun _ => 0) (by rw [if_neg n1]) (by decide) dL_votes_16
  · refine lv_i2l (v := r.toInt64) hx9 hb dL_votes_8 rfl ?_
    refine las_last C w dL_votes_9 (fun H locs w => ?_)
    refine lv_goto (tgt := 17) hx9 hb dL_votes_10 (by decide) ?_
    refine lv_iconst (v := 0) hx9 hb dL_votes_17 (by decide) ?_
    exact rt_i C w rfl u (by rw [if_pos n1]) (by rw [n1]; rfl) dL_votes_18

theorem dL_exceptions_0 : decode cL_exceptions 0 = .ok (.aload_n 2, 1) := by decide +kernel
theorem dL_exceptions_1 : decode cL_exceptions 1 = .ok (.iconst 0, 1) := by decide +kernel
theorem dL_exceptions_2 : decode cL_exceptions 2 = .ok (.aload_n 0, 1) := by decide +kernel
theorem dL_exceptions_3 : decode cL_exceptions 3 = .ok (.iload_n 1, 1) := by decide +kernel
theorem dL_exceptions_4 : decode cL_exceptions 4 = .ok (.invokevirtual 50, 3) := by decide +kernel
theorem dL_exceptions_7 : decode cL_exceptions 7 = .ok (.i2l, 1) := by decide +kernel
theorem dL_exceptions_8 : decode cL_exceptions 8 = .ok (.lastore, 1) := by decide +kernel
theorem dL_exceptions_9 : decode cL_exceptions 9 = .ok (.goto 6, 3) := by decide +kernel
theorem dL_exceptions_12 : decode cL_exceptions 12 = .ok (.astore_n 3, 1) := by decide +kernel
theorem dL_exceptions_13 : decode cL_exceptions 13 = .ok (.iconst 1, 1) := by decide +kernel
theorem dL_exceptions_14 : decode cL_exceptions 14 = .ok (.ireturn, 1) := by decide +kernel
theorem dL_exceptions_15 : decode cL_exceptions 15 = .ok (.iconst 0, 1) := by decide +kernel
theorem dL_exceptions_16 : decode cL_exceptions 16 = .ok (.ireturn, 1) := by decide +kernel
abbrev m_L_exceptions : MD := (yL_exceptions, cL_exceptions, 4, (some .int))
theorem q_914 : Cond.code yX9_exceptions cX9_exceptions 2 (some .int) ∈ TS := ts_t 914 (by decide +kernel) (by decide +kernel)
theorem q_911 : Cond.methodLink RL 50 yX9_exceptions ∈ TS := ts_t 911 (by decide +kernel) (by decide +kernel)
theorem q_912 : Cond.instanceMethod yX9_exceptions ∈ TS := ts_t 912 (by decide +kernel) (by decide +kernel)
theorem q_913 : Cond.selects yX9_exceptions.cls yX9_exceptions yX9_exceptions ∈ TS := ts_t 913 (by decide +kernel) (by decide +kernel)
theorem k_L_50 : LkV RL 50 m_X9_exceptions 1 := ⟨q_911, q_912, q_913, ⟨q_1, q_914, by decide, by decide, by decide +kernel⟩⟩
set_option maxHeartbeats 4000000 in
theorem c_L_exceptions (l : Launch) (g : GT) (hx hout : Nat) (fs : List Value) (wt wsx : va_W) (ws' : (Nat → Nat) → va_W) (fo : Nat → Int64) (p1 : Int32) (x : Nat) (r : Int32) (kk mc ms : Nat) (hM : ∀ sz, YI l m_X9_exceptions (rml kk mc ms) g ((hx, .inr (9, fs)) :: wt) ws' wsx sz [.ref hx, .int p1] x r) (hxs : x = 0 ∨ x = 2) (sz : Nat) : KI l m_L_exceptions [(0, 9, 12, 32)] (rml (kk + 1) mc ms) g ((hx, .inr (9, fs)) :: wt ++ [(hout, aJ g 1 fo)]) (fun u => if x = 0 then ws' u ++ [(hout, aJ g 1 (vp_updL fo 0 r.toInt64))] else wsx ++ [(hout, aJ g 1 fo)]) sz [.ref hx, .int p1, .ref hout] (kc [2] x) := by
  refine ek_i (by decide) (Nat.le_of_ble_eq_true rfl) (fun p e s m args below meth c A ls ht C w hl => ?_)
  have C : Cx p s m args meth c RL m_L_exceptions g A := C
  have hx9 := C.1
  have hb : c.code = cL_exceptions := C.2.1
  have hl : lv_has ls 4 [(0, .ref hx), (1, .int p1), (2, .ref hout)] := hl
  refine lv_aload_n hx9 hb dL_exceptions_0 rfl (lv_at hl 2 rfl) ?_
  refine lv_iconst (v := 0) hx9 hb dL_exceptions_1 (by decide) ?_
  refine lv_aload_n hx9 hb dL_exceptions_2 rfl (lv_at hl 0 rfl) ?_
  refine lv_iload_n hx9 hb dL_exceptions_3 rfl (lv_at hl 1 rfl) ?_
  refine cy_iV C w (wn := fun u => ws' u ++ [(hout, aJ g 1 fo)]) (wnx := wsx ++ [(hout, aJ g 1 fo)]) pm_last pm_last (hM _) k_L_50 (rm_le (Nat.le_refl _) (by decide)) 0 9 rfl rfl rfl rfl hl.1 rfl (Nat.le_of_ble_eq_true rfl) dL_exceptions_4 ⟨Nat.le_of_eq (Nat.zero_add _), Nat.le_of_eq (Nat.zero_add _)⟩ (cells2 := mc) (slots2 := ms) ⟨Nat.zero_add _, Nat.zero_add _⟩ (fun n1 H locs w q9 ce h1 h2 h3 => ?_) (fun n1 u H locs w => ?_)
  · rcases hxs with h0 | rfl
    · exact absurd h0 n1
    · refine vx_catch (E := exN 2) (ce := ce) (name := exN 2) C.2.2.2.1 [] ⟨0, 9, 12, 32⟩ [] (by rw [ht]; rfl) (fun z hz => by cases hz) (by decide) (by decide) (C.2.2.2.2.1 _ q_842) (va_Nw.use rfl (C.2.2.2.2.2.2.2.1.1 _ (nw_t (w := Cond.castable (exN 2) (exN 2)) 853 (by decide +kernel) rfl))) h1 h2 h3 ?_
      refine lv_astore_n (lv' := [(3, .ref q9), (0, .ref hx), (1, .int p1), (2, .ref hout)]) hx9 hb dL_exceptions_12 rfl hl (by decide) rfl (fun ls hl => ?_)
      refine lv_iconst (v := 1) hx9 hb dL_exceptions_13 (by decide) ?_
      exact rt_i C w rfl (fun _ => 0) (by rw [if_neg n1]) (by decide) dL_exceptions_14
  · refine lv_i2l (v := r.toInt64) hx9 hb dL_exceptions_7 rfl ?_
    refine las_last C w dL_exceptions_8 (fun H locs w => ?_)
    refine lv_goto (tgt := 15) hx9 hb dL_exceptions_9 (by decide) ?_
    refine lv_iconst (v := 0) hx9 hb dL_exceptions_15 (by decide) ?_
    exact rt_i C w rfl u (by rw [if_pos n1]) (by rw [n1]; rfl) dL_exceptions_16

theorem dL_passageState_0 : decode cL_passageState 0 = .ok (.aload_n 2, 1) := by decide +kernel
theorem dL_passageState_1 : decode cL_passageState 1 = .ok (.iconst 0, 1) := by decide +kernel
theorem dL_passageState_2 : decode cL_passageState 2 = .ok (.aload_n 0, 1) := by decide +kernel
theorem dL_passageState_3 : decode cL_passageState 3 = .ok (.iload_n 1, 1) := by decide +kernel
theorem dL_passageState_4 : decode cL_passageState 4 = .ok (.invokevirtual 53, 3) := by decide +kernel
theorem dL_passageState_7 : decode cL_passageState 7 = .ok (.i2l, 1) := by decide +kernel
theorem dL_passageState_8 : decode cL_passageState 8 = .ok (.lastore, 1) := by decide +kernel
theorem dL_passageState_9 : decode cL_passageState 9 = .ok (.goto 6, 3) := by decide +kernel
theorem dL_passageState_12 : decode cL_passageState 12 = .ok (.astore_n 3, 1) := by decide +kernel
theorem dL_passageState_13 : decode cL_passageState 13 = .ok (.iconst 1, 1) := by decide +kernel
theorem dL_passageState_14 : decode cL_passageState 14 = .ok (.ireturn, 1) := by decide +kernel
theorem dL_passageState_15 : decode cL_passageState 15 = .ok (.iconst 0, 1) := by decide +kernel
theorem dL_passageState_16 : decode cL_passageState 16 = .ok (.ireturn, 1) := by decide +kernel
abbrev m_L_passageState : MD := (yL_passageState, cL_passageState, 4, (some .int))
theorem q_922 : Cond.code yX9_passageState cX9_passageState 2 (some .int) ∈ TS := ts_t 922 (by decide +kernel) (by decide +kernel)
theorem q_919 : Cond.methodLink RL 53 yX9_passageState ∈ TS := ts_t 919 (by decide +kernel) (by decide +kernel)
theorem q_920 : Cond.instanceMethod yX9_passageState ∈ TS := ts_t 920 (by decide +kernel) (by decide +kernel)
theorem q_921 : Cond.selects yX9_passageState.cls yX9_passageState yX9_passageState ∈ TS := ts_t 921 (by decide +kernel) (by decide +kernel)
theorem k_L_53 : LkV RL 53 m_X9_passageState 1 := ⟨q_919, q_920, q_921, ⟨q_1, q_922, by decide, by decide, by decide +kernel⟩⟩
set_option maxHeartbeats 4000000 in
theorem c_L_passageState (l : Launch) (g : GT) (hx hout : Nat) (fs : List Value) (wt wsx : va_W) (ws' : (Nat → Nat) → va_W) (fo : Nat → Int64) (p1 : Int32) (x : Nat) (r : Int32) (kk mc ms : Nat) (hM : ∀ sz, YI l m_X9_passageState (rml kk mc ms) g ((hx, .inr (9, fs)) :: wt) ws' wsx sz [.ref hx, .int p1] x r) (hxs : x = 0 ∨ x = 2) (sz : Nat) : KI l m_L_passageState [(0, 9, 12, 32)] (rml (kk + 1) mc ms) g ((hx, .inr (9, fs)) :: wt ++ [(hout, aJ g 1 fo)]) (fun u => if x = 0 then ws' u ++ [(hout, aJ g 1 (vp_updL fo 0 r.toInt64))] else wsx ++ [(hout, aJ g 1 fo)]) sz [.ref hx, .int p1, .ref hout] (kc [2] x) := by
  refine ek_i (by decide) (Nat.le_of_ble_eq_true rfl) (fun p e s m args below meth c A ls ht C w hl => ?_)
  have C : Cx p s m args meth c RL m_L_passageState g A := C
  have hx9 := C.1
  have hb : c.code = cL_passageState := C.2.1
  have hl : lv_has ls 4 [(0, .ref hx), (1, .int p1), (2, .ref hout)] := hl
  refine lv_aload_n hx9 hb dL_passageState_0 rfl (lv_at hl 2 rfl) ?_
  refine lv_iconst (v := 0) hx9 hb dL_passageState_1 (by decide) ?_
  refine lv_aload_n hx9 hb dL_passageState_2 rfl (lv_at hl 0 rfl) ?_
  refine lv_iload_n hx9 hb dL_passageState_3 rfl (lv_at hl 1 rfl) ?_
  refine cy_iV C w (wn := fun u => ws' u ++ [(hout, aJ g 1 fo)]) (wnx := wsx ++ [(hout, aJ g 1 fo)]) pm_last pm_last (hM _) k_L_53 (rm_le (Nat.le_refl _) (by decide)) 0 9 rfl rfl rfl rfl hl.1 rfl (Nat.le_of_ble_eq_true rfl) dL_passageState_4 ⟨Nat.le_of_eq (Nat.zero_add _), Nat.le_of_eq (Nat.zero_add _)⟩ (cells2 := mc) (slots2 := ms) ⟨Nat.zero_add _, Nat.zero_add _⟩ (fun n1 H locs w q9 ce h1 h2 h3 => ?_) (fun n1 u H locs w => ?_)
  · rcases hxs with h0 | rfl
    · exact absurd h0 n1
    · refine vx_catch (E := exN 2) (ce := ce) (name := exN 2) C.2.2.2.1 [] ⟨0, 9, 12, 32⟩ [] (by rw [ht]; rfl) (fun z hz => by cases hz) (by decide) (by decide) (C.2.2.2.2.1 _ q_842) (va_Nw.use rfl (C.2.2.2.2.2.2.2.1.1 _ (nw_t (w := Cond.castable (exN 2) (exN 2)) 853 (by decide +kernel) rfl))) h1 h2 h3 ?_
      refine lv_astore_n (lv' := [(3, .ref q9), (0, .ref hx), (1, .int p1), (2, .ref hout)]) hx9 hb dL_passageState_12 rfl hl (by decide) rfl (fun ls hl => ?_)
      refine lv_iconst (v := 1) hx9 hb dL_passageState_13 (by decide) ?_
      exact rt_i C w rfl (fun _ => 0) (by rw [if_neg n1]) (by decide) dL_passageState_14
  · refine lv_i2l (v := r.toInt64) hx9 hb dL_passageState_7 rfl ?_
    refine las_last C w dL_passageState_8 (fun H locs w => ?_)
    refine lv_goto (tgt := 15) hx9 hb dL_passageState_9 (by decide) ?_
    refine lv_iconst (v := 0) hx9 hb dL_passageState_15 (by decide) ?_
    exact rt_i C w rfl u (by rw [if_pos n1]) (by rw [n1]; rfl) dL_passageState_16

theorem dL_tripOf_0 : decode cL_tripOf 0 = .ok (.aload_n 2, 1) := by decide +kernel
theorem dL_tripOf_1 : decode cL_tripOf 1 = .ok (.iconst 0, 1) := by decide +kernel
theorem dL_tripOf_2 : decode cL_tripOf 2 = .ok (.aload_n 0, 1) := by decide +kernel
theorem dL_tripOf_3 : decode cL_tripOf 3 = .ok (.iload_n 1, 1) := by decide +kernel
theorem dL_tripOf_4 : decode cL_tripOf 4 = .ok (.invokevirtual 56, 3) := by decide +kernel
theorem dL_tripOf_7 : decode cL_tripOf 7 = .ok (.i2l, 1) := by decide +kernel
theorem dL_tripOf_8 : decode cL_tripOf 8 = .ok (.lastore, 1) := by decide +kernel
theorem dL_tripOf_9 : decode cL_tripOf 9 = .ok (.goto 6, 3) := by decide +kernel
theorem dL_tripOf_12 : decode cL_tripOf 12 = .ok (.astore_n 3, 1) := by decide +kernel
theorem dL_tripOf_13 : decode cL_tripOf 13 = .ok (.iconst 1, 1) := by decide +kernel
theorem dL_tripOf_14 : decode cL_tripOf 14 = .ok (.ireturn, 1) := by decide +kernel
theorem dL_tripOf_15 : decode cL_tripOf 15 = .ok (.iconst 0, 1) := by decide +kernel
theorem dL_tripOf_16 : decode cL_tripOf 16 = .ok (.ireturn, 1) := by decide +kernel
abbrev m_L_tripOf : MD := (yL_tripOf, cL_tripOf, 4, (some .int))
theorem q_929 : Cond.code yX9_tripOf cX9_tripOf 2 (some .int) ∈ TS := ts_t 929 (by decide +kernel) (by decide +kernel)
theorem q_926 : Cond.methodLink RL 56 yX9_tripOf ∈ TS := ts_t 926 (by decide +kernel) (by decide +kernel)
theorem q_927 : Cond.instanceMethod yX9_tripOf ∈ TS := ts_t 927 (by decide +kernel) (by decide +kernel)
theorem q_928 : Cond.selects yX9_tripOf.cls yX9_tripOf yX9_tripOf ∈ TS := ts_t 928 (by decide +kernel) (by decide +kernel)
theorem k_L_56 : LkV RL 56 m_X9_tripOf 1 := ⟨q_926, q_927, q_928, ⟨q_1, q_929, by decide, by decide, by decide +kernel⟩⟩
set_option maxHeartbeats 4000000 in
theorem c_L_tripOf (l : Launch) (g : GT) (hx hout : Nat) (fs : List Value) (wt wsx : va_W) (ws' : (Nat → Nat) → va_W) (fo : Nat → Int64) (p1 : Int32) (x : Nat) (r : Int32) (kk mc ms : Nat) (hM : ∀ sz, YI l m_X9_tripOf (rml kk mc ms) g ((hx, .inr (9, fs)) :: wt) ws' wsx sz [.ref hx, .int p1] x r) (hxs : x = 0 ∨ x = 2) (sz : Nat) : KI l m_L_tripOf [(0, 9, 12, 32)] (rml (kk + 1) mc ms) g ((hx, .inr (9, fs)) :: wt ++ [(hout, aJ g 1 fo)]) (fun u => if x = 0 then ws' u ++ [(hout, aJ g 1 (vp_updL fo 0 r.toInt64))] else wsx ++ [(hout, aJ g 1 fo)]) sz [.ref hx, .int p1, .ref hout] (kc [2] x) := by
  refine ek_i (by decide) (Nat.le_of_ble_eq_true rfl) (fun p e s m args below meth c A ls ht C w hl => ?_)
  have C : Cx p s m args meth c RL m_L_tripOf g A := C
  have hx9 := C.1
  have hb : c.code = cL_tripOf := C.2.1
  have hl : lv_has ls 4 [(0, .ref hx), (1, .int p1), (2, .ref hout)] := hl
  refine lv_aload_n hx9 hb dL_tripOf_0 rfl (lv_at hl 2 rfl) ?_
  refine lv_iconst (v := 0) hx9 hb dL_tripOf_1 (by decide) ?_
  refine lv_aload_n hx9 hb dL_tripOf_2 rfl (lv_at hl 0 rfl) ?_
  refine lv_iload_n hx9 hb dL_tripOf_3 rfl (lv_at hl 1 rfl) ?_
  refine cy_iV C w (wn := fun u => ws' u ++ [(hout, aJ g 1 fo)]) (wnx := wsx ++ [(hout, aJ g 1 fo)]) pm_last pm_last (hM _) k_L_56 (rm_le (Nat.le_refl _) (by decide)) 0 9 rfl rfl rfl rfl hl.1 rfl (Nat.le_of_ble_eq_true rfl) dL_tripOf_4 ⟨Nat.le_of_eq (Nat.zero_add _), Nat.le_of_eq (Nat.zero_add _)⟩ (cells2 := mc) (slots2 := ms) ⟨Nat.zero_add _, Nat.zero_add _⟩ (fun n1 H locs w q9 ce h1 h2 h3 => ?_) (fun n1 u H locs w => ?_)
  · rcases hxs with h0 | rfl
    · exact absurd h0 n1
    · refine vx_catch (E := exN 2) (ce := ce) (name := exN 2) C.2.2.2.1 [] ⟨0, 9, 12, 32⟩ [] (by rw [ht]; rfl) (fun z hz => by cases hz) (by decide) (by decide) (C.2.2.2.2.1 _ q_842) (va_Nw.use rfl (C.2.2.2.2.2.2.2.1.1 _ (nw_t (w := Cond.castable (exN 2) (exN 2)) 853 (by decide +kernel) rfl))) h1 h2 h3 ?_
      refine lv_astore_n (lv' := [(3, .ref q9), (0, .ref hx), (1, .int p1), (2, .ref hout)]) hx9 hb dL_tripOf_12 rfl hl (by decide) rfl (fun ls hl => ?_)
      refine lv_iconst (v := 1) hx9 hb dL_tripOf_13 (by decide) ?_
      exact rt_i C w rfl (fun _ => 0) (by rw [if_neg n1]) (by decide) dL_tripOf_14
  · refine lv_i2l (v := r.toInt64) hx9 hb dL_tripOf_7 rfl ?_
    refine las_last C w dL_tripOf_8 (fun H locs w => ?_)
    refine lv_goto (tgt := 15) hx9 hb dL_tripOf_9 (by decide) ?_
    refine lv_iconst (v := 0) hx9 hb dL_tripOf_15 (by decide) ?_
    exact rt_i C w rfl u (by rw [if_pos n1]) (by rw [n1]; rfl) dL_tripOf_16

theorem dL_previewTrips_0 : decode cL_previewTrips 0 = .ok (.aload_n 2, 1) := by decide +kernel
theorem dL_previewTrips_1 : decode cL_previewTrips 1 = .ok (.iconst 0, 1) := by decide +kernel
theorem dL_previewTrips_2 : decode cL_previewTrips 2 = .ok (.aload_n 0, 1) := by decide +kernel
theorem dL_previewTrips_3 : decode cL_previewTrips 3 = .ok (.iload_n 1, 1) := by decide +kernel
theorem dL_previewTrips_4 : decode cL_previewTrips 4 = .ok (.invokevirtual 59, 3) := by decide +kernel
theorem dL_previewTrips_7 : decode cL_previewTrips 7 = .ok (.i2l, 1) := by decide +kernel
theorem dL_previewTrips_8 : decode cL_previewTrips 8 = .ok (.lastore, 1) := by decide +kernel
theorem dL_previewTrips_9 : decode cL_previewTrips 9 = .ok (.goto 6, 3) := by decide +kernel
theorem dL_previewTrips_12 : decode cL_previewTrips 12 = .ok (.astore_n 3, 1) := by decide +kernel
theorem dL_previewTrips_13 : decode cL_previewTrips 13 = .ok (.iconst 1, 1) := by decide +kernel
theorem dL_previewTrips_14 : decode cL_previewTrips 14 = .ok (.ireturn, 1) := by decide +kernel
theorem dL_previewTrips_15 : decode cL_previewTrips 15 = .ok (.iconst 0, 1) := by decide +kernel
theorem dL_previewTrips_16 : decode cL_previewTrips 16 = .ok (.ireturn, 1) := by decide +kernel
abbrev m_L_previewTrips : MD := (yL_previewTrips, cL_previewTrips, 4, (some .int))
theorem q_936 : Cond.code yX9_previewTrips cX9_previewTrips 2 (some .int) ∈ TS := ts_t 936 (by decide +kernel) (by decide +kernel)
theorem q_933 : Cond.methodLink RL 59 yX9_previewTrips ∈ TS := ts_t 933 (by decide +kernel) (by decide +kernel)
theorem q_934 : Cond.instanceMethod yX9_previewTrips ∈ TS := ts_t 934 (by decide +kernel) (by decide +kernel)
theorem q_935 : Cond.selects yX9_previewTrips.cls yX9_previewTrips yX9_previewTrips ∈ TS := ts_t 935 (by decide +kernel) (by decide +kernel)
theorem k_L_59 : LkV RL 59 m_X9_previewTrips 1 := ⟨q_933, q_934, q_935, ⟨q_1, q_936, by decide, by decide, by decide +kernel⟩⟩
set_option maxHeartbeats 4000000 in
theorem c_L_previewTrips (l : Launch) (g : GT) (hx hout : Nat) (fs : List Value) (wt wsx : va_W) (ws' : (Nat → Nat) → va_W) (fo : Nat → Int64) (p1 : Int32) (x : Nat) (r : Int32) (kk mc ms : Nat) (hM : ∀ sz, YI l m_X9_previewTrips (rml kk mc ms) g ((hx, .inr (9, fs)) :: wt) ws' wsx sz [.ref hx, .int p1] x r) (hxs : x = 0 ∨ x = 1) (sz : Nat) : KI l m_L_previewTrips [(0, 9, 12, 13)] (rml (kk + 1) mc ms) g ((hx, .inr (9, fs)) :: wt ++ [(hout, aJ g 1 fo)]) (fun u => if x = 0 then ws' u ++ [(hout, aJ g 1 (vp_updL fo 0 r.toInt64))] else wsx ++ [(hout, aJ g 1 fo)]) sz [.ref hx, .int p1, .ref hout] (kc [1] x) := by
  refine ek_i (by decide) (Nat.le_of_ble_eq_true rfl) (fun p e s m args below meth c A ls ht C w hl => ?_)
  have C : Cx p s m args meth c RL m_L_previewTrips g A := C
  have hx9 := C.1
  have hb : c.code = cL_previewTrips := C.2.1
  have hl : lv_has ls 4 [(0, .ref hx), (1, .int p1), (2, .ref hout)] := hl
  refine lv_aload_n hx9 hb dL_previewTrips_0 rfl (lv_at hl 2 rfl) ?_
  refine lv_iconst (v := 0) hx9 hb dL_previewTrips_1 (by decide) ?_
  refine lv_aload_n hx9 hb dL_previewTrips_2 rfl (lv_at hl 0 rfl) ?_
  refine lv_iload_n hx9 hb dL_previewTrips_3 rfl (lv_at hl 1 rfl) ?_
  refine cy_iV C w (wn := fun u => ws' u ++ [(hout, aJ g 1 fo)]) (wnx := wsx ++ [(hout, aJ g 1 fo)]) pm_last pm_last (hM _) k_L_59 (rm_le (Nat.le_refl _) (by decide)) 0 9 rfl rfl rfl rfl hl.1 rfl (Nat.le_of_ble_eq_true rfl) dL_previewTrips_4 ⟨Nat.le_of_eq (Nat.zero_add _), Nat.le_of_eq (Nat.zero_add _)⟩ (cells2 := mc) (slots2 := ms) ⟨Nat.zero_add _, Nat.zero_add _⟩ (fun n1 H locs w q9 ce h1 h2 h3 => ?_) (fun n1 u H locs w => ?_)
  · rcases hxs with h0 | rfl
    · exact absurd h0 n1
    · refine vx_catch (E := exN 1) (ce := ce) (name := exN 1) C.2.2.2.1 [] ⟨0, 9, 12, 13⟩ [] (by rw [ht]; rfl) (fun z hz => by cases hz) (by decide) (by decide) (C.2.2.2.2.1 _ q_525) (va_Nw.use rfl (C.2.2.2.2.2.2.2.1.1 _ (nw_t (w := Cond.castable (exN 1) (exN 1)) 532 (by decide +kernel) rfl))) h1 h2 h3 ?_
      refine lv_astore_n (lv' := [(3, .ref q9), (0, .ref hx), (1, .int p1), (2, .ref hout)]) hx9 hb dL_previewTrips_12 rfl hl (by decide) rfl (fun ls hl => ?_)
      refine lv_iconst (v := 1) hx9 hb dL_previewTrips_13 (by decide) ?_
      exact rt_i C w rfl (fun _ => 0) (by rw [if_neg n1]) (by decide) dL_previewTrips_14
  · refine lv_i2l (v := r.toInt64) hx9 hb dL_previewTrips_7 rfl ?_
    refine las_last C w dL_previewTrips_8 (fun H locs w => ?_)
    refine lv_goto (tgt := 15) hx9 hb dL_previewTrips_9 (by decide) ?_
    refine lv_iconst (v := 0) hx9 hb dL_previewTrips_15 (by decide) ?_
    exact rt_i C w rfl u (by rw [if_pos n1]) (by rw [n1]; rfl) dL_previewTrips_16

theorem dL_previewTotal_0 : decode cL_previewTotal 0 = .ok (.aload_n 2, 1) := by decide +kernel
theorem dL_previewTotal_1 : decode cL_previewTotal 1 = .ok (.iconst 0, 1) := by decide +kernel
theorem dL_previewTotal_2 : decode cL_previewTotal 2 = .ok (.aload_n 0, 1) := by decide +kernel
theorem dL_previewTotal_3 : decode cL_previewTotal 3 = .ok (.iload_n 1, 1) := by decide +kernel
theorem dL_previewTotal_4 : decode cL_previewTotal 4 = .ok (.invokevirtual 62, 3) := by decide +kernel
theorem dL_previewTotal_7 : decode cL_previewTotal 7 = .ok (.i2l, 1) := by decide +kernel
theorem dL_previewTotal_8 : decode cL_previewTotal 8 = .ok (.lastore, 1) := by decide +kernel
theorem dL_previewTotal_9 : decode cL_previewTotal 9 = .ok (.goto 6, 3) := by decide +kernel
theorem dL_previewTotal_12 : decode cL_previewTotal 12 = .ok (.astore_n 3, 1) := by decide +kernel
theorem dL_previewTotal_13 : decode cL_previewTotal 13 = .ok (.iconst 1, 1) := by decide +kernel
theorem dL_previewTotal_14 : decode cL_previewTotal 14 = .ok (.ireturn, 1) := by decide +kernel
theorem dL_previewTotal_15 : decode cL_previewTotal 15 = .ok (.iconst 0, 1) := by decide +kernel
theorem dL_previewTotal_16 : decode cL_previewTotal 16 = .ok (.ireturn, 1) := by decide +kernel
abbrev m_L_previewTotal : MD := (yL_previewTotal, cL_previewTotal, 4, (some .int))
theorem q_977 : Cond.code yX9_previewTotal cX9_previewTotal 2 (some .int) ∈ TS := ts_t 977 (by decide +kernel) (by decide +kernel)
theorem q_974 : Cond.methodLink RL 62 yX9_previewTotal ∈ TS := ts_t 974 (by decide +kernel) (by decide +kernel)
theorem q_975 : Cond.instanceMethod yX9_previewTotal ∈ TS := ts_t 975 (by decide +kernel) (by decide +kernel)
theorem q_976 : Cond.selects yX9_previewTotal.cls yX9_previewTotal yX9_previewTotal ∈ TS := ts_t 976 (by decide +kernel) (by decide +kernel)
theorem k_L_62 : LkV RL 62 m_X9_previewTotal 1 := ⟨q_974, q_975, q_976, ⟨q_1, q_977, by decide, by decide, by decide +kernel⟩⟩
set_option maxHeartbeats 4000000 in
theorem c_L_previewTotal (l : Launch) (g : GT) (hx hout : Nat) (fs : List Value) (wt wsx : va_W) (ws' : (Nat → Nat) → va_W) (fo : Nat → Int64) (p1 : Int32) (x : Nat) (r : Int32) (kk mc ms : Nat) (hM : ∀ sz, YI l m_X9_previewTotal (rml kk mc ms) g ((hx, .inr (9, fs)) :: wt) ws' wsx sz [.ref hx, .int p1] x r) (hxs : x = 0 ∨ x = 1) (sz : Nat) : KI l m_L_previewTotal [(0, 9, 12, 13)] (rml (kk + 1) mc ms) g ((hx, .inr (9, fs)) :: wt ++ [(hout, aJ g 1 fo)]) (fun u => if x = 0 then ws' u ++ [(hout, aJ g 1 (vp_updL fo 0 r.toInt64))] else wsx ++ [(hout, aJ g 1 fo)]) sz [.ref hx, .int p1, .ref hout] (kc [1] x) := by
  refine ek_i (by decide) (Nat.le_of_ble_eq_true rfl) (fun p e s m args below meth c A ls ht C w hl => ?_)
  have C : Cx p s m args meth c RL m_L_previewTotal g A := C
  have hx9 := C.1
  have hb : c.code = cL_previewTotal := C.2.1
  have hl : lv_has ls 4 [(0, .ref hx), (1, .int p1), (2, .ref hout)] := hl
  refine lv_aload_n hx9 hb dL_previewTotal_0 rfl (lv_at hl 2 rfl) ?_
  refine lv_iconst (v := 0) hx9 hb dL_previewTotal_1 (by decide) ?_
  refine lv_aload_n hx9 hb dL_previewTotal_2 rfl (lv_at hl 0 rfl) ?_
  refine lv_iload_n hx9 hb dL_previewTotal_3 rfl (lv_at hl 1 rfl) ?_
  refine cy_iV C w (wn := fun u => ws' u ++ [(hout, aJ g 1 fo)]) (wnx := wsx ++ [(hout, aJ g 1 fo)]) pm_last pm_last (hM _) k_L_62 (rm_le (Nat.le_refl _) (by decide)) 0 9 rfl rfl rfl rfl hl.1 rfl (Nat.le_of_ble_eq_true rfl) dL_previewTotal_4 ⟨Nat.le_of_eq (Nat.zero_add _), Nat.le_of_eq (Nat.zero_add _)⟩ (cells2 := mc) (slots2 := ms) ⟨Nat.zero_add _, Nat.zero_add _⟩ (fun n1 H locs w q9 ce h1 h2 h3 => ?_) (fun n1 u H locs w => ?_)
  · rcases hxs with h0 | rfl
    · exact absurd h0 n1
    · refine vx_catch (E := exN 1) (ce := ce) (name := exN 1) C.2.2.2.1 [] ⟨0, 9, 12, 13⟩ [] (by rw [ht]; rfl) (fun z hz => by cases hz) (by decide) (by decide) (C.2.2.2.2.1 _ q_525) (va_Nw.use rfl (C.2.2.2.2.2.2.2.1.1 _ (nw_t (w := Cond.castable (exN 1) (exN 1)) 532 (by decide +kernel) rfl))) h1 h2 h3 ?_
      refine lv_astore_n (lv' := [(3, .ref q9), (0, .ref hx), (1, .int p1), (2, .ref hout)]) hx9 hb dL_previewTotal_12 rfl hl (by decide) rfl (fun ls hl => ?_)
      refine lv_iconst (v := 1) hx9 hb dL_previewTotal_13 (by decide) ?_
      exact rt_i C w rfl (fun _ => 0) (by rw [if_neg n1]) (by decide) dL_previewTotal_14
  · refine lv_i2l (v := r.toInt64) hx9 hb dL_previewTotal_7 rfl ?_
    refine las_last C w dL_previewTotal_8 (fun H locs w => ?_)
    refine lv_goto (tgt := 15) hx9 hb dL_previewTotal_9 (by decide) ?_
    refine lv_iconst (v := 0) hx9 hb dL_previewTotal_15 (by decide) ?_
    exact rt_i C w rfl u (by rw [if_pos n1]) (by rw [n1]; rfl) dL_previewTotal_16

theorem dL_tripAmount_0 : decode cL_tripAmount 0 = .ok (.aload_n 2, 1) := by decide +kernel
theorem dL_tripAmount_1 : decode cL_tripAmount 1 = .ok (.iconst 0, 1) := by decide +kernel
theorem dL_tripAmount_2 : decode cL_tripAmount 2 = .ok (.aload_n 0, 1) := by decide +kernel
theorem dL_tripAmount_3 : decode cL_tripAmount 3 = .ok (.iload_n 1, 1) := by decide +kernel
theorem dL_tripAmount_4 : decode cL_tripAmount 4 = .ok (.invokevirtual 65, 3) := by decide +kernel
theorem dL_tripAmount_7 : decode cL_tripAmount 7 = .ok (.i2l, 1) := by decide +kernel
theorem dL_tripAmount_8 : decode cL_tripAmount 8 = .ok (.lastore, 1) := by decide +kernel
theorem dL_tripAmount_9 : decode cL_tripAmount 9 = .ok (.goto 6, 3) := by decide +kernel
theorem dL_tripAmount_12 : decode cL_tripAmount 12 = .ok (.astore_n 3, 1) := by decide +kernel
theorem dL_tripAmount_13 : decode cL_tripAmount 13 = .ok (.iconst 1, 1) := by decide +kernel
theorem dL_tripAmount_14 : decode cL_tripAmount 14 = .ok (.ireturn, 1) := by decide +kernel
theorem dL_tripAmount_15 : decode cL_tripAmount 15 = .ok (.iconst 0, 1) := by decide +kernel
theorem dL_tripAmount_16 : decode cL_tripAmount 16 = .ok (.ireturn, 1) := by decide +kernel
abbrev m_L_tripAmount : MD := (yL_tripAmount, cL_tripAmount, 4, (some .int))
theorem q_989 : Cond.code yX9_tripAmount cX9_tripAmount 2 (some .int) ∈ TS := ts_t 989 (by decide +kernel) (by decide +kernel)
theorem q_986 : Cond.methodLink RL 65 yX9_tripAmount ∈ TS := ts_t 986 (by decide +kernel) (by decide +kernel)
theorem q_987 : Cond.instanceMethod yX9_tripAmount ∈ TS := ts_t 987 (by decide +kernel) (by decide +kernel)
theorem q_988 : Cond.selects yX9_tripAmount.cls yX9_tripAmount yX9_tripAmount ∈ TS := ts_t 988 (by decide +kernel) (by decide +kernel)
theorem k_L_65 : LkV RL 65 m_X9_tripAmount 1 := ⟨q_986, q_987, q_988, ⟨q_1, q_989, by decide, by decide, by decide +kernel⟩⟩
set_option maxHeartbeats 4000000 in
theorem c_L_tripAmount (l : Launch) (g : GT) (hx hout : Nat) (fs : List Value) (wt wsx : va_W) (ws' : (Nat → Nat) → va_W) (fo : Nat → Int64) (p1 : Int32) (x : Nat) (r : Int32) (kk mc ms : Nat) (hM : ∀ sz, YI l m_X9_tripAmount (rml kk mc ms) g ((hx, .inr (9, fs)) :: wt) ws' wsx sz [.ref hx, .int p1] x r) (hxs : x = 0 ∨ x = 2) (sz : Nat) : KI l m_L_tripAmount [(0, 9, 12, 32)] (rml (kk + 1) mc ms) g ((hx, .inr (9, fs)) :: wt ++ [(hout, aJ g 1 fo)]) (fun u => if x = 0 then ws' u ++ [(hout, aJ g 1 (vp_updL fo 0 r.toInt64))] else wsx ++ [(hout, aJ g 1 fo)]) sz [.ref hx, .int p1, .ref hout] (kc [2] x) := by
  refine ek_i (by decide) (Nat.le_of_ble_eq_true rfl) (fun p e s m args below meth c A ls ht C w hl => ?_)
  have C : Cx p s m args meth c RL m_L_tripAmount g A := C
  have hx9 := C.1
  have hb : c.code = cL_tripAmount := C.2.1
  have hl : lv_has ls 4 [(0, .ref hx), (1, .int p1), (2, .ref hout)] := hl
  refine lv_aload_n hx9 hb dL_tripAmount_0 rfl (lv_at hl 2 rfl) ?_
  refine lv_iconst (v := 0) hx9 hb dL_tripAmount_1 (by decide) ?_
  refine lv_aload_n hx9 hb dL_tripAmount_2 rfl (lv_at hl 0 rfl) ?_
  refine lv_iload_n hx9 hb dL_tripAmount_3 rfl (lv_at hl 1 rfl) ?_
  refine cy_iV C w (wn := fun u => ws' u ++ [(hout, aJ g 1 fo)]) (wnx := wsx ++ [(hout, aJ g 1 fo)]) pm_last pm_last (hM _) k_L_65 (rm_le (Nat.le_refl _) (by decide)) 0 9 rfl rfl rfl rfl hl.1 rfl (Nat.le_of_ble_eq_true rfl) dL_tripAmount_4 ⟨Nat.le_of_eq (Nat.zero_add _), Nat.le_of_eq (Nat.zero_add _)⟩ (cells2 := mc) (slots2 := ms) ⟨Nat.zero_add _, Nat.zero_add _⟩ (fun n1 H locs w q9 ce h1 h2 h3 => ?_) (fun n1 u H locs w => ?_)
  · rcases hxs with h0 | rfl
    · exact absurd h0 n1
    · refine vx_catch (E := exN 2) (ce := ce) (name := exN 2) C.2.2.2.1 [] ⟨0, 9, 12, 32⟩ [] (by rw [ht]; rfl) (fun z hz => by cases hz) (by decide) (by decide) (C.2.2.2.2.1 _ q_842) (va_Nw.use rfl (C.2.2.2.2.2.2.2.1.1 _ (nw_t (w := Cond.castable (exN 2) (exN 2)) 853 (by decide +kernel) rfl))) h1 h2 h3 ?_
      refine lv_astore_n (lv' := [(3, .ref q9), (0, .ref hx), (1, .int p1), (2, .ref hout)]) hx9 hb dL_tripAmount_12 rfl hl (by decide) rfl (fun ls hl => ?_)
      refine lv_iconst (v := 1) hx9 hb dL_tripAmount_13 (by decide) ?_
      exact rt_i C w rfl (fun _ => 0) (by rw [if_neg n1]) (by decide) dL_tripAmount_14
  · refine lv_i2l (v := r.toInt64) hx9 hb dL_tripAmount_7 rfl ?_
    refine las_last C w dL_tripAmount_8 (fun H locs w => ?_)
    refine lv_goto (tgt := 15) hx9 hb dL_tripAmount_9 (by decide) ?_
    refine lv_iconst (v := 0) hx9 hb dL_tripAmount_15 (by decide) ?_
    exact rt_i C w rfl u (by rw [if_pos n1]) (by rw [n1]; rfl) dL_tripAmount_16

theorem dL_tripClass_0 : decode cL_tripClass 0 = .ok (.aload_n 2, 1) := by decide +kernel
theorem dL_tripClass_1 : decode cL_tripClass 1 = .ok (.iconst 0, 1) := by decide +kernel
theorem dL_tripClass_2 : decode cL_tripClass 2 = .ok (.aload_n 0, 1) := by decide +kernel
theorem dL_tripClass_3 : decode cL_tripClass 3 = .ok (.iload_n 1, 1) := by decide +kernel
theorem dL_tripClass_4 : decode cL_tripClass 4 = .ok (.invokevirtual 68, 3) := by decide +kernel
theorem dL_tripClass_7 : decode cL_tripClass 7 = .ok (.i2l, 1) := by decide +kernel
theorem dL_tripClass_8 : decode cL_tripClass 8 = .ok (.lastore, 1) := by decide +kernel
theorem dL_tripClass_9 : decode cL_tripClass 9 = .ok (.goto 6, 3) := by decide +kernel
theorem dL_tripClass_12 : decode cL_tripClass 12 = .ok (.astore_n 3, 1) := by decide +kernel
theorem dL_tripClass_13 : decode cL_tripClass 13 = .ok (.iconst 1, 1) := by decide +kernel
theorem dL_tripClass_14 : decode cL_tripClass 14 = .ok (.ireturn, 1) := by decide +kernel
theorem dL_tripClass_15 : decode cL_tripClass 15 = .ok (.iconst 0, 1) := by decide +kernel
theorem dL_tripClass_16 : decode cL_tripClass 16 = .ok (.ireturn, 1) := by decide +kernel
abbrev m_L_tripClass : MD := (yL_tripClass, cL_tripClass, 4, (some .int))
theorem q_1001 : Cond.code yX9_tripClass cX9_tripClass 2 (some .int) ∈ TS := ts_t 1001 (by decide +kernel) (by decide +kernel)
theorem q_998 : Cond.methodLink RL 68 yX9_tripClass ∈ TS := ts_t 998 (by decide +kernel) (by decide +kernel)
theorem q_999 : Cond.instanceMethod yX9_tripClass ∈ TS := ts_t 999 (by decide +kernel) (by decide +kernel)
theorem q_1000 : Cond.selects yX9_tripClass.cls yX9_tripClass yX9_tripClass ∈ TS := ts_t 1000 (by decide +kernel) (by decide +kernel)
theorem k_L_68 : LkV RL 68 m_X9_tripClass 1 := ⟨q_998, q_999, q_1000, ⟨q_1, q_1001, by decide, by decide, by decide +kernel⟩⟩
set_option maxHeartbeats 4000000 in
theorem c_L_tripClass (l : Launch) (g : GT) (hx hout : Nat) (fs : List Value) (wt wsx : va_W) (ws' : (Nat → Nat) → va_W) (fo : Nat → Int64) (p1 : Int32) (x : Nat) (r : Int32) (kk mc ms : Nat) (hM : ∀ sz, YI l m_X9_tripClass (rml kk mc ms) g ((hx, .inr (9, fs)) :: wt) ws' wsx sz [.ref hx, .int p1] x r) (hxs : x = 0 ∨ x = 2) (sz : Nat) : KI l m_L_tripClass [(0, 9, 12, 32)] (rml (kk + 1) mc ms) g ((hx, .inr (9, fs)) :: wt ++ [(hout, aJ g 1 fo)]) (fun u => if x = 0 then ws' u ++ [(hout, aJ g 1 (vp_updL fo 0 r.toInt64))] else wsx ++ [(hout, aJ g 1 fo)]) sz [.ref hx, .int p1, .ref hout] (kc [2] x) := by
  refine ek_i (by decide) (Nat.le_of_ble_eq_true rfl) (fun p e s m args below meth c A ls ht C w hl => ?_)
  have C : Cx p s m args meth c RL m_L_tripClass g A := C
  have hx9 := C.1
  have hb : c.code = cL_tripClass := C.2.1
  have hl : lv_has ls 4 [(0, .ref hx), (1, .int p1), (2, .ref hout)] := hl
  refine lv_aload_n hx9 hb dL_tripClass_0 rfl (lv_at hl 2 rfl) ?_
  refine lv_iconst (v := 0) hx9 hb dL_tripClass_1 (by decide) ?_
  refine lv_aload_n hx9 hb dL_tripClass_2 rfl (lv_at hl 0 rfl) ?_
  refine lv_iload_n hx9 hb dL_tripClass_3 rfl (lv_at hl 1 rfl) ?_
  refine cy_iV C w (wn := fun u => ws' u ++ [(hout, aJ g 1 fo)]) (wnx := wsx ++ [(hout, aJ g 1 fo)]) pm_last pm_last (hM _) k_L_68 (rm_le (Nat.le_refl _) (by decide)) 0 9 rfl rfl rfl rfl hl.1 rfl (Nat.le_of_ble_eq_true rfl) dL_tripClass_4 ⟨Nat.le_of_eq (Nat.zero_add _), Nat.le_of_eq (Nat.zero_add _)⟩ (cells2 := mc) (slots2 := ms) ⟨Nat.zero_add _, Nat.zero_add _⟩ (fun n1 H locs w q9 ce h1 h2 h3 => ?_) (fun n1 u H locs w => ?_)
  · rcases hxs with h0 | rfl
    · exact absurd h0 n1
    · refine vx_catch (E := exN 2) (ce := ce) (name := exN 2) C.2.2.2.1 [] ⟨0, 9, 12, 32⟩ [] (by rw [ht]; rfl) (fun z hz => by cases hz) (by decide) (by decide) (C.2.2.2.2.1 _ q_842) (va_Nw.use rfl (C.2.2.2.2.2.2.2.1.1 _ (nw_t (w := Cond.castable (exN 2) (exN 2)) 853 (by decide +kernel) rfl))) h1 h2 h3 ?_
      refine lv_astore_n (lv' := [(3, .ref q9), (0, .ref hx), (1, .int p1), (2, .ref hout)]) hx9 hb dL_tripClass_12 rfl hl (by decide) rfl (fun ls hl => ?_)
      refine lv_iconst (v := 1) hx9 hb dL_tripClass_13 (by decide) ?_
      exact rt_i C w rfl (fun _ => 0) (by rw [if_neg n1]) (by decide) dL_tripClass_14
  · refine lv_i2l (v := r.toInt64) hx9 hb dL_tripClass_7 rfl ?_
    refine las_last C w dL_tripClass_8 (fun H locs w => ?_)
    refine lv_goto (tgt := 15) hx9 hb dL_tripClass_9 (by decide) ?_
    refine lv_iconst (v := 0) hx9 hb dL_tripClass_15 (by decide) ?_
    exact rt_i C w rfl u (by rw [if_pos n1]) (by rw [n1]; rfl) dL_tripClass_16

theorem dL_tripPassages_0 : decode cL_tripPassages 0 = .ok (.aload_n 2, 1) := by decide +kernel
theorem dL_tripPassages_1 : decode cL_tripPassages 1 = .ok (.iconst 0, 1) := by decide +kernel
theorem dL_tripPassages_2 : decode cL_tripPassages 2 = .ok (.aload_n 0, 1) := by decide +kernel
theorem dL_tripPassages_3 : decode cL_tripPassages 3 = .ok (.iload_n 1, 1) := by decide +kernel
theorem dL_tripPassages_4 : decode cL_tripPassages 4 = .ok (.invokevirtual 71, 3) := by decide +kernel
theorem dL_tripPassages_7 : decode cL_tripPassages 7 = .ok (.i2l, 1) := by decide +kernel
theorem dL_tripPassages_8 : decode cL_tripPassages 8 = .ok (.lastore, 1) := by decide +kernel
theorem dL_tripPassages_9 : decode cL_tripPassages 9 = .ok (.goto 6, 3) := by decide +kernel
theorem dL_tripPassages_12 : decode cL_tripPassages 12 = .ok (.astore_n 3, 1) := by decide +kernel
theorem dL_tripPassages_13 : decode cL_tripPassages 13 = .ok (.iconst 1, 1) := by decide +kernel
theorem dL_tripPassages_14 : decode cL_tripPassages 14 = .ok (.ireturn, 1) := by decide +kernel
theorem dL_tripPassages_15 : decode cL_tripPassages 15 = .ok (.iconst 0, 1) := by decide +kernel
theorem dL_tripPassages_16 : decode cL_tripPassages 16 = .ok (.ireturn, 1) := by decide +kernel
abbrev m_L_tripPassages : MD := (yL_tripPassages, cL_tripPassages, 4, (some .int))
theorem q_1008 : Cond.code yX9_tripPassages cX9_tripPassages 2 (some .int) ∈ TS := ts_t 1008 (by decide +kernel) (by decide +kernel)
theorem q_1005 : Cond.methodLink RL 71 yX9_tripPassages ∈ TS := ts_t 1005 (by decide +kernel) (by decide +kernel)
theorem q_1006 : Cond.instanceMethod yX9_tripPassages ∈ TS := ts_t 1006 (by decide +kernel) (by decide +kernel)
theorem q_1007 : Cond.selects yX9_tripPassages.cls yX9_tripPassages yX9_tripPassages ∈ TS := ts_t 1007 (by decide +kernel) (by decide +kernel)
theorem k_L_71 : LkV RL 71 m_X9_tripPassages 1 := ⟨q_1005, q_1006, q_1007, ⟨q_1, q_1008, by decide, by decide, by decide +kernel⟩⟩
set_option maxHeartbeats 4000000 in
theorem c_L_tripPassages (l : Launch) (g : GT) (hx hout : Nat) (fs : List Value) (wt wsx : va_W) (ws' : (Nat → Nat) → va_W) (fo : Nat → Int64) (p1 : Int32) (x : Nat) (r : Int32) (kk mc ms : Nat) (hM : ∀ sz, YI l m_X9_tripPassages (rml kk mc ms) g ((hx, .inr (9, fs)) :: wt) ws' wsx sz [.ref hx, .int p1] x r) (hxs : x = 0 ∨ x = 2) (sz : Nat) : KI l m_L_tripPassages [(0, 9, 12, 32)] (rml (kk + 1) mc ms) g ((hx, .inr (9, fs)) :: wt ++ [(hout, aJ g 1 fo)]) (fun u => if x = 0 then ws' u ++ [(hout, aJ g 1 (vp_updL fo 0 r.toInt64))] else wsx ++ [(hout, aJ g 1 fo)]) sz [.ref hx, .int p1, .ref hout] (kc [2] x) := by
  refine ek_i (by decide) (Nat.le_of_ble_eq_true rfl) (fun p e s m args below meth c A ls ht C w hl => ?_)
  have C : Cx p s m args meth c RL m_L_tripPassages g A := C
  have hx9 := C.1
  have hb : c.code = cL_tripPassages := C.2.1
  have hl : lv_has ls 4 [(0, .ref hx), (1, .int p1), (2, .ref hout)] := hl
  refine lv_aload_n hx9 hb dL_tripPassages_0 rfl (lv_at hl 2 rfl) ?_
  refine lv_iconst (v := 0) hx9 hb dL_tripPassages_1 (by decide) ?_
  refine lv_aload_n hx9 hb dL_tripPassages_2 rfl (lv_at hl 0 rfl) ?_
  refine lv_iload_n hx9 hb dL_tripPassages_3 rfl (lv_at hl 1 rfl) ?_
  refine cy_iV C w (wn := fun u => ws' u ++ [(hout, aJ g 1 fo)]) (wnx := wsx ++ [(hout, aJ g 1 fo)]) pm_last pm_last (hM _) k_L_71 (rm_le (Nat.le_refl _) (by decide)) 0 9 rfl rfl rfl rfl hl.1 rfl (Nat.le_of_ble_eq_true rfl) dL_tripPassages_4 ⟨Nat.le_of_eq (Nat.zero_add _), Nat.le_of_eq (Nat.zero_add _)⟩ (cells2 := mc) (slots2 := ms) ⟨Nat.zero_add _, Nat.zero_add _⟩ (fun n1 H locs w q9 ce h1 h2 h3 => ?_) (fun n1 u H locs w => ?_)
  · rcases hxs with h0 | rfl
    · exact absurd h0 n1
    · refine vx_catch (E := exN 2) (ce := ce) (name := exN 2) C.2.2.2.1 [] ⟨0, 9, 12, 32⟩ [] (by rw [ht]; rfl) (fun z hz => by cases hz) (by decide) (by decide) (C.2.2.2.2.1 _ q_842) (va_Nw.use rfl (C.2.2.2.2.2.2.2.1.1 _ (nw_t (w := Cond.castable (exN 2) (exN 2)) 853 (by decide +kernel) rfl))) h1 h2 h3 ?_
      refine lv_astore_n (lv' := [(3, .ref q9), (0, .ref hx), (1, .int p1), (2, .ref hout)]) hx9 hb dL_tripPassages_12 rfl hl (by decide) rfl (fun ls hl => ?_)
      refine lv_iconst (v := 1) hx9 hb dL_tripPassages_13 (by decide) ?_
      exact rt_i C w rfl (fun _ => 0) (by rw [if_neg n1]) (by decide) dL_tripPassages_14
  · refine lv_i2l (v := r.toInt64) hx9 hb dL_tripPassages_7 rfl ?_
    refine las_last C w dL_tripPassages_8 (fun H locs w => ?_)
    refine lv_goto (tgt := 15) hx9 hb dL_tripPassages_9 (by decide) ?_
    refine lv_iconst (v := 0) hx9 hb dL_tripPassages_15 (by decide) ?_
    exact rt_i C w rfl u (by rw [if_pos n1]) (by rw [n1]; rfl) dL_tripPassages_16

theorem dL_tripState_0 : decode cL_tripState 0 = .ok (.aload_n 2, 1) := by decide +kernel
theorem dL_tripState_1 : decode cL_tripState 1 = .ok (.iconst 0, 1) := by decide +kernel
theorem dL_tripState_2 : decode cL_tripState 2 = .ok (.aload_n 0, 1) := by decide +kernel
theorem dL_tripState_3 : decode cL_tripState 3 = .ok (.iload_n 1, 1) := by decide +kernel
theorem dL_tripState_4 : decode cL_tripState 4 = .ok (.invokevirtual 74, 3) := by decide +kernel
theorem dL_tripState_7 : decode cL_tripState 7 = .ok (.i2l, 1) := by decide +kernel
theorem dL_tripState_8 : decode cL_tripState 8 = .ok (.lastore, 1) := by decide +kernel
theorem dL_tripState_9 : decode cL_tripState 9 = .ok (.goto 6, 3) := by decide +kernel
theorem dL_tripState_12 : decode cL_tripState 12 = .ok (.astore_n 3, 1) := by decide +kernel
theorem dL_tripState_13 : decode cL_tripState 13 = .ok (.iconst 1, 1) := by decide +kernel
theorem dL_tripState_14 : decode cL_tripState 14 = .ok (.ireturn, 1) := by decide +kernel
theorem dL_tripState_15 : decode cL_tripState 15 = .ok (.iconst 0, 1) := by decide +kernel
theorem dL_tripState_16 : decode cL_tripState 16 = .ok (.ireturn, 1) := by decide +kernel
abbrev m_L_tripState : MD := (yL_tripState, cL_tripState, 4, (some .int))
theorem q_1015 : Cond.code yX9_tripState cX9_tripState 2 (some .int) ∈ TS := ts_t 1015 (by decide +kernel) (by decide +kernel)
theorem q_1012 : Cond.methodLink RL 74 yX9_tripState ∈ TS := ts_t 1012 (by decide +kernel) (by decide +kernel)
theorem q_1013 : Cond.instanceMethod yX9_tripState ∈ TS := ts_t 1013 (by decide +kernel) (by decide +kernel)
theorem q_1014 : Cond.selects yX9_tripState.cls yX9_tripState yX9_tripState ∈ TS := ts_t 1014 (by decide +kernel) (by decide +kernel)
theorem k_L_74 : LkV RL 74 m_X9_tripState 1 := ⟨q_1012, q_1013, q_1014, ⟨q_1, q_1015, by decide, by decide, by decide +kernel⟩⟩
set_option maxHeartbeats 4000000 in
theorem c_L_tripState (l : Launch) (g : GT) (hx hout : Nat) (fs : List Value) (wt wsx : va_W) (ws' : (Nat → Nat) → va_W) (fo : Nat → Int64) (p1 : Int32) (x : Nat) (r : Int32) (kk mc ms : Nat) (hM : ∀ sz, YI l m_X9_tripState (rml kk mc ms) g ((hx, .inr (9, fs)) :: wt) ws' wsx sz [.ref hx, .int p1] x r) (hxs : x = 0 ∨ x = 2) (sz : Nat) : KI l m_L_tripState [(0, 9, 12, 32)] (rml (kk + 1) mc ms) g ((hx, .inr (9, fs)) :: wt ++ [(hout, aJ g 1 fo)]) (fun u => if x = 0 then ws' u ++ [(hout, aJ g 1 (vp_updL fo 0 r.toInt64))] else wsx ++ [(hout, aJ g 1 fo)]) sz [.ref hx, .int p1, .ref hout] (kc [2] x) := by
  refine ek_i (by decide) (Nat.le_of_ble_eq_true rfl) (fun p e s m args below meth c A ls ht C w hl => ?_)
  have C : Cx p s m args meth c RL m_L_tripState g A := C
  have hx9 := C.1
  have hb : c.code = cL_tripState := C.2.1
  have hl : lv_has ls 4 [(0, .ref hx), (1, .int p1), (2, .ref hout)] := hl
  refine lv_aload_n hx9 hb dL_tripState_0 rfl (lv_at hl 2 rfl) ?_
  refine lv_iconst (v := 0) hx9 hb dL_tripState_1 (by decide) ?_
  refine lv_aload_n hx9 hb dL_tripState_2 rfl (lv_at hl 0 rfl) ?_
  refine lv_iload_n hx9 hb dL_tripState_3 rfl (lv_at hl 1 rfl) ?_
  refine cy_iV C w (wn := fun u => ws' u ++ [(hout, aJ g 1 fo)]) (wnx := wsx ++ [(hout, aJ g 1 fo)]) pm_last pm_last (hM _) k_L_74 (rm_le (Nat.le_refl _) (by decide)) 0 9 rfl rfl rfl rfl hl.1 rfl (Nat.le_of_ble_eq_true rfl) dL_tripState_4 ⟨Nat.le_of_eq (Nat.zero_add _), Nat.le_of_eq (Nat.zero_add _)⟩ (cells2 := mc) (slots2 := ms) ⟨Nat.zero_add _, Nat.zero_add _⟩ (fun n1 H locs w q9 ce h1 h2 h3 => ?_) (fun n1 u H locs w => ?_)
  · rcases hxs with h0 | rfl
    · exact absurd h0 n1
    · refine vx_catch (E := exN 2) (ce := ce) (name := exN 2) C.2.2.2.1 [] ⟨0, 9, 12, 32⟩ [] (by rw [ht]; rfl) (fun z hz => by cases hz) (by decide) (by decide) (C.2.2.2.2.1 _ q_842) (va_Nw.use rfl (C.2.2.2.2.2.2.2.1.1 _ (nw_t (w := Cond.castable (exN 2) (exN 2)) 853 (by decide +kernel) rfl))) h1 h2 h3 ?_
      refine lv_astore_n (lv' := [(3, .ref q9), (0, .ref hx), (1, .int p1), (2, .ref hout)]) hx9 hb dL_tripState_12 rfl hl (by decide) rfl (fun ls hl => ?_)
      refine lv_iconst (v := 1) hx9 hb dL_tripState_13 (by decide) ?_
      exact rt_i C w rfl (fun _ => 0) (by rw [if_neg n1]) (by decide) dL_tripState_14
  · refine lv_i2l (v := r.toInt64) hx9 hb dL_tripState_7 rfl ?_
    refine las_last C w dL_tripState_8 (fun H locs w => ?_)
    refine lv_goto (tgt := 15) hx9 hb dL_tripState_9 (by decide) ?_
    refine lv_iconst (v := 0) hx9 hb dL_tripState_15 (by decide) ?_
    exact rt_i C w rfl u (by rw [if_pos n1]) (by rw [n1]; rfl) dL_tripState_16

theorem dL_invoiceOf_0 : decode cL_invoiceOf 0 = .ok (.aload_n 2, 1) := by decide +kernel
theorem dL_invoiceOf_1 : decode cL_invoiceOf 1 = .ok (.iconst 0, 1) := by decide +kernel
theorem dL_invoiceOf_2 : decode cL_invoiceOf 2 = .ok (.aload_n 0, 1) := by decide +kernel
theorem dL_invoiceOf_3 : decode cL_invoiceOf 3 = .ok (.iload_n 1, 1) := by decide +kernel
theorem dL_invoiceOf_4 : decode cL_invoiceOf 4 = .ok (.invokevirtual 77, 3) := by decide +kernel
theorem dL_invoiceOf_7 : decode cL_invoiceOf 7 = .ok (.i2l, 1) := by decide +kernel
theorem dL_invoiceOf_8 : decode cL_invoiceOf 8 = .ok (.lastore, 1) := by decide +kernel
theorem dL_invoiceOf_9 : decode cL_invoiceOf 9 = .ok (.goto 6, 3) := by decide +kernel
theorem dL_invoiceOf_12 : decode cL_invoiceOf 12 = .ok (.astore_n 3, 1) := by decide +kernel
theorem dL_invoiceOf_13 : decode cL_invoiceOf 13 = .ok (.iconst 1, 1) := by decide +kernel
theorem dL_invoiceOf_14 : decode cL_invoiceOf 14 = .ok (.ireturn, 1) := by decide +kernel
theorem dL_invoiceOf_15 : decode cL_invoiceOf 15 = .ok (.iconst 0, 1) := by decide +kernel
theorem dL_invoiceOf_16 : decode cL_invoiceOf 16 = .ok (.ireturn, 1) := by decide +kernel
abbrev m_L_invoiceOf : MD := (yL_invoiceOf, cL_invoiceOf, 4, (some .int))
theorem q_1022 : Cond.code yX9_invoiceOf cX9_invoiceOf 2 (some .int) ∈ TS := ts_t 1022 (by decide +kernel) (by decide +kernel)
theorem q_1019 : Cond.methodLink RL 77 yX9_invoiceOf ∈ TS := ts_t 1019 (by decide +kernel) (by decide +kernel)
theorem q_1020 : Cond.instanceMethod yX9_invoiceOf ∈ TS := ts_t 1020 (by decide +kernel) (by decide +kernel)
theorem q_1021 : Cond.selects yX9_invoiceOf.cls yX9_invoiceOf yX9_invoiceOf ∈ TS := ts_t 1021 (by decide +kernel) (by decide +kernel)
theorem k_L_77 : LkV RL 77 m_X9_invoiceOf 1 := ⟨q_1019, q_1020, q_1021, ⟨q_1, q_1022, by decide, by decide, by decide +kernel⟩⟩
set_option maxHeartbeats 4000000 in
theorem c_L_invoiceOf (l : Launch) (g : GT) (hx hout : Nat) (fs : List Value) (wt wsx : va_W) (ws' : (Nat → Nat) → va_W) (fo : Nat → Int64) (p1 : Int32) (x : Nat) (r : Int32) (kk mc ms : Nat) (hM : ∀ sz, YI l m_X9_invoiceOf (rml kk mc ms) g ((hx, .inr (9, fs)) :: wt) ws' wsx sz [.ref hx, .int p1] x r) (hxs : x = 0 ∨ x = 2) (sz : Nat) : KI l m_L_invoiceOf [(0, 9, 12, 32)] (rml (kk + 1) mc ms) g ((hx, .inr (9, fs)) :: wt ++ [(hout, aJ g 1 fo)]) (fun u => if x = 0 then ws' u ++ [(hout, aJ g 1 (vp_updL fo 0 r.toInt64))] else wsx ++ [(hout, aJ g 1 fo)]) sz [.ref hx, .int p1, .ref hout] (kc [2] x) := by
  refine ek_i (by decide) (Nat.le_of_ble_eq_true rfl) (fun p e s m args below meth c A ls ht C w hl => ?_)
  have C : Cx p s m args meth c RL m_L_invoiceOf g A := C
  have hx9 := C.1
  have hb : c.code = cL_invoiceOf := C.2.1
  have hl : lv_has ls 4 [(0, .ref hx), (1, .int p1), (2, .ref hout)] := hl
  refine lv_aload_n hx9 hb dL_invoiceOf_0 rfl (lv_at hl 2 rfl) ?_
  refine lv_iconst (v := 0) hx9 hb dL_invoiceOf_1 (by decide) ?_
  refine lv_aload_n hx9 hb dL_invoiceOf_2 rfl (lv_at hl 0 rfl) ?_
  refine lv_iload_n hx9 hb dL_invoiceOf_3 rfl (lv_at hl 1 rfl) ?_
  refine cy_iV C w (wn := fun u => ws' u ++ [(hout, aJ g 1 fo)]) (wnx := wsx ++ [(hout, aJ g 1 fo)]) pm_last pm_last (hM _) k_L_77 (rm_le (Nat.le_refl _) (by decide)) 0 9 rfl rfl rfl rfl hl.1 rfl (Nat.le_of_ble_eq_true rfl) dL_invoiceOf_4 ⟨Nat.le_of_eq (Nat.zero_add _), Nat.le_of_eq (Nat.zero_add _)⟩ (cells2 := mc) (slots2 := ms) ⟨Nat.zero_add _, Nat.zero_add _⟩ (fun n1 H locs w q9 ce h1 h2 h3 => ?_) (fun n1 u H locs w => ?_)
  · rcases hxs with h0 | rfl
    · exact absurd h0 n1
    · refine vx_catch (E := exN 2) (ce := ce) (name := exN 2) C.2.2.2.1 [] ⟨0, 9, 12, 32⟩ [] (by rw [ht]; rfl) (fun z hz => by cases hz) (by decide) (by decide) (C.2.2.2.2.1 _ q_842) (va_Nw.use rfl (C.2.2.2.2.2.2.2.1.1 _ (nw_t (w := Cond.castable (exN 2) (exN 2)) 853 (by decide +kernel) rfl))) h1 h2 h3 ?_
      refine lv_astore_n (lv' := [(3, .ref q9), (0, .ref hx), (1, .int p1), (2, .ref hout)]) hx9 hb dL_invoiceOf_12 rfl hl (by decide) rfl (fun ls hl => ?_)
      refine lv_iconst (v := 1) hx9 hb dL_invoiceOf_13 (by decide) ?_
      exact rt_i C w rfl (fun _ => 0) (by rw [if_neg n1]) (by decide) dL_invoiceOf_14
  · refine lv_i2l (v := r.toInt64) hx9 hb dL_invoiceOf_7 rfl ?_
    refine las_last C w dL_invoiceOf_8 (fun H locs w => ?_)
    refine lv_goto (tgt := 15) hx9 hb dL_invoiceOf_9 (by decide) ?_
    refine lv_iconst (v := 0) hx9 hb dL_invoiceOf_15 (by decide) ?_
    exact rt_i C w rfl u (by rw [if_pos n1]) (by rw [n1]; rfl) dL_invoiceOf_16

theorem dL_invoiceTag_0 : decode cL_invoiceTag 0 = .ok (.aload_n 2, 1) := by decide +kernel
theorem dL_invoiceTag_1 : decode cL_invoiceTag 1 = .ok (.iconst 0, 1) := by decide +kernel
theorem dL_invoiceTag_2 : decode cL_invoiceTag 2 = .ok (.aload_n 0, 1) := by decide +kernel
theorem dL_invoiceTag_3 : decode cL_invoiceTag 3 = .ok (.iload_n 1, 1) := by decide +kernel
theorem dL_invoiceTag_4 : decode cL_invoiceTag 4 = .ok (.invokevirtual 80, 3) := by decide +kernel
theorem dL_invoiceTag_7 : decode cL_invoiceTag 7 = .ok (.i2l, 1) := by decide +kernel
theorem dL_invoiceTag_8 : decode cL_invoiceTag 8 = .ok (.lastore, 1) := by decide +kernel
theorem dL_invoiceTag_9 : decode cL_invoiceTag 9 = .ok (.goto 6, 3) := by decide +kernel
theorem dL_invoiceTag_12 : decode cL_invoiceTag 12 = .ok (.astore_n 3, 1) := by decide +kernel
theorem dL_invoiceTag_13 : decode cL_invoiceTag 13 = .ok (.iconst 1, 1) := by decide +kernel
theorem dL_invoiceTag_14 : decode cL_invoiceTag 14 = .ok (.ireturn, 1) := by decide +kernel
theorem dL_invoiceTag_15 : decode cL_invoiceTag 15 = .ok (.iconst 0, 1) := by decide +kernel
theorem dL_invoiceTag_16 : decode cL_invoiceTag 16 = .ok (.ireturn, 1) := by decide +kernel
abbrev m_L_invoiceTag : MD := (yL_invoiceTag, cL_invoiceTag, 4, (some .int))
theorem q_1029 : Cond.code yX9_invoiceTag cX9_invoiceTag 2 (some .int) ∈ TS := ts_t 1029 (by decide +kernel) (by decide +kernel)
theorem q_1026 : Cond.methodLink RL 80 yX9_invoiceTag ∈ TS := ts_t 1026 (by decide +kernel) (by decide +kernel)
theorem q_1027 : Cond.instanceMethod yX9_invoiceTag ∈ TS := ts_t 1027 (by decide +kernel) (by decide +kernel)
theorem q_1028 : Cond.selects yX9_invoiceTag.cls yX9_invoiceTag yX9_invoiceTag ∈ TS := ts_t 1028 (by decide +kernel) (by decide +kernel)
theorem k_L_80 : LkV RL 80 m_X9_invoiceTag 1 := ⟨q_1026, q_1027, q_1028, ⟨q_1, q_1029, by decide, by decide, by decide +kernel⟩⟩
set_option maxHeartbeats 4000000 in
theorem c_L_invoiceTag (l : Launch) (g : GT) (hx hout : Nat) (fs : List Value) (wt wsx : va_W) (ws' : (Nat → Nat) → va_W) (fo : Nat → Int64) (p1 : Int32) (x : Nat) (r : Int32) (kk mc ms : Nat) (hM : ∀ sz, YI l m_X9_invoiceTag (rml kk mc ms) g ((hx, .inr (9, fs)) :: wt) ws' wsx sz [.ref hx, .int p1] x r) (hxs : x = 0 ∨ x = 2) (sz : Nat) : KI l m_L_invoiceTag [(0, 9, 12, 32)] (rml (kk + 1) mc ms) g ((hx, .inr (9, fs)) :: wt ++ [(hout, aJ g 1 fo)]) (fun u => if x = 0 then ws' u ++ [(hout, aJ g 1 (vp_updL fo 0 r.toInt64))] else wsx ++ [(hout, aJ g 1 fo)]) sz [.ref hx, .int p1, .ref hout] (kc [2] x) := by
  refine ek_i (by decide) (Nat.le_of_ble_eq_true rfl) (fun p e s m args below meth c A ls ht C w hl => ?_)
  have C : Cx p s m args meth c RL m_L_invoiceTag g A := C
  have hx9 := C.1
  have hb : c.code = cL_invoiceTag := C.2.1
  have hl : lv_has ls 4 [(0, .ref hx), (1, .int p1), (2, .ref hout)] := hl
  refine lv_aload_n hx9 hb dL_invoiceTag_0 rfl (lv_at hl 2 rfl) ?_
  refine lv_iconst (v := 0) hx9 hb dL_invoiceTag_1 (by decide) ?_
  refine lv_aload_n hx9 hb dL_invoiceTag_2 rfl (lv_at hl 0 rfl) ?_
  refine lv_iload_n hx9 hb dL_invoiceTag_3 rfl (lv_at hl 1 rfl) ?_
  refine cy_iV C w (wn := fun u => ws' u ++ [(hout, aJ g 1 fo)]) (wnx := wsx ++ [(hout, aJ g 1 fo)]) pm_last pm_last (hM _) k_L_80 (rm_le (Nat.le_refl _) (by decide)) 0 9 rfl rfl rfl rfl hl.1 rfl (Nat.le_of_ble_eq_true rfl) dL_invoiceTag_4 ⟨Nat.le_of_eq (Nat.zero_add _), Nat.le_of_eq (Nat.zero_add _)⟩ (cells2 := mc) (slots2 := ms) ⟨Nat.zero_add _, Nat.zero_add _⟩ (fun n1 H locs w q9 ce h1 h2 h3 => ?_) (fun n1 u H locs w => ?_)
  · rcases hxs with h0 | rfl
    · exact absurd h0 n1
    · refine vx_catch (E := exN 2) (ce := ce) (name := exN 2) C.2.2.2.1 [] ⟨0, 9, 12, 32⟩ [] (by rw [ht]; rfl) (fun z hz => by cases hz) (by decide) (by decide) (C.2.2.2.2.1 _ q_842) (va_Nw.use rfl (C.2.2.2.2.2.2.2.1.1 _ (nw_t (w := Cond.castable (exN 2) (exN 2)) 853 (by decide +kernel) rfl))) h1 h2 h3 ?_
      refine lv_astore_n (lv' := [(3, .ref q9), (0, .ref hx), (1, .int p1), (2, .ref hout)]) hx9 hb dL_invoiceTag_12 rfl hl (by decide) rfl (fun ls hl => ?_)
      refine lv_iconst (v := 1) hx9 hb dL_invoiceTag_13 (by decide) ?_
      exact rt_i C w rfl (fun _ => 0) (by rw [if_neg n1]) (by decide) dL_invoiceTag_14
  · refine lv_i2l (v := r.toInt64) hx9 hb dL_invoiceTag_7 rfl ?_
    refine las_last C w dL_invoiceTag_8 (fun H locs w => ?_)
    refine lv_goto (tgt := 15) hx9 hb dL_invoiceTag_9 (by decide) ?_
    refine lv_iconst (v := 0) hx9 hb dL_invoiceTag_15 (by decide) ?_
    exact rt_i C w rfl u (by rw [if_pos n1]) (by rw [n1]; rfl) dL_invoiceTag_16

theorem dL_invoicePlate_0 : decode cL_invoicePlate 0 = .ok (.aload_n 2, 1) := by decide +kernel
theorem dL_invoicePlate_1 : decode cL_invoicePlate 1 = .ok (.iconst 0, 1) := by decide +kernel
theorem dL_invoicePlate_2 : decode cL_invoicePlate 2 = .ok (.aload_n 0, 1) := by decide +kernel
theorem dL_invoicePlate_3 : decode cL_invoicePlate 3 = .ok (.iload_n 1, 1) := by decide +kernel
theorem dL_invoicePlate_4 : decode cL_invoicePlate 4 = .ok (.invokevirtual 83, 3) := by decide +kernel
theorem dL_invoicePlate_7 : decode cL_invoicePlate 7 = .ok (.i2l, 1) := by decide +kernel
theorem dL_invoicePlate_8 : decode cL_invoicePlate 8 = .ok (.lastore, 1) := by decide +kernel
theorem dL_invoicePlate_9 : decode cL_invoicePlate 9 = .ok (.goto 6, 3) := by decide +kernel
theorem dL_invoicePlate_12 : decode cL_invoicePlate 12 = .ok (.astore_n 3, 1) := by decide +kernel
theorem dL_invoicePlate_13 : decode cL_invoicePlate 13 = .ok (.iconst 1, 1) := by decide +kernel
theorem dL_invoicePlate_14 : decode cL_invoicePlate 14 = .ok (.ireturn, 1) := by decide +kernel
theorem dL_invoicePlate_15 : decode cL_invoicePlate 15 = .ok (.iconst 0, 1) := by decide +kernel
theorem dL_invoicePlate_16 : decode cL_invoicePlate 16 = .ok (.ireturn, 1) := by decide +kernel
abbrev m_L_invoicePlate : MD := (yL_invoicePlate, cL_invoicePlate, 4, (some .int))
theorem q_1042 : Cond.code yX9_invoicePlate cX9_invoicePlate 2 (some .int) ∈ TS := ts_t 1042 (by decide +kernel) (by decide +kernel)
theorem q_1039 : Cond.methodLink RL 83 yX9_invoicePlate ∈ TS := ts_t 1039 (by decide +kernel) (by decide +kernel)
theorem q_1040 : Cond.instanceMethod yX9_invoicePlate ∈ TS := ts_t 1040 (by decide +kernel) (by decide +kernel)
theorem q_1041 : Cond.selects yX9_invoicePlate.cls yX9_invoicePlate yX9_invoicePlate ∈ TS := ts_t 1041 (by decide +kernel) (by decide +kernel)
theorem k_L_83 : LkV RL 83 m_X9_invoicePlate 1 := ⟨q_1039, q_1040, q_1041, ⟨q_1, q_1042, by decide, by decide, by decide +kernel⟩⟩
set_option maxHeartbeats 4000000 in
theorem c_L_invoicePlate (l : Launch) (g : GT) (hx hout : Nat) (fs : List Value) (wt wsx : va_W) (ws' : (Nat → Nat) → va_W) (fo : Nat → Int64) (p1 : Int32) (x : Nat) (r : Int32) (kk mc ms : Nat) (hM : ∀ sz, YI l m_X9_invoicePlate (rml kk mc ms) g ((hx, .inr (9, fs)) :: wt) ws' wsx sz [.ref hx, .int p1] x r) (hxs : x = 0 ∨ x = 2) (sz : Nat) : KI l m_L_invoicePlate [(0, 9, 12, 32)] (rml (kk + 1) mc ms) g ((hx, .inr (9, fs)) :: wt ++ [(hout, aJ g 1 fo)]) (fun u => if x = 0 then ws' u ++ [(hout, aJ g 1 (vp_updL fo 0 r.toInt64))] else wsx ++ [(hout, aJ g 1 fo)]) sz [.ref hx, .int p1, .ref hout] (kc [2] x) := by
  refine ek_i (by decide) (Nat.le_of_ble_eq_true rfl) (fun p e s m args below meth c A ls ht C w hl => ?_)
  have C : Cx p s m args meth c RL m_L_invoicePlate g A := C
  have hx9 := C.1
  have hb : c.code = cL_invoicePlate := C.2.1
  have hl : lv_has ls 4 [(0, .ref hx), (1, .int p1), (2, .ref hout)] := hl
  refine lv_aload_n hx9 hb dL_invoicePlate_0 rfl (lv_at hl 2 rfl) ?_
  refine lv_iconst (v := 0) hx9 hb dL_invoicePlate_1 (by decide) ?_
  refine lv_aload_n hx9 hb dL_invoicePlate_2 rfl (lv_at hl 0 rfl) ?_
  refine lv_iload_n hx9 hb dL_invoicePlate_3 rfl (lv_at hl 1 rfl) ?_
  refine cy_iV C w (wn := fun u => ws' u ++ [(hout, aJ g 1 fo)]) (wnx := wsx ++ [(hout, aJ g 1 fo)]) pm_last pm_last (hM _) k_L_83 (rm_le (Nat.le_refl _) (by decide)) 0 9 rfl rfl rfl rfl hl.1 rfl (Nat.le_of_ble_eq_true rfl) dL_invoicePlate_4 ⟨Nat.le_of_eq (Nat.zero_add _), Nat.le_of_eq (Nat.zero_add _)⟩ (cells2 := mc) (slots2 := ms) ⟨Nat.zero_add _, Nat.zero_add _⟩ (fun n1 H locs w q9 ce h1 h2 h3 => ?_) (fun n1 u H locs w => ?_)
  · rcases hxs with h0 | rfl
    · exact absurd h0 n1
    · refine vx_catch (E := exN 2) (ce := ce) (name := exN 2) C.2.2.2.1 [] ⟨0, 9, 12, 32⟩ [] (by rw [ht]; rfl) (fun z hz => by cases hz) (by decide) (by decide) (C.2.2.2.2.1 _ q_842) (va_Nw.use rfl (C.2.2.2.2.2.2.2.1.1 _ (nw_t (w := Cond.castable (exN 2) (exN 2)) 853 (by decide +kernel) rfl))) h1 h2 h3 ?_
      refine lv_astore_n (lv' := [(3, .ref q9), (0, .ref hx), (1, .int p1), (2, .ref hout)]) hx9 hb dL_invoicePlate_12 rfl hl (by decide) rfl (fun ls hl => ?_)
      refine lv_iconst (v := 1) hx9 hb dL_invoicePlate_13 (by decide) ?_
      exact rt_i C w rfl (fun _ => 0) (by rw [if_neg n1]) (by decide) dL_invoicePlate_14
  · refine lv_i2l (v := r.toInt64) hx9 hb dL_invoicePlate_7 rfl ?_
    refine las_last C w dL_invoicePlate_8 (fun H locs w => ?_)
    refine lv_goto (tgt := 15) hx9 hb dL_invoicePlate_9 (by decide) ?_
    refine lv_iconst (v := 0) hx9 hb dL_invoicePlate_15 (by decide) ?_
    exact rt_i C w rfl u (by rw [if_pos n1]) (by rw [n1]; rfl) dL_invoicePlate_16

theorem dL_invoiceTotal_0 : decode cL_invoiceTotal 0 = .ok (.aload_n 2, 1) := by decide +kernel
theorem dL_invoiceTotal_1 : decode cL_invoiceTotal 1 = .ok (.iconst 0, 1) := by decide +kernel
theorem dL_invoiceTotal_2 : decode cL_invoiceTotal 2 = .ok (.aload_n 0, 1) := by decide +kernel
theorem dL_invoiceTotal_3 : decode cL_invoiceTotal 3 = .ok (.iload_n 1, 1) := by decide +kernel
theorem dL_invoiceTotal_4 : decode cL_invoiceTotal 4 = .ok (.invokevirtual 86, 3) := by decide +kernel
theorem dL_invoiceTotal_7 : decode cL_invoiceTotal 7 = .ok (.i2l, 1) := by decide +kernel
theorem dL_invoiceTotal_8 : decode cL_invoiceTotal 8 = .ok (.lastore, 1) := by decide +kernel
theorem dL_invoiceTotal_9 : decode cL_invoiceTotal 9 = .ok (.goto 6, 3) := by decide +kernel
theorem dL_invoiceTotal_12 : decode cL_invoiceTotal 12 = .ok (.astore_n 3, 1) := by decide +kernel
theorem dL_invoiceTotal_13 : decode cL_invoiceTotal 13 = .ok (.iconst 1, 1) := by decide +kernel
theorem dL_invoiceTotal_14 : decode cL_invoiceTotal 14 = .ok (.ireturn, 1) := by decide +kernel
theorem dL_invoiceTotal_15 : decode cL_invoiceTotal 15 = .ok (.iconst 0, 1) := by decide +kernel
theorem dL_invoiceTotal_16 : decode cL_invoiceTotal 16 = .ok (.ireturn, 1) := by decide +kernel
abbrev m_L_invoiceTotal : MD := (yL_invoiceTotal, cL_invoiceTotal, 4, (some .int))
theorem q_1049 : Cond.code yX9_invoiceTotal cX9_invoiceTotal 2 (some .int) ∈ TS := ts_t 1049 (by decide +kernel) (by decide +kernel)
theorem q_1046 : Cond.methodLink RL 86 yX9_invoiceTotal ∈ TS := ts_t 1046 (by decide +kernel) (by decide +kernel)
theorem q_1047 : Cond.instanceMethod yX9_invoiceTotal ∈ TS := ts_t 1047 (by decide +kernel) (by decide +kernel)
theorem q_1048 : Cond.selects yX9_invoiceTotal.cls yX9_invoiceTotal yX9_invoiceTotal ∈ TS := ts_t 1048 (by decide +kernel) (by decide +kernel)
theorem k_L_86 : LkV RL 86 m_X9_invoiceTotal 1 := ⟨q_1046, q_1047, q_1048, ⟨q_1, q_1049, by decide, by decide, by decide +kernel⟩⟩
set_option maxHeartbeats 4000000 in
theorem c_L_invoiceTotal (l : Launch) (g : GT) (hx hout : Nat) (fs : List Value) (wt wsx : va_W) (ws' : (Nat → Nat) → va_W) (fo : Nat → Int64) (p1 : Int32) (x : Nat) (r : Int32) (kk mc ms : Nat) (hM : ∀ sz, YI l m_X9_invoiceTotal (rml kk mc ms) g ((hx, .inr (9, fs)) :: wt) ws' wsx sz [.ref hx, .int p1] x r) (hxs : x = 0 ∨ x = 2) (sz : Nat) : KI l m_L_invoiceTotal [(0, 9, 12, 32)] (rml (kk + 1) mc ms) g ((hx, .inr (9, fs)) :: wt ++ [(hout, aJ g 1 fo)]) (fun u => if x = 0 then ws' u ++ [(hout, aJ g 1 (vp_updL fo 0 r.toInt64))] else wsx ++ [(hout, aJ g 1 fo)]) sz [.ref hx, .int p1, .ref hout] (kc [2] x) := by
  refine ek_i (by decide) (Nat.le_of_ble_eq_true rfl) (fun p e s m args below meth c A ls ht C w hl => ?_)
  have C : Cx p s m args meth c RL m_L_invoiceTotal g A := C
  have hx9 := C.1
  have hb : c.code = cL_invoiceTotal := C.2.1
  have hl : lv_has ls 4 [(0, .ref hx), (1, .int p1), (2, .ref hout)] := hl
  refine lv_aload_n hx9 hb dL_invoiceTotal_0 rfl (lv_at hl 2 rfl) ?_
  refine lv_iconst (v := 0) hx9 hb dL_invoiceTotal_1 (by decide) ?_
  refine lv_aload_n hx9 hb dL_invoiceTotal_2 rfl (lv_at hl 0 rfl) ?_
  refine lv_iload_n hx9 hb dL_invoiceTotal_3 rfl (lv_at hl 1 rfl) ?_
  refine cy_iV C w (wn := fun u => ws' u ++ [(hout, aJ g 1 fo)]) (wnx := wsx ++ [(hout, aJ g 1 fo)]) pm_last pm_last (hM _) k_L_86 (rm_le (Nat.le_refl _) (by decide)) 0 9 rfl rfl rfl rfl hl.1 rfl (Nat.le_of_ble_eq_true rfl) dL_invoiceTotal_4 ⟨Nat.le_of_eq (Nat.zero_add _), Nat.le_of_eq (Nat.zero_add _)⟩ (cells2 := mc) (slots2 := ms) ⟨Nat.zero_add _, Nat.zero_add _⟩ (fun n1 H locs w q9 ce h1 h2 h3 => ?_) (fun n1 u H locs w => ?_)
  · rcases hxs with h0 | rfl
    · exact absurd h0 n1
    · refine vx_catch (E := exN 2) (ce := ce) (name := exN 2) C.2.2.2.1 [] ⟨0, 9, 12, 32⟩ [] (by rw [ht]; rfl) (fun z hz => by cases hz) (by decide) (by decide) (C.2.2.2.2.1 _ q_842) (va_Nw.use rfl (C.2.2.2.2.2.2.2.1.1 _ (nw_t (w := Cond.castable (exN 2) (exN 2)) 853 (by decide +kernel) rfl))) h1 h2 h3 ?_
      refine lv_astore_n (lv' := [(3, .ref q9), (0, .ref hx), (1, .int p1), (2, .ref hout)]) hx9 hb dL_invoiceTotal_12 rfl hl (by decide) rfl (fun ls hl => ?_)
      refine lv_iconst (v := 1) hx9 hb dL_invoiceTotal_13 (by decide) ?_
      exact rt_i C w rfl (fun _ => 0) (by rw [if_neg n1]) (by decide) dL_invoiceTotal_14
  · refine lv_i2l (v := r.toInt64) hx9 hb dL_invoiceTotal_7 rfl ?_
    refine las_last C w dL_invoiceTotal_8 (fun H locs w => ?_)
    refine lv_goto (tgt := 15) hx9 hb dL_invoiceTotal_9 (by decide) ?_
    refine lv_iconst (v := 0) hx9 hb dL_invoiceTotal_15 (by decide) ?_
    exact rt_i C w rfl u (by rw [if_pos n1]) (by rw [n1]; rfl) dL_invoiceTotal_16

theorem dL_balance_0 : decode cL_balance 0 = .ok (.aload_n 2, 1) := by decide +kernel
theorem dL_balance_1 : decode cL_balance 1 = .ok (.iconst 0, 1) := by decide +kernel
theorem dL_balance_2 : decode cL_balance 2 = .ok (.aload_n 0, 1) := by decide +kernel
theorem dL_balance_3 : decode cL_balance 3 = .ok (.iload_n 1, 1) := by decide +kernel
theorem dL_balance_4 : decode cL_balance 4 = .ok (.invokevirtual 89, 3) := by decide +kernel
theorem dL_balance_7 : decode cL_balance 7 = .ok (.i2l, 1) := by decide +kernel
theorem dL_balance_8 : decode cL_balance 8 = .ok (.lastore, 1) := by decide +kernel
theorem dL_balance_9 : decode cL_balance 9 = .ok (.goto 6, 3) := by decide +kernel
theorem dL_balance_12 : decode cL_balance 12 = .ok (.astore_n 3, 1) := by decide +kernel
theorem dL_balance_13 : decode cL_balance 13 = .ok (.iconst 1, 1) := by decide +kernel
theorem dL_balance_14 : decode cL_balance 14 = .ok (.ireturn, 1) := by decide +kernel
theorem dL_balance_15 : decode cL_balance 15 = .ok (.iconst 0, 1) := by decide +kernel
theorem dL_balance_16 : decode cL_balance 16 = .ok (.ireturn, 1) := by decide +kernel
abbrev m_L_balance : MD := (yL_balance, cL_balance, 4, (some .int))
theorem q_1057 : Cond.code yX9_balance cX9_balance 2 (some .int) ∈ TS := ts_t 1057 (by decide +kernel) (by decide +kernel)
theorem q_1054 : Cond.methodLink RL 89 yX9_balance ∈ TS := ts_t 1054 (by decide +kernel) (by decide +kernel)
theorem q_1055 : Cond.instanceMethod yX9_balance ∈ TS := ts_t 1055 (by decide +kernel) (by decide +kernel)
theorem q_1056 : Cond.selects yX9_balance.cls yX9_balance yX9_balance ∈ TS := ts_t 1056 (by decide +kernel) (by decide +kernel)
theorem k_L_89 : LkV RL 89 m_X9_balance 1 := ⟨q_1054, q_1055, q_1056, ⟨q_1, q_1057, by decide, by decide, by decide +kernel⟩⟩
set_option maxHeartbeats 4000000 in
theorem c_L_balance (l : Launch) (g : GT) (hx hout : Nat) (fs : List Value) (wt wsx : va_W) (ws' : (Nat → Nat) → va_W) (fo : Nat → Int64) (p1 : Int32) (x : Nat) (r : Int32) (kk mc ms : Nat) (hM : ∀ sz, YI l m_X9_balance (rml kk mc ms) g ((hx, .inr (9, fs)) :: wt) ws' wsx sz [.ref hx, .int p1] x r) (hxs : x = 0 ∨ x = 2) (sz : Nat) : KI l m_L_balance [(0, 9, 12, 32)] (rml (kk + 1) mc ms) g ((hx, .inr (9, fs)) :: wt ++ [(hout, aJ g 1 fo)]) (fun u => if x = 0 then ws' u ++ [(hout, aJ g 1 (vp_updL fo 0 r.toInt64))] else wsx ++ [(hout, aJ g 1 fo)]) sz [.ref hx, .int p1, .ref hout] (kc [2] x) := by
  refine ek_i (by decide) (Nat.le_of_ble_eq_true rfl) (fun p e s m args below meth c A ls ht C w hl => ?_)
  have C : Cx p s m args meth c RL m_L_balance g A := C
  have hx9 := C.1
  have hb : c.code = cL_balance := C.2.1
  have hl : lv_has ls 4 [(0, .ref hx), (1, .int p1), (2, .ref hout)] := hl
  refine lv_aload_n hx9 hb dL_balance_0 rfl (lv_at hl 2 rfl) ?_
  refine lv_iconst (v := 0) hx9 hb dL_balance_1 (by decide) ?_
  refine lv_aload_n hx9 hb dL_balance_2 rfl (lv_at hl 0 rfl) ?_
  refine lv_iload_n hx9 hb dL_balance_3 rfl (lv_at hl 1 rfl) ?_
  refine cy_iV C w (wn := fun u => ws' u ++ [(hout, aJ g 1 fo)]) (wnx := wsx ++ [(hout, aJ g 1 fo)]) pm_last pm_last (hM _) k_L_89 (rm_le (Nat.le_refl _) (by decide)) 0 9 rfl rfl rfl rfl hl.1 rfl (Nat.le_of_ble_eq_true rfl) dL_balance_4 ⟨Nat.le_of_eq (Nat.zero_add _), Nat.le_of_eq (Nat.zero_add _)⟩ (cells2 := mc) (slots2 := ms) ⟨Nat.zero_add _, Nat.zero_add _⟩ (fun n1 H locs w q9 ce h1 h2 h3 => ?_) (fun n1 u H locs w => ?_)
  · rcases hxs with h0 | rfl
    · exact absurd h0 n1
    · refine vx_catch (E := exN 2) (ce := ce) (name := exN 2) C.2.2.2.1 [] ⟨0, 9, 12, 32⟩ [] (by rw [ht]; rfl) (fun z hz => by cases hz) (by decide) (by decide) (C.2.2.2.2.1 _ q_842) (va_Nw.use rfl (C.2.2.2.2.2.2.2.1.1 _ (nw_t (w := Cond.castable (exN 2) (exN 2)) 853 (by decide +kernel) rfl))) h1 h2 h3 ?_
      refine lv_astore_n (lv' := [(3, .ref q9), (0, .ref hx), (1, .int p1), (2, .ref hout)]) hx9 hb dL_balance_12 rfl hl (by decide) rfl (fun ls hl => ?_)
      refine lv_iconst (v := 1) hx9 hb dL_balance_13 (by decide) ?_
      exact rt_i C w rfl (fun _ => 0) (by rw [if_neg n1]) (by decide) dL_balance_14
  · refine lv_i2l (v := r.toInt64) hx9 hb dL_balance_7 rfl ?_
    refine las_last C w dL_balance_8 (fun H locs w => ?_)
    refine lv_goto (tgt := 15) hx9 hb dL_balance_9 (by decide) ?_
    refine lv_iconst (v := 0) hx9 hb dL_balance_15 (by decide) ?_
    exact rt_i C w rfl u (by rw [if_pos n1]) (by rw [n1]; rfl) dL_balance_16

theorem dL_readTag_0 : decode cL_readTag 0 = .ok (.aload 5, 2) := by decide +kernel
theorem dL_readTag_2 : decode cL_readTag 2 = .ok (.iconst 0, 1) := by decide +kernel
theorem dL_readTag_3 : decode cL_readTag 3 = .ok (.aload_n 0, 1) := by decide +kernel
theorem dL_readTag_4 : decode cL_readTag 4 = .ok (.iload_n 1, 1) := by decide +kernel
theorem dL_readTag_5 : decode cL_readTag 5 = .ok (.iload_n 2, 1) := by decide +kernel
theorem dL_readTag_6 : decode cL_readTag 6 = .ok (.iload_n 3, 1) := by decide +kernel
theorem dL_readTag_7 : decode cL_readTag 7 = .ok (.iload 4, 2) := by decide +kernel
theorem dL_readTag_9 : decode cL_readTag 9 = .ok (.invokevirtual 92, 3) := by decide +kernel
theorem dL_readTag_12 : decode cL_readTag 12 = .ok (.i2l, 1) := by decide +kernel
theorem dL_readTag_13 : decode cL_readTag 13 = .ok (.lastore, 1) := by decide +kernel
theorem dL_readTag_14 : decode cL_readTag 14 = .ok (.goto 11, 3) := by decide +kernel
theorem dL_readTag_17 : decode cL_readTag 17 = .ok (.astore 6, 2) := by decide +kernel
theorem dL_readTag_19 : decode cL_readTag 19 = .ok (.iconst 1, 1) := by decide +kernel
theorem dL_readTag_20 : decode cL_readTag 20 = .ok (.ireturn, 1) := by decide +kernel
theorem dL_readTag_21 : decode cL_readTag 21 = .ok (.astore 6, 2) := by decide +kernel
theorem dL_readTag_23 : decode cL_readTag 23 = .ok (.iconst 2, 1) := by decide +kernel
theorem dL_readTag_24 : decode cL_readTag 24 = .ok (.ireturn, 1) := by decide +kernel
theorem dL_readTag_25 : decode cL_readTag 25 = .ok (.iconst 0, 1) := by decide +kernel
theorem dL_readTag_26 : decode cL_readTag 26 = .ok (.ireturn, 1) := by decide +kernel
abbrev m_L_readTag : MD := (yL_readTag, cL_readTag, 7, (some .int))
theorem q_1061 : Cond.classLink RL 95 (exN 3) ∈ TS := ts_t 1061 (by decide +kernel) (by decide +kernel)
theorem q_1065 : Cond.code yX9_readTag cX9_readTag 6 (some .int) ∈ TS := ts_t 1065 (by decide +kernel) (by decide +kernel)
theorem q_1062 : Cond.methodLink RL 92 yX9_readTag ∈ TS := ts_t 1062 (by decide +kernel) (by decide +kernel)
theorem q_1063 : Cond.instanceMethod yX9_readTag ∈ TS := ts_t 1063 (by decide +kernel) (by decide +kernel)
theorem q_1064 : Cond.selects yX9_readTag.cls yX9_readTag yX9_readTag ∈ TS := ts_t 1064 (by decide +kernel) (by decide +kernel)
theorem k_L_92P : LkV RL 92 m_X9_readTagP 4 := ⟨q_1062, q_1063, q_1064, ⟨q_1, q_1065, by decide, by decide, by decide +kernel⟩⟩
set_option maxHeartbeats 4000000 in
theorem c_L_readTag (l : Launch) (g : GT) (hx hout : Nat) (fs : List Value) (wt wsx : va_W) (ws' : (Nat → Nat) → va_W) (fo : Nat → Int64) (p1 p2 p3 p4 : Int32) (x : Nat) (r : Int32) (kk mc ms : Nat) (hM : ∀ sz, YI l m_X9_readTagP (rml kk mc ms) g ((hx, .inr (9, fs)) :: wt) ws' wsx sz [.ref hx, .int p1, .int p2, .int p3, .int p4] x r) (hxs : x = 0 ∨ x = 1 ∨ x = 3) (sz : Nat) : KI l m_L_readTag [(0, 14, 17, 13), (0, 14, 21, 95)] (rml (kk + 1) mc ms) g ((hx, .inr (9, fs)) :: wt ++ [(hout, aJ g 1 fo)]) (fun u => if x = 0 then ws' u ++ [(hout, aJ g 1 (vp_updL fo 0 r.toInt64))] else wsx ++ [(hout, aJ g 1 fo)]) sz [.ref hx, .int p1, .int p2, .int p3, .int p4, .ref hout] (kc [1, 3] x) := by
  refine ek_i (by decide) (Nat.le_of_ble_eq_true rfl) (fun p e s m args below meth c A ls ht C w hl => ?_)
  have C : Cx p s m args meth c RL m_L_readTag g A := C
  have hx9 := C.1
  have hb : c.code = cL_readTag := C.2.1
  have hl : lv_has ls 7 [(0, .ref hx), (1, .int p1), (2, .int p2), (3, .int p3), (4, .int p4), (5, .ref hout)] := hl
  refine lv_aload hx9 hb dL_readTag_0 (lv_at hl 5 rfl) ?_
  refine lv_iconst (v := 0) hx9 hb dL_readTag_2 (by decide) ?_
  refine lv_aload_n hx9 hb dL_readTag_3 rfl (lv_at hl 0 rfl) ?_
  refine lv_iload_n hx9 hb dL_readTag_4 rfl (lv_at hl 1 rfl) ?_
  refine lv_iload_n hx9 hb dL_readTag_5 rfl (lv_at hl 2 rfl) ?_
  refine lv_iload_n hx9 hb dL_readTag_6 rfl (lv_at hl 3 rfl) ?_
  refine lv_iload hx9 hb dL_readTag_7 (lv_at hl 4 rfl) ?_
  refine cy_iV C w (wn := fun u => ws' u ++ [(hout, aJ g 1 fo)]) (wnx := wsx ++ [(hout, aJ g 1 fo)]) pm_last pm_last (hM _) k_L_92P (rm_le (Nat.le_refl _) (by decide)) 0 9 rfl rfl rfl rfl hl.1 rfl (Nat.le_of_ble_eq_true rfl) dL_readTag_9 ⟨Nat.le_of_eq (Nat.zero_add _), Nat.le_of_eq (Nat.zero_add _)⟩ (cells2 := mc) (slots2 := ms) ⟨Nat.zero_add _, Nat.zero_add _⟩ (fun n1 H locs w q9 ce h1 h2 h3 => ?_) (fun n1 u H locs w => ?_)
  · rcases hxs with h0 | rfl | rfl
    · exact absurd h0 n1
    · refine vx_catch (E := exN 1) (ce := ce) (name := exN 1) C.2.2.2.1 [] ⟨0, 14, 17, 13⟩ [⟨0, 14, 21, 95⟩] (by rw [ht]; rfl) (fun z hz => by cases hz) (by decide) (by decide) (C.2.2.2.2.1 _ q_525) (va_Nw.use rfl (C.2.2.2.2.2.2.2.1.1 _ (nw_t (w := Cond.castable (exN 1) (exN 1)) 532 (by decide +kernel) rfl))) h1 h2 h3 ?_
      refine lv_astore (lv' := [(6, .ref q9), (0, .ref hx), (1, .int p1), (2, .int p2), (3, .int p3), (4, .int p4), (5, .ref hout)]) hx9 hb dL_readTag_17 hl (by decide) rfl (fun ls hl => ?_)
      refine lv_iconst (v := 1) hx9 hb dL_readTag_19 (by decide) ?_
      exact rt_i C w rfl (fun _ => 0) (by rw [if_neg n1]) (by decide) dL_readTag_20
    · refine vx_catch (E := exN 3) (ce := ce) (name := exN 3) C.2.2.2.1 [⟨0, 14, 17, 13⟩] ⟨0, 14, 21, 95⟩ [] (by rw [ht]; rfl) (fun z hz => by rcases List.mem_singleton.mp hz with rfl; exact Or.inr ⟨by decide, exN 1, C.2.2.2.2.1 _ q_525, C.2.2.2.2.2.2.2.1.2.2.2.2.2.2.2.2 (exN 3, exN 1) (List.mem_of_getElem? (i := 0) rfl)⟩) (by decide) (by decide) (C.2.2.2.2.1 _ q_1061) (va_Nw.use rfl (C.2.2.2.2.2.2.2.1.1 _ (nw_t (w := Cond.castable (exN 3) (exN 3)) 1084 (by decide +kernel) rfl))) h1 h2 h3 ?_
      refine lv_astore (lv' := [(6, .ref q9), (0, .ref hx), (1, .int p1), (2, .int p2), (3, .int p3), (4, .int p4), (5, .ref hout)]) hx9 hb dL_readTag_21 hl (by decide) rfl (fun ls hl => ?_)
      refine lv_iconst (v := 2) hx9 hb dL_readTag_23 (by decide) ?_
      exact rt_i C w rfl (fun _ => 0) (by rw [if_neg n1]) (by decide) dL_readTag_24
  · refine lv_i2l (v := r.toInt64) hx9 hb dL_readTag_12 rfl ?_
    refine las_last C w dL_readTag_13 (fun H locs w => ?_)
    refine lv_goto (tgt := 25) hx9 hb dL_readTag_14 (by decide) ?_
    refine lv_iconst (v := 0) hx9 hb dL_readTag_25 (by decide) ?_
    exact rt_i C w rfl u (by rw [if_pos n1]) (by rw [n1]; rfl) dL_readTag_26

theorem dL_readPlate_0 : decode cL_readPlate 0 = .ok (.aload 6, 2) := by decide +kernel
theorem dL_readPlate_2 : decode cL_readPlate 2 = .ok (.iconst 0, 1) := by decide +kernel
theorem dL_readPlate_3 : decode cL_readPlate 3 = .ok (.aload_n 0, 1) := by decide +kernel
theorem dL_readPlate_4 : decode cL_readPlate 4 = .ok (.iload_n 1, 1) := by decide +kernel
theorem dL_readPlate_5 : decode cL_readPlate 5 = .ok (.iload_n 2, 1) := by decide +kernel
theorem dL_readPlate_6 : decode cL_readPlate 6 = .ok (.iload_n 3, 1) := by decide +kernel
theorem dL_readPlate_7 : decode cL_readPlate 7 = .ok (.iload 4, 2) := by decide +kernel
theorem dL_readPlate_9 : decode cL_readPlate 9 = .ok (.iload 5, 2) := by decide +kernel
theorem dL_readPlate_11 : decode cL_readPlate 11 = .ok (.invokevirtual 97, 3) := by decide +kernel
theorem dL_readPlate_14 : decode cL_readPlate 14 = .ok (.i2l, 1) := by decide +kernel
theorem dL_readPlate_15 : decode cL_readPlate 15 = .ok (.lastore, 1) := by decide +kernel
theorem dL_readPlate_16 : decode cL_readPlate 16 = .ok (.goto 11, 3) := by decide +kernel
theorem dL_readPlate_19 : decode cL_readPlate 19 = .ok (.astore 7, 2) := by decide +kernel
theorem dL_readPlate_21 : decode cL_readPlate 21 = .ok (.iconst 1, 1) := by decide +kernel
theorem dL_readPlate_22 : decode cL_readPlate 22 = .ok (.ireturn, 1) := by decide +kernel
theorem dL_readPlate_23 : decode cL_readPlate 23 = .ok (.astore 7, 2) := by decide +kernel
theorem dL_readPlate_25 : decode cL_readPlate 25 = .ok (.iconst 2, 1) := by decide +kernel
theorem dL_readPlate_26 : decode cL_readPlate 26 = .ok (.ireturn, 1) := by decide +kernel
theorem dL_readPlate_27 : decode cL_readPlate 27 = .ok (.iconst 0, 1) := by decide +kernel
theorem dL_readPlate_28 : decode cL_readPlate 28 = .ok (.ireturn, 1) := by decide +kernel
abbrev m_L_readPlate : MD := (yL_readPlate, cL_readPlate, 8, (some .int))
theorem q_1115 : Cond.code yX9_readPlate cX9_readPlate 7 (some .int) ∈ TS := ts_t 1115 (by decide +kernel) (by decide +kernel)
theorem q_1112 : Cond.methodLink RL 97 yX9_readPlate ∈ TS := ts_t 1112 (by decide +kernel) (by decide +kernel)
theorem q_1113 : Cond.instanceMethod yX9_readPlate ∈ TS := ts_t 1113 (by decide +kernel) (by decide +kernel)
theorem q_1114 : Cond.selects yX9_readPlate.cls yX9_readPlate yX9_readPlate ∈ TS := ts_t 1114 (by decide +kernel) (by decide +kernel)
theorem k_L_97P : LkV RL 97 m_X9_readPlateP 5 := ⟨q_1112, q_1113, q_1114, ⟨q_1, q_1115, by decide, by decide, by decide +kernel⟩⟩
set_option maxHeartbeats 4000000 in
theorem c_L_readPlate (l : Launch) (g : GT) (hx hout : Nat) (fs : List Value) (wt wsx : va_W) (ws' : (Nat → Nat) → va_W) (fo : Nat → Int64) (p1 p2 p3 p4 p5 : Int32) (x : Nat) (r : Int32) (kk mc ms : Nat) (hM : ∀ sz, YI l m_X9_readPlateP (rml kk mc ms) g ((hx, .inr (9, fs)) :: wt) ws' wsx sz [.ref hx, .int p1, .int p2, .int p3, .int p4, .int p5] x r) (hxs : x = 0 ∨ x = 1 ∨ x = 3) (sz : Nat) : KI l m_L_readPlate [(0, 16, 19, 13), (0, 16, 23, 95)] (rml (kk + 1) mc ms) g ((hx, .inr (9, fs)) :: wt ++ [(hout, aJ g 1 fo)]) (fun u => if x = 0 then ws' u ++ [(hout, aJ g 1 (vp_updL fo 0 r.toInt64))] else wsx ++ [(hout, aJ g 1 fo)]) sz [.ref hx, .int p1, .int p2, .int p3, .int p4, .int p5, .ref hout] (kc [1, 3] x) := by
  refine ek_i (by decide) (Nat.le_of_ble_eq_true rfl) (fun p e s m args below meth c A ls ht C w hl => ?_)
  have C : Cx p s m args meth c RL m_L_readPlate g A := C
  have hx9 := C.1
  have hb : c.code = cL_readPlate := C.2.1
  have hl : lv_has ls 8 [(0, .ref hx), (1, .int p1), (2, .int p2), (3, .int p3), (4, .int p4), (5, .int p5), (6, .ref hout)] := hl
  refine lv_aload hx9 hb dL_readPlate_0 (lv_at hl 6 rfl) ?_
  refine lv_iconst (v := 0) hx9 hb dL_readPlate_2 (by decide) ?_
  refine lv_aload_n hx9 hb dL_readPlate_3 rfl (lv_at hl 0 rfl) ?_
  refine lv_iload_n hx9 hb dL_readPlate_4 rfl (lv_at hl 1 rfl) ?_
  refine lv_iload_n hx9 hb dL_readPlate_5 rfl (lv_at hl 2 rfl) ?_
  refine lv_iload_n hx9 hb dL_readPlate_6 rfl (lv_at hl 3 rfl) ?_
  refine lv_iload hx9 hb dL_readPlate_7 (lv_at hl 4 rfl) ?_
  refine lv_iload hx9 hb dL_readPlate_9 (lv_at hl 5 rfl) ?_
  refine cy_iV C w (wn := fun u => ws' u ++ [(hout, aJ g 1 fo)]) (wnx := wsx ++ [(hout, aJ g 1 fo)]) pm_last pm_last (hM _) k_L_97P (rm_le (Nat.le_refl _) (by decide)) 0 9 rfl rfl rfl rfl hl.1 rfl (Nat.le_of_ble_eq_true rfl) dL_readPlate_11 ⟨Nat.le_of_eq (Nat.zero_add _), Nat.le_of_eq (Nat.zero_add _)⟩ (cells2 := mc) (slots2 := ms) ⟨Nat.zero_add _, Nat.zero_add _⟩ (fun n1 H locs w q9 ce h1 h2 h3 => ?_) (fun n1 u H locs w => ?_)
  · rcases hxs with h0 | rfl | rfl
    · exact absurd h0 n1
    · refine vx_catch (E := exN 1) (ce := ce) (name := exN 1) C.2.2.2.1 [] ⟨0, 16, 19, 13⟩ [⟨0, 16, 23, 95⟩] (by rw [ht]; rfl) (fun z hz => by cases hz) (by decide) (by decide) (C.2.2.2.2.1 _ q_525) (va_Nw.use rfl (C.2.2.2.2.2.2.2.1.1 _ (nw_t (w := Cond.castable (exN 1) (exN 1)) 532 (by decide +kernel) rfl))) h1 h2 h3 ?_
      refine lv_astore (lv' := [(7, .ref q9), (0, .ref hx), (1, .int p1), (2, .int p2), (3, .int p3), (4, .int p4), (5, .int p5), (6, .ref hout)]) hx9 hb dL_readPlate_19 hl (by decide) rfl (fun ls hl => ?_)
      refine lv_iconst (v := 1) hx9 hb dL_readPlate_21 (by decide) ?_
      exact rt_i C w rfl (fun _ => 0) (by rw [if_neg n1]) (by decide) dL_readPlate_22
    · refine vx_catch (E := exN 3) (ce := ce) (name := exN 3) C.2.2.2.1 [⟨0, 16, 19, 13⟩] ⟨0, 16, 23, 95⟩ [] (by rw [ht]; rfl) (fun z hz => by rcases List.mem_singleton.mp hz with rfl; exact Or.inr ⟨by decide, exN 1, C.2.2.2.2.1 _ q_525, C.2.2.2.2.2.2.2.1.2.2.2.2.2.2.2.2 (exN 3, exN 1) (List.mem_of_getElem? (i := 0) rfl)⟩) (by decide) (by decide) (C.2.2.2.2.1 _ q_1061) (va_Nw.use rfl (C.2.2.2.2.2.2.2.1.1 _ (nw_t (w := Cond.castable (exN 3) (exN 3)) 1084 (by decide +kernel) rfl))) h1 h2 h3 ?_
      refine lv_astore (lv' := [(7, .ref q9), (0, .ref hx), (1, .int p1), (2, .int p2), (3, .int p3), (4, .int p4), (5, .int p5), (6, .ref hout)]) hx9 hb dL_readPlate_23 hl (by decide) rfl (fun ls hl => ?_)
      refine lv_iconst (v := 2) hx9 hb dL_readPlate_25 (by decide) ?_
      exact rt_i C w rfl (fun _ => 0) (by rw [if_neg n1]) (by decide) dL_readPlate_26
  · refine lv_i2l (v := r.toInt64) hx9 hb dL_readPlate_14 rfl ?_
    refine las_last C w dL_readPlate_15 (fun H locs w => ?_)
    refine lv_goto (tgt := 27) hx9 hb dL_readPlate_16 (by decide) ?_
    refine lv_iconst (v := 0) hx9 hb dL_readPlate_27 (by decide) ?_
    exact rt_i C w rfl u (by rw [if_pos n1]) (by rw [n1]; rfl) dL_readPlate_28

theorem dL_readAxles_0 : decode cL_readAxles 0 = .ok (.aload 5, 2) := by decide +kernel
theorem dL_readAxles_2 : decode cL_readAxles 2 = .ok (.iconst 0, 1) := by decide +kernel
theorem dL_readAxles_3 : decode cL_readAxles 3 = .ok (.aload_n 0, 1) := by decide +kernel
theorem dL_readAxles_4 : decode cL_readAxles 4 = .ok (.iload_n 1, 1) := by decide +kernel
theorem dL_readAxles_5 : decode cL_readAxles 5 = .ok (.iload_n 2, 1) := by decide +kernel
theorem dL_readAxles_6 : decode cL_readAxles 6 = .ok (.iload_n 3, 1) := by decide +kernel
theorem dL_readAxles_7 : decode cL_readAxles 7 = .ok (.iload 4, 2) := by decide +kernel
theorem dL_readAxles_9 : decode cL_readAxles 9 = .ok (.invokevirtual 101, 3) := by decide +kernel
theorem dL_readAxles_12 : decode cL_readAxles 12 = .ok (.i2l, 1) := by decide +kernel
theorem dL_readAxles_13 : decode cL_readAxles 13 = .ok (.lastore, 1) := by decide +kernel
theorem dL_readAxles_14 : decode cL_readAxles 14 = .ok (.goto 11, 3) := by decide +kernel
theorem dL_readAxles_17 : decode cL_readAxles 17 = .ok (.astore 6, 2) := by decide +kernel
theorem dL_readAxles_19 : decode cL_readAxles 19 = .ok (.iconst 1, 1) := by decide +kernel
theorem dL_readAxles_20 : decode cL_readAxles 20 = .ok (.ireturn, 1) := by decide +kernel
theorem dL_readAxles_21 : decode cL_readAxles 21 = .ok (.astore 6, 2) := by decide +kernel
theorem dL_readAxles_23 : decode cL_readAxles 23 = .ok (.iconst 2, 1) := by decide +kernel
theorem dL_readAxles_24 : decode cL_readAxles 24 = .ok (.ireturn, 1) := by decide +kernel
theorem dL_readAxles_25 : decode cL_readAxles 25 = .ok (.iconst 0, 1) := by decide +kernel
theorem dL_readAxles_26 : decode cL_readAxles 26 = .ok (.ireturn, 1) := by decide +kernel
abbrev m_L_readAxles : MD := (yL_readAxles, cL_readAxles, 7, (some .int))
theorem q_1132 : Cond.code yX9_readAxles cX9_readAxles 6 (some .int) ∈ TS := ts_t 1132 (by decide +kernel) (by decide +kernel)
theorem q_1129 : Cond.methodLink RL 101 yX9_readAxles ∈ TS := ts_t 1129 (by decide +kernel) (by decide +kernel)
theorem q_1130 : Cond.instanceMethod yX9_readAxles ∈ TS := ts_t 1130 (by decide +kernel) (by decide +kernel)
theorem q_1131 : Cond.selects yX9_readAxles.cls yX9_readAxles yX9_readAxles ∈ TS := ts_t 1131 (by decide +kernel) (by decide +kernel)
theorem k_L_101P : LkV RL 101 m_X9_readAxlesP 4 := ⟨q_1129, q_1130, q_1131, ⟨q_1, q_1132, by decide, by decide, by decide +kernel⟩⟩
set_option maxHeartbeats 4000000 in
theorem c_L_readAxles (l : Launch) (g : GT) (hx hout : Nat) (fs : List Value) (wt wsx : va_W) (ws' : (Nat → Nat) → va_W) (fo : Nat → Int64) (p1 p2 p3 p4 : Int32) (x : Nat) (r : Int32) (kk mc ms : Nat) (hM : ∀ sz, YI l m_X9_readAxlesP (rml kk mc ms) g ((hx, .inr (9, fs)) :: wt) ws' wsx sz [.ref hx, .int p1, .int p2, .int p3, .int p4] x r) (hxs : x = 0 ∨ x = 1 ∨ x = 3) (sz : Nat) : KI l m_L_readAxles [(0, 14, 17, 13), (0, 14, 21, 95)] (rml (kk + 1) mc ms) g ((hx, .inr (9, fs)) :: wt ++ [(hout, aJ g 1 fo)]) (fun u => if x = 0 then ws' u ++ [(hout, aJ g 1 (vp_updL fo 0 r.toInt64))] else wsx ++ [(hout, aJ g 1 fo)]) sz [.ref hx, .int p1, .int p2, .int p3, .int p4, .ref hout] (kc [1, 3] x) := by
  refine ek_i (by decide) (Nat.le_of_ble_eq_true rfl) (fun p e s m args below meth c A ls ht C w hl => ?_)
  have C : Cx p s m args meth c RL m_L_readAxles g A := C
  have hx9 := C.1
  have hb : c.code = cL_readAxles := C.2.1
  have hl : lv_has ls 7 [(0, .ref hx), (1, .int p1), (2, .int p2), (3, .int p3), (4, .int p4), (5, .ref hout)] := hl
  refine lv_aload hx9 hb dL_readAxles_0 (lv_at hl 5 rfl) ?_
  refine lv_iconst (v := 0) hx9 hb dL_readAxles_2 (by decide) ?_
  refine lv_aload_n hx9 hb dL_readAxles_3 rfl (lv_at hl 0 rfl) ?_
  refine lv_iload_n hx9 hb dL_readAxles_4 rfl (lv_at hl 1 rfl) ?_
  refine lv_iload_n hx9 hb dL_readAxles_5 rfl (lv_at hl 2 rfl) ?_
  refine lv_iload_n hx9 hb dL_readAxles_6 rfl (lv_at hl 3 rfl) ?_
  refine lv_iload hx9 hb dL_readAxles_7 (lv_at hl 4 rfl) ?_
  refine cy_iV C w (wn := fun u => ws' u ++ [(hout, aJ g 1 fo)]) (wnx := wsx ++ [(hout, aJ g 1 fo)]) pm_last pm_last (hM _) k_L_101P (rm_le (Nat.le_refl _) (by decide)) 0 9 rfl rfl rfl rfl hl.1 rfl (Nat.le_of_ble_eq_true rfl) dL_readAxles_9 ⟨Nat.le_of_eq (Nat.zero_add _), Nat.le_of_eq (Nat.zero_add _)⟩ (cells2 := mc) (slots2 := ms) ⟨Nat.zero_add _, Nat.zero_add _⟩ (fun n1 H locs w q9 ce h1 h2 h3 => ?_) (fun n1 u H locs w => ?_)
  · rcases hxs with h0 | rfl | rfl
    · exact absurd h0 n1
    · refine vx_catch (E := exN 1) (ce := ce) (name := exN 1) C.2.2.2.1 [] ⟨0, 14, 17, 13⟩ [⟨0, 14, 21, 95⟩] (by rw [ht]; rfl) (fun z hz => by cases hz) (by decide) (by decide) (C.2.2.2.2.1 _ q_525) (va_Nw.use rfl (C.2.2.2.2.2.2.2.1.1 _ (nw_t (w := Cond.castable (exN 1) (exN 1)) 532 (by decide +kernel) rfl))) h1 h2 h3 ?_
      refine lv_astore (lv' := [(6, .ref q9), (0, .ref hx), (1, .int p1), (2, .int p2), (3, .int p3), (4, .int p4), (5, .ref hout)]) hx9 hb dL_readAxles_17 hl (by decide) rfl (fun ls hl => ?_)
      refine lv_iconst (v := 1) hx9 hb dL_readAxles_19 (by decide) ?_
      exact rt_i C w rfl (fun _ => 0) (by rw [if_neg n1]) (by decide) dL_readAxles_20
    · refine vx_catch (E := exN 3) (ce := ce) (name := exN 3) C.2.2.2.1 [⟨0, 14, 17, 13⟩] ⟨0, 14, 21, 95⟩ [] (by rw [ht]; rfl) (fun z hz => by rcases List.mem_singleton.mp hz with rfl; exact Or.inr ⟨by decide, exN 1, C.2.2.2.2.1 _ q_525, C.2.2.2.2.2.2.2.1.2.2.2.2.2.2.2.2 (exN 3, exN 1) (List.mem_of_getElem? (i := 0) rfl)⟩) (by decide) (by decide) (C.2.2.2.2.1 _ q_1061) (va_Nw.use rfl (C.2.2.2.2.2.2.2.1.1 _ (nw_t (w := Cond.castable (exN 3) (exN 3)) 1084 (by decide +kernel) rfl))) h1 h2 h3 ?_
      refine lv_astore (lv' := [(6, .ref q9), (0, .ref hx), (1, .int p1), (2, .int p2), (3, .int p3), (4, .int p4), (5, .ref hout)]) hx9 hb dL_readAxles_21 hl (by decide) rfl (fun ls hl => ?_)
      refine lv_iconst (v := 2) hx9 hb dL_readAxles_23 (by decide) ?_
      exact rt_i C w rfl (fun _ => 0) (by rw [if_neg n1]) (by decide) dL_readAxles_24
  · refine lv_i2l (v := r.toInt64) hx9 hb dL_readAxles_12 rfl ?_
    refine las_last C w dL_readAxles_13 (fun H locs w => ?_)
    refine lv_goto (tgt := 25) hx9 hb dL_readAxles_14 (by decide) ?_
    refine lv_iconst (v := 0) hx9 hb dL_readAxles_25 (by decide) ?_
    exact rt_i C w rfl u (by rw [if_pos n1]) (by rw [n1]; rfl) dL_readAxles_26

theorem dL_assignPlate_0 : decode cL_assignPlate 0 = .ok (.aload_n 3, 1) := by decide +kernel
theorem dL_assignPlate_1 : decode cL_assignPlate 1 = .ok (.iconst 0, 1) := by decide +kernel
theorem dL_assignPlate_2 : decode cL_assignPlate 2 = .ok (.aload_n 0, 1) := by decide +kernel
theorem dL_assignPlate_3 : decode cL_assignPlate 3 = .ok (.iload_n 1, 1) := by decide +kernel
theorem dL_assignPlate_4 : decode cL_assignPlate 4 = .ok (.iload_n 2, 1) := by decide +kernel
theorem dL_assignPlate_5 : decode cL_assignPlate 5 = .ok (.invokevirtual 104, 3) := by decide +kernel
theorem dL_assignPlate_8 : decode cL_assignPlate 8 = .ok (.i2l, 1) := by decide +kernel
theorem dL_assignPlate_9 : decode cL_assignPlate 9 = .ok (.lastore, 1) := by decide +kernel
theorem dL_assignPlate_10 : decode cL_assignPlate 10 = .ok (.goto 15, 3) := by decide +kernel
theorem dL_assignPlate_13 : decode cL_assignPlate 13 = .ok (.astore 4, 2) := by decide +kernel
theorem dL_assignPlate_15 : decode cL_assignPlate 15 = .ok (.iconst 1, 1) := by decide +kernel
theorem dL_assignPlate_16 : decode cL_assignPlate 16 = .ok (.ireturn, 1) := by decide +kernel
theorem dL_assignPlate_17 : decode cL_assignPlate 17 = .ok (.astore 4, 2) := by decide +kernel
theorem dL_assignPlate_19 : decode cL_assignPlate 19 = .ok (.iconst 2, 1) := by decide +kernel
theorem dL_assignPlate_20 : decode cL_assignPlate 20 = .ok (.ireturn, 1) := by decide +kernel
theorem dL_assignPlate_21 : decode cL_assignPlate 21 = .ok (.astore 4, 2) := by decide +kernel
theorem dL_assignPlate_23 : decode cL_assignPlate 23 = .ok (.iconst 3, 1) := by decide +kernel
theorem dL_assignPlate_24 : decode cL_assignPlate 24 = .ok (.ireturn, 1) := by decide +kernel
theorem dL_assignPlate_25 : decode cL_assignPlate 25 = .ok (.iconst 0, 1) := by decide +kernel
theorem dL_assignPlate_26 : decode cL_assignPlate 26 = .ok (.ireturn, 1) := by decide +kernel
abbrev m_L_assignPlate : MD := (yL_assignPlate, cL_assignPlate, 5, (some .int))
theorem q_1143 : Cond.code yX9_assignPlate cX9_assignPlate 3 (some .int) ∈ TS := ts_t 1143 (by decide +kernel) (by decide +kernel)
theorem q_1140 : Cond.methodLink RL 104 yX9_assignPlate ∈ TS := ts_t 1140 (by decide +kernel) (by decide +kernel)
theorem q_1141 : Cond.instanceMethod yX9_assignPlate ∈ TS := ts_t 1141 (by decide +kernel) (by decide +kernel)
theorem q_1142 : Cond.selects yX9_assignPlate.cls yX9_assignPlate yX9_assignPlate ∈ TS := ts_t 1142 (by decide +kernel) (by decide +kernel)
theorem k_L_104P : LkV RL 104 m_X9_assignPlateP 2 := ⟨q_1140, q_1141, q_1142, ⟨q_1, q_1143, by decide, by decide, by decide +kernel⟩⟩
set_option maxHeartbeats 4000000 in
theorem c_L_assignPlate (l : Launch) (g : GT) (hx hout : Nat) (fs : List Value) (wt wsx : va_W) (ws' : (Nat → Nat) → va_W) (fo : Nat → Int64) (p1 p2 : Int32) (x : Nat) (r : Int32) (kk mc ms : Nat) (hM : ∀ sz, YI l m_X9_assignPlateP (rml kk mc ms) g ((hx, .inr (9, fs)) :: wt) ws' wsx sz [.ref hx, .int p1, .int p2] x r) (hxs : x = 0 ∨ x = 2 ∨ x = 1 ∨ x = 3) (sz : Nat) : KI l m_L_assignPlate [(0, 10, 13, 32), (0, 10, 17, 13), (0, 10, 21, 95)] (rml (kk + 1) mc ms) g ((hx, .inr (9, fs)) :: wt ++ [(hout, aJ g 1 fo)]) (fun u => if x = 0 then ws' u ++ [(hout, aJ g 1 (vp_updL fo 0 r.toInt64))] else wsx ++ [(hout, aJ g 1 fo)]) sz [.ref hx, .int p1, .int p2, .ref hout] (kc [2, 1, 3] x) := by
  refine ek_i (by decide) (Nat.le_of_ble_eq_true rfl) (fun p e s m args below meth c A ls ht C w hl => ?_)
  have C : Cx p s m args meth c RL m_L_assignPlate g A := C
  have hx9 := C.1
  have hb : c.code = cL_assignPlate := C.2.1
  have hl : lv_has ls 5 [(0, .ref hx), (1, .int p1), (2, .int p2), (3, .ref hout)] := hl
  refine lv_aload_n hx9 hb dL_assignPlate_0 rfl (lv_at hl 3 rfl) ?_
  refine lv_iconst (v := 0) hx9 hb dL_assignPlate_1 (by decide) ?_
  refine lv_aload_n hx9 hb dL_assignPlate_2 rfl (lv_at hl 0 rfl) ?_
  refine lv_iload_n hx9 hb dL_assignPlate_3 rfl (lv_at hl 1 rfl) ?_
  refine lv_iload_n hx9 hb dL_assignPlate_4 rfl (lv_at hl 2 rfl) ?_
  refine cy_iV C w (wn := fun u => ws' u ++ [(hout, aJ g 1 fo)]) (wnx := wsx ++ [(hout, aJ g 1 fo)]) pm_last pm_last (hM _) k_L_104P (rm_le (Nat.le_refl _) (by decide)) 0 9 rfl rfl rfl rfl hl.1 rfl (Nat.le_of_ble_eq_true rfl) dL_assignPlate_5 ⟨Nat.le_of_eq (Nat.zero_add _), Nat.le_of_eq (Nat.zero_add _)⟩ (cells2 := mc) (slots2 := ms) ⟨Nat.zero_add _, Nat.zero_add _⟩ (fun n1 H locs w q9 ce h1 h2 h3 => ?_) (fun n1 u H locs w => ?_)
  · rcases hxs with h0 | rfl | rfl | rfl
    · exact absurd h0 n1
    · refine vx_catch (E := exN 2) (ce := ce) (name := exN 2) C.2.2.2.1 [] ⟨0, 10, 13, 32⟩ [⟨0, 10, 17, 13⟩, ⟨0, 10, 21, 95⟩] (by rw [ht]; rfl) (fun z hz => by cases hz) (by decide) (by decide) (C.2.2.2.2.1 _ q_842) (va_Nw.use rfl (C.2.2.2.2.2.2.2.1.1 _ (nw_t (w := Cond.castable (exN 2) (exN 2)) 853 (by decide +kernel) rfl))) h1 h2 h3 ?_
      refine lv_astore (lv' := [(4, .ref q9), (0, .ref hx), (1, .int p1), (2, .int p2), (3, .ref hout)]) hx9 hb dL_assignPlate_13 hl (by decide) rfl (fun ls hl => ?_)
      refine lv_iconst (v := 1) hx9 hb dL_assignPlate_15 (by decide) ?_
      exact rt_i C w rfl (fun _ => 0) (by rw [if_neg n1]) (by decide) dL_assignPlate_16
    · refine vx_catch (E := exN 1) (ce := ce) (name := exN 1) C.2.2.2.1 [⟨0, 10, 13, 32⟩] ⟨0, 10, 17, 13⟩ [⟨0, 10, 21, 95⟩] (by rw [ht]; rfl) (fun z hz => by rcases List.mem_singleton.mp hz with rfl; exact Or.inr ⟨by decide, exN 2, C.2.2.2.2.1 _ q_842, C.2.2.2.2.2.2.2.1.2.2.2.2.2.2.2.2 (exN 1, exN 2) (List.mem_of_getElem? (i := 1) rfl)⟩) (by decide) (by decide) (C.2.2.2.2.1 _ q_525) (va_Nw.use rfl (C.2.2.2.2.2.2.2.1.1 _ (nw_t (w := Cond.castable (exN 1) (exN 1)) 532 (by decide +kernel) rfl))) h1 h2 h3 ?_
      refine lv_astore (lv' := [(4, .ref q9), (0, .ref hx), (1, .int p1), (2, .int p2), (3, .ref hout)]) hx9 hb dL_assignPlate_17 hl (by decide) rfl (fun ls hl => ?_)
      refine lv_iconst (v := 2) hx9 hb dL_assignPlate_19 (by decide) ?_
      exact rt_i C w rfl (fun _ => 0) (by rw [if_neg n1]) (by decide) dL_assignPlate_20
    · refine vx_catch (E := exN 3) (ce := ce) (name := exN 3) C.2.2.2.1 [⟨0, 10, 13, 32⟩, ⟨0, 10, 17, 13⟩] ⟨0, 10, 21, 95⟩ [] (by rw [ht]; rfl) (fun z hz => (List.mem_cons.mp hz).elim (fun e9 => by subst e9; exact Or.inr ⟨by decide, exN 2, C.2.2.2.2.1 _ q_842, C.2.2.2.2.2.2.2.1.2.2.2.2.2.2.2.2 (exN 3, exN 2) (List.mem_of_getElem? (i := 2) rfl)⟩) (fun hz => by rcases List.mem_singleton.mp hz with rfl; exact Or.inr ⟨by decide, exN 1, C.2.2.2.2.1 _ q_525, C.2.2.2.2.2.2.2.1.2.2.2.2.2.2.2.2 (exN 3, exN 1) (List.mem_of_getElem? (i := 0) rfl)⟩)) (by decide) (by decide) (C.2.2.2.2.1 _ q_1061) (va_Nw.use rfl (C.2.2.2.2.2.2.2.1.1 _ (nw_t (w := Cond.castable (exN 3) (exN 3)) 1084 (by decide +kernel) rfl))) h1 h2 h3 ?_
      refine lv_astore (lv' := [(4, .ref q9), (0, .ref hx), (1, .int p1), (2, .int p2), (3, .ref hout)]) hx9 hb dL_assignPlate_21 hl (by decide) rfl (fun ls hl => ?_)
      refine lv_iconst (v := 3) hx9 hb dL_assignPlate_23 (by decide) ?_
      exact rt_i C w rfl (fun _ => 0) (by rw [if_neg n1]) (by decide) dL_assignPlate_24
  · refine lv_i2l (v := r.toInt64) hx9 hb dL_assignPlate_8 rfl ?_
    refine las_last C w dL_assignPlate_9 (fun H locs w => ?_)
    refine lv_goto (tgt := 25) hx9 hb dL_assignPlate_10 (by decide) ?_
    refine lv_iconst (v := 0) hx9 hb dL_assignPlate_25 (by decide) ?_
    exact rt_i C w rfl u (by rw [if_pos n1]) (by rw [n1]; rfl) dL_assignPlate_26

theorem dL_assignAxles_0 : decode cL_assignAxles 0 = .ok (.aload_n 3, 1) := by decide +kernel
theorem dL_assignAxles_1 : decode cL_assignAxles 1 = .ok (.iconst 0, 1) := by decide +kernel
theorem dL_assignAxles_2 : decode cL_assignAxles 2 = .ok (.aload_n 0, 1) := by decide +kernel
theorem dL_assignAxles_3 : decode cL_assignAxles 3 = .ok (.iload_n 1, 1) := by decide +kernel
theorem dL_assignAxles_4 : decode cL_assignAxles 4 = .ok (.iload_n 2, 1) := by decide +kernel
theorem dL_assignAxles_5 : decode cL_assignAxles 5 = .ok (.invokevirtual 107, 3) := by decide +kernel
theorem dL_assignAxles_8 : decode cL_assignAxles 8 = .ok (.i2l, 1) := by decide +kernel
theorem dL_assignAxles_9 : decode cL_assignAxles 9 = .ok (.lastore, 1) := by decide +kernel
theorem dL_assignAxles_10 : decode cL_assignAxles 10 = .ok (.goto 15, 3) := by decide +kernel
theorem dL_assignAxles_13 : decode cL_assignAxles 13 = .ok (.astore 4, 2) := by decide +kernel
theorem dL_assignAxles_15 : decode cL_assignAxles 15 = .ok (.iconst 1, 1) := by decide +kernel
theorem dL_assignAxles_16 : decode cL_assignAxles 16 = .ok (.ireturn, 1) := by decide +kernel
theorem dL_assignAxles_17 : decode cL_assignAxles 17 = .ok (.astore 4, 2) := by decide +kernel
theorem dL_assignAxles_19 : decode cL_assignAxles 19 = .ok (.iconst 2, 1) := by decide +kernel
theorem dL_assignAxles_20 : decode cL_assignAxles 20 = .ok (.ireturn, 1) := by decide +kernel
theorem dL_assignAxles_21 : decode cL_assignAxles 21 = .ok (.astore 4, 2) := by decide +kernel
theorem dL_assignAxles_23 : decode cL_assignAxles 23 = .ok (.iconst 3, 1) := by decide +kernel
theorem dL_assignAxles_24 : decode cL_assignAxles 24 = .ok (.ireturn, 1) := by decide +kernel
theorem dL_assignAxles_25 : decode cL_assignAxles 25 = .ok (.iconst 0, 1) := by decide +kernel
theorem dL_assignAxles_26 : decode cL_assignAxles 26 = .ok (.ireturn, 1) := by decide +kernel
abbrev m_L_assignAxles : MD := (yL_assignAxles, cL_assignAxles, 5, (some .int))
theorem q_1155 : Cond.code yX9_assignAxles cX9_assignAxles 3 (some .int) ∈ TS := ts_t 1155 (by decide +kernel) (by decide +kernel)
theorem q_1152 : Cond.methodLink RL 107 yX9_assignAxles ∈ TS := ts_t 1152 (by decide +kernel) (by decide +kernel)
theorem q_1153 : Cond.instanceMethod yX9_assignAxles ∈ TS := ts_t 1153 (by decide +kernel) (by decide +kernel)
theorem q_1154 : Cond.selects yX9_assignAxles.cls yX9_assignAxles yX9_assignAxles ∈ TS := ts_t 1154 (by decide +kernel) (by decide +kernel)
theorem k_L_107P : LkV RL 107 m_X9_assignAxlesP 2 := ⟨q_1152, q_1153, q_1154, ⟨q_1, q_1155, by decide, by decide, by decide +kernel⟩⟩
set_option maxHeartbeats 4000000 in
theorem c_L_assignAxles (l : Launch) (g : GT) (hx hout : Nat) (fs : List Value) (wt wsx : va_W) (ws' : (Nat → Nat) → va_W) (fo : Nat → Int64) (p1 p2 : Int32) (x : Nat) (r : Int32) (kk mc ms : Nat) (hM : ∀ sz, YI l m_X9_assignAxlesP (rml kk mc ms) g ((hx, .inr (9, fs)) :: wt) ws' wsx sz [.ref hx, .int p1, .int p2] x r) (hxs : x = 0 ∨ x = 2 ∨ x = 1 ∨ x = 3) (sz : Nat) : KI l m_L_assignAxles [(0, 10, 13, 32), (0, 10, 17, 13), (0, 10, 21, 95)] (rml (kk + 1) mc ms) g ((hx, .inr (9, fs)) :: wt ++ [(hout, aJ g 1 fo)]) (fun u => if x = 0 then ws' u ++ [(hout, aJ g 1 (vp_updL fo 0 r.toInt64))] else wsx ++ [(hout, aJ g 1 fo)]) sz [.ref hx, .int p1, .int p2, .ref hout] (kc [2, 1, 3] x) := by
  refine ek_i (by decide) (Nat.le_of_ble_eq_true rfl) (fun p e s m args below meth c A ls ht C w hl => ?_)
  have C : Cx p s m args meth c RL m_L_assignAxles g A := C
  have hx9 := C.1
  have hb : c.code = cL_assignAxles := C.2.1
  have hl : lv_has ls 5 [(0, .ref hx), (1, .int p1), (2, .int p2), (3, .ref hout)] := hl
  refine lv_aload_n hx9 hb dL_assignAxles_0 rfl (lv_at hl 3 rfl) ?_
  refine lv_iconst (v := 0) hx9 hb dL_assignAxles_1 (by decide) ?_
  refine lv_aload_n hx9 hb dL_assignAxles_2 rfl (lv_at hl 0 rfl) ?_
  refine lv_iload_n hx9 hb dL_assignAxles_3 rfl (lv_at hl 1 rfl) ?_
  refine lv_iload_n hx9 hb dL_assignAxles_4 rfl (lv_at hl 2 rfl) ?_
  refine cy_iV C w (wn := fun u => ws' u ++ [(hout, aJ g 1 fo)]) (wnx := wsx ++ [(hout, aJ g 1 fo)]) pm_last pm_last (hM _) k_L_107P (rm_le (Nat.le_refl _) (by decide)) 0 9 rfl rfl rfl rfl hl.1 rfl (Nat.le_of_ble_eq_true rfl) dL_assignAxles_5 ⟨Nat.le_of_eq (Nat.zero_add _), Nat.le_of_eq (Nat.zero_add _)⟩ (cells2 := mc) (slots2 := ms) ⟨Nat.zero_add _, Nat.zero_add _⟩ (fun n1 H locs w q9 ce h1 h2 h3 => ?_) (fun n1 u H locs w => ?_)
  · rcases hxs with h0 | rfl | rfl | rfl
    · exact absurd h0 n1
    · refine vx_catch (E := exN 2) (ce := ce) (name := exN 2) C.2.2.2.1 [] ⟨0, 10, 13, 32⟩ [⟨0, 10, 17, 13⟩, ⟨0, 10, 21, 95⟩] (by rw [ht]; rfl) (fun z hz => by cases hz) (by decide) (by decide) (C.2.2.2.2.1 _ q_842) (va_Nw.use rfl (C.2.2.2.2.2.2.2.1.1 _ (nw_t (w := Cond.castable (exN 2) (exN 2)) 853 (by decide +kernel) rfl))) h1 h2 h3 ?_
      refine lv_astore (lv' := [(4, .ref q9), (0, .ref hx), (1, .int p1), (2, .int p2), (3, .ref hout)]) hx9 hb dL_assignAxles_13 hl (by decide) rfl (fun ls hl => ?_)
      refine lv_iconst (v := 1) hx9 hb dL_assignAxles_15 (by decide) ?_
      exact rt_i C w rfl (fun _ => 0) (by rw [if_neg n1]) (by decide) dL_assignAxles_16
    · refine vx_catch (E := exN 1) (ce := ce) (name := exN 1) C.2.2.2.1 [⟨0, 10, 13, 32⟩] ⟨0, 10, 17, 13⟩ [⟨0, 10, 21, 95⟩] (by rw [ht]; rfl) (fun z hz => by rcases List.mem_singleton.mp hz with rfl; exact Or.inr ⟨by decide, exN 2, C.2.2.2.2.1 _ q_842, C.2.2.2.2.2.2.2.1.2.2.2.2.2.2.2.2 (exN 1, exN 2) (List.mem_of_getElem? (i := 1) rfl)⟩) (by decide) (by decide) (C.2.2.2.2.1 _ q_525) (va_Nw.use rfl (C.2.2.2.2.2.2.2.1.1 _ (nw_t (w := Cond.castable (exN 1) (exN 1)) 532 (by decide +kernel) rfl))) h1 h2 h3 ?_
      refine lv_astore (lv' := [(4, .ref q9), (0, .ref hx), (1, .int p1), (2, .int p2), (3, .ref hout)]) hx9 hb dL_assignAxles_17 hl (by decide) rfl (fun ls hl => ?_)
      refine lv_iconst (v := 2) hx9 hb dL_assignAxles_19 (by decide) ?_
      exact rt_i C w rfl (fun _ => 0) (by rw [if_neg n1]) (by decide) dL_assignAxles_20
    · refine vx_catch (E := exN 3) (ce := ce) (name := exN 3) C.2.2.2.1 [⟨0, 10, 13, 32⟩, ⟨0, 10, 17, 13⟩] ⟨0, 10, 21, 95⟩ [] (by rw [ht]; rfl) (fun z hz => (List.mem_cons.mp hz).elim (fun e9 => by subst e9; exact Or.inr ⟨by decide, exN 2, C.2.2.2.2.1 _ q_842, C.2.2.2.2.2.2.2.1.2.2.2.2.2.2.2.2 (exN 3, exN 2) (List.mem_of_getElem? (i := 2) rfl)⟩) (fun hz => by rcases List.mem_singleton.mp hz with rfl; exact Or.inr ⟨by decide, exN 1, C.2.2.2.2.1 _ q_525, C.2.2.2.2.2.2.2.1.2.2.2.2.2.2.2.2 (exN 3, exN 1) (List.mem_of_getElem? (i := 0) rfl)⟩)) (by decide) (by decide) (C.2.2.2.2.1 _ q_1061) (va_Nw.use rfl (C.2.2.2.2.2.2.2.1.1 _ (nw_t (w := Cond.castable (exN 3) (exN 3)) 1084 (by decide +kernel) rfl))) h1 h2 h3 ?_
      refine lv_astore (lv' := [(4, .ref q9), (0, .ref hx), (1, .int p1), (2, .int p2), (3, .ref hout)]) hx9 hb dL_assignAxles_21 hl (by decide) rfl (fun ls hl => ?_)
      refine lv_iconst (v := 3) hx9 hb dL_assignAxles_23 (by decide) ?_
      exact rt_i C w rfl (fun _ => 0) (by rw [if_neg n1]) (by decide) dL_assignAxles_24
  · refine lv_i2l (v := r.toInt64) hx9 hb dL_assignAxles_8 rfl ?_
    refine las_last C w dL_assignAxles_9 (fun H locs w => ?_)
    refine lv_goto (tgt := 25) hx9 hb dL_assignAxles_10 (by decide) ?_
    refine lv_iconst (v := 0) hx9 hb dL_assignAxles_25 (by decide) ?_
    exact rt_i C w rfl u (by rw [if_pos n1]) (by rw [n1]; rfl) dL_assignAxles_26

theorem dL_dismiss_0 : decode cL_dismiss 0 = .ok (.aload_n 2, 1) := by decide +kernel
theorem dL_dismiss_1 : decode cL_dismiss 1 = .ok (.iconst 0, 1) := by decide +kernel
theorem dL_dismiss_2 : decode cL_dismiss 2 = .ok (.aload_n 0, 1) := by decide +kernel
theorem dL_dismiss_3 : decode cL_dismiss 3 = .ok (.iload_n 1, 1) := by decide +kernel
theorem dL_dismiss_4 : decode cL_dismiss 4 = .ok (.invokevirtual 110, 3) := by decide +kernel
theorem dL_dismiss_7 : decode cL_dismiss 7 = .ok (.i2l, 1) := by decide +kernel
theorem dL_dismiss_8 : decode cL_dismiss 8 = .ok (.lastore, 1) := by decide +kernel
theorem dL_dismiss_9 : decode cL_dismiss 9 = .ok (.goto 9, 3) := by decide +kernel
theorem dL_dismiss_12 : decode cL_dismiss 12 = .ok (.astore_n 3, 1) := by decide +kernel
theorem dL_dismiss_13 : decode cL_dismiss 13 = .ok (.iconst 1, 1) := by decide +kernel
theorem dL_dismiss_14 : decode cL_dismiss 14 = .ok (.ireturn, 1) := by decide +kernel
theorem dL_dismiss_15 : decode cL_dismiss 15 = .ok (.astore_n 3, 1) := by decide +kernel
theorem dL_dismiss_16 : decode cL_dismiss 16 = .ok (.iconst 2, 1) := by decide +kernel
theorem dL_dismiss_17 : decode cL_dismiss 17 = .ok (.ireturn, 1) := by decide +kernel
theorem dL_dismiss_18 : decode cL_dismiss 18 = .ok (.iconst 0, 1) := by decide +kernel
theorem dL_dismiss_19 : decode cL_dismiss 19 = .ok (.ireturn, 1) := by decide +kernel
abbrev m_L_dismiss : MD := (yL_dismiss, cL_dismiss, 4, (some .int))
theorem q_1162 : Cond.code yX9_dismiss cX9_dismiss 2 (some .int) ∈ TS := ts_t 1162 (by decide +kernel) (by decide +kernel)
theorem q_1159 : Cond.methodLink RL 110 yX9_dismiss ∈ TS := ts_t 1159 (by decide +kernel) (by decide +kernel)
theorem q_1160 : Cond.instanceMethod yX9_dismiss ∈ TS := ts_t 1160 (by decide +kernel) (by decide +kernel)
theorem q_1161 : Cond.selects yX9_dismiss.cls yX9_dismiss yX9_dismiss ∈ TS := ts_t 1161 (by decide +kernel) (by decide +kernel)
theorem k_L_110P : LkV RL 110 m_X9_dismissP 1 := ⟨q_1159, q_1160, q_1161, ⟨q_1, q_1162, by decide, by decide, by decide +kernel⟩⟩
set_option maxHeartbeats 4000000 in
theorem c_L_dismiss (l : Launch) (g : GT) (hx hout : Nat) (fs : List Value) (wt wsx : va_W) (ws' : (Nat → Nat) → va_W) (fo : Nat → Int64) (p1 : Int32) (x : Nat) (r : Int32) (kk mc ms : Nat) (hM : ∀ sz, YI l m_X9_dismissP (rml kk mc ms) g ((hx, .inr (9, fs)) :: wt) ws' wsx sz [.ref hx, .int p1] x r) (hxs : x = 0 ∨ x = 2 ∨ x = 3) (sz : Nat) : KI l m_L_dismiss [(0, 9, 12, 32), (0, 9, 15, 95)] (rml (kk + 1) mc ms) g ((hx, .inr (9, fs)) :: wt ++ [(hout, aJ g 1 fo)]) (fun u => if x = 0 then ws' u ++ [(hout, aJ g 1 (vp_updL fo 0 r.toInt64))] else wsx ++ [(hout, aJ g 1 fo)]) sz [.ref hx, .int p1, .ref hout] (kc [2, 3] x) := by
  refine ek_i (by decide) (Nat.le_of_ble_eq_true rfl) (fun p e s m args below meth c A ls ht C w hl => ?_)
  have C : Cx p s m args meth c RL m_L_dismiss g A := C
  have hx9 := C.1
  have hb : c.code = cL_dismiss := C.2.1
  have hl : lv_has ls 4 [(0, .ref hx), (1, .int p1), (2, .ref hout)] := hl
  refine lv_aload_n hx9 hb dL_dismiss_0 rfl (lv_at hl 2 rfl) ?_
  refine lv_iconst (v := 0) hx9 hb dL_dismiss_1 (by decide) ?_
  refine lv_aload_n hx9 hb dL_dismiss_2 rfl (lv_at hl 0 rfl) ?_
  refine lv_iload_n hx9 hb dL_dismiss_3 rfl (lv_at hl 1 rfl) ?_
  refine cy_iV C w (wn := fun u => ws' u ++ [(hout, aJ g 1 fo)]) (wnx := wsx ++ [(hout, aJ g 1 fo)]) pm_last pm_last (hM _) k_L_110P (rm_le (Nat.le_refl _) (by decide)) 0 9 rfl rfl rfl rfl hl.1 rfl (Nat.le_of_ble_eq_true rfl) dL_dismiss_4 ⟨Nat.le_of_eq (Nat.zero_add _), Nat.le_of_eq (Nat.zero_add _)⟩ (cells2 := mc) (slots2 := ms) ⟨Nat.zero_add _, Nat.zero_add _⟩ (fun n1 H locs w q9 ce h1 h2 h3 => ?_) (fun n1 u H locs w => ?_)
  · rcases hxs with h0 | rfl | rfl
    · exact absurd h0 n1
    · refine vx_catch (E := exN 2) (ce := ce) (name := exN 2) C.2.2.2.1 [] ⟨0, 9, 12, 32⟩ [⟨0, 9, 15, 95⟩] (by rw [ht]; rfl) (fun z hz => by cases hz) (by decide) (by decide) (C.2.2.2.2.1 _ q_842) (va_Nw.use rfl (C.2.2.2.2.2.2.2.1.1 _ (nw_t (w := Cond.castable (exN 2) (exN 2)) 853 (by decide +kernel) rfl))) h1 h2 h3 ?_
      refine lv_astore_n (lv' := [(3, .ref q9), (0, .ref hx), (1, .int p1), (2, .ref hout)]) hx9 hb dL_dismiss_12 rfl hl (by decide) rfl (fun ls hl => ?_)
      refine lv_iconst (v := 1) hx9 hb dL_dismiss_13 (by decide) ?_
      exact rt_i C w rfl (fun _ => 0) (by rw [if_neg n1]) (by decide) dL_dismiss_14
    · refine vx_catch (E := exN 3) (ce := ce) (name := exN 3) C.2.2.2.1 [⟨0, 9, 12, 32⟩] ⟨0, 9, 15, 95⟩ [] (by rw [ht]; rfl) (fun z hz => by rcases List.mem_singleton.mp hz with rfl; exact Or.inr ⟨by decide, exN 2, C.2.2.2.2.1 _ q_842, C.2.2.2.2.2.2.2.1.2.2.2.2.2.2.2.2 (exN 3, exN 2) (List.mem_of_getElem? (i := 2) rfl)⟩) (by decide) (by decide) (C.2.2.2.2.1 _ q_1061) (va_Nw.use rfl (C.2.2.2.2.2.2.2.1.1 _ (nw_t (w := Cond.castable (exN 3) (exN 3)) 1084 (by decide +kernel) rfl))) h1 h2 h3 ?_
      refine lv_astore_n (lv' := [(3, .ref q9), (0, .ref hx), (1, .int p1), (2, .ref hout)]) hx9 hb dL_dismiss_15 rfl hl (by decide) rfl (fun ls hl => ?_)
      refine lv_iconst (v := 2) hx9 hb dL_dismiss_16 (by decide) ?_
      exact rt_i C w rfl (fun _ => 0) (by rw [if_neg n1]) (by decide) dL_dismiss_17
  · refine lv_i2l (v := r.toInt64) hx9 hb dL_dismiss_7 rfl ?_
    refine las_last C w dL_dismiss_8 (fun H locs w => ?_)
    refine lv_goto (tgt := 18) hx9 hb dL_dismiss_9 (by decide) ?_
    refine lv_iconst (v := 0) hx9 hb dL_dismiss_18 (by decide) ?_
    exact rt_i C w rfl u (by rw [if_pos n1]) (by rw [n1]; rfl) dL_dismiss_19

theorem dL_bill_0 : decode cL_bill 0 = .ok (.aload_n 2, 1) := by decide +kernel
theorem dL_bill_1 : decode cL_bill 1 = .ok (.iconst 0, 1) := by decide +kernel
theorem dL_bill_2 : decode cL_bill 2 = .ok (.aload_n 0, 1) := by decide +kernel
theorem dL_bill_3 : decode cL_bill 3 = .ok (.iload_n 1, 1) := by decide +kernel
theorem dL_bill_4 : decode cL_bill 4 = .ok (.invokevirtual 113, 3) := by decide +kernel
theorem dL_bill_7 : decode cL_bill 7 = .ok (.i2l, 1) := by decide +kernel
theorem dL_bill_8 : decode cL_bill 8 = .ok (.lastore, 1) := by decide +kernel
theorem dL_bill_9 : decode cL_bill 9 = .ok (.goto 9, 3) := by decide +kernel
theorem dL_bill_12 : decode cL_bill 12 = .ok (.astore_n 3, 1) := by decide +kernel
theorem dL_bill_13 : decode cL_bill 13 = .ok (.iconst 1, 1) := by decide +kernel
theorem dL_bill_14 : decode cL_bill 14 = .ok (.ireturn, 1) := by decide +kernel
theorem dL_bill_15 : decode cL_bill 15 = .ok (.astore_n 3, 1) := by decide +kernel
theorem dL_bill_16 : decode cL_bill 16 = .ok (.iconst 2, 1) := by decide +kernel
theorem dL_bill_17 : decode cL_bill 17 = .ok (.ireturn, 1) := by decide +kernel
theorem dL_bill_18 : decode cL_bill 18 = .ok (.iconst 0, 1) := by decide +kernel
theorem dL_bill_19 : decode cL_bill 19 = .ok (.ireturn, 1) := by decide +kernel
abbrev m_L_bill : MD := (yL_bill, cL_bill, 4, (some .int))
theorem q_1169 : Cond.code yX9_bill cX9_bill 2 (some .int) ∈ TS := ts_t 1169 (by decide +kernel) (by decide +kernel)
theorem q_1166 : Cond.methodLink RL 113 yX9_bill ∈ TS := ts_t 1166 (by decide +kernel) (by decide +kernel)
theorem q_1167 : Cond.instanceMethod yX9_bill ∈ TS := ts_t 1167 (by decide +kernel) (by decide +kernel)
theorem q_1168 : Cond.selects yX9_bill.cls yX9_bill yX9_bill ∈ TS := ts_t 1168 (by decide +kernel) (by decide +kernel)
theorem k_L_113P : LkV RL 113 m_X9_billP 1 := ⟨q_1166, q_1167, q_1168, ⟨q_1, q_1169, by decide, by decide, by decide +kernel⟩⟩
set_option maxHeartbeats 4000000 in
theorem c_L_bill (l : Launch) (g : GT) (hx hout : Nat) (fs : List Value) (wt wsx : va_W) (ws' : (Nat → Nat) → va_W) (fo : Nat → Int64) (p1 : Int32) (x : Nat) (r : Int32) (kk mc ms : Nat) (hM : ∀ sz, YI l m_X9_billP (rml kk mc ms) g ((hx, .inr (9, fs)) :: wt) ws' wsx sz [.ref hx, .int p1] x r) (hxs : x = 0 ∨ x = 1 ∨ x = 3) (sz : Nat) : KI l m_L_bill [(0, 9, 12, 13), (0, 9, 15, 95)] (rml (kk + 1) mc ms) g ((hx, .inr (9, fs)) :: wt ++ [(hout, aJ g 1 fo)]) (fun u => if x = 0 then ws' u ++ [(hout, aJ g 1 (vp_updL fo 0 r.toInt64))] else wsx ++ [(hout, aJ g 1 fo)]) sz [.ref hx, .int p1, .ref hout] (kc [1, 3] x) := by
  refine ek_i (by decide) (Nat.le_of_ble_eq_true rfl) (fun p e s m args below meth c A ls ht C w hl => ?_)
  have C : Cx p s m args meth c RL m_L_bill g A := C
  have hx9 := C.1
  have hb : c.code = cL_bill := C.2.1
  have hl : lv_has ls 4 [(0, .ref hx), (1, .int p1), (2, .ref hout)] := hl
  refine lv_aload_n hx9 hb dL_bill_0 rfl (lv_at hl 2 rfl) ?_
  refine lv_iconst (v := 0) hx9 hb dL_bill_1 (by decide) ?_
  refine lv_aload_n hx9 hb dL_bill_2 rfl (lv_at hl 0 rfl) ?_
  refine lv_iload_n hx9 hb dL_bill_3 rfl (lv_at hl 1 rfl) ?_
  refine cy_iV C w (wn := fun u => ws' u ++ [(hout, aJ g 1 fo)]) (wnx := wsx ++ [(hout, aJ g 1 fo)]) pm_last pm_last (hM _) k_L_113P (rm_le (Nat.le_refl _) (by decide)) 0 9 rfl rfl rfl rfl hl.1 rfl (Nat.le_of_ble_eq_true rfl) dL_bill_4 ⟨Nat.le_of_eq (Nat.zero_add _), Nat.le_of_eq (Nat.zero_add _)⟩ (cells2 := mc) (slots2 := ms) ⟨Nat.zero_add _, Nat.zero_add _⟩ (fun n1 H locs w q9 ce h1 h2 h3 => ?_) (fun n1 u H locs w => ?_)
  · rcases hxs with h0 | rfl | rfl
    · exact absurd h0 n1
    · refine vx_catch (E := exN 1) (ce := ce) (name := exN 1) C.2.2.2.1 [] ⟨0, 9, 12, 13⟩ [⟨0, 9, 15, 95⟩] (by rw [ht]; rfl) (fun z hz => by cases hz) (by decide) (by decide) (C.2.2.2.2.1 _ q_525) (va_Nw.use rfl (C.2.2.2.2.2.2.2.1.1 _ (nw_t (w := Cond.castable (exN 1) (exN 1)) 532 (by decide +kernel) rfl))) h1 h2 h3 ?_
      refine lv_astore_n (lv' := [(3, .ref q9), (0, .ref hx), (1, .int p1), (2, .ref hout)]) hx9 hb dL_bill_12 rfl hl (by decide) rfl (fun ls hl => ?_)
      refine lv_iconst (v := 1) hx9 hb dL_bill_13 (by decide) ?_
      exact rt_i C w rfl (fun _ => 0) (by rw [if_neg n1]) (by decide) dL_bill_14
    · refine vx_catch (E := exN 3) (ce := ce) (name := exN 3) C.2.2.2.1 [⟨0, 9, 12, 13⟩] ⟨0, 9, 15, 95⟩ [] (by rw [ht]; rfl) (fun z hz => by rcases List.mem_singleton.mp hz with rfl; exact Or.inr ⟨by decide, exN 1, C.2.2.2.2.1 _ q_525, C.2.2.2.2.2.2.2.1.2.2.2.2.2.2.2.2 (exN 3, exN 1) (List.mem_of_getElem? (i := 0) rfl)⟩) (by decide) (by decide) (C.2.2.2.2.1 _ q_1061) (va_Nw.use rfl (C.2.2.2.2.2.2.2.1.1 _ (nw_t (w := Cond.castable (exN 3) (exN 3)) 1084 (by decide +kernel) rfl))) h1 h2 h3 ?_
      refine lv_astore_n (lv' := [(3, .ref q9), (0, .ref hx), (1, .int p1), (2, .ref hout)]) hx9 hb dL_bill_15 rfl hl (by decide) rfl (fun ls hl => ?_)
      refine lv_iconst (v := 2) hx9 hb dL_bill_16 (by decide) ?_
      exact rt_i C w rfl (fun _ => 0) (by rw [if_neg n1]) (by decide) dL_bill_17
  · refine lv_i2l (v := r.toInt64) hx9 hb dL_bill_7 rfl ?_
    refine las_last C w dL_bill_8 (fun H locs w => ?_)
    refine lv_goto (tgt := 18) hx9 hb dL_bill_9 (by decide) ?_
    refine lv_iconst (v := 0) hx9 hb dL_bill_18 (by decide) ?_
    exact rt_i C w rfl u (by rw [if_pos n1]) (by rw [n1]; rfl) dL_bill_19

theorem dL_pay_0 : decode cL_pay 0 = .ok (.aload_n 3, 1) := by decide +kernel
theorem dL_pay_1 : decode cL_pay 1 = .ok (.iconst 0, 1) := by decide +kernel
theorem dL_pay_2 : decode cL_pay 2 = .ok (.aload_n 0, 1) := by decide +kernel
theorem dL_pay_3 : decode cL_pay 3 = .ok (.iload_n 1, 1) := by decide +kernel
theorem dL_pay_4 : decode cL_pay 4 = .ok (.iload_n 2, 1) := by decide +kernel
theorem dL_pay_5 : decode cL_pay 5 = .ok (.invokevirtual 116, 3) := by decide +kernel
theorem dL_pay_8 : decode cL_pay 8 = .ok (.i2l, 1) := by decide +kernel
theorem dL_pay_9 : decode cL_pay 9 = .ok (.lastore, 1) := by decide +kernel
theorem dL_pay_10 : decode cL_pay 10 = .ok (.goto 11, 3) := by decide +kernel
theorem dL_pay_13 : decode cL_pay 13 = .ok (.astore 4, 2) := by decide +kernel
theorem dL_pay_15 : decode cL_pay 15 = .ok (.iconst 1, 1) := by decide +kernel
theorem dL_pay_16 : decode cL_pay 16 = .ok (.ireturn, 1) := by decide +kernel
theorem dL_pay_17 : decode cL_pay 17 = .ok (.astore 4, 2) := by decide +kernel
theorem dL_pay_19 : decode cL_pay 19 = .ok (.iconst 2, 1) := by decide +kernel
theorem dL_pay_20 : decode cL_pay 20 = .ok (.ireturn, 1) := by decide +kernel
theorem dL_pay_21 : decode cL_pay 21 = .ok (.iconst 0, 1) := by decide +kernel
theorem dL_pay_22 : decode cL_pay 22 = .ok (.ireturn, 1) := by decide +kernel
abbrev m_L_pay : MD := (yL_pay, cL_pay, 5, (some .int))
theorem q_1189 : Cond.code yX9_pay cX9_pay 3 (some .int) ∈ TS := ts_t 1189 (by decide +kernel) (by decide +kernel)
theorem q_1186 : Cond.methodLink RL 116 yX9_pay ∈ TS := ts_t 1186 (by decide +kernel) (by decide +kernel)
theorem q_1187 : Cond.instanceMethod yX9_pay ∈ TS := ts_t 1187 (by decide +kernel) (by decide +kernel)
theorem q_1188 : Cond.selects yX9_pay.cls yX9_pay yX9_pay ∈ TS := ts_t 1188 (by decide +kernel) (by decide +kernel)
theorem k_L_116P : LkV RL 116 m_X9_payP 2 := ⟨q_1186, q_1187, q_1188, ⟨q_1, q_1189, by decide, by decide, by decide +kernel⟩⟩
set_option maxHeartbeats 4000000 in
theorem c_L_pay (l : Launch) (g : GT) (hx hout : Nat) (fs : List Value) (wt wsx : va_W) (ws' : (Nat → Nat) → va_W) (fo : Nat → Int64) (p1 p2 : Int32) (x : Nat) (r : Int32) (kk mc ms : Nat) (hM : ∀ sz, YI l m_X9_payP (rml kk mc ms) g ((hx, .inr (9, fs)) :: wt) ws' wsx sz [.ref hx, .int p1, .int p2] x r) (hxs : x = 0 ∨ x = 2 ∨ x = 1) (sz : Nat) : KI l m_L_pay [(0, 10, 13, 32), (0, 10, 17, 13)] (rml (kk + 1) mc ms) g ((hx, .inr (9, fs)) :: wt ++ [(hout, aJ g 1 fo)]) (fun u => if x = 0 then ws' u ++ [(hout, aJ g 1 (vp_updL fo 0 r.toInt64))] else wsx ++ [(hout, aJ g 1 fo)]) sz [.ref hx, .int p1, .int p2, .ref hout] (kc [2, 1] x) := by
  refine ek_i (by decide) (Nat.le_of_ble_eq_true rfl) (fun p e s m args below meth c A ls ht C w hl => ?_)
  have C : Cx p s m args meth c RL m_L_pay g A := C
  have hx9 := C.1
  have hb : c.code = cL_pay := C.2.1
  have hl : lv_has ls 5 [(0, .ref hx), (1, .int p1), (2, .int p2), (3, .ref hout)] := hl
  refine lv_aload_n hx9 hb dL_pay_0 rfl (lv_at hl 3 rfl) ?_
  refine lv_iconst (v := 0) hx9 hb dL_pay_1 (by decide) ?_
  refine lv_aload_n hx9 hb dL_pay_2 rfl (lv_at hl 0 rfl) ?_
  refine lv_iload_n hx9 hb dL_pay_3 rfl (lv_at hl 1 rfl) ?_
  refine lv_iload_n hx9 hb dL_pay_4 rfl (lv_at hl 2 rfl) ?_
  refine cy_iV C w (wn := fun u => ws' u ++ [(hout, aJ g 1 fo)]) (wnx := wsx ++ [(hout, aJ g 1 fo)]) pm_last pm_last (hM _) k_L_116P (rm_le (Nat.le_refl _) (by decide)) 0 9 rfl rfl rfl rfl hl.1 rfl (Nat.le_of_ble_eq_true rfl) dL_pay_5 ⟨Nat.le_of_eq (Nat.zero_add _), Nat.le_of_eq (Nat.zero_add _)⟩ (cells2 := mc) (slots2 := ms) ⟨Nat.zero_add _, Nat.zero_add _⟩ (fun n1 H locs w q9 ce h1 h2 h3 => ?_) (fun n1 u H locs w => ?_)
  · rcases hxs with h0 | rfl | rfl
    · exact absurd h0 n1
    · refine vx_catch (E := exN 2) (ce := ce) (name := exN 2) C.2.2.2.1 [] ⟨0, 10, 13, 32⟩ [⟨0, 10, 17, 13⟩] (by rw [ht]; rfl) (fun z hz => by cases hz) (by decide) (by decide) (C.2.2.2.2.1 _ q_842) (va_Nw.use rfl (C.2.2.2.2.2.2.2.1.1 _ (nw_t (w := Cond.castable (exN 2) (exN 2)) 853 (by decide +kernel) rfl))) h1 h2 h3 ?_
      refine lv_astore (lv' := [(4, .ref q9), (0, .ref hx), (1, .int p1), (2, .int p2), (3, .ref hout)]) hx9 hb dL_pay_13 hl (by decide) rfl (fun ls hl => ?_)
      refine lv_iconst (v := 1) hx9 hb dL_pay_15 (by decide) ?_
      exact rt_i C w rfl (fun _ => 0) (by rw [if_neg n1]) (by decide) dL_pay_16
    · refine vx_catch (E := exN 1) (ce := ce) (name := exN 1) C.2.2.2.1 [⟨0, 10, 13, 32⟩] ⟨0, 10, 17, 13⟩ [] (by rw [ht]; rfl) (fun z hz => by rcases List.mem_singleton.mp hz with rfl; exact Or.inr ⟨by decide, exN 2, C.2.2.2.2.1 _ q_842, C.2.2.2.2.2.2.2.1.2.2.2.2.2.2.2.2 (exN 1, exN 2) (List.mem_of_getElem? (i := 1) rfl)⟩) (by decide) (by decide) (C.2.2.2.2.1 _ q_525) (va_Nw.use rfl (C.2.2.2.2.2.2.2.1.1 _ (nw_t (w := Cond.castable (exN 1) (exN 1)) 532 (by decide +kernel) rfl))) h1 h2 h3 ?_
      refine lv_astore (lv' := [(4, .ref q9), (0, .ref hx), (1, .int p1), (2, .int p2), (3, .ref hout)]) hx9 hb dL_pay_17 hl (by decide) rfl (fun ls hl => ?_)
      refine lv_iconst (v := 2) hx9 hb dL_pay_19 (by decide) ?_
      exact rt_i C w rfl (fun _ => 0) (by rw [if_neg n1]) (by decide) dL_pay_20
  · refine lv_i2l (v := r.toInt64) hx9 hb dL_pay_8 rfl ?_
    refine las_last C w dL_pay_9 (fun H locs w => ?_)
    refine lv_goto (tgt := 21) hx9 hb dL_pay_10 (by decide) ?_
    refine lv_iconst (v := 0) hx9 hb dL_pay_21 (by decide) ?_
    exact rt_i C w rfl u (by rw [if_pos n1]) (by rw [n1]; rfl) dL_pay_22

theorem dL_dispute_0 : decode cL_dispute 0 = .ok (.aload_n 2, 1) := by decide +kernel
theorem dL_dispute_1 : decode cL_dispute 1 = .ok (.iconst 0, 1) := by decide +kernel
theorem dL_dispute_2 : decode cL_dispute 2 = .ok (.aload_n 0, 1) := by decide +kernel
theorem dL_dispute_3 : decode cL_dispute 3 = .ok (.iload_n 1, 1) := by decide +kernel
theorem dL_dispute_4 : decode cL_dispute 4 = .ok (.invokevirtual 119, 3) := by decide +kernel
theorem dL_dispute_7 : decode cL_dispute 7 = .ok (.i2l, 1) := by decide +kernel
theorem dL_dispute_8 : decode cL_dispute 8 = .ok (.lastore, 1) := by decide +kernel
theorem dL_dispute_9 : decode cL_dispute 9 = .ok (.goto 9, 3) := by decide +kernel
theorem dL_dispute_12 : decode cL_dispute 12 = .ok (.astore_n 3, 1) := by decide +kernel
theorem dL_dispute_13 : decode cL_dispute 13 = .ok (.iconst 1, 1) := by decide +kernel
theorem dL_dispute_14 : decode cL_dispute 14 = .ok (.ireturn, 1) := by decide +kernel
theorem dL_dispute_15 : decode cL_dispute 15 = .ok (.astore_n 3, 1) := by decide +kernel
theorem dL_dispute_16 : decode cL_dispute 16 = .ok (.iconst 2, 1) := by decide +kernel
theorem dL_dispute_17 : decode cL_dispute 17 = .ok (.ireturn, 1) := by decide +kernel
theorem dL_dispute_18 : decode cL_dispute 18 = .ok (.iconst 0, 1) := by decide +kernel
theorem dL_dispute_19 : decode cL_dispute 19 = .ok (.ireturn, 1) := by decide +kernel
abbrev m_L_dispute : MD := (yL_dispute, cL_dispute, 4, (some .int))
theorem q_1198 : Cond.code yX9_dispute cX9_dispute 2 (some .int) ∈ TS := ts_t 1198 (by decide +kernel) (by decide +kernel)
theorem q_1195 : Cond.methodLink RL 119 yX9_dispute ∈ TS := ts_t 1195 (by decide +kernel) (by decide +kernel)
theorem q_1196 : Cond.instanceMethod yX9_dispute ∈ TS := ts_t 1196 (by decide +kernel) (by decide +kernel)
theorem q_1197 : Cond.selects yX9_dispute.cls yX9_dispute yX9_dispute ∈ TS := ts_t 1197 (by decide +kernel) (by decide +kernel)
theorem k_L_119P : LkV RL 119 m_X9_disputeP 1 := ⟨q_1195, q_1196, q_1197, ⟨q_1, q_1198, by decide, by decide, by decide +kernel⟩⟩
set_option maxHeartbeats 4000000 in
theorem c_L_dispute (l : Launch) (g : GT) (hx hout : Nat) (fs : List Value) (wt wsx : va_W) (ws' : (Nat → Nat) → va_W) (fo : Nat → Int64) (p1 : Int32) (x : Nat) (r : Int32) (kk mc ms : Nat) (hM : ∀ sz, YI l m_X9_disputeP (rml kk mc ms) g ((hx, .inr (9, fs)) :: wt) ws' wsx sz [.ref hx, .int p1] x r) (hxs : x = 0 ∨ x = 2 ∨ x = 3) (sz : Nat) : KI l m_L_dispute [(0, 9, 12, 32), (0, 9, 15, 95)] (rml (kk + 1) mc ms) g ((hx, .inr (9, fs)) :: wt ++ [(hout, aJ g 1 fo)]) (fun u => if x = 0 then ws' u ++ [(hout, aJ g 1 (vp_updL fo 0 r.toInt64))] else wsx ++ [(hout, aJ g 1 fo)]) sz [.ref hx, .int p1, .ref hout] (kc [2, 3] x) := by
  refine ek_i (by decide) (Nat.le_of_ble_eq_true rfl) (fun p e s m args below meth c A ls ht C w hl => ?_)
  have C : Cx p s m args meth c RL m_L_dispute g A := C
  have hx9 := C.1
  have hb : c.code = cL_dispute := C.2.1
  have hl : lv_has ls 4 [(0, .ref hx), (1, .int p1), (2, .ref hout)] := hl
  refine lv_aload_n hx9 hb dL_dispute_0 rfl (lv_at hl 2 rfl) ?_
  refine lv_iconst (v := 0) hx9 hb dL_dispute_1 (by decide) ?_
  refine lv_aload_n hx9 hb dL_dispute_2 rfl (lv_at hl 0 rfl) ?_
  refine lv_iload_n hx9 hb dL_dispute_3 rfl (lv_at hl 1 rfl) ?_
  refine cy_iV C w (wn := fun u => ws' u ++ [(hout, aJ g 1 fo)]) (wnx := wsx ++ [(hout, aJ g 1 fo)]) pm_last pm_last (hM _) k_L_119P (rm_le (Nat.le_refl _) (by decide)) 0 9 rfl rfl rfl rfl hl.1 rfl (Nat.le_of_ble_eq_true rfl) dL_dispute_4 ⟨Nat.le_of_eq (Nat.zero_add _), Nat.le_of_eq (Nat.zero_add _)⟩ (cells2 := mc) (slots2 := ms) ⟨Nat.zero_add _, Nat.zero_add _⟩ (fun n1 H locs w q9 ce h1 h2 h3 => ?_) (fun n1 u H locs w => ?_)
  · rcases hxs with h0 | rfl | rfl
    · exact absurd h0 n1
    · refine vx_catch (E := exN 2) (ce := ce) (name := exN 2) C.2.2.2.1 [] ⟨0, 9, 12, 32⟩ [⟨0, 9, 15, 95⟩] (by rw [ht]; rfl) (fun z hz => by cases hz) (by decide) (by decide) (C.2.2.2.2.1 _ q_842) (va_Nw.use rfl (C.2.2.2.2.2.2.2.1.1 _ (nw_t (w := Cond.castable (exN 2) (exN 2)) 853 (by decide +kernel) rfl))) h1 h2 h3 ?_
      refine lv_astore_n (lv' := [(3, .ref q9), (0, .ref hx), (1, .int p1), (2, .ref hout)]) hx9 hb dL_dispute_12 rfl hl (by decide) rfl (fun ls hl => ?_)
      refine lv_iconst (v := 1) hx9 hb dL_dispute_13 (by decide) ?_
      exact rt_i C w rfl (fun _ => 0) (by rw [if_neg n1]) (by decide) dL_dispute_14
    · refine vx_catch (E := exN 3) (ce := ce) (name := exN 3) C.2.2.2.1 [⟨0, 9, 12, 32⟩] ⟨0, 9, 15, 95⟩ [] (by rw [ht]; rfl) (fun z hz => by rcases List.mem_singleton.mp hz with rfl; exact Or.inr ⟨by decide, exN 2, C.2.2.2.2.1 _ q_842, C.2.2.2.2.2.2.2.1.2.2.2.2.2.2.2.2 (exN 3, exN 2) (List.mem_of_getElem? (i := 2) rfl)⟩) (by decide) (by decide) (C.2.2.2.2.1 _ q_1061) (va_Nw.use rfl (C.2.2.2.2.2.2.2.1.1 _ (nw_t (w := Cond.castable (exN 3) (exN 3)) 1084 (by decide +kernel) rfl))) h1 h2 h3 ?_
      refine lv_astore_n (lv' := [(3, .ref q9), (0, .ref hx), (1, .int p1), (2, .ref hout)]) hx9 hb dL_dispute_15 rfl hl (by decide) rfl (fun ls hl => ?_)
      refine lv_iconst (v := 2) hx9 hb dL_dispute_16 (by decide) ?_
      exact rt_i C w rfl (fun _ => 0) (by rw [if_neg n1]) (by decide) dL_dispute_17
  · refine lv_i2l (v := r.toInt64) hx9 hb dL_dispute_7 rfl ?_
    refine las_last C w dL_dispute_8 (fun H locs w => ?_)
    refine lv_goto (tgt := 18) hx9 hb dL_dispute_9 (by decide) ?_
    refine lv_iconst (v := 0) hx9 hb dL_dispute_18 (by decide) ?_
    exact rt_i C w rfl u (by rw [if_pos n1]) (by rw [n1]; rfl) dL_dispute_19

theorem dL_resolve_0 : decode cL_resolve 0 = .ok (.aload_n 3, 1) := by decide +kernel
theorem dL_resolve_1 : decode cL_resolve 1 = .ok (.iconst 0, 1) := by decide +kernel
theorem dL_resolve_2 : decode cL_resolve 2 = .ok (.aload_n 0, 1) := by decide +kernel
theorem dL_resolve_3 : decode cL_resolve 3 = .ok (.iload_n 1, 1) := by decide +kernel
theorem dL_resolve_4 : decode cL_resolve 4 = .ok (.iload_n 2, 1) := by decide +kernel
theorem dL_resolve_5 : decode cL_resolve 5 = .ok (.invokevirtual 122, 3) := by decide +kernel
theorem dL_resolve_8 : decode cL_resolve 8 = .ok (.i2l, 1) := by decide +kernel
theorem dL_resolve_9 : decode cL_resolve 9 = .ok (.lastore, 1) := by decide +kernel
theorem dL_resolve_10 : decode cL_resolve 10 = .ok (.goto 11, 3) := by decide +kernel
theorem dL_resolve_13 : decode cL_resolve 13 = .ok (.astore 4, 2) := by decide +kernel
theorem dL_resolve_15 : decode cL_resolve 15 = .ok (.iconst 1, 1) := by decide +kernel
theorem dL_resolve_16 : decode cL_resolve 16 = .ok (.ireturn, 1) := by decide +kernel
theorem dL_resolve_17 : decode cL_resolve 17 = .ok (.astore 4, 2) := by decide +kernel
theorem dL_resolve_19 : decode cL_resolve 19 = .ok (.iconst 2, 1) := by decide +kernel
theorem dL_resolve_20 : decode cL_resolve 20 = .ok (.ireturn, 1) := by decide +kernel
theorem dL_resolve_21 : decode cL_resolve 21 = .ok (.iconst 0, 1) := by decide +kernel
theorem dL_resolve_22 : decode cL_resolve 22 = .ok (.ireturn, 1) := by decide +kernel
abbrev m_L_resolve : MD := (yL_resolve, cL_resolve, 5, (some .int))
theorem q_1210 : Cond.code yX9_resolve cX9_resolve 3 (some .int) ∈ TS := ts_t 1210 (by decide +kernel) (by decide +kernel)
theorem q_1207 : Cond.methodLink RL 122 yX9_resolve ∈ TS := ts_t 1207 (by decide +kernel) (by decide +kernel)
theorem q_1208 : Cond.instanceMethod yX9_resolve ∈ TS := ts_t 1208 (by decide +kernel) (by decide +kernel)
theorem q_1209 : Cond.selects yX9_resolve.cls yX9_resolve yX9_resolve ∈ TS := ts_t 1209 (by decide +kernel) (by decide +kernel)
theorem k_L_122P : LkV RL 122 m_X9_resolveP 2 := ⟨q_1207, q_1208, q_1209, ⟨q_1, q_1210, by decide, by decide, by decide +kernel⟩⟩
set_option maxHeartbeats 4000000 in
theorem c_L_resolve (l : Launch) (g : GT) (hx hout : Nat) (fs : List Value) (wt wsx : va_W) (ws' : (Nat → Nat) → va_W) (fo : Nat → Int64) (p1 p2 : Int32) (x : Nat) (r : Int32) (kk mc ms : Nat) (hM : ∀ sz, YI l m_X9_resolveP (rml kk mc ms) g ((hx, .inr (9, fs)) :: wt) ws' wsx sz [.ref hx, .int p1, .int p2] x r) (hxs : x = 0 ∨ x = 2 ∨ x = 3) (sz : Nat) : KI l m_L_resolve [(0, 10, 13, 32), (0, 10, 17, 95)] (rml (kk + 1) mc ms) g ((hx, .inr (9, fs)) :: wt ++ [(hout, aJ g 1 fo)]) (fun u => if x = 0 then ws' u ++ [(hout, aJ g 1 (vp_updL fo 0 r.toInt64))] else wsx ++ [(hout, aJ g 1 fo)]) sz [.ref hx, .int p1, .int p2, .ref hout] (kc [2, 3] x) := by
  refine ek_i (by decide) (Nat.le_of_ble_eq_true rfl) (fun p e s m args below meth c A ls ht C w hl => ?_)
  have C : Cx p s m args meth c RL m_L_resolve g A := C
  have hx9 := C.1
  have hb : c.code = cL_resolve := C.2.1
  have hl : lv_has ls 5 [(0, .ref hx), (1, .int p1), (2, .int p2), (3, .ref hout)] := hl
  refine lv_aload_n hx9 hb dL_resolve_0 rfl (lv_at hl 3 rfl) ?_
  refine lv_iconst (v := 0) hx9 hb dL_resolve_1 (by decide) ?_
  refine lv_aload_n hx9 hb dL_resolve_2 rfl (lv_at hl 0 rfl) ?_
  refine lv_iload_n hx9 hb dL_resolve_3 rfl (lv_at hl 1 rfl) ?_
  refine lv_iload_n hx9 hb dL_resolve_4 rfl (lv_at hl 2 rfl) ?_
  refine cy_iV C w (wn := fun u => ws' u ++ [(hout, aJ g 1 fo)]) (wnx := wsx ++ [(hout, aJ g 1 fo)]) pm_last pm_last (hM _) k_L_122P (rm_le (Nat.le_refl _) (by decide)) 0 9 rfl rfl rfl rfl hl.1 rfl (Nat.le_of_ble_eq_true rfl) dL_resolve_5 ⟨Nat.le_of_eq (Nat.zero_add _), Nat.le_of_eq (Nat.zero_add _)⟩ (cells2 := mc) (slots2 := ms) ⟨Nat.zero_add _, Nat.zero_add _⟩ (fun n1 H locs w q9 ce h1 h2 h3 => ?_) (fun n1 u H locs w => ?_)
  · rcases hxs with h0 | rfl | rfl
    · exact absurd h0 n1
    · refine vx_catch (E := exN 2) (ce := ce) (name := exN 2) C.2.2.2.1 [] ⟨0, 10, 13, 32⟩ [⟨0, 10, 17, 95⟩] (by rw [ht]; rfl) (fun z hz => by cases hz) (by decide) (by decide) (C.2.2.2.2.1 _ q_842) (va_Nw.use rfl (C.2.2.2.2.2.2.2.1.1 _ (nw_t (w := Cond.castable (exN 2) (exN 2)) 853 (by decide +kernel) rfl))) h1 h2 h3 ?_
      refine lv_astore (lv' := [(4, .ref q9), (0, .ref hx), (1, .int p1), (2, .int p2), (3, .ref hout)]) hx9 hb dL_resolve_13 hl (by decide) rfl (fun ls hl => ?_)
      refine lv_iconst (v := 1) hx9 hb dL_resolve_15 (by decide) ?_
      exact rt_i C w rfl (fun _ => 0) (by rw [if_neg n1]) (by decide) dL_resolve_16
    · refine vx_catch (E := exN 3) (ce := ce) (name := exN 3) C.2.2.2.1 [⟨0, 10, 13, 32⟩] ⟨0, 10, 17, 95⟩ [] (by rw [ht]; rfl) (fun z hz => by rcases List.mem_singleton.mp hz with rfl; exact Or.inr ⟨by decide, exN 2, C.2.2.2.2.1 _ q_842, C.2.2.2.2.2.2.2.1.2.2.2.2.2.2.2.2 (exN 3, exN 2) (List.mem_of_getElem? (i := 2) rfl)⟩) (by decide) (by decide) (C.2.2.2.2.1 _ q_1061) (va_Nw.use rfl (C.2.2.2.2.2.2.2.1.1 _ (nw_t (w := Cond.castable (exN 3) (exN 3)) 1084 (by decide +kernel) rfl))) h1 h2 h3 ?_
      refine lv_astore (lv' := [(4, .ref q9), (0, .ref hx), (1, .int p1), (2, .int p2), (3, .ref hout)]) hx9 hb dL_resolve_17 hl (by decide) rfl (fun ls hl => ?_)
      refine lv_iconst (v := 2) hx9 hb dL_resolve_19 (by decide) ?_
      exact rt_i C w rfl (fun _ => 0) (by rw [if_neg n1]) (by decide) dL_resolve_20
  · refine lv_i2l (v := r.toInt64) hx9 hb dL_resolve_8 rfl ?_
    refine las_last C w dL_resolve_9 (fun H locs w => ?_)
    refine lv_goto (tgt := 21) hx9 hb dL_resolve_10 (by decide) ?_
    refine lv_iconst (v := 0) hx9 hb dL_resolve_21 (by decide) ?_
    exact rt_i C w rfl u (by rw [if_pos n1]) (by rw [n1]; rfl) dL_resolve_22
