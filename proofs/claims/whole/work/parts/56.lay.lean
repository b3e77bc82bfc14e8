/-! the routes of the reference: from the start -/
section
variable {G L F : Nat} {M P : Nat → Nat → Nat} {lf lt lm lq mM mP bs : Nat → Int32} {f t : Nat} {e rm rc : Int32} {route tried : Nat → Int32} {V : Nat → Nat → Nat → Prop}
theorem g1_v (h : NM G L M P lf lt lm lq mM mP) (hL : bs 1 = nI L) (hL2 : L ≤ 24) (hG : G ≤ 10) (hf : f < G) (ht : t < G) (hF : 100 ≤ F) {b : Nat} (hb : b < G) (hB : BS P f t V rm rc route) (hT : ST f b 1 0 0 tried) :
    Ok (f_X10_goOn_r F 3 (nI 1) (nI t) (nI (M f b)) (nI (P f b)) e rm rc bs lf lm lq lt route tried) (fun r => BS P f t (fun l' b' c' => V l' b' c' ∨ D1 G M f t e b l' b' c') r.1 r.2.1 r.2.2.1 ∧ ST f b 1 0 0 r.2.2.2) := by
  have n1 := h.b hf hb
  obtain ⟨rm1, rc1, ro1, e1, hB1⟩ := off_v (F := F) (bs := bs) (lf := lf) (lm := lm) (lq := lq) (lt := lt) (e := e) (f_X10_goOn_r F 2) (m := M f b) (co := P f b) hB hT (by omega) (by omega) (by omega) (by omega) (fun q => by subst q; simp [COs]) (fun q => by subst q; simp [NF, COs]; omega) hF
  show Ok (f_X10_goOn_s F (f_X10_goOn_r F 2) (nI 1) (nI t) _ _ e rm rc bs lf lm lq lt route tried) _
  rw [e1]
  unfold f_X10_goOn_b70
  rw [if_neg (by decide)]
  unfold f_X10_goOn_L79
  refine lp_inv (fun i z => ∃ rm rc route tried, z = (nI 1, nI t, nI (M f b), nI (P f b), e, nI i, rm, rc, route, tried) ∧ BS P f t (fun l' b' c' => (V l' b' c' ∨ (b = t ∧ ¬ nI (M f b) < e ∧ l' = 1 ∧ b' = 0 ∧ c' = 0)) ∨ ∃ c, c < G ∧ (∃ k, k < i ∧ lf k = nI b ∧ lt k = nI c) ∧ D2 G M f t e b c l' b' c') rm rc route ∧ ST f b 1 0 0 tried) L ?_ ?_ (by omega) ⟨rm1, rc1, ro1, tried, rfl, hB1.iff (fun l' b' c' => by constructor; (rintro (q | ⟨c, hc, ⟨k, q, -⟩, -⟩); exact q; omega); exact .inl), hT⟩
  · rintro i z k hi ⟨rm, rc, route, tried, rfl, hB, hT⟩ hk
    obtain ⟨x, y, hx, hy, hxy, f1, f2, f3, f4⟩ := h.2.1 i hi
    have n5 := h.b hx hy
    have t1 := hT.2.1 rfl
    by_cases hxc : x = b
    · subst hxc
      have hT3 : ST f y 2 x 0 (upd tried 2 (nI y)) := ⟨hT.1, fun q => by omega, fun _ => ⟨t1, rfl⟩, fun q => by omega⟩
      obtain ⟨⟨rm2, rc2, ro2, tr2⟩, e3, hB2, hT2⟩ := g2_v (F := F) (e := e) h hL hL2 hG hf ht hF hb hy hB hT3
      have hq := hk (nI 1, nI t, nI (M f x), nI (P f x), e, nI (i + 1), rm2, rc2, ro2, tr2) ⟨_, _, _, _, rfl, hB2.iff (fun l' b' c' => by
        constructor
        · rintro (q | ⟨c, hc, ⟨k', q1, q2, q3⟩, q4⟩)
          · exact .inl (.inl q)
          · by_cases hki : k' = i
            · subst hki
              have : y = c := (nI_eq (by omega) (by omega)).mp (f2.symm.trans q3)
              subst this
              exact .inr q4
            · exact .inl (.inr ⟨c, hc, ⟨k', by omega, q2, q3⟩, q4⟩)
        · rintro ((q | ⟨c, hc, ⟨k', q1, q2, q3⟩, q4⟩) | q)
          · exact .inl q
          · exact .inr ⟨c, hc, ⟨k', by omega, q2, q3⟩, q4⟩
          · exact .inr ⟨y, hy, ⟨i, by omega, f1, f2⟩, q⟩), ⟨hT2.1, fun _ => (hT2.2.2.1 rfl).1, fun q => by omega, fun q => by omega⟩⟩
      simp (disch := omega) only [f_X10_goOn_h79, f_X10_goOn_b153, hL, f1, f2, f3, f4, t1, e3, ll_le, ll_lt, ll_eq, lr_le, lr_lt, lr_eq, ll_add, lr_add, ll_mul, lr_mul, nI_add, pk_mul, nI_leI, nI_ltI, nI_eq, ll_sub, pk_sub, lm_add, rd_n, rd_l, wr_n, wr_l, lm_ne, lm_ne', lm_lt, lm_le, m1_lt, m1_le, m1_le0, m1_lt0, m1_0, m1_0', l1_0, gd_0, gd_1, gd_T, or_true, true_or, false_or, or_false, nle_T, nle_F, nlt_T, nlt_F, neq_T, neq_F, ↓reduceIte, ne_eq, not_true_eq_false, not_false_eq_true, bd1_s, bd2_s, bd3_s, bd4_s, bd5_s, bd6_s, bd7_s, bd8_s, bd9_s, bd10_s, bd11_s, bd12_s, bd13_s, bd14_s, bd15_s, bd16_s, bd17_s, bd18_s, bd19_s, bd20_s, bd21_s, bd22_s, bd23_s, bd24_s, bd25_s]
      exact hq
    · have hq := hk (nI 1, nI t, nI (M f b), nI (P f b), e, nI (i + 1), rm, rc, route, tried) ⟨_, _, _, _, rfl, hB.iff (fun l' b' c' => by
        constructor
        · rintro (q | ⟨c, hc, ⟨k', q1, q2, q3⟩, q4⟩)
          · exact .inl q
          · by_cases hki : k' = i
            · subst hki
              exact absurd ((nI_eq (by omega) (by omega)).mp (f1.symm.trans q2)) hxc
            · exact .inr ⟨c, hc, ⟨k', by omega, q2, q3⟩, q4⟩
        · rintro (q | ⟨c, hc, ⟨k', q1, q2, q3⟩, q4⟩)
          · exact .inl q
          · exact .inr ⟨c, hc, ⟨k', by omega, q2, q3⟩, q4⟩), hT⟩
      simp (disch := omega) only [f_X10_goOn_h79, f_X10_goOn_b153, hL, f1, t1, ll_le, ll_lt, ll_eq, lr_le, lr_lt, lr_eq, ll_add, lr_add, ll_mul, lr_mul, nI_add, pk_mul, nI_leI, nI_ltI, nI_eq, ll_sub, pk_sub, lm_add, rd_n, rd_l, wr_n, wr_l, lm_ne, lm_ne', lm_lt, lm_le, m1_lt, m1_le, m1_le0, m1_lt0, m1_0, m1_0', l1_0, gd_0, gd_1, gd_T, or_true, true_or, false_or, or_false, nle_T, nle_F, nlt_T, nlt_F, neq_T, neq_F, ↓reduceIte, ne_eq, not_true_eq_false, not_false_eq_true, bd1_s, bd2_s, bd3_s, bd4_s, bd5_s, bd6_s, bd7_s, bd8_s, bd9_s, bd10_s, bd11_s, bd12_s, bd13_s, bd14_s, bd15_s, bd16_s, bd17_s, bd18_s, bd19_s, bd20_s, bd21_s, bd22_s, bd23_s, bd24_s, bd25_s]
      exact hq
  · rintro z k ⟨rm, rc, route, tried, rfl, hB, hT⟩
    refine ⟨(rm, rc, route, tried), ?_, hB.iff (fun l' b' c' => ?_), hT⟩
    · simp (disch := omega) only [f_X10_goOn_h79, hL, ll_le, ll_lt, ll_eq, lr_le, lr_lt, lr_eq, ll_add, lr_add, ll_mul, lr_mul, nI_add, pk_mul, nI_leI, nI_ltI, nI_eq, ll_sub, pk_sub, lm_add, rd_n, rd_l, wr_n, wr_l, lm_ne, lm_ne', lm_lt, lm_le, m1_lt, m1_le, m1_le0, m1_lt0, m1_0, m1_0', l1_0, gd_0, gd_1, gd_T, or_true, true_or, false_or, or_false, nle_T, nle_F, nlt_T, nlt_F, neq_T, neq_F, ↓reduceIte, ne_eq, not_true_eq_false, not_false_eq_true, bd1_s, bd2_s, bd3_s, bd4_s, bd5_s, bd6_s, bd7_s, bd8_s, bd9_s, bd10_s, bd11_s, bd12_s, bd13_s, bd14_s, bd15_s, bd16_s, bd17_s, bd18_s, bd19_s, bd20_s, bd21_s, bd22_s, bd23_s, bd24_s, bd25_s]
    · unfold D1
      constructor
      · rintro (q | q | ⟨c, hc, q1, q2⟩)
        · exact .inl (.inl q)
        · exact .inl (.inr q)
        · exact .inr ⟨c, hc, h.2.2 b c hb hc q1, q2⟩
      · rintro ((q | q) | ⟨c, hc, ⟨k', q1, q2, q3⟩, q4⟩)
        · exact .inl q
        · exact .inr (.inl q)
        · obtain ⟨x, y, hx, hy, hxy, f1, f2, -⟩ := h.2.1 k' q1
          have e1 : x = b := (nI_eq (by omega) (by omega)).mp (f1.symm.trans q2)
          have e2 : y = c := (nI_eq (by omega) (by omega)).mp (f2.symm.trans q3)
          subst e1 e2
          exact .inr (.inr ⟨y, hc, hxy, q4⟩)
theorem g0_v (h : NM G L M P lf lt lm lq mM mP) (hL : bs 1 = nI L) (hL2 : L ≤ 24) (hG : G ≤ 10) (hf : f < G) (ht : t < G) (hF : 100 ≤ F) (rc : Int32) (route : Nat → Int32) (h0 : tried 0 = nI f) :
    Ok (f_X10_goOn_r F 4 (nI 0) (nI t) (nI 0) (nI 0) e 0 rc bs lf lm lq lt route tried) (fun r => BS P f t (VD G M f t e) r.1 r.2.1 r.2.2.1) := by
  show Ok (f_X10_goOn_s F (f_X10_goOn_r F 3) (nI 0) (nI t) _ _ e 0 rc bs lf lm lq lt route tried) _
  unfold f_X10_goOn_s
  rw [if_pos (by decide)]
  unfold f_X10_goOn_b70
  rw [if_neg (by decide)]
  unfold f_X10_goOn_L79
  refine lp_inv (fun i z => ∃ rm rc route tried, z = (nI 0, nI t, nI 0, nI 0, e, nI i, rm, rc, route, tried) ∧ BS P f t (fun l' b' c' => ∃ b, b < G ∧ (∃ k, k < i ∧ lf k = nI f ∧ lt k = nI b) ∧ D1 G M f t e b l' b' c') rm rc route ∧ tried 0 = nI f) L ?_ ?_ (by omega) ⟨0, rc, route, tried, rfl, ⟨fun l b c => (by rintro ⟨b, hb, ⟨k, q, -⟩, -⟩; omega), .inl ⟨rfl, fun l b c => (by rintro ⟨b, hb, ⟨k, q, -⟩, -⟩; omega)⟩⟩, h0⟩
  · rintro i z k hi ⟨rm, rc, route, tried, rfl, hB, h0⟩ hk
    obtain ⟨x, y, hx, hy, hxy, f1, f2, f3, f4⟩ := h.2.1 i hi
    have n5 := h.b hx hy
    by_cases hxc : x = f
    · subst hxc
      have hT3 : ST x y 1 0 0 (upd tried 1 (nI y)) := ⟨h0, fun _ => rfl, fun q => by omega, fun q => by omega⟩
      obtain ⟨⟨rm2, rc2, ro2, tr2⟩, e3, hB2, hT2⟩ := g1_v (F := F) (e := e) h hL hL2 hG hf ht hF hy hB hT3
      have hq := hk (nI 0, nI t, nI 0, nI 0, e, nI (i + 1), rm2, rc2, ro2, tr2) ⟨_, _, _, _, rfl, hB2.iff (fun l' b' c' => by
        constructor
        · rintro ⟨c, hc, ⟨k', q1, q2, q3⟩, q4⟩
          by_cases hki : k' = i
          · subst hki
            have : y = c := (nI_eq (by omega) (by omega)).mp (f2.symm.trans q3)
            subst this
            exact .inr q4
          · exact .inl ⟨c, hc, ⟨k', by omega, q2, q3⟩, q4⟩
        · rintro (⟨c, hc, ⟨k', q1, q2, q3⟩, q4⟩ | q)
          · exact ⟨c, hc, ⟨k', by omega, q2, q3⟩, q4⟩
          · exact ⟨y, hy, ⟨i, by omega, f1, f2⟩, q⟩), hT2.1⟩
      simp (disch := omega) only [f_X10_goOn_h79, f_X10_goOn_b153, hL, f1, f2, f3, f4, h0, Nat.zero_add, e3, ll_le, ll_lt, ll_eq, lr_le, lr_lt, lr_eq, ll_add, lr_add, ll_mul, lr_mul, nI_add, pk_mul, nI_leI, nI_ltI, nI_eq, ll_sub, pk_sub, lm_add, rd_n, rd_l, wr_n, wr_l, lm_ne, lm_ne', lm_lt, lm_le, m1_lt, m1_le, m1_le0, m1_lt0, m1_0, m1_0', l1_0, gd_0, gd_1, gd_T, or_true, true_or, false_or, or_false, nle_T, nle_F, nlt_T, nlt_F, neq_T, neq_F, ↓reduceIte, ne_eq, not_true_eq_false, not_false_eq_true, bd1_s, bd2_s, bd3_s, bd4_s, bd5_s, bd6_s, bd7_s, bd8_s, bd9_s, bd10_s, bd11_s, bd12_s, bd13_s, bd14_s, bd15_s, bd16_s, bd17_s, bd18_s, bd19_s, bd20_s, bd21_s, bd22_s, bd23_s, bd24_s, bd25_s]
      exact hq
    · have hq := hk (nI 0, nI t, nI 0, nI 0, e, nI (i + 1), rm, rc, route, tried) ⟨_, _, _, _, rfl, hB.iff (fun l' b' c' => by
        constructor
        · rintro ⟨c, hc, ⟨k', q1, q2, q3⟩, q4⟩
          by_cases hki : k' = i
          · subst hki
            exact absurd ((nI_eq (by omega) (by omega)).mp (f1.symm.trans q2)) hxc
          · exact ⟨c, hc, ⟨k', by omega, q2, q3⟩, q4⟩
        · rintro ⟨c, hc, ⟨k', q1, q2, q3⟩, q4⟩
          exact ⟨c, hc, ⟨k', by omega, q2, q3⟩, q4⟩), h0⟩
      simp (disch := omega) only [f_X10_goOn_h79, f_X10_goOn_b153, hL, f1, h0, ll_le, ll_lt, ll_eq, lr_le, lr_lt, lr_eq, ll_add, lr_add, ll_mul, lr_mul, nI_add, pk_mul, nI_leI, nI_ltI, nI_eq, ll_sub, pk_sub, lm_add, rd_n, rd_l, wr_n, wr_l, lm_ne, lm_ne', lm_lt, lm_le, m1_lt, m1_le, m1_le0, m1_lt0, m1_0, m1_0', l1_0, gd_0, gd_1, gd_T, or_true, true_or, false_or, or_false, nle_T, nle_F, nlt_T, nlt_F, neq_T, neq_F, ↓reduceIte, ne_eq, not_true_eq_false, not_false_eq_true, bd1_s, bd2_s, bd3_s, bd4_s, bd5_s, bd6_s, bd7_s, bd8_s, bd9_s, bd10_s, bd11_s, bd12_s, bd13_s, bd14_s, bd15_s, bd16_s, bd17_s, bd18_s, bd19_s, bd20_s, bd21_s, bd22_s, bd23_s, bd24_s, bd25_s]
      exact hq
  · rintro z k ⟨rm, rc, route, tried, rfl, hB, hT⟩
    refine ⟨(rm, rc, route, tried), ?_, hB.iff (fun l' b' c' => ?_)⟩
    · simp (disch := omega) only [f_X10_goOn_h79, hL, ll_le, ll_lt, ll_eq, lr_le, lr_lt, lr_eq, ll_add, lr_add, ll_mul, lr_mul, nI_add, pk_mul, nI_leI, nI_ltI, nI_eq, ll_sub, pk_sub, lm_add, rd_n, rd_l, wr_n, wr_l, lm_ne, lm_ne', lm_lt, lm_le, m1_lt, m1_le, m1_le0, m1_lt0, m1_0, m1_0', l1_0, gd_0, gd_1, gd_T, or_true, true_or, false_or, or_false, nle_T, nle_F, nlt_T, nlt_F, neq_T, neq_F, ↓reduceIte, ne_eq, not_true_eq_false, not_false_eq_true, bd1_s, bd2_s, bd3_s, bd4_s, bd5_s, bd6_s, bd7_s, bd8_s, bd9_s, bd10_s, bd11_s, bd12_s, bd13_s, bd14_s, bd15_s, bd16_s, bd17_s, bd18_s, bd19_s, bd20_s, bd21_s, bd22_s, bd23_s, bd24_s, bd25_s]
    · unfold VD V1 V2 V3
      constructor
      · rintro (⟨rfl, rfl, rfl, q1, q2⟩ | ⟨rfl, q1, rfl, q2, q3, q4⟩ | ⟨rfl, q1, q2, q3, q4, q5⟩)
        · exact ⟨t, ht, h.2.2 f t hf ht q1, .inl ⟨rfl, q2, rfl, rfl, rfl⟩⟩
        · exact ⟨b', q1, h.2.2 f b' hf q1 q2, .inr ⟨t, ht, q3, .inl ⟨rfl, q4, rfl, rfl, rfl⟩⟩⟩
        · have hb : b' < G := by omega
          have hc : c' < G := by omega
          exact ⟨b', hb, h.2.2 f b' hf hb q2, .inr ⟨c', hc, q3, .inr ⟨q4, q5, rfl, rfl, rfl⟩⟩⟩
      · rintro ⟨b, hb, ⟨k', q1, q2, q3⟩, q4⟩
        obtain ⟨x, y, hx, hy, hxy, f1, f2, -⟩ := h.2.1 k' q1
        have e1 : x = f := (nI_eq (by omega) (by omega)).mp (f1.symm.trans q2)
        have e2 : y = b := (nI_eq (by omega) (by omega)).mp (f2.symm.trans q3)
        subst e1 e2
        rcases q4 with ⟨rfl, w1, rfl, rfl, rfl⟩ | ⟨c, hc, w1, ⟨rfl, w2, rfl, rfl, rfl⟩ | ⟨w2, w3, rfl, rfl, rfl⟩⟩
        · exact .inl ⟨rfl, rfl, rfl, hxy, w1⟩
        · exact .inr (.inl ⟨rfl, hb, rfl, hxy, w1, w2⟩)
        · exact .inr (.inr ⟨rfl, .inl ⟨hb, hc⟩, hxy, w1, w2, w3⟩)
theorem lay_v (h : NM G L M P lf lt lm lq mM mP) (hL : bs 1 = nI L) (hL2 : L ≤ 24) (hG : G ≤ 10) (hf : f < G) (ht : t < G) (hF : 100 ≤ F) (rm rc : Int32) (route tried : Nat → Int32) :
    Ok (f_X10_layRoute F (nI f) (nI t) e rm rc bs lf lm lq lt route tried) (fun r => r.1 = r.2.1 ∧ BS P f t (VD G M f t e) r.2.1 r.2.2.1 r.2.2.2.1) := by
  obtain ⟨⟨o1, o2, o3, o4⟩, e1, hB⟩ := g0_v (F := F) (e := e) (tried := upd tried 0 (nI f)) h hL hL2 hG hf ht hF 0 route rfl
  refine ⟨(o1, o1, o2, o3, o4), ?_, rfl, hB⟩
  have e2 : f_X10_goOn F 0 (nI t) 0 0 e 0 0 bs lf lm lq lt route (upd tried 0 (nI f)) = some (o1, o2, o3, o4) := e1
  simp (disch := omega) only [f_X10_layRoute, e2, ll_le, ll_lt, ll_eq, lr_le, lr_lt, lr_eq, ll_add, lr_add, ll_mul, lr_mul, nI_add, pk_mul, nI_leI, nI_ltI, nI_eq, ll_sub, pk_sub, lm_add, rd_n, rd_l, wr_n, wr_l, lm_ne, lm_ne', lm_lt, lm_le, m1_lt, m1_le, m1_le0, m1_lt0, m1_0, m1_0', l1_0, gd_0, gd_1, gd_T, or_true, true_or, false_or, or_false, nle_T, nle_F, nlt_T, nlt_F, neq_T, neq_F, ↓reduceIte, ne_eq, not_true_eq_false, not_false_eq_true, bd1_s, bd2_s, bd3_s, bd4_s, bd5_s, bd6_s, bd7_s, bd8_s, bd9_s, bd10_s, bd11_s, bd12_s, bd13_s, bd14_s, bd15_s, bd16_s, bd17_s, bd18_s, bd19_s, bd20_s, bd21_s, bd22_s, bd23_s, bd24_s, bd25_s]
/-- both find the same route: none, or n links at one price over the same gantries -/
theorem same_route (h : NM G L M P lf lt lm lq mM mP) (hL : bs 1 = nI L) (hL2 : L ≤ 24) (hG : G ≤ 10) (hf : f < G) (ht : t < G) (hF : 100 ≤ F) (lk pr : Int32) (s : Nat → Int32) (rm rc : Int32) (route tried : Nat → Int32) :
    ∃ lk' pr' s' rm' rc' route' tried', f_X7_find F (nI f) (nI t) e lk pr s (nI G) mM mP = some (lk', pr', s') ∧ f_X10_layRoute F (nI f) (nI t) e rm rc bs lf lm lq lt route tried = some (rm', rm', rc', route', tried') ∧
      ((lk' = -1 ∧ pr' = -1 ∧ rm' = 0) ∨ ∃ l q, 1 ≤ l ∧ l ≤ 3 ∧ q ≤ 15000 ∧ lk' = nI l ∧ rm' = nI l ∧ pr' = nI q ∧ rc' = nI q ∧ ∀ i, i ≤ l → s' i = route' i) := by
  obtain ⟨⟨a1, a2, a3⟩, e1, c1⟩ := find_v (e := e) h hG hf ht hF lk pr s
  obtain ⟨⟨b0, b1, b2, b3, b4⟩, e2, hb, n1, c2⟩ := lay_v (e := e) h hL hL2 hG hf ht hF rm rc route tried
  dsimp only at hb c1 c2
  subst hb
  refine ⟨a1, a2, a3, b0, b2, b3, b4, e1, e2, ?_⟩
  rcases c1 with ⟨w1, w2, w3⟩ | c1
  · rcases c2 with ⟨v1, v2⟩ | c2
    · exact .inl ⟨w1, w2, v1⟩
    · obtain ⟨l, b, c, hv, -⟩ := c2
      exact absurd hv (w3 l b c)
  · rcases c2 with ⟨v1, v2⟩ | c2
    · obtain ⟨l, b, c, hv, -⟩ := c1
      exact absurd hv (v2 l b c)
    · obtain ⟨r1, r2, l, r3, r4, r5, ⟨q, r6⟩, r7⟩ := be_uniq n1 c1 c2
      have r6 := r6 r3
      exact .inr ⟨l, q, r3, r4, r6.1, r5, r1.symm.trans r5, r6.2, r2.symm.trans r6.2, r7⟩
end
