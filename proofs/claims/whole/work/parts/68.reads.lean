/-! the questions: both sides answer alike -/
theorem li_2_0 : ((2 : Int32) = 0) = False := by decide
theorem li_2_1 : ((2 : Int32) = 1) = False := by decide
theorem li_2_3 : ((2 : Int32) = 3) = False := by decide
theorem li_2_4 : ((2 : Int32) = 4) = False := by decide
theorem li_2_5 : ((2 : Int32) = 5) = False := by decide
theorem li_2_6 : ((2 : Int32) = 6) = False := by decide
theorem li_3_0 : ((3 : Int32) = 0) = False := by decide
theorem li_3_1 : ((3 : Int32) = 1) = False := by decide
theorem li_3_2 : ((3 : Int32) = 2) = False := by decide
theorem li_3_4 : ((3 : Int32) = 4) = False := by decide
theorem li_3_5 : ((3 : Int32) = 5) = False := by decide
theorem li_3_6 : ((3 : Int32) = 6) = False := by decide
theorem li_4_0 : ((4 : Int32) = 0) = False := by decide
theorem li_4_1 : ((4 : Int32) = 1) = False := by decide
theorem li_4_2 : ((4 : Int32) = 2) = False := by decide
theorem li_4_3 : ((4 : Int32) = 3) = False := by decide
theorem li_4_5 : ((4 : Int32) = 5) = False := by decide
theorem li_4_6 : ((4 : Int32) = 6) = False := by decide
theorem li_5_0 : ((5 : Int32) = 0) = False := by decide
theorem li_5_1 : ((5 : Int32) = 1) = False := by decide
theorem li_5_2 : ((5 : Int32) = 2) = False := by decide
theorem li_5_3 : ((5 : Int32) = 3) = False := by decide
theorem li_5_4 : ((5 : Int32) = 4) = False := by decide
theorem li_5_6 : ((5 : Int32) = 6) = False := by decide
theorem li_6_0 : ((6 : Int32) = 0) = False := by decide
theorem li_6_1 : ((6 : Int32) = 1) = False := by decide
theorem li_6_2 : ((6 : Int32) = 2) = False := by decide
theorem li_6_3 : ((6 : Int32) = 3) = False := by decide
theorem li_6_4 : ((6 : Int32) = 4) = False := by decide
theorem li_6_5 : ((6 : Int32) = 5) = False := by decide
theorem li_7_0 : ((7 : Int32) = 0) = False := by decide
theorem li_7_1 : ((7 : Int32) = 1) = False := by decide
theorem li_7_2 : ((7 : Int32) = 2) = False := by decide
theorem li_7_3 : ((7 : Int32) = 3) = False := by decide
theorem li_7_4 : ((7 : Int32) = 4) = False := by decide
theorem li_7_5 : ((7 : Int32) = 5) = False := by decide
theorem li_7_6 : ((7 : Int32) = 6) = False := by decide
theorem idx_cases (p : Int32) {c : Nat} (hc : c < 2 ^ 31) : (∃ j, j < c ∧ p = nI j) ∨ (p < 0 ∨ nI c ≤ p) := by
  by_cases h0 : p < 0
  · exact .inr (.inl h0)
  · by_cases h1 : nI c ≤ p
    · exact .inr (.inr h1)
    · refine .inl ⟨p.toInt.toNat, ?_, ?_⟩
      · rw [i32_le, nI_toInt hc] at h1
        rw [i32_lt] at h0
        have : (0 : Int32).toInt = 0 := by decide
        omega
      · rw [i32_le, nI_toInt hc] at h1
        rw [i32_lt] at h0
        have : (0 : Int32).toInt = 0 := by decide
        apply Int32.toInt_inj.mp
        rw [nI_toInt (by omega)]
        omega
theorem rg_cases (p : Int32) (a b : Nat) (hb : b < 2 ^ 31) : (∃ j, a ≤ j ∧ j ≤ b ∧ p = nI j) ∨ (p.toInt < a ∨ (b : Int) < p.toInt) := by
  by_cases h0 : p.toInt < a
  · exact .inr (.inl h0)
  · by_cases h1 : (b : Int) < p.toInt
    · exact .inr (.inr h1)
    · refine .inl ⟨p.toInt.toNat, by omega, by omega, ?_⟩
      apply Int32.toInt_inj.mp
      rw [nI_toInt (by omega)]
      omega
/-- what a call comes to: what the class throws is what the reference tells, and the answers agree -/
def AX (hs : List Nat) (x : Nat) (r r' th : Int32) : Prop := th = kc hs x ∧ (x = 0 → r' = r) ∧ (x = 0 ∨ x ∈ hs)
theorem AX.ok {hs : List Nat} {r : Int32} : AX hs 0 r r 0 := ⟨rfl, fun _ => rfl, .inl rfl⟩
theorem AX.ok' {hs : List Nat} {r r' : Int32} (h : r' = r) : AX hs 0 r r' 0 := ⟨rfl, fun _ => h, .inl rfl⟩
theorem AX.th {hs : List Nat} {x : Nat} {r r' th : Int32} (h1 : th = kc hs x) (h2 : x ≠ 0) (h3 : x ∈ hs) : AX hs x r r' th := ⟨h1, fun h => absurd h h2, .inr h3⟩
theorem rqt_1 {F j : Nat} (h : j ≤ 99999) : f_X9_requireTime F (nI j) = some 0 := by simp (disch := omega) only [f_X9_requireTime, ll_le, ll_lt, ll_eq, lr_le, lr_lt, lr_eq, ll_add, lr_add, ll_mul, lr_mul, nI_add, pk_mul, nI_leI, nI_ltI, nI_eq, ll_sub, pk_sub, lm_add, rd_n, rd_l, wr_n, wr_l, lm_ne, lm_ne', lm_lt, lm_le, m1_lt, m1_le, m1_le0, m1_lt0, m1_0, m1_0', l1_0, gd_0, gd_1, gd_T, or_true, true_or, false_or, or_false, nle_T, nle_F, nlt_T, nlt_F, neq_T, neq_F, ↓reduceIte, ne_eq, not_true_eq_false, not_false_eq_true, bd1_s, bd2_s, bd3_s, bd4_s, bd5_s, bd6_s, bd7_s, bd8_s, bd9_s, bd10_s, bd11_s, bd12_s, bd13_s, bd14_s, bd15_s, bd16_s, bd17_s, bd18_s, bd19_s, bd20_s, bd21_s, bd22_s, bd23_s, bd24_s, bd25_s]
theorem rqt_0 {F : Nat} {p : Int32} (h : p.toInt < 0 ∨ (99999 : Int) < p.toInt) : f_X9_requireTime F p = some 1 := by
  by_cases h1 : p < 0
  · simp (disch := omega) only [f_X9_requireTime, f_X9_requireTime_b11, h1, ll_le, ll_lt, ll_eq, lr_le, lr_lt, lr_eq, ll_add, lr_add, ll_mul, lr_mul, nI_add, pk_mul, nI_leI, nI_ltI, nI_eq, ll_sub, pk_sub, lm_add, rd_n, rd_l, wr_n, wr_l, lm_ne, lm_ne', lm_lt, lm_le, m1_lt, m1_le, m1_le0, m1_lt0, m1_0, m1_0', l1_0, gd_0, gd_1, gd_T, or_true, true_or, false_or, or_false, nle_T, nle_F, nlt_T, nlt_F, neq_T, neq_F, ↓reduceIte, ne_eq, not_true_eq_false, not_false_eq_true, bd1_s, bd2_s, bd3_s, bd4_s, bd5_s, bd6_s, bd7_s, bd8_s, bd9_s, bd10_s, bd11_s, bd12_s, bd13_s, bd14_s, bd15_s, bd16_s, bd17_s, bd18_s, bd19_s, bd20_s, bd21_s, bd22_s, bd23_s, bd24_s, bd25_s]
  · have h2 : ¬ p ≤ 99999 := by
      rw [i32_lt] at h1
      rw [i32_le]
      have e0 : (0 : Int32).toInt = 0 := by decide
      have e1 : (99999 : Int32).toInt = 99999 := by decide
      omega
    simp (disch := omega) only [f_X9_requireTime, f_X9_requireTime_b11, h1, h2, ll_le, ll_lt, ll_eq, lr_le, lr_lt, lr_eq, ll_add, lr_add, ll_mul, lr_mul, nI_add, pk_mul, nI_leI, nI_ltI, nI_eq, ll_sub, pk_sub, lm_add, rd_n, rd_l, wr_n, wr_l, lm_ne, lm_ne', lm_lt, lm_le, m1_lt, m1_le, m1_le0, m1_lt0, m1_0, m1_0', l1_0, gd_0, gd_1, gd_T, or_true, true_or, false_or, or_false, nle_T, nle_F, nlt_T, nlt_F, neq_T, neq_F, ↓reduceIte, ne_eq, not_true_eq_false, not_false_eq_true, bd1_s, bd2_s, bd3_s, bd4_s, bd5_s, bd6_s, bd7_s, bd8_s, bd9_s, bd10_s, bd11_s, bd12_s, bd13_s, bd14_s, bd15_s, bd16_s, bd17_s, bd18_s, bd19_s, bd20_s, bd21_s, bd22_s, bd23_s, bd24_s, bd25_s]
theorem rqa_1 {F j : Nat} (h0 : 2 ≤ j) (h : j ≤ 9) : f_X9_requireAxles F (nI j) = some 0 := by simp (disch := omega) only [f_X9_requireAxles, ll_le, ll_lt, ll_eq, lr_le, lr_lt, lr_eq, ll_add, lr_add, ll_mul, lr_mul, nI_add, pk_mul, nI_leI, nI_ltI, nI_eq, ll_sub, pk_sub, lm_add, rd_n, rd_l, wr_n, wr_l, lm_ne, lm_ne', lm_lt, lm_le, m1_lt, m1_le, m1_le0, m1_lt0, m1_0, m1_0', l1_0, gd_0, gd_1, gd_T, or_true, true_or, false_or, or_false, nle_T, nle_F, nlt_T, nlt_F, neq_T, neq_F, ↓reduceIte, ne_eq, not_true_eq_false, not_false_eq_true, bd1_s, bd2_s, bd3_s, bd4_s, bd5_s, bd6_s, bd7_s, bd8_s, bd9_s, bd10_s, bd11_s, bd12_s, bd13_s, bd14_s, bd15_s, bd16_s, bd17_s, bd18_s, bd19_s, bd20_s, bd21_s, bd22_s, bd23_s, bd24_s, bd25_s]
theorem rqa_0 {F : Nat} {p : Int32} (h : p.toInt < (2 : Nat) ∨ ((9 : Nat) : Int) < p.toInt) : f_X9_requireAxles F p = some 1 := by
  by_cases h1 : p < 2
  · simp (disch := omega) only [f_X9_requireAxles, f_X9_requireAxles_b11, h1, ll_le, ll_lt, ll_eq, lr_le, lr_lt, lr_eq, ll_add, lr_add, ll_mul, lr_mul, nI_add, pk_mul, nI_leI, nI_ltI, nI_eq, ll_sub, pk_sub, lm_add, rd_n, rd_l, wr_n, wr_l, lm_ne, lm_ne', lm_lt, lm_le, m1_lt, m1_le, m1_le0, m1_lt0, m1_0, m1_0', l1_0, gd_0, gd_1, gd_T, or_true, true_or, false_or, or_false, nle_T, nle_F, nlt_T, nlt_F, neq_T, neq_F, ↓reduceIte, ne_eq, not_true_eq_false, not_false_eq_true, bd1_s, bd2_s, bd3_s, bd4_s, bd5_s, bd6_s, bd7_s, bd8_s, bd9_s, bd10_s, bd11_s, bd12_s, bd13_s, bd14_s, bd15_s, bd16_s, bd17_s, bd18_s, bd19_s, bd20_s, bd21_s, bd22_s, bd23_s, bd24_s, bd25_s]
  · have h2 : ¬ p ≤ 9 := by
      rw [i32_lt] at h1
      rw [i32_le]
      have e0 : (2 : Int32).toInt = 2 := by decide
      have e1 : (9 : Int32).toInt = 9 := by decide
      omega
    simp (disch := omega) only [f_X9_requireAxles, f_X9_requireAxles_b11, h1, h2, ll_le, ll_lt, ll_eq, lr_le, lr_lt, lr_eq, ll_add, lr_add, ll_mul, lr_mul, nI_add, pk_mul, nI_leI, nI_ltI, nI_eq, ll_sub, pk_sub, lm_add, rd_n, rd_l, wr_n, wr_l, lm_ne, lm_ne', lm_lt, lm_le, m1_lt, m1_le, m1_le0, m1_lt0, m1_0, m1_0', l1_0, gd_0, gd_1, gd_T, or_true, true_or, false_or, or_false, nle_T, nle_F, nlt_T, nlt_F, neq_T, neq_F, ↓reduceIte, ne_eq, not_true_eq_false, not_false_eq_true, bd1_s, bd2_s, bd3_s, bd4_s, bd5_s, bd6_s, bd7_s, bd8_s, bd9_s, bd10_s, bd11_s, bd12_s, bd13_s, bd14_s, bd15_s, bd16_s, bd17_s, bd18_s, bd19_s, bd20_s, bd21_s, bd22_s, bd23_s, bd24_s, bd25_s]
theorem rqp_1 {F j : Nat} (h0 : 1 ≤ j) (h : j ≤ 9999) : f_X9_requirePlate F (nI j) = some 0 := by simp (disch := omega) only [f_X9_requirePlate, ll_le, ll_lt, ll_eq, lr_le, lr_lt, lr_eq, ll_add, lr_add, ll_mul, lr_mul, nI_add, pk_mul, nI_leI, nI_ltI, nI_eq, ll_sub, pk_sub, lm_add, rd_n, rd_l, wr_n, wr_l, lm_ne, lm_ne', lm_lt, lm_le, m1_lt, m1_le, m1_le0, m1_lt0, m1_0, m1_0', l1_0, gd_0, gd_1, gd_T, or_true, true_or, false_or, or_false, nle_T, nle_F, nlt_T, nlt_F, neq_T, neq_F, ↓reduceIte, ne_eq, not_true_eq_false, not_false_eq_true, bd1_s, bd2_s, bd3_s, bd4_s, bd5_s, bd6_s, bd7_s, bd8_s, bd9_s, bd10_s, bd11_s, bd12_s, bd13_s, bd14_s, bd15_s, bd16_s, bd17_s, bd18_s, bd19_s, bd20_s, bd21_s, bd22_s, bd23_s, bd24_s, bd25_s]
theorem rqp_0 {F : Nat} {p : Int32} (h : p.toInt < (1 : Nat) ∨ ((9999 : Nat) : Int) < p.toInt) : f_X9_requirePlate F p = some 1 := by
  by_cases h1 : p < 1
  · simp (disch := omega) only [f_X9_requirePlate, f_X9_requirePlate_b12, h1, ll_le, ll_lt, ll_eq, lr_le, lr_lt, lr_eq, ll_add, lr_add, ll_mul, lr_mul, nI_add, pk_mul, nI_leI, nI_ltI, nI_eq, ll_sub, pk_sub, lm_add, rd_n, rd_l, wr_n, wr_l, lm_ne, lm_ne', lm_lt, lm_le, m1_lt, m1_le, m1_le0, m1_lt0, m1_0, m1_0', l1_0, gd_0, gd_1, gd_T, or_true, true_or, false_or, or_false, nle_T, nle_F, nlt_T, nlt_F, neq_T, neq_F, ↓reduceIte, ne_eq, not_true_eq_false, not_false_eq_true, bd1_s, bd2_s, bd3_s, bd4_s, bd5_s, bd6_s, bd7_s, bd8_s, bd9_s, bd10_s, bd11_s, bd12_s, bd13_s, bd14_s, bd15_s, bd16_s, bd17_s, bd18_s, bd19_s, bd20_s, bd21_s, bd22_s, bd23_s, bd24_s, bd25_s]
  · have h2 : ¬ p ≤ 9999 := by
      rw [i32_lt] at h1
      rw [i32_le]
      have e0 : (1 : Int32).toInt = 1 := by decide
      have e1 : (9999 : Int32).toInt = 9999 := by decide
      omega
    simp (disch := omega) only [f_X9_requirePlate, f_X9_requirePlate_b12, h1, h2, ll_le, ll_lt, ll_eq, lr_le, lr_lt, lr_eq, ll_add, lr_add, ll_mul, lr_mul, nI_add, pk_mul, nI_leI, nI_ltI, nI_eq, ll_sub, pk_sub, lm_add, rd_n, rd_l, wr_n, wr_l, lm_ne, lm_ne', lm_lt, lm_le, m1_lt, m1_le, m1_le0, m1_lt0, m1_0, m1_0', l1_0, gd_0, gd_1, gd_T, or_true, true_or, false_or, or_false, nle_T, nle_F, nlt_T, nlt_F, neq_T, neq_F, ↓reduceIte, ne_eq, not_true_eq_false, not_false_eq_true, bd1_s, bd2_s, bd3_s, bd4_s, bd5_s, bd6_s, bd7_s, bd8_s, bd9_s, bd10_s, bd11_s, bd12_s, bd13_s, bd14_s, bd15_s, bd16_s, bd17_s, bd18_s, bd19_s, bd20_s, bd21_s, bd22_s, bd23_s, bd24_s, bd25_s]
/-- the network as both sides have it -/
def NR (gn ln cn tn wn cf fn : Int32) (mM mP ca' cp' tp' ta' bs lf lt lm lq ca cp tp ta : Nat → Int32) (G T : Nat) : Prop :=
  ∃ (L C w c5 fe : Nat) (M P : Nat → Nat → Nat), gn = nI G ∧ ln = nI L ∧ cn = nI C ∧ tn = nI T ∧ wn = nI w ∧ cf = nI c5 ∧ fn = nI fe ∧ G ≤ 10 ∧ L ≤ 24 ∧ w ≤ 10 ∧ fe ≤ 5000 ∧ bs 0 = nI G ∧ bs 1 = nI L ∧ bs 4 = nI w ∧ bs 6 = nI fe ∧ NM G L M P lf lt lm lq mM mP ∧ NQ C T c5 bs ca ta tp ca' ta' tp' ∧ ∀ k, k < C → cp' k = cp k
section
variable {n G T F : Nat} {gn ln cn tn wn cf fn th : Int32} {mM mP ca' cp' tp' ta' bs lf lt lm lq ca cp tp ta : Nat → Int32} {tn0 vn0 : Int32} {am iv pd pa pl sb vc : Nat → Int32} {cn0 ln0 : Int32} {ax ga hx hp la ps rp st tg ti tr S : Nat → Int32}
theorem q_gantryCount (hN : NR gn ln cn tn wn cf fn mM mP ca' cp' tp' ta' bs lf lt lm lq ca cp tp ta G T) : f_X9_gantryCount F gn = some gn ∧ f_X10_gantryCount F th bs = some (gn, 0) := by
  obtain ⟨L, C, w, c5, fe, M, P, rfl, rfl, rfl, rfl, rfl, rfl, rfl, N1, N2, N3, N4, N5, N6, N7, N8, N9, N10, N11⟩ := hN
  exact ⟨rfl, by simp (disch := omega) only [f_X10_gantryCount, f_X10_told, N5, ll_le, ll_lt, ll_eq, lr_le, lr_lt, lr_eq, ll_add, lr_add, ll_mul, lr_mul, nI_add, pk_mul, nI_leI, nI_ltI, nI_eq, ll_sub, pk_sub, lm_add, rd_n, rd_l, wr_n, wr_l, lm_ne, lm_ne', lm_lt, lm_le, m1_lt, m1_le, m1_le0, m1_lt0, m1_0, m1_0', l1_0, gd_0, gd_1, gd_T, or_true, true_or, false_or, or_false, nle_T, nle_F, nlt_T, nlt_F, neq_T, neq_F, ↓reduceIte, ne_eq, not_true_eq_false, not_false_eq_true, bd1_s, bd2_s, bd3_s, bd4_s, bd5_s, bd6_s, bd7_s, bd8_s, bd9_s, bd10_s, bd11_s, bd12_s, bd13_s, bd14_s, bd15_s, bd16_s, bd17_s, bd18_s, bd19_s, bd20_s, bd21_s, bd22_s, bd23_s, bd24_s, bd25_s]⟩
theorem q_tagCount (hN : NR gn ln cn tn wn cf fn mM mP ca' cp' tp' ta' bs lf lt lm lq ca cp tp ta G T) : f_X9_tagCount F tn = some tn ∧ f_X10_tagCount F th bs = some (tn, 0) := by
  obtain ⟨L, C, w, c5, fe, M, P, rfl, rfl, rfl, rfl, rfl, rfl, rfl, N1, N2, N3, N4, N5, N6, N7, N8, N9, N10, N11⟩ := hN
  exact ⟨rfl, by simp (disch := omega) only [f_X10_tagCount, f_X10_told, N10.2.2.2.2.1, ll_le, ll_lt, ll_eq, lr_le, lr_lt, lr_eq, ll_add, lr_add, ll_mul, lr_mul, nI_add, pk_mul, nI_leI, nI_ltI, nI_eq, ll_sub, pk_sub, lm_add, rd_n, rd_l, wr_n, wr_l, lm_ne, lm_ne', lm_lt, lm_le, m1_lt, m1_le, m1_le0, m1_lt0, m1_0, m1_0', l1_0, gd_0, gd_1, gd_T, or_true, true_or, false_or, or_false, nle_T, nle_F, nlt_T, nlt_F, neq_T, neq_F, ↓reduceIte, ne_eq, not_true_eq_false, not_false_eq_true, bd1_s, bd2_s, bd3_s, bd4_s, bd5_s, bd6_s, bd7_s, bd8_s, bd9_s, bd10_s, bd11_s, bd12_s, bd13_s, bd14_s, bd15_s, bd16_s, bd17_s, bd18_s, bd19_s, bd20_s, bd21_s, bd22_s, bd23_s, bd24_s, bd25_s]⟩
theorem q_classOf (p : Int32) (hN : NR gn ln cn tn wn cf fn mM mP ca' cp' tp' ta' bs lf lt lm lq ca cp tp ta G T) (hF : 100 ≤ F) : ∃ x r r' t', f_X9_classOf F p cn ca' = some (x, r) ∧ f_X10_classOf F p th bs ca = some (r', t') ∧ AX [1] x r r' t' := by
  obtain ⟨L, C, w, c5, fe, M, P, rfl, rfl, rfl, rfl, rfl, rfl, rfl, N1, N2, N3, N4, N5, N6, N7, N8, N9, N10, N11⟩ := hN
  obtain ⟨q1, q2, q3, q4, q5, q6, q7, q8, q9⟩ := N10
  rcases rg_cases p 2 9 (by omega) with ⟨j, j1, j2, rfl⟩ | h
  · refine ⟨0, oI (cfr ca' (nI j) C), oI (cfr ca' (nI j) C), 0, ?_, ?_, AX.ok⟩
    · simp (disch := omega) only [f_X9_classOf, rqa_1 j1 j2, cf4_v (nI j) ca' q1 hF, ll_le, ll_lt, ll_eq, lr_le, lr_lt, lr_eq, ll_add, lr_add, ll_mul, lr_mul, nI_add, pk_mul, nI_leI, nI_ltI, nI_eq, ll_sub, pk_sub, lm_add, rd_n, rd_l, wr_n, wr_l, lm_ne, lm_ne', lm_lt, lm_le, m1_lt, m1_le, m1_le0, m1_lt0, m1_0, m1_0', l1_0, gd_0, gd_1, gd_T, or_true, true_or, false_or, or_false, nle_T, nle_F, nlt_T, nlt_F, neq_T, neq_F, ↓reduceIte, ne_eq, not_true_eq_false, not_false_eq_true, bd1_s, bd2_s, bd3_s, bd4_s, bd5_s, bd6_s, bd7_s, bd8_s, bd9_s, bd10_s, bd11_s, bd12_s, bd13_s, bd14_s, bd15_s, bd16_s, bd17_s, bd18_s, bd19_s, bd20_s, bd21_s, bd22_s, bd23_s, bd24_s, bd25_s]
      all_goals rfl
    · rw [cfr_congr q3]
      unfold f_X10_classOf
      rw [rg_1 (F := F) (p := nI j) (a := 2) (b := 9) (by omega) (by omega) (by rw [nI_toInt (by omega)]; omega) (by rw [nI_toInt (by omega)]; omega), bd1_s, if_neg (by decide), cf_v (nI j) bs ca q2 q1 hF]; rfl
  · refine ⟨1, 0, 0, 1, ?_, ?_, AX.th (by decide) (by decide) (by decide)⟩
    · simp (disch := omega) only [f_X9_classOf, rqa_0 h, ll_le, ll_lt, ll_eq, lr_le, lr_lt, lr_eq, ll_add, lr_add, ll_mul, lr_mul, nI_add, pk_mul, nI_leI, nI_ltI, nI_eq, ll_sub, pk_sub, lm_add, rd_n, rd_l, wr_n, wr_l, lm_ne, lm_ne', lm_lt, lm_le, m1_lt, m1_le, m1_le0, m1_lt0, m1_0, m1_0', l1_0, gd_0, gd_1, gd_T, or_true, true_or, false_or, or_false, nle_T, nle_F, nlt_T, nlt_F, neq_T, neq_F, ↓reduceIte, ne_eq, not_true_eq_false, not_false_eq_true, bd1_s, bd2_s, bd3_s, bd4_s, bd5_s, bd6_s, bd7_s, bd8_s, bd9_s, bd10_s, bd11_s, bd12_s, bd13_s, bd14_s, bd15_s, bd16_s, bd17_s, bd18_s, bd19_s, bd20_s, bd21_s, bd22_s, bd23_s, bd24_s, bd25_s]
      all_goals rfl
    · unfold f_X10_classOf
      rw [rg_0 (F := F) (p := p) (a := 2) (b := 9) (by omega) (by omega) h, bd1_s, if_pos rfl]; rfl
theorem q_passageGantry (p : Int32) (hN : NR gn ln cn tn wn cf fn mM mP ca' cp' tp' ta' bs lf lt lm lq ca cp tp ta G T) (hL : LR n G T tp tn0 vn0 am iv pd pa pl sb vc cn0 ln0 ax ga hx hp la ps rp st tg ti tr S) (hn : n ≤ 600) (hF : 100 ≤ F) : ∃ x r r' t', f_X9_passageGantry F p cn0 ga = some (x, r) ∧ f_X10_passageGantry F p th bs ca S ta tp = some (r', t') ∧ AX [2] x r r' t' := by
  obtain ⟨L, C, w, c5, fe, M, P, rfl, rfl, rfl, rfl, rfl, rfl, rfl, N1, N2, N3, N4, N5, N6, N7, N8, N9, N10, N11⟩ := hN
  obtain ⟨c, tN, vN, lt0, rfl, L1, L2, rfl, L3, L4, L5, L6, L7⟩ := hL
  rcases idx_cases p (show c < 2 ^ 31 by omega) with ⟨j, j1, rfl⟩ | h
  · have j8 : j < 80 := by omega
    obtain ⟨p0, p1, p2, p3, p4, p5, p6, p7, p8, p9, p10⟩ := L5 j j1
    
    refine ⟨0, ga j, ga j, 0, ?_, ?_, AX.ok⟩
    · simp (disch := omega) only [f_X9_passageGantry, rp_1 L1 j1, ll_le, ll_lt, ll_eq, lr_le, lr_lt, lr_eq, ll_add, lr_add, ll_mul, lr_mul, nI_add, pk_mul, nI_leI, nI_ltI, nI_eq, ll_sub, pk_sub, lm_add, rd_n, rd_l, wr_n, wr_l, lm_ne, lm_ne', lm_lt, lm_le, m1_lt, m1_le, m1_le0, m1_lt0, m1_0, m1_0', l1_0, gd_0, gd_1, gd_T, or_true, true_or, false_or, or_false, nle_T, nle_F, nlt_T, nlt_F, neq_T, neq_F, ↓reduceIte, ne_eq, not_true_eq_false, not_false_eq_true, bd1_s, bd2_s, bd3_s, bd4_s, bd5_s, bd6_s, bd7_s, bd8_s, bd9_s, bd10_s, bd11_s, bd12_s, bd13_s, bd14_s, bd15_s, bd16_s, bd17_s, bd18_s, bd19_s, bd20_s, bd21_s, bd22_s, bd23_s, bd24_s, bd25_s]
    · simp (disch := omega) only [f_X10_passageGantry, f_X10_lookAt, ip_1 L2 L1 j1, ofp_l, ← p1, li_2_0, li_2_1, li_2_3, li_2_4, li_2_5, li_2_6, li_3_0, li_3_1, li_3_2, li_3_4, li_3_5, li_3_6, li_4_0, li_4_1, li_4_2, li_4_3, li_4_5, li_4_6, li_5_0, li_5_1, li_5_2, li_5_3, li_5_4, li_5_6, li_6_0, li_6_1, li_6_2, li_6_3, li_6_4, li_6_5, li_7_0, li_7_1, li_7_2, li_7_3, li_7_4, li_7_5, li_7_6, ll_le, ll_lt, ll_eq, lr_le, lr_lt, lr_eq, ll_add, lr_add, ll_mul, lr_mul, nI_add, pk_mul, nI_leI, nI_ltI, nI_eq, ll_sub, pk_sub, lm_add, rd_n, rd_l, wr_n, wr_l, lm_ne, lm_ne', lm_lt, lm_le, m1_lt, m1_le, m1_le0, m1_lt0, m1_0, m1_0', l1_0, gd_0, gd_1, gd_T, or_true, true_or, false_or, or_false, nle_T, nle_F, nlt_T, nlt_F, neq_T, neq_F, ↓reduceIte, ne_eq, not_true_eq_false, not_false_eq_true, bd1_s, bd2_s, bd3_s, bd4_s, bd5_s, bd6_s, bd7_s, bd8_s, bd9_s, bd10_s, bd11_s, bd12_s, bd13_s, bd14_s, bd15_s, bd16_s, bd17_s, bd18_s, bd19_s, bd20_s, bd21_s, bd22_s, bd23_s, bd24_s, bd25_s]
  · refine ⟨2, 0, 0, 1, ?_, ?_, AX.th (by decide) (by decide) (by decide)⟩
    · simp (disch := omega) only [f_X9_passageGantry, rp_0 h, ll_le, ll_lt, ll_eq, lr_le, lr_lt, lr_eq, ll_add, lr_add, ll_mul, lr_mul, nI_add, pk_mul, nI_leI, nI_ltI, nI_eq, ll_sub, pk_sub, lm_add, rd_n, rd_l, wr_n, wr_l, lm_ne, lm_ne', lm_lt, lm_le, m1_lt, m1_le, m1_le0, m1_lt0, m1_0, m1_0', l1_0, gd_0, gd_1, gd_T, or_true, true_or, false_or, or_false, nle_T, nle_F, nlt_T, nlt_F, neq_T, neq_F, ↓reduceIte, ne_eq, not_true_eq_false, not_false_eq_true, bd1_s, bd2_s, bd3_s, bd4_s, bd5_s, bd6_s, bd7_s, bd8_s, bd9_s, bd10_s, bd11_s, bd12_s, bd13_s, bd14_s, bd15_s, bd16_s, bd17_s, bd18_s, bd19_s, bd20_s, bd21_s, bd22_s, bd23_s, bd24_s, bd25_s]
      all_goals rfl
    · simp (disch := omega) only [f_X10_passageGantry, f_X10_lookAt, ip_0 L2 L1 h, f_X10_fail, ll_le, ll_lt, ll_eq, lr_le, lr_lt, lr_eq, ll_add, lr_add, ll_mul, lr_mul, nI_add, pk_mul, nI_leI, nI_ltI, nI_eq, ll_sub, pk_sub, lm_add, rd_n, rd_l, wr_n, wr_l, lm_ne, lm_ne', lm_lt, lm_le, m1_lt, m1_le, m1_le0, m1_lt0, m1_0, m1_0', l1_0, gd_0, gd_1, gd_T, or_true, true_or, false_or, or_false, nle_T, nle_F, nlt_T, nlt_F, neq_T, neq_F, ↓reduceIte, ne_eq, not_true_eq_false, not_false_eq_true, bd1_s, bd2_s, bd3_s, bd4_s, bd5_s, bd6_s, bd7_s, bd8_s, bd9_s, bd10_s, bd11_s, bd12_s, bd13_s, bd14_s, bd15_s, bd16_s, bd17_s, bd18_s, bd19_s, bd20_s, bd21_s, bd22_s, bd23_s, bd24_s, bd25_s]
theorem q_passageTime (p : Int32) (hN : NR gn ln cn tn wn cf fn mM mP ca' cp' tp' ta' bs lf lt lm lq ca cp tp ta G T) (hL : LR n G T tp tn0 vn0 am iv pd pa pl sb vc cn0 ln0 ax ga hx hp la ps rp st tg ti tr S) (hn : n ≤ 600) (hF : 100 ≤ F) : ∃ x r r' t', f_X9_passageTime F p cn0 ti = some (x, r) ∧ f_X10_passageTime F p th bs ca S ta tp = some (r', t') ∧ AX [2] x r r' t' := by
  obtain ⟨L, C, w, c5, fe, M, P, rfl, rfl, rfl, rfl, rfl, rfl, rfl, N1, N2, N3, N4, N5, N6, N7, N8, N9, N10, N11⟩ := hN
  obtain ⟨c, tN, vN, lt0, rfl, L1, L2, rfl, L3, L4, L5, L6, L7⟩ := hL
  rcases idx_cases p (show c < 2 ^ 31 by omega) with ⟨j, j1, rfl⟩ | h
  · have j8 : j < 80 := by omega
    obtain ⟨p0, p1, p2, p3, p4, p5, p6, p7, p8, p9, p10⟩ := L5 j j1
    
    refine ⟨0, ti j, ti j, 0, ?_, ?_, AX.ok⟩
    · simp (disch := omega) only [f_X9_passageTime, rp_1 L1 j1, ll_le, ll_lt, ll_eq, lr_le, lr_lt, lr_eq, ll_add, lr_add, ll_mul, lr_mul, nI_add, pk_mul, nI_leI, nI_ltI, nI_eq, ll_sub, pk_sub, lm_add, rd_n, rd_l, wr_n, wr_l, lm_ne, lm_ne', lm_lt, lm_le, m1_lt, m1_le, m1_le0, m1_lt0, m1_0, m1_0', l1_0, gd_0, gd_1, gd_T, or_true, true_or, false_or, or_false, nle_T, nle_F, nlt_T, nlt_F, neq_T, neq_F, ↓reduceIte, ne_eq, not_true_eq_false, not_false_eq_true, bd1_s, bd2_s, bd3_s, bd4_s, bd5_s, bd6_s, bd7_s, bd8_s, bd9_s, bd10_s, bd11_s, bd12_s, bd13_s, bd14_s, bd15_s, bd16_s, bd17_s, bd18_s, bd19_s, bd20_s, bd21_s, bd22_s, bd23_s, bd24_s, bd25_s]
    · simp (disch := omega) only [f_X10_passageTime, f_X10_lookAt, ip_1 L2 L1 j1, ofp_l, ← p3, li_2_0, li_2_1, li_2_3, li_2_4, li_2_5, li_2_6, li_3_0, li_3_1, li_3_2, li_3_4, li_3_5, li_3_6, li_4_0, li_4_1, li_4_2, li_4_3, li_4_5, li_4_6, li_5_0, li_5_1, li_5_2, li_5_3, li_5_4, li_5_6, li_6_0, li_6_1, li_6_2, li_6_3, li_6_4, li_6_5, li_7_0, li_7_1, li_7_2, li_7_3, li_7_4, li_7_5, li_7_6, ll_le, ll_lt, ll_eq, lr_le, lr_lt, lr_eq, ll_add, lr_add, ll_mul, lr_mul, nI_add, pk_mul, nI_leI, nI_ltI, nI_eq, ll_sub, pk_sub, lm_add, rd_n, rd_l, wr_n, wr_l, lm_ne, lm_ne', lm_lt, lm_le, m1_lt, m1_le, m1_le0, m1_lt0, m1_0, m1_0', l1_0, gd_0, gd_1, gd_T, or_true, true_or, false_or, or_false, nle_T, nle_F, nlt_T, nlt_F, neq_T, neq_F, ↓reduceIte, ne_eq, not_true_eq_false, not_false_eq_true, bd1_s, bd2_s, bd3_s, bd4_s, bd5_s, bd6_s, bd7_s, bd8_s, bd9_s, bd10_s, bd11_s, bd12_s, bd13_s, bd14_s, bd15_s, bd16_s, bd17_s, bd18_s, bd19_s, bd20_s, bd21_s, bd22_s, bd23_s, bd24_s, bd25_s]
  · refine ⟨2, 0, 0, 1, ?_, ?_, AX.th (by decide) (by decide) (by decide)⟩
    · simp (disch := omega) only [f_X9_passageTime, rp_0 h, ll_le, ll_lt, ll_eq, lr_le, lr_lt, lr_eq, ll_add, lr_add, ll_mul, lr_mul, nI_add, pk_mul, nI_leI, nI_ltI, nI_eq, ll_sub, pk_sub, lm_add, rd_n, rd_l, wr_n, wr_l, lm_ne, lm_ne', lm_lt, lm_le, m1_lt, m1_le, m1_le0, m1_lt0, m1_0, m1_0', l1_0, gd_0, gd_1, gd_T, or_true, true_or, false_or, or_false, nle_T, nle_F, nlt_T, nlt_F, neq_T, neq_F, ↓reduceIte, ne_eq, not_true_eq_false, not_false_eq_true, bd1_s, bd2_s, bd3_s, bd4_s, bd5_s, bd6_s, bd7_s, bd8_s, bd9_s, bd10_s, bd11_s, bd12_s, bd13_s, bd14_s, bd15_s, bd16_s, bd17_s, bd18_s, bd19_s, bd20_s, bd21_s, bd22_s, bd23_s, bd24_s, bd25_s]
      all_goals rfl
    · simp (disch := omega) only [f_X10_passageTime, f_X10_lookAt, ip_0 L2 L1 h, f_X10_fail, ll_le, ll_lt, ll_eq, lr_le, lr_lt, lr_eq, ll_add, lr_add, ll_mul, lr_mul, nI_add, pk_mul, nI_leI, nI_ltI, nI_eq, ll_sub, pk_sub, lm_add, rd_n, rd_l, wr_n, wr_l, lm_ne, lm_ne', lm_lt, lm_le, m1_lt, m1_le, m1_le0, m1_lt0, m1_0, m1_0', l1_0, gd_0, gd_1, gd_T, or_true, true_or, false_or, or_false, nle_T, nle_F, nlt_T, nlt_F, neq_T, neq_F, ↓reduceIte, ne_eq, not_true_eq_false, not_false_eq_true, bd1_s, bd2_s, bd3_s, bd4_s, bd5_s, bd6_s, bd7_s, bd8_s, bd9_s, bd10_s, bd11_s, bd12_s, bd13_s, bd14_s, bd15_s, bd16_s, bd17_s, bd18_s, bd19_s, bd20_s, bd21_s, bd22_s, bd23_s, bd24_s, bd25_s]
theorem q_passageTag (p : Int32) (hN : NR gn ln cn tn wn cf fn mM mP ca' cp' tp' ta' bs lf lt lm lq ca cp tp ta G T) (hL : LR n G T tp tn0 vn0 am iv pd pa pl sb vc cn0 ln0 ax ga hx hp la ps rp st tg ti tr S) (hn : n ≤ 600) (hF : 100 ≤ F) : ∃ x r r' t', f_X9_passageTag F p cn0 tg = some (x, r) ∧ f_X10_passageTag F p th bs ca S ta tp = some (r', t') ∧ AX [2] x r r' t' := by
  obtain ⟨L, C, w, c5, fe, M, P, rfl, rfl, rfl, rfl, rfl, rfl, rfl, N1, N2, N3, N4, N5, N6, N7, N8, N9, N10, N11⟩ := hN
  obtain ⟨c, tN, vN, lt0, rfl, L1, L2, rfl, L3, L4, L5, L6, L7⟩ := hL
  rcases idx_cases p (show c < 2 ^ 31 by omega) with ⟨j, j1, rfl⟩ | h
  · have j8 : j < 80 := by omega
    obtain ⟨p0, p1, p2, p3, p4, p5, p6, p7, p8, p9, p10⟩ := L5 j j1
    
    refine ⟨0, tg j, tg j, 0, ?_, ?_, AX.ok⟩
    · simp (disch := omega) only [f_X9_passageTag, rp_1 L1 j1, ll_le, ll_lt, ll_eq, lr_le, lr_lt, lr_eq, ll_add, lr_add, ll_mul, lr_mul, nI_add, pk_mul, nI_leI, nI_ltI, nI_eq, ll_sub, pk_sub, lm_add, rd_n, rd_l, wr_n, wr_l, lm_ne, lm_ne', lm_lt, lm_le, m1_lt, m1_le, m1_le0, m1_lt0, m1_0, m1_0', l1_0, gd_0, gd_1, gd_T, or_true, true_or, false_or, or_false, nle_T, nle_F, nlt_T, nlt_F, neq_T, neq_F, ↓reduceIte, ne_eq, not_true_eq_false, not_false_eq_true, bd1_s, bd2_s, bd3_s, bd4_s, bd5_s, bd6_s, bd7_s, bd8_s, bd9_s, bd10_s, bd11_s, bd12_s, bd13_s, bd14_s, bd15_s, bd16_s, bd17_s, bd18_s, bd19_s, bd20_s, bd21_s, bd22_s, bd23_s, bd24_s, bd25_s]
    · simp (disch := omega) only [f_X10_passageTag, f_X10_lookAt, ip_1 L2 L1 j1, to_v, ← p5, li_2_0, li_2_1, li_2_3, li_2_4, li_2_5, li_2_6, li_3_0, li_3_1, li_3_2, li_3_4, li_3_5, li_3_6, li_4_0, li_4_1, li_4_2, li_4_3, li_4_5, li_4_6, li_5_0, li_5_1, li_5_2, li_5_3, li_5_4, li_5_6, li_6_0, li_6_1, li_6_2, li_6_3, li_6_4, li_6_5, li_7_0, li_7_1, li_7_2, li_7_3, li_7_4, li_7_5, li_7_6, ll_le, ll_lt, ll_eq, lr_le, lr_lt, lr_eq, ll_add, lr_add, ll_mul, lr_mul, nI_add, pk_mul, nI_leI, nI_ltI, nI_eq, ll_sub, pk_sub, lm_add, rd_n, rd_l, wr_n, wr_l, lm_ne, lm_ne', lm_lt, lm_le, m1_lt, m1_le, m1_le0, m1_lt0, m1_0, m1_0', l1_0, gd_0, gd_1, gd_T, or_true, true_or, false_or, or_false, nle_T, nle_F, nlt_T, nlt_F, neq_T, neq_F, ↓reduceIte, ne_eq, not_true_eq_false, not_false_eq_true, bd1_s, bd2_s, bd3_s, bd4_s, bd5_s, bd6_s, bd7_s, bd8_s, bd9_s, bd10_s, bd11_s, bd12_s, bd13_s, bd14_s, bd15_s, bd16_s, bd17_s, bd18_s, bd19_s, bd20_s, bd21_s, bd22_s, bd23_s, bd24_s, bd25_s]
  · refine ⟨2, 0, 0, 1, ?_, ?_, AX.th (by decide) (by decide) (by decide)⟩
    · simp (disch := omega) only [f_X9_passageTag, rp_0 h, ll_le, ll_lt, ll_eq, lr_le, lr_lt, lr_eq, ll_add, lr_add, ll_mul, lr_mul, nI_add, pk_mul, nI_leI, nI_ltI, nI_eq, ll_sub, pk_sub, lm_add, rd_n, rd_l, wr_n, wr_l, lm_ne, lm_ne', lm_lt, lm_le, m1_lt, m1_le, m1_le0, m1_lt0, m1_0, m1_0', l1_0, gd_0, gd_1, gd_T, or_true, true_or, false_or, or_false, nle_T, nle_F, nlt_T, nlt_F, neq_T, neq_F, ↓reduceIte, ne_eq, not_true_eq_false, not_false_eq_true, bd1_s, bd2_s, bd3_s, bd4_s, bd5_s, bd6_s, bd7_s, bd8_s, bd9_s, bd10_s, bd11_s, bd12_s, bd13_s, bd14_s, bd15_s, bd16_s, bd17_s, bd18_s, bd19_s, bd20_s, bd21_s, bd22_s, bd23_s, bd24_s, bd25_s]
      all_goals rfl
    · simp (disch := omega) only [f_X10_passageTag, f_X10_lookAt, ip_0 L2 L1 h, f_X10_fail, ll_le, ll_lt, ll_eq, lr_le, lr_lt, lr_eq, ll_add, lr_add, ll_mul, lr_mul, nI_add, pk_mul, nI_leI, nI_ltI, nI_eq, ll_sub, pk_sub, lm_add, rd_n, rd_l, wr_n, wr_l, lm_ne, lm_ne', lm_lt, lm_le, m1_lt, m1_le, m1_le0, m1_lt0, m1_0, m1_0', l1_0, gd_0, gd_1, gd_T, or_true, true_or, false_or, or_false, nle_T, nle_F, nlt_T, nlt_F, neq_T, neq_F, ↓reduceIte, ne_eq, not_true_eq_false, not_false_eq_true, bd1_s, bd2_s, bd3_s, bd4_s, bd5_s, bd6_s, bd7_s, bd8_s, bd9_s, bd10_s, bd11_s, bd12_s, bd13_s, bd14_s, bd15_s, bd16_s, bd17_s, bd18_s, bd19_s, bd20_s, bd21_s, bd22_s, bd23_s, bd24_s, bd25_s]
theorem q_passageState (p : Int32) (hN : NR gn ln cn tn wn cf fn mM mP ca' cp' tp' ta' bs lf lt lm lq ca cp tp ta G T) (hL : LR n G T tp tn0 vn0 am iv pd pa pl sb vc cn0 ln0 ax ga hx hp la ps rp st tg ti tr S) (hn : n ≤ 600) (hF : 100 ≤ F) : ∃ x r r' t', f_X9_passageState F p cn0 st = some (x, r) ∧ f_X10_passageState F p th bs ca S ta tp = some (r', t') ∧ AX [2] x r r' t' := by
  obtain ⟨L, C, w, c5, fe, M, P, rfl, rfl, rfl, rfl, rfl, rfl, rfl, N1, N2, N3, N4, N5, N6, N7, N8, N9, N10, N11⟩ := hN
  obtain ⟨c, tN, vN, lt0, rfl, L1, L2, rfl, L3, L4, L5, L6, L7⟩ := hL
  rcases idx_cases p (show c < 2 ^ 31 by omega) with ⟨j, j1, rfl⟩ | h
  · have j8 : j < 80 := by omega
    obtain ⟨p0, p1, p2, p3, p4, p5, p6, p7, p8, p9, p10⟩ := L5 j j1
    
    refine ⟨0, st j, st j, 0, ?_, ?_, AX.ok⟩
    · simp (disch := omega) only [f_X9_passageState, rp_1 L1 j1, ll_le, ll_lt, ll_eq, lr_le, lr_lt, lr_eq, ll_add, lr_add, ll_mul, lr_mul, nI_add, pk_mul, nI_leI, nI_ltI, nI_eq, ll_sub, pk_sub, lm_add, rd_n, rd_l, wr_n, wr_l, lm_ne, lm_ne', lm_lt, lm_le, m1_lt, m1_le, m1_le0, m1_lt0, m1_0, m1_0', l1_0, gd_0, gd_1, gd_T, or_true, true_or, false_or, or_false, nle_T, nle_F, nlt_T, nlt_F, neq_T, neq_F, ↓reduceIte, ne_eq, not_true_eq_false, not_false_eq_true, bd1_s, bd2_s, bd3_s, bd4_s, bd5_s, bd6_s, bd7_s, bd8_s, bd9_s, bd10_s, bd11_s, bd12_s, bd13_s, bd14_s, bd15_s, bd16_s, bd17_s, bd18_s, bd19_s, bd20_s, bd21_s, bd22_s, bd23_s, bd24_s, bd25_s]
    · simp (disch := omega) only [f_X10_passageState, f_X10_lookAt, ip_1 L2 L1 j1, ofp_l, ← p4, li_2_0, li_2_1, li_2_3, li_2_4, li_2_5, li_2_6, li_3_0, li_3_1, li_3_2, li_3_4, li_3_5, li_3_6, li_4_0, li_4_1, li_4_2, li_4_3, li_4_5, li_4_6, li_5_0, li_5_1, li_5_2, li_5_3, li_5_4, li_5_6, li_6_0, li_6_1, li_6_2, li_6_3, li_6_4, li_6_5, li_7_0, li_7_1, li_7_2, li_7_3, li_7_4, li_7_5, li_7_6, ll_le, ll_lt, ll_eq, lr_le, lr_lt, lr_eq, ll_add, lr_add, ll_mul, lr_mul, nI_add, pk_mul, nI_leI, nI_ltI, nI_eq, ll_sub, pk_sub, lm_add, rd_n, rd_l, wr_n, wr_l, lm_ne, lm_ne', lm_lt, lm_le, m1_lt, m1_le, m1_le0, m1_lt0, m1_0, m1_0', l1_0, gd_0, gd_1, gd_T, or_true, true_or, false_or, or_false, nle_T, nle_F, nlt_T, nlt_F, neq_T, neq_F, ↓reduceIte, ne_eq, not_true_eq_false, not_false_eq_true, bd1_s, bd2_s, bd3_s, bd4_s, bd5_s, bd6_s, bd7_s, bd8_s, bd9_s, bd10_s, bd11_s, bd12_s, bd13_s, bd14_s, bd15_s, bd16_s, bd17_s, bd18_s, bd19_s, bd20_s, bd21_s, bd22_s, bd23_s, bd24_s, bd25_s]
  · refine ⟨2, 0, 0, 1, ?_, ?_, AX.th (by decide) (by decide) (by decide)⟩
    · simp (disch := omega) only [f_X9_passageState, rp_0 h, ll_le, ll_lt, ll_eq, lr_le, lr_lt, lr_eq, ll_add, lr_add, ll_mul, lr_mul, nI_add, pk_mul, nI_leI, nI_ltI, nI_eq, ll_sub, pk_sub, lm_add, rd_n, rd_l, wr_n, wr_l, lm_ne, lm_ne', lm_lt, lm_le, m1_lt, m1_le, m1_le0, m1_lt0, m1_0, m1_0', l1_0, gd_0, gd_1, gd_T, or_true, true_or, false_or, or_false, nle_T, nle_F, nlt_T, nlt_F, neq_T, neq_F, ↓reduceIte, ne_eq, not_true_eq_false, not_false_eq_true, bd1_s, bd2_s, bd3_s, bd4_s, bd5_s, bd6_s, bd7_s, bd8_s, bd9_s, bd10_s, bd11_s, bd12_s, bd13_s, bd14_s, bd15_s, bd16_s, bd17_s, bd18_s, bd19_s, bd20_s, bd21_s, bd22_s, bd23_s, bd24_s, bd25_s]
      all_goals rfl
    · simp (disch := omega) only [f_X10_passageState, f_X10_lookAt, ip_0 L2 L1 h, f_X10_fail, ll_le, ll_lt, ll_eq, lr_le, lr_lt, lr_eq, ll_add, lr_add, ll_mul, lr_mul, nI_add, pk_mul, nI_leI, nI_ltI, nI_eq, ll_sub, pk_sub, lm_add, rd_n, rd_l, wr_n, wr_l, lm_ne, lm_ne', lm_lt, lm_le, m1_lt, m1_le, m1_le0, m1_lt0, m1_0, m1_0', l1_0, gd_0, gd_1, gd_T, or_true, true_or, false_or, or_false, nle_T, nle_F, nlt_T, nlt_F, neq_T, neq_F, ↓reduceIte, ne_eq, not_true_eq_false, not_false_eq_true, bd1_s, bd2_s, bd3_s, bd4_s, bd5_s, bd6_s, bd7_s, bd8_s, bd9_s, bd10_s, bd11_s, bd12_s, bd13_s, bd14_s, bd15_s, bd16_s, bd17_s, bd18_s, bd19_s, bd20_s, bd21_s, bd22_s, bd23_s, bd24_s, bd25_s]
theorem q_tripOf (p : Int32) (hN : NR gn ln cn tn wn cf fn mM mP ca' cp' tp' ta' bs lf lt lm lq ca cp tp ta G T) (hL : LR n G T tp tn0 vn0 am iv pd pa pl sb vc cn0 ln0 ax ga hx hp la ps rp st tg ti tr S) (hn : n ≤ 600) (hF : 100 ≤ F) : ∃ x r r' t', f_X9_tripOf F p cn0 tr = some (x, r) ∧ f_X10_tripOf F p th bs ca S ta tp = some (r', t') ∧ AX [2] x r r' t' := by
  obtain ⟨L, C, w, c5, fe, M, P, rfl, rfl, rfl, rfl, rfl, rfl, rfl, N1, N2, N3, N4, N5, N6, N7, N8, N9, N10, N11⟩ := hN
  obtain ⟨c, tN, vN, lt0, rfl, L1, L2, rfl, L3, L4, L5, L6, L7⟩ := hL
  rcases idx_cases p (show c < 2 ^ 31 by omega) with ⟨j, j1, rfl⟩ | h
  · have j8 : j < 80 := by omega
    obtain ⟨p0, p1, p2, p3, p4, p5, p6, p7, p8, p9, p10⟩ := L5 j j1
    
    refine ⟨0, tr j, tr j, 0, ?_, ?_, AX.ok⟩
    · simp (disch := omega) only [f_X9_tripOf, rp_1 L1 j1, ll_le, ll_lt, ll_eq, lr_le, lr_lt, lr_eq, ll_add, lr_add, ll_mul, lr_mul, nI_add, pk_mul, nI_leI, nI_ltI, nI_eq, ll_sub, pk_sub, lm_add, rd_n, rd_l, wr_n, wr_l, lm_ne, lm_ne', lm_lt, lm_le, m1_lt, m1_le, m1_le0, m1_lt0, m1_0, m1_0', l1_0, gd_0, gd_1, gd_T, or_true, true_or, false_or, or_false, nle_T, nle_F, nlt_T, nlt_F, neq_T, neq_F, ↓reduceIte, ne_eq, not_true_eq_false, not_false_eq_true, bd1_s, bd2_s, bd3_s, bd4_s, bd5_s, bd6_s, bd7_s, bd8_s, bd9_s, bd10_s, bd11_s, bd12_s, bd13_s, bd14_s, bd15_s, bd16_s, bd17_s, bd18_s, bd19_s, bd20_s, bd21_s, bd22_s, bd23_s, bd24_s, bd25_s]
    · simp (disch := omega) only [f_X10_tripOf, f_X10_lookAt, ip_1 L2 L1 j1, ofp_l, ← p10, li_2_0, li_2_1, li_2_3, li_2_4, li_2_5, li_2_6, li_3_0, li_3_1, li_3_2, li_3_4, li_3_5, li_3_6, li_4_0, li_4_1, li_4_2, li_4_3, li_4_5, li_4_6, li_5_0, li_5_1, li_5_2, li_5_3, li_5_4, li_5_6, li_6_0, li_6_1, li_6_2, li_6_3, li_6_4, li_6_5, li_7_0, li_7_1, li_7_2, li_7_3, li_7_4, li_7_5, li_7_6, ll_le, ll_lt, ll_eq, lr_le, lr_lt, lr_eq, ll_add, lr_add, ll_mul, lr_mul, nI_add, pk_mul, nI_leI, nI_ltI, nI_eq, ll_sub, pk_sub, lm_add, rd_n, rd_l, wr_n, wr_l, lm_ne, lm_ne', lm_lt, lm_le, m1_lt, m1_le, m1_le0, m1_lt0, m1_0, m1_0', l1_0, gd_0, gd_1, gd_T, or_true, true_or, false_or, or_false, nle_T, nle_F, nlt_T, nlt_F, neq_T, neq_F, ↓reduceIte, ne_eq, not_true_eq_false, not_false_eq_true, bd1_s, bd2_s, bd3_s, bd4_s, bd5_s, bd6_s, bd7_s, bd8_s, bd9_s, bd10_s, bd11_s, bd12_s, bd13_s, bd14_s, bd15_s, bd16_s, bd17_s, bd18_s, bd19_s, bd20_s, bd21_s, bd22_s, bd23_s, bd24_s, bd25_s]
  · refine ⟨2, 0, 0, 1, ?_, ?_, AX.th (by decide) (by decide) (by decide)⟩
    · simp (disch := omega) only [f_X9_tripOf, rp_0 h, ll_le, ll_lt, ll_eq, lr_le, lr_lt, lr_eq, ll_add, lr_add, ll_mul, lr_mul, nI_add, pk_mul, nI_leI, nI_ltI, nI_eq, ll_sub, pk_sub, lm_add, rd_n, rd_l, wr_n, wr_l, lm_ne, lm_ne', lm_lt, lm_le, m1_lt, m1_le, m1_le0, m1_lt0, m1_0, m1_0', l1_0, gd_0, gd_1, gd_T, or_true, true_or, false_or, or_false, nle_T, nle_F, nlt_T, nlt_F, neq_T, neq_F, ↓reduceIte, ne_eq, not_true_eq_false, not_false_eq_true, bd1_s, bd2_s, bd3_s, bd4_s, bd5_s, bd6_s, bd7_s, bd8_s, bd9_s, bd10_s, bd11_s, bd12_s, bd13_s, bd14_s, bd15_s, bd16_s, bd17_s, bd18_s, bd19_s, bd20_s, bd21_s, bd22_s, bd23_s, bd24_s, bd25_s]
      all_goals rfl
    · simp (disch := omega) only [f_X10_tripOf, f_X10_lookAt, ip_0 L2 L1 h, f_X10_fail, ll_le, ll_lt, ll_eq, lr_le, lr_lt, lr_eq, ll_add, lr_add, ll_mul, lr_mul, nI_add, pk_mul, nI_leI, nI_ltI, nI_eq, ll_sub, pk_sub, lm_add, rd_n, rd_l, wr_n, wr_l, lm_ne, lm_ne', lm_lt, lm_le, m1_lt, m1_le, m1_le0, m1_lt0, m1_0, m1_0', l1_0, gd_0, gd_1, gd_T, or_true, true_or, false_or, or_false, nle_T, nle_F, nlt_T, nlt_F, neq_T, neq_F, ↓reduceIte, ne_eq, not_true_eq_false, not_false_eq_true, bd1_s, bd2_s, bd3_s, bd4_s, bd5_s, bd6_s, bd7_s, bd8_s, bd9_s, bd10_s, bd11_s, bd12_s, bd13_s, bd14_s, bd15_s, bd16_s, bd17_s, bd18_s, bd19_s, bd20_s, bd21_s, bd22_s, bd23_s, bd24_s, bd25_s]
theorem q_passagePlate (p : Int32) (hN : NR gn ln cn tn wn cf fn mM mP ca' cp' tp' ta' bs lf lt lm lq ca cp tp ta G T) (hL : LR n G T tp tn0 vn0 am iv pd pa pl sb vc cn0 ln0 ax ga hx hp la ps rp st tg ti tr S) (hn : n ≤ 600) (hF : 100 ≤ F) : ∃ x r r' t', f_X9_passagePlate F p cn0 hp ps rp cf = some (x, r) ∧ f_X10_passagePlate F p th bs ca S ta tp = some (r', t') ∧ AX [2] x r r' t' := by
  obtain ⟨L, C, w, c5, fe, M, P, rfl, rfl, rfl, rfl, rfl, rfl, rfl, N1, N2, N3, N4, N5, N6, N7, N8, N9, N10, N11⟩ := hN
  obtain ⟨c, tN, vN, lt0, rfl, L1, L2, rfl, L3, L4, L5, L6, L7⟩ := hL
  rcases idx_cases p (show c < 2 ^ 31 by omega) with ⟨j, j1, rfl⟩ | h
  · have j8 : j < 80 := by omega
    obtain ⟨p0, p1, p2, p3, p4, p5, p6, p7, p8, p9, p10⟩ := L5 j j1
    have w1 := pl6_v (F := F) j8 (L5 j j1) (nI c5) hF
    have w2 := pl10_v (F := F) (bs := bs) j8 hn p0 N10.2.2.2.2.2.2.1 N10.2.2.2.2.2.2.2.1 N10.2.2.2.2.2.2.2.2 hF
    refine ⟨0, plI (nI c5) S j, plI (nI c5) S j, 0, ?_, ?_, AX.ok⟩
    · simp (disch := omega) only [f_X9_passagePlate, rp_1 L1 j1, w1, ll_le, ll_lt, ll_eq, lr_le, lr_lt, lr_eq, ll_add, lr_add, ll_mul, lr_mul, nI_add, pk_mul, nI_leI, nI_ltI, nI_eq, ll_sub, pk_sub, lm_add, rd_n, rd_l, wr_n, wr_l, lm_ne, lm_ne', lm_lt, lm_le, m1_lt, m1_le, m1_le0, m1_lt0, m1_0, m1_0', l1_0, gd_0, gd_1, gd_T, or_true, true_or, false_or, or_false, nle_T, nle_F, nlt_T, nlt_F, neq_T, neq_F, ↓reduceIte, ne_eq, not_true_eq_false, not_false_eq_true, bd1_s, bd2_s, bd3_s, bd4_s, bd5_s, bd6_s, bd7_s, bd8_s, bd9_s, bd10_s, bd11_s, bd12_s, bd13_s, bd14_s, bd15_s, bd16_s, bd17_s, bd18_s, bd19_s, bd20_s, bd21_s, bd22_s, bd23_s, bd24_s, bd25_s]
    · simp (disch := omega) only [f_X10_passagePlate, f_X10_lookAt, ip_1 L2 L1 j1, w2, li_2_0, li_2_1, li_2_3, li_2_4, li_2_5, li_2_6, li_3_0, li_3_1, li_3_2, li_3_4, li_3_5, li_3_6, li_4_0, li_4_1, li_4_2, li_4_3, li_4_5, li_4_6, li_5_0, li_5_1, li_5_2, li_5_3, li_5_4, li_5_6, li_6_0, li_6_1, li_6_2, li_6_3, li_6_4, li_6_5, li_7_0, li_7_1, li_7_2, li_7_3, li_7_4, li_7_5, li_7_6, ll_le, ll_lt, ll_eq, lr_le, lr_lt, lr_eq, ll_add, lr_add, ll_mul, lr_mul, nI_add, pk_mul, nI_leI, nI_ltI, nI_eq, ll_sub, pk_sub, lm_add, rd_n, rd_l, wr_n, wr_l, lm_ne, lm_ne', lm_lt, lm_le, m1_lt, m1_le, m1_le0, m1_lt0, m1_0, m1_0', l1_0, gd_0, gd_1, gd_T, or_true, true_or, false_or, or_false, nle_T, nle_F, nlt_T, nlt_F, neq_T, neq_F, ↓reduceIte, ne_eq, not_true_eq_false, not_false_eq_true, bd1_s, bd2_s, bd3_s, bd4_s, bd5_s, bd6_s, bd7_s, bd8_s, bd9_s, bd10_s, bd11_s, bd12_s, bd13_s, bd14_s, bd15_s, bd16_s, bd17_s, bd18_s, bd19_s, bd20_s, bd21_s, bd22_s, bd23_s, bd24_s, bd25_s]
  · refine ⟨2, 0, 0, 1, ?_, ?_, AX.th (by decide) (by decide) (by decide)⟩
    · simp (disch := omega) only [f_X9_passagePlate, rp_0 h, ll_le, ll_lt, ll_eq, lr_le, lr_lt, lr_eq, ll_add, lr_add, ll_mul, lr_mul, nI_add, pk_mul, nI_leI, nI_ltI, nI_eq, ll_sub, pk_sub, lm_add, rd_n, rd_l, wr_n, wr_l, lm_ne, lm_ne', lm_lt, lm_le, m1_lt, m1_le, m1_le0, m1_lt0, m1_0, m1_0', l1_0, gd_0, gd_1, gd_T, or_true, true_or, false_or, or_false, nle_T, nle_F, nlt_T, nlt_F, neq_T, neq_F, ↓reduceIte, ne_eq, not_true_eq_false, not_false_eq_true, bd1_s, bd2_s, bd3_s, bd4_s, bd5_s, bd6_s, bd7_s, bd8_s, bd9_s, bd10_s, bd11_s, bd12_s, bd13_s, bd14_s, bd15_s, bd16_s, bd17_s, bd18_s, bd19_s, bd20_s, bd21_s, bd22_s, bd23_s, bd24_s, bd25_s]
      all_goals rfl
    · simp (disch := omega) only [f_X10_passagePlate, f_X10_lookAt, ip_0 L2 L1 h, f_X10_fail, ll_le, ll_lt, ll_eq, lr_le, lr_lt, lr_eq, ll_add, lr_add, ll_mul, lr_mul, nI_add, pk_mul, nI_leI, nI_ltI, nI_eq, ll_sub, pk_sub, lm_add, rd_n, rd_l, wr_n, wr_l, lm_ne, lm_ne', lm_lt, lm_le, m1_lt, m1_le, m1_le0, m1_lt0, m1_0, m1_0', l1_0, gd_0, gd_1, gd_T, or_true, true_or, false_or, or_false, nle_T, nle_F, nlt_T, nlt_F, neq_T, neq_F, ↓reduceIte, ne_eq, not_true_eq_false, not_false_eq_true, bd1_s, bd2_s, bd3_s, bd4_s, bd5_s, bd6_s, bd7_s, bd8_s, bd9_s, bd10_s, bd11_s, bd12_s, bd13_s, bd14_s, bd15_s, bd16_s, bd17_s, bd18_s, bd19_s, bd20_s, bd21_s, bd22_s, bd23_s, bd24_s, bd25_s]
theorem q_passageAxles (p : Int32) (hN : NR gn ln cn tn wn cf fn mM mP ca' cp' tp' ta' bs lf lt lm lq ca cp tp ta G T) (hL : LR n G T tp tn0 vn0 am iv pd pa pl sb vc cn0 ln0 ax ga hx hp la ps rp st tg ti tr S) (hn : n ≤ 600) (hF : 100 ≤ F) : ∃ x r r' t', f_X9_passageAxles F p cn0 ax hx = some (x, r) ∧ f_X10_passageAxles F p th bs ca S ta tp = some (r', t') ∧ AX [2] x r r' t' := by
  obtain ⟨L, C, w, c5, fe, M, P, rfl, rfl, rfl, rfl, rfl, rfl, rfl, N1, N2, N3, N4, N5, N6, N7, N8, N9, N10, N11⟩ := hN
  obtain ⟨c, tN, vN, lt0, rfl, L1, L2, rfl, L3, L4, L5, L6, L7⟩ := hL
  rcases idx_cases p (show c < 2 ^ 31 by omega) with ⟨j, j1, rfl⟩ | h
  · have j8 : j < 80 := by omega
    obtain ⟨p0, p1, p2, p3, p4, p5, p6, p7, p8, p9, p10⟩ := L5 j j1
    have w1 := av6_v (F := F) j8 hn (L5 j j1) hF
    have w2 := av10_v (F := F) j8 hn p0 hF
    refine ⟨0, avI S j, avI S j, 0, ?_, ?_, AX.ok⟩
    · simp (disch := omega) only [f_X9_passageAxles, rp_1 L1 j1, w1, ll_le, ll_lt, ll_eq, lr_le, lr_lt, lr_eq, ll_add, lr_add, ll_mul, lr_mul, nI_add, pk_mul, nI_leI, nI_ltI, nI_eq, ll_sub, pk_sub, lm_add, rd_n, rd_l, wr_n, wr_l, lm_ne, lm_ne', lm_lt, lm_le, m1_lt, m1_le, m1_le0, m1_lt0, m1_0, m1_0', l1_0, gd_0, gd_1, gd_T, or_true, true_or, false_or, or_false, nle_T, nle_F, nlt_T, nlt_F, neq_T, neq_F, ↓reduceIte, ne_eq, not_true_eq_false, not_false_eq_true, bd1_s, bd2_s, bd3_s, bd4_s, bd5_s, bd6_s, bd7_s, bd8_s, bd9_s, bd10_s, bd11_s, bd12_s, bd13_s, bd14_s, bd15_s, bd16_s, bd17_s, bd18_s, bd19_s, bd20_s, bd21_s, bd22_s, bd23_s, bd24_s, bd25_s]
    · simp (disch := omega) only [f_X10_passageAxles, f_X10_lookAt, ip_1 L2 L1 j1, w2, li_2_0, li_2_1, li_2_3, li_2_4, li_2_5, li_2_6, li_3_0, li_3_1, li_3_2, li_3_4, li_3_5, li_3_6, li_4_0, li_4_1, li_4_2, li_4_3, li_4_5, li_4_6, li_5_0, li_5_1, li_5_2, li_5_3, li_5_4, li_5_6, li_6_0, li_6_1, li_6_2, li_6_3, li_6_4, li_6_5, li_7_0, li_7_1, li_7_2, li_7_3, li_7_4, li_7_5, li_7_6, ll_le, ll_lt, ll_eq, lr_le, lr_lt, lr_eq, ll_add, lr_add, ll_mul, lr_mul, nI_add, pk_mul, nI_leI, nI_ltI, nI_eq, ll_sub, pk_sub, lm_add, rd_n, rd_l, wr_n, wr_l, lm_ne, lm_ne', lm_lt, lm_le, m1_lt, m1_le, m1_le0, m1_lt0, m1_0, m1_0', l1_0, gd_0, gd_1, gd_T, or_true, true_or, false_or, or_false, nle_T, nle_F, nlt_T, nlt_F, neq_T, neq_F, ↓reduceIte, ne_eq, not_true_eq_false, not_false_eq_true, bd1_s, bd2_s, bd3_s, bd4_s, bd5_s, bd6_s, bd7_s, bd8_s, bd9_s, bd10_s, bd11_s, bd12_s, bd13_s, bd14_s, bd15_s, bd16_s, bd17_s, bd18_s, bd19_s, bd20_s, bd21_s, bd22_s, bd23_s, bd24_s, bd25_s]
  · refine ⟨2, 0, 0, 1, ?_, ?_, AX.th (by decide) (by decide) (by decide)⟩
    · simp (disch := omega) only [f_X9_passageAxles, rp_0 h, ll_le, ll_lt, ll_eq, lr_le, lr_lt, lr_eq, ll_add, lr_add, ll_mul, lr_mul, nI_add, pk_mul, nI_leI, nI_ltI, nI_eq, ll_sub, pk_sub, lm_add, rd_n, rd_l, wr_n, wr_l, lm_ne, lm_ne', lm_lt, lm_le, m1_lt, m1_le, m1_le0, m1_lt0, m1_0, m1_0', l1_0, gd_0, gd_1, gd_T, or_true, true_or, false_or, or_false, nle_T, nle_F, nlt_T, nlt_F, neq_T, neq_F, ↓reduceIte, ne_eq, not_true_eq_false, not_false_eq_true, bd1_s, bd2_s, bd3_s, bd4_s, bd5_s, bd6_s, bd7_s, bd8_s, bd9_s, bd10_s, bd11_s, bd12_s, bd13_s, bd14_s, bd15_s, bd16_s, bd17_s, bd18_s, bd19_s, bd20_s, bd21_s, bd22_s, bd23_s, bd24_s, bd25_s]
      all_goals rfl
    · simp (disch := omega) only [f_X10_passageAxles, f_X10_lookAt, ip_0 L2 L1 h, f_X10_fail, ll_le, ll_lt, ll_eq, lr_le, lr_lt, lr_eq, ll_add, lr_add, ll_mul, lr_mul, nI_add, pk_mul, nI_leI, nI_ltI, nI_eq, ll_sub, pk_sub, lm_add, rd_n, rd_l, wr_n, wr_l, lm_ne, lm_ne', lm_lt, lm_le, m1_lt, m1_le, m1_le0, m1_lt0, m1_0, m1_0', l1_0, gd_0, gd_1, gd_T, or_true, true_or, false_or, or_false, nle_T, nle_F, nlt_T, nlt_F, neq_T, neq_F, ↓reduceIte, ne_eq, not_true_eq_false, not_false_eq_true, bd1_s, bd2_s, bd3_s, bd4_s, bd5_s, bd6_s, bd7_s, bd8_s, bd9_s, bd10_s, bd11_s, bd12_s, bd13_s, bd14_s, bd15_s, bd16_s, bd17_s, bd18_s, bd19_s, bd20_s, bd21_s, bd22_s, bd23_s, bd24_s, bd25_s]
theorem q_exceptions (p : Int32) (hN : NR gn ln cn tn wn cf fn mM mP ca' cp' tp' ta' bs lf lt lm lq ca cp tp ta G T) (hL : LR n G T tp tn0 vn0 am iv pd pa pl sb vc cn0 ln0 ax ga hx hp la ps rp st tg ti tr S) (hn : n ≤ 600) (hF : 100 ≤ F) : ∃ x r r' t', f_X9_exceptions F p cn0 ax hx hp ps rp tg cn tn cf ca' ta' tp' = some (x, r) ∧ f_X10_exceptions F p th bs ca S ta tp = some (r', t') ∧ AX [2] x r r' t' := by
  obtain ⟨L, C, w, c5, fe, M, P, rfl, rfl, rfl, rfl, rfl, rfl, rfl, N1, N2, N3, N4, N5, N6, N7, N8, N9, N10, N11⟩ := hN
  obtain ⟨c, tN, vN, lt0, rfl, L1, L2, rfl, L3, L4, L5, L6, L7⟩ := hL
  rcases idx_cases p (show c < 2 ^ 31 by omega) with ⟨j, j1, rfl⟩ | h
  · have j8 : j < 80 := by omega
    obtain ⟨p0, p1, p2, p3, p4, p5, p6, p7, p8, p9, p10⟩ := L5 j j1
    have w1 := ex6_v (F := F) j8 hn (L5 j j1) N10 hF
    have w2 := ex10_v (F := F) j8 hn p0 N10 hF
    refine ⟨0, exI C T (nI c5) ca ta tp S j, exI C T (nI c5) ca ta tp S j, 0, ?_, ?_, AX.ok⟩
    · simp (disch := omega) only [f_X9_exceptions, rp_1 L1 j1, w1, ll_le, ll_lt, ll_eq, lr_le, lr_lt, lr_eq, ll_add, lr_add, ll_mul, lr_mul, nI_add, pk_mul, nI_leI, nI_ltI, nI_eq, ll_sub, pk_sub, lm_add, rd_n, rd_l, wr_n, wr_l, lm_ne, lm_ne', lm_lt, lm_le, m1_lt, m1_le, m1_le0, m1_lt0, m1_0, m1_0', l1_0, gd_0, gd_1, gd_T, or_true, true_or, false_or, or_false, nle_T, nle_F, nlt_T, nlt_F, neq_T, neq_F, ↓reduceIte, ne_eq, not_true_eq_false, not_false_eq_true, bd1_s, bd2_s, bd3_s, bd4_s, bd5_s, bd6_s, bd7_s, bd8_s, bd9_s, bd10_s, bd11_s, bd12_s, bd13_s, bd14_s, bd15_s, bd16_s, bd17_s, bd18_s, bd19_s, bd20_s, bd21_s, bd22_s, bd23_s, bd24_s, bd25_s]
    · simp (disch := omega) only [f_X10_exceptions, f_X10_lookAt, ip_1 L2 L1 j1, w2, li_2_0, li_2_1, li_2_3, li_2_4, li_2_5, li_2_6, li_3_0, li_3_1, li_3_2, li_3_4, li_3_5, li_3_6, li_4_0, li_4_1, li_4_2, li_4_3, li_4_5, li_4_6, li_5_0, li_5_1, li_5_2, li_5_3, li_5_4, li_5_6, li_6_0, li_6_1, li_6_2, li_6_3, li_6_4, li_6_5, li_7_0, li_7_1, li_7_2, li_7_3, li_7_4, li_7_5, li_7_6, ll_le, ll_lt, ll_eq, lr_le, lr_lt, lr_eq, ll_add, lr_add, ll_mul, lr_mul, nI_add, pk_mul, nI_leI, nI_ltI, nI_eq, ll_sub, pk_sub, lm_add, rd_n, rd_l, wr_n, wr_l, lm_ne, lm_ne', lm_lt, lm_le, m1_lt, m1_le, m1_le0, m1_lt0, m1_0, m1_0', l1_0, gd_0, gd_1, gd_T, or_true, true_or, false_or, or_false, nle_T, nle_F, nlt_T, nlt_F, neq_T, neq_F, ↓reduceIte, ne_eq, not_true_eq_false, not_false_eq_true, bd1_s, bd2_s, bd3_s, bd4_s, bd5_s, bd6_s, bd7_s, bd8_s, bd9_s, bd10_s, bd11_s, bd12_s, bd13_s, bd14_s, bd15_s, bd16_s, bd17_s, bd18_s, bd19_s, bd20_s, bd21_s, bd22_s, bd23_s, bd24_s, bd25_s]
  · refine ⟨2, 0, 0, 1, ?_, ?_, AX.th (by decide) (by decide) (by decide)⟩
    · simp (disch := omega) only [f_X9_exceptions, rp_0 h, ll_le, ll_lt, ll_eq, lr_le, lr_lt, lr_eq, ll_add, lr_add, ll_mul, lr_mul, nI_add, pk_mul, nI_leI, nI_ltI, nI_eq, ll_sub, pk_sub, lm_add, rd_n, rd_l, wr_n, wr_l, lm_ne, lm_ne', lm_lt, lm_le, m1_lt, m1_le, m1_le0, m1_lt0, m1_0, m1_0', l1_0, gd_0, gd_1, gd_T, or_true, true_or, false_or, or_false, nle_T, nle_F, nlt_T, nlt_F, neq_T, neq_F, ↓reduceIte, ne_eq, not_true_eq_false, not_false_eq_true, bd1_s, bd2_s, bd3_s, bd4_s, bd5_s, bd6_s, bd7_s, bd8_s, bd9_s, bd10_s, bd11_s, bd12_s, bd13_s, bd14_s, bd15_s, bd16_s, bd17_s, bd18_s, bd19_s, bd20_s, bd21_s, bd22_s, bd23_s, bd24_s, bd25_s]
      all_goals rfl
    · simp (disch := omega) only [f_X10_exceptions, f_X10_lookAt, ip_0 L2 L1 h, f_X10_fail, ll_le, ll_lt, ll_eq, lr_le, lr_lt, lr_eq, ll_add, lr_add, ll_mul, lr_mul, nI_add, pk_mul, nI_leI, nI_ltI, nI_eq, ll_sub, pk_sub, lm_add, rd_n, rd_l, wr_n, wr_l, lm_ne, lm_ne', lm_lt, lm_le, m1_lt, m1_le, m1_le0, m1_lt0, m1_0, m1_0', l1_0, gd_0, gd_1, gd_T, or_true, true_or, false_or, or_false, nle_T, nle_F, nlt_T, nlt_F, neq_T, neq_F, ↓reduceIte, ne_eq, not_true_eq_false, not_false_eq_true, bd1_s, bd2_s, bd3_s, bd4_s, bd5_s, bd6_s, bd7_s, bd8_s, bd9_s, bd10_s, bd11_s, bd12_s, bd13_s, bd14_s, bd15_s, bd16_s, bd17_s, bd18_s, bd19_s, bd20_s, bd21_s, bd22_s, bd23_s, bd24_s, bd25_s]
theorem q_votes (p y : Int32) (hN : NR gn ln cn tn wn cf fn mM mP ca' cp' tp' ta' bs lf lt lm lq ca cp tp ta G T) (hL : LR n G T tp tn0 vn0 am iv pd pa pl sb vc cn0 ln0 ax ga hx hp la ps rp st tg ti tr S) (hn : n ≤ 600) (hF : 100 ≤ F) : ∃ x r r' t', f_X9_votes F p y cn0 ps rp = some (x, r) ∧ f_X10_votes F p y th S = some (r', t') ∧ AX [2] x r r' t' := by
  obtain ⟨L, C, w, c5, fe, M, P, rfl, rfl, rfl, rfl, rfl, rfl, rfl, N1, N2, N3, N4, N5, N6, N7, N8, N9, N10, N11⟩ := hN
  obtain ⟨c, tN, vN, lt0, rfl, L1, L2, rfl, L3, L4, L5, L6, L7⟩ := hL
  rcases idx_cases p (show c < 2 ^ 31 by omega) with ⟨j, j1, rfl⟩ | h
  · obtain ⟨r, w1, w2⟩ := vo_both (F := F) (show j < 80 by omega) (L5 j j1) y hF
    refine ⟨0, r, r, 0, ?_, ?_, AX.ok⟩
    · simp (disch := omega) only [f_X9_votes, rp_1 L1 j1, w1, ll_le, ll_lt, ll_eq, lr_le, lr_lt, lr_eq, ll_add, lr_add, ll_mul, lr_mul, nI_add, pk_mul, nI_leI, nI_ltI, nI_eq, ll_sub, pk_sub, lm_add, rd_n, rd_l, wr_n, wr_l, lm_ne, lm_ne', lm_lt, lm_le, m1_lt, m1_le, m1_le0, m1_lt0, m1_0, m1_0', l1_0, gd_0, gd_1, gd_T, or_true, true_or, false_or, or_false, nle_T, nle_F, nlt_T, nlt_F, neq_T, neq_F, ↓reduceIte, ne_eq, not_true_eq_false, not_false_eq_true, bd1_s, bd2_s, bd3_s, bd4_s, bd5_s, bd6_s, bd7_s, bd8_s, bd9_s, bd10_s, bd11_s, bd12_s, bd13_s, bd14_s, bd15_s, bd16_s, bd17_s, bd18_s, bd19_s, bd20_s, bd21_s, bd22_s, bd23_s, bd24_s, bd25_s]
    · simp (disch := omega) only [f_X10_votes, ip_1 L2 L1 j1, w2, ll_le, ll_lt, ll_eq, lr_le, lr_lt, lr_eq, ll_add, lr_add, ll_mul, lr_mul, nI_add, pk_mul, nI_leI, nI_ltI, nI_eq, ll_sub, pk_sub, lm_add, rd_n, rd_l, wr_n, wr_l, lm_ne, lm_ne', lm_lt, lm_le, m1_lt, m1_le, m1_le0, m1_lt0, m1_0, m1_0', l1_0, gd_0, gd_1, gd_T, or_true, true_or, false_or, or_false, nle_T, nle_F, nlt_T, nlt_F, neq_T, neq_F, ↓reduceIte, ne_eq, not_true_eq_false, not_false_eq_true, bd1_s, bd2_s, bd3_s, bd4_s, bd5_s, bd6_s, bd7_s, bd8_s, bd9_s, bd10_s, bd11_s, bd12_s, bd13_s, bd14_s, bd15_s, bd16_s, bd17_s, bd18_s, bd19_s, bd20_s, bd21_s, bd22_s, bd23_s, bd24_s, bd25_s]
  · refine ⟨2, 0, 0, 1, ?_, ?_, AX.th (by decide) (by decide) (by decide)⟩
    · simp (disch := omega) only [f_X9_votes, rp_0 h, ll_le, ll_lt, ll_eq, lr_le, lr_lt, lr_eq, ll_add, lr_add, ll_mul, lr_mul, nI_add, pk_mul, nI_leI, nI_ltI, nI_eq, ll_sub, pk_sub, lm_add, rd_n, rd_l, wr_n, wr_l, lm_ne, lm_ne', lm_lt, lm_le, m1_lt, m1_le, m1_le0, m1_lt0, m1_0, m1_0', l1_0, gd_0, gd_1, gd_T, or_true, true_or, false_or, or_false, nle_T, nle_F, nlt_T, nlt_F, neq_T, neq_F, ↓reduceIte, ne_eq, not_true_eq_false, not_false_eq_true, bd1_s, bd2_s, bd3_s, bd4_s, bd5_s, bd6_s, bd7_s, bd8_s, bd9_s, bd10_s, bd11_s, bd12_s, bd13_s, bd14_s, bd15_s, bd16_s, bd17_s, bd18_s, bd19_s, bd20_s, bd21_s, bd22_s, bd23_s, bd24_s, bd25_s]
      all_goals rfl
    · simp (disch := omega) only [f_X10_votes, ip_0 L2 L1 h, f_X10_fail, ll_le, ll_lt, ll_eq, lr_le, lr_lt, lr_eq, ll_add, lr_add, ll_mul, lr_mul, nI_add, pk_mul, nI_leI, nI_ltI, nI_eq, ll_sub, pk_sub, lm_add, rd_n, rd_l, wr_n, wr_l, lm_ne, lm_ne', lm_lt, lm_le, m1_lt, m1_le, m1_le0, m1_lt0, m1_0, m1_0', l1_0, gd_0, gd_1, gd_T, or_true, true_or, false_or, or_false, nle_T, nle_F, nlt_T, nlt_F, neq_T, neq_F, ↓reduceIte, ne_eq, not_true_eq_false, not_false_eq_true, bd1_s, bd2_s, bd3_s, bd4_s, bd5_s, bd6_s, bd7_s, bd8_s, bd9_s, bd10_s, bd11_s, bd12_s, bd13_s, bd14_s, bd15_s, bd16_s, bd17_s, bd18_s, bd19_s, bd20_s, bd21_s, bd22_s, bd23_s, bd24_s, bd25_s]
theorem q_passageCount (hL : LR n G T tp tn0 vn0 am iv pd pa pl sb vc cn0 ln0 ax ga hx hp la ps rp st tg ti tr S) : f_X9_passageCount F cn0 = some cn0 ∧ f_X10_passageCount F th S = some (cn0, 0) := by
  obtain ⟨c, tN, vN, lt0, rfl, L1, L2, rfl, L3, L4, L5, L6, L7⟩ := hL
  exact ⟨rfl, by simp (disch := omega) only [f_X10_passageCount, f_X10_told, L2, ll_le, ll_lt, ll_eq, lr_le, lr_lt, lr_eq, ll_add, lr_add, ll_mul, lr_mul, nI_add, pk_mul, nI_leI, nI_ltI, nI_eq, ll_sub, pk_sub, lm_add, rd_n, rd_l, wr_n, wr_l, lm_ne, lm_ne', lm_lt, lm_le, m1_lt, m1_le, m1_le0, m1_lt0, m1_0, m1_0', l1_0, gd_0, gd_1, gd_T, or_true, true_or, false_or, or_false, nle_T, nle_F, nlt_T, nlt_F, neq_T, neq_F, ↓reduceIte, ne_eq, not_true_eq_false, not_false_eq_true, bd1_s, bd2_s, bd3_s, bd4_s, bd5_s, bd6_s, bd7_s, bd8_s, bd9_s, bd10_s, bd11_s, bd12_s, bd13_s, bd14_s, bd15_s, bd16_s, bd17_s, bd18_s, bd19_s, bd20_s, bd21_s, bd22_s, bd23_s, bd24_s, bd25_s]⟩
theorem q_openPassages (hL : LR n G T tp tn0 vn0 am iv pd pa pl sb vc cn0 ln0 ax ga hx hp la ps rp st tg ti tr S) (hF : 100 ≤ F) : ∃ r, f_X9_openPassages F cn0 st = some r ∧ f_X10_openPassages F th S = some (r, 0) := by
  obtain ⟨c, tN, vN, lt0, rfl, L1, L2, rfl, L3, L4, L5, L6, L7⟩ := hL
  have w1 := oc6_v (F := F) (st := st) (S := S) L1 hF (fun p hp => (L5 p hp).2.2.2.2.1)
  have w2 := oc10_v (F := F) (S := S) L1 hF L2
  exact ⟨nI (cnt1 (fun p => S (4 + 25 * p + 3) = 0) (fun _ => inferInstance) c), by simp (disch := omega) only [f_X9_openPassages, w1, ll_le, ll_lt, ll_eq, lr_le, lr_lt, lr_eq, ll_add, lr_add, ll_mul, lr_mul, nI_add, pk_mul, nI_leI, nI_ltI, nI_eq, ll_sub, pk_sub, lm_add, rd_n, rd_l, wr_n, wr_l, lm_ne, lm_ne', lm_lt, lm_le, m1_lt, m1_le, m1_le0, m1_lt0, m1_0, m1_0', l1_0, gd_0, gd_1, gd_T, or_true, true_or, false_or, or_false, nle_T, nle_F, nlt_T, nlt_F, neq_T, neq_F, ↓reduceIte, ne_eq, not_true_eq_false, not_false_eq_true, bd1_s, bd2_s, bd3_s, bd4_s, bd5_s, bd6_s, bd7_s, bd8_s, bd9_s, bd10_s, bd11_s, bd12_s, bd13_s, bd14_s, bd15_s, bd16_s, bd17_s, bd18_s, bd19_s, bd20_s, bd21_s, bd22_s, bd23_s, bd24_s, bd25_s], by simp (disch := omega) only [f_X10_openPassages, f_X10_told, w2, ll_le, ll_lt, ll_eq, lr_le, lr_lt, lr_eq, ll_add, lr_add, ll_mul, lr_mul, nI_add, pk_mul, nI_leI, nI_ltI, nI_eq, ll_sub, pk_sub, lm_add, rd_n, rd_l, wr_n, wr_l, lm_ne, lm_ne', lm_lt, lm_le, m1_lt, m1_le, m1_le0, m1_lt0, m1_0, m1_0', l1_0, gd_0, gd_1, gd_T, or_true, true_or, false_or, or_false, nle_T, nle_F, nlt_T, nlt_F, neq_T, neq_F, ↓reduceIte, ne_eq, not_true_eq_false, not_false_eq_true, bd1_s, bd2_s, bd3_s, bd4_s, bd5_s, bd6_s, bd7_s, bd8_s, bd9_s, bd10_s, bd11_s, bd12_s, bd13_s, bd14_s, bd15_s, bd16_s, bd17_s, bd18_s, bd19_s, bd20_s, bd21_s, bd22_s, bd23_s, bd24_s, bd25_s]⟩
theorem q_passagesToReview (hN : NR gn ln cn tn wn cf fn mM mP ca' cp' tp' ta' bs lf lt lm lq ca cp tp ta G T) (hL : LR n G T tp tn0 vn0 am iv pd pa pl sb vc cn0 ln0 ax ga hx hp la ps rp st tg ti tr S) (hn : n ≤ 600) (hF : 100 ≤ F) : ∃ r, f_X9_passagesToReview F cn0 ax hx hp ps rp st tg cn tn cf ca' ta' tp' = some r ∧ f_X10_passagesToReview F th bs ca S ta tp = some (r, 0) := by
  obtain ⟨L, C, w, c5, fe, M, P, rfl, rfl, rfl, rfl, rfl, rfl, rfl, N1, N2, N3, N4, N5, N6, N7, N8, N9, N10, N11⟩ := hN
  obtain ⟨c, tN, vN, lt0, rfl, L1, L2, rfl, L3, L4, L5, L6, L7⟩ := hL
  have w1 := rc6_v (F := F) L1 hn L5 N10 hF
  have w2 := rc10_v (F := F) (th := th) L1 L2 hn (fun p hp => (L5 p hp).1) N10 hF
  exact ⟨_, by simp (disch := omega) only [f_X9_passagesToReview, w1, ll_le, ll_lt, ll_eq, lr_le, lr_lt, lr_eq, ll_add, lr_add, ll_mul, lr_mul, nI_add, pk_mul, nI_leI, nI_ltI, nI_eq, ll_sub, pk_sub, lm_add, rd_n, rd_l, wr_n, wr_l, lm_ne, lm_ne', lm_lt, lm_le, m1_lt, m1_le, m1_le0, m1_lt0, m1_0, m1_0', l1_0, gd_0, gd_1, gd_T, or_true, true_or, false_or, or_false, nle_T, nle_F, nlt_T, nlt_F, neq_T, neq_F, ↓reduceIte, ne_eq, not_true_eq_false, not_false_eq_true, bd1_s, bd2_s, bd3_s, bd4_s, bd5_s, bd6_s, bd7_s, bd8_s, bd9_s, bd10_s, bd11_s, bd12_s, bd13_s, bd14_s, bd15_s, bd16_s, bd17_s, bd18_s, bd19_s, bd20_s, bd21_s, bd22_s, bd23_s, bd24_s, bd25_s], w2⟩
theorem q_tripCount (hL : LR n G T tp tn0 vn0 am iv pd pa pl sb vc cn0 ln0 ax ga hx hp la ps rp st tg ti tr S) : f_X9_tripCount F tn0 = some tn0 ∧ f_X10_tripCount F th S = some (tn0, 0) := by
  obtain ⟨c, tN, vN, lt0, rfl, L1, L2, rfl, L3, L4, L5, L6, L7⟩ := hL
  obtain ⟨rfl, b2, -⟩ := L6
  exact ⟨rfl, by simp (disch := omega) only [f_X10_tripCount, f_X10_told, b2, ll_le, ll_lt, ll_eq, lr_le, lr_lt, lr_eq, ll_add, lr_add, ll_mul, lr_mul, nI_add, pk_mul, nI_leI, nI_ltI, nI_eq, ll_sub, pk_sub, lm_add, rd_n, rd_l, wr_n, wr_l, lm_ne, lm_ne', lm_lt, lm_le, m1_lt, m1_le, m1_le0, m1_lt0, m1_0, m1_0', l1_0, gd_0, gd_1, gd_T, or_true, true_or, false_or, or_false, nle_T, nle_F, nlt_T, nlt_F, neq_T, neq_F, ↓reduceIte, ne_eq, not_true_eq_false, not_false_eq_true, bd1_s, bd2_s, bd3_s, bd4_s, bd5_s, bd6_s, bd7_s, bd8_s, bd9_s, bd10_s, bd11_s, bd12_s, bd13_s, bd14_s, bd15_s, bd16_s, bd17_s, bd18_s, bd19_s, bd20_s, bd21_s, bd22_s, bd23_s, bd24_s, bd25_s]⟩
theorem q_invoiceCount (hL : LR n G T tp tn0 vn0 am iv pd pa pl sb vc cn0 ln0 ax ga hx hp la ps rp st tg ti tr S) : f_X9_invoiceCount F vn0 = some vn0 ∧ f_X10_invoiceCount F th S = some (vn0, 0) := by
  obtain ⟨c, tN, vN, lt0, rfl, L1, L2, rfl, L3, L4, L5, L6, L7⟩ := hL
  obtain ⟨-, -, -, rfl, b5, -⟩ := L6
  exact ⟨rfl, by simp (disch := omega) only [f_X10_invoiceCount, f_X10_told, b5, ll_le, ll_lt, ll_eq, lr_le, lr_lt, lr_eq, ll_add, lr_add, ll_mul, lr_mul, nI_add, pk_mul, nI_leI, nI_ltI, nI_eq, ll_sub, pk_sub, lm_add, rd_n, rd_l, wr_n, wr_l, lm_ne, lm_ne', lm_lt, lm_le, m1_lt, m1_le, m1_le0, m1_lt0, m1_0, m1_0', l1_0, gd_0, gd_1, gd_T, or_true, true_or, false_or, or_false, nle_T, nle_F, nlt_T, nlt_F, neq_T, neq_F, ↓reduceIte, ne_eq, not_true_eq_false, not_false_eq_true, bd1_s, bd2_s, bd3_s, bd4_s, bd5_s, bd6_s, bd7_s, bd8_s, bd9_s, bd10_s, bd11_s, bd12_s, bd13_s, bd14_s, bd15_s, bd16_s, bd17_s, bd18_s, bd19_s, bd20_s, bd21_s, bd22_s, bd23_s, bd24_s, bd25_s]⟩
theorem q_tripAmount (p : Int32) (hL : LR n G T tp tn0 vn0 am iv pd pa pl sb vc cn0 ln0 ax ga hx hp la ps rp st tg ti tr S) : ∃ x r r' t', f_X9_tripAmount F p tn0 am = some (x, r) ∧ f_X10_tripAmount F p th S = some (r', t') ∧ AX [2] x r r' t' := by
  obtain ⟨c, tN, vN, lt0, rfl, L1, L2, rfl, L3, L4, L5, L6, L7⟩ := hL
  obtain ⟨rfl, b2, b3, b4, b5, b6, b7, b8⟩ := L6
  rcases idx_cases p (show tN < 2 ^ 31 by omega) with ⟨j, j1, rfl⟩ | h
  · obtain ⟨g1, g2, g3, g4, g5, g6⟩ := b7 j j1
    refine ⟨0, am j, am j, 0, ?_, ?_, AX.ok⟩
    · simp (disch := omega) only [f_X9_tripAmount, rt_1 b3 j1, ll_le, ll_lt, ll_eq, lr_le, lr_lt, lr_eq, ll_add, lr_add, ll_mul, lr_mul, nI_add, pk_mul, nI_leI, nI_ltI, nI_eq, ll_sub, pk_sub, lm_add, rd_n, rd_l, wr_n, wr_l, lm_ne, lm_ne', lm_lt, lm_le, m1_lt, m1_le, m1_le0, m1_lt0, m1_0, m1_0', l1_0, gd_0, gd_1, gd_T, or_true, true_or, false_or, or_false, nle_T, nle_F, nlt_T, nlt_F, neq_T, neq_F, ↓reduceIte, ne_eq, not_true_eq_false, not_false_eq_true, bd1_s, bd2_s, bd3_s, bd4_s, bd5_s, bd6_s, bd7_s, bd8_s, bd9_s, bd10_s, bd11_s, bd12_s, bd13_s, bd14_s, bd15_s, bd16_s, bd17_s, bd18_s, bd19_s, bd20_s, bd21_s, bd22_s, bd23_s, bd24_s, bd25_s]
    · simp (disch := omega) only [f_X10_tripAmount, f_X10_lookTrip, f_X10_lookTrip_b27, it_1 b2 b3 j1, oft_l, ← g3, ll_le, ll_lt, ll_eq, lr_le, lr_lt, lr_eq, ll_add, lr_add, ll_mul, lr_mul, nI_add, pk_mul, nI_leI, nI_ltI, nI_eq, ll_sub, pk_sub, lm_add, rd_n, rd_l, wr_n, wr_l, lm_ne, lm_ne', lm_lt, lm_le, m1_lt, m1_le, m1_le0, m1_lt0, m1_0, m1_0', l1_0, gd_0, gd_1, gd_T, or_true, true_or, false_or, or_false, nle_T, nle_F, nlt_T, nlt_F, neq_T, neq_F, ↓reduceIte, ne_eq, not_true_eq_false, not_false_eq_true, bd1_s, bd2_s, bd3_s, bd4_s, bd5_s, bd6_s, bd7_s, bd8_s, bd9_s, bd10_s, bd11_s, bd12_s, bd13_s, bd14_s, bd15_s, bd16_s, bd17_s, bd18_s, bd19_s, bd20_s, bd21_s, bd22_s, bd23_s, bd24_s, bd25_s]
  · refine ⟨2, 0, 0, 1, ?_, ?_, AX.th (by decide) (by decide) (by decide)⟩
    · simp (disch := omega) only [f_X9_tripAmount, rt_0 h, ll_le, ll_lt, ll_eq, lr_le, lr_lt, lr_eq, ll_add, lr_add, ll_mul, lr_mul, nI_add, pk_mul, nI_leI, nI_ltI, nI_eq, ll_sub, pk_sub, lm_add, rd_n, rd_l, wr_n, wr_l, lm_ne, lm_ne', lm_lt, lm_le, m1_lt, m1_le, m1_le0, m1_lt0, m1_0, m1_0', l1_0, gd_0, gd_1, gd_T, or_true, true_or, false_or, or_false, nle_T, nle_F, nlt_T, nlt_F, neq_T, neq_F, ↓reduceIte, ne_eq, not_true_eq_false, not_false_eq_true, bd1_s, bd2_s, bd3_s, bd4_s, bd5_s, bd6_s, bd7_s, bd8_s, bd9_s, bd10_s, bd11_s, bd12_s, bd13_s, bd14_s, bd15_s, bd16_s, bd17_s, bd18_s, bd19_s, bd20_s, bd21_s, bd22_s, bd23_s, bd24_s, bd25_s]
      all_goals rfl
    · simp (disch := omega) only [f_X10_tripAmount, f_X10_lookTrip, f_X10_lookTrip_b27, it_0 b2 b3 h, f_X10_fail, ll_le, ll_lt, ll_eq, lr_le, lr_lt, lr_eq, ll_add, lr_add, ll_mul, lr_mul, nI_add, pk_mul, nI_leI, nI_ltI, nI_eq, ll_sub, pk_sub, lm_add, rd_n, rd_l, wr_n, wr_l, lm_ne, lm_ne', lm_lt, lm_le, m1_lt, m1_le, m1_le0, m1_lt0, m1_0, m1_0', l1_0, gd_0, gd_1, gd_T, or_true, true_or, false_or, or_false, nle_T, nle_F, nlt_T, nlt_F, neq_T, neq_F, ↓reduceIte, ne_eq, not_true_eq_false, not_false_eq_true, bd1_s, bd2_s, bd3_s, bd4_s, bd5_s, bd6_s, bd7_s, bd8_s, bd9_s, bd10_s, bd11_s, bd12_s, bd13_s, bd14_s, bd15_s, bd16_s, bd17_s, bd18_s, bd19_s, bd20_s, bd21_s, bd22_s, bd23_s, bd24_s, bd25_s]
theorem q_tripClass (p : Int32) (hL : LR n G T tp tn0 vn0 am iv pd pa pl sb vc cn0 ln0 ax ga hx hp la ps rp st tg ti tr S) : ∃ x r r' t', f_X9_tripClass F p tn0 vc = some (x, r) ∧ f_X10_tripClass F p th S = some (r', t') ∧ AX [2] x r r' t' := by
  obtain ⟨c, tN, vN, lt0, rfl, L1, L2, rfl, L3, L4, L5, L6, L7⟩ := hL
  obtain ⟨rfl, b2, b3, b4, b5, b6, b7, b8⟩ := L6
  rcases idx_cases p (show tN < 2 ^ 31 by omega) with ⟨j, j1, rfl⟩ | h
  · obtain ⟨g1, g2, g3, g4, g5, g6⟩ := b7 j j1
    refine ⟨0, vc j, vc j, 0, ?_, ?_, AX.ok⟩
    · simp (disch := omega) only [f_X9_tripClass, rt_1 b3 j1, ll_le, ll_lt, ll_eq, lr_le, lr_lt, lr_eq, ll_add, lr_add, ll_mul, lr_mul, nI_add, pk_mul, nI_leI, nI_ltI, nI_eq, ll_sub, pk_sub, lm_add, rd_n, rd_l, wr_n, wr_l, lm_ne, lm_ne', lm_lt, lm_le, m1_lt, m1_le, m1_le0, m1_lt0, m1_0, m1_0', l1_0, gd_0, gd_1, gd_T, or_true, true_or, false_or, or_false, nle_T, nle_F, nlt_T, nlt_F, neq_T, neq_F, ↓reduceIte, ne_eq, not_true_eq_false, not_false_eq_true, bd1_s, bd2_s, bd3_s, bd4_s, bd5_s, bd6_s, bd7_s, bd8_s, bd9_s, bd10_s, bd11_s, bd12_s, bd13_s, bd14_s, bd15_s, bd16_s, bd17_s, bd18_s, bd19_s, bd20_s, bd21_s, bd22_s, bd23_s, bd24_s, bd25_s]
    · simp (disch := omega) only [f_X10_tripClass, f_X10_lookTrip, f_X10_lookTrip_b27, it_1 b2 b3 j1, oft_l, ← g4, ll_le, ll_lt, ll_eq, lr_le, lr_lt, lr_eq, ll_add, lr_add, ll_mul, lr_mul, nI_add, pk_mul, nI_leI, nI_ltI, nI_eq, ll_sub, pk_sub, lm_add, rd_n, rd_l, wr_n, wr_l, lm_ne, lm_ne', lm_lt, lm_le, m1_lt, m1_le, m1_le0, m1_lt0, m1_0, m1_0', l1_0, gd_0, gd_1, gd_T, or_true, true_or, false_or, or_false, nle_T, nle_F, nlt_T, nlt_F, neq_T, neq_F, ↓reduceIte, ne_eq, not_true_eq_false, not_false_eq_true, bd1_s, bd2_s, bd3_s, bd4_s, bd5_s, bd6_s, bd7_s, bd8_s, bd9_s, bd10_s, bd11_s, bd12_s, bd13_s, bd14_s, bd15_s, bd16_s, bd17_s, bd18_s, bd19_s, bd20_s, bd21_s, bd22_s, bd23_s, bd24_s, bd25_s]
  · refine ⟨2, 0, 0, 1, ?_, ?_, AX.th (by decide) (by decide) (by decide)⟩
    · simp (disch := omega) only [f_X9_tripClass, rt_0 h, ll_le, ll_lt, ll_eq, lr_le, lr_lt, lr_eq, ll_add, lr_add, ll_mul, lr_mul, nI_add, pk_mul, nI_leI, nI_ltI, nI_eq, ll_sub, pk_sub, lm_add, rd_n, rd_l, wr_n, wr_l, lm_ne, lm_ne', lm_lt, lm_le, m1_lt, m1_le, m1_le0, m1_lt0, m1_0, m1_0', l1_0, gd_0, gd_1, gd_T, or_true, true_or, false_or, or_false, nle_T, nle_F, nlt_T, nlt_F, neq_T, neq_F, ↓reduceIte, ne_eq, not_true_eq_false, not_false_eq_true, bd1_s, bd2_s, bd3_s, bd4_s, bd5_s, bd6_s, bd7_s, bd8_s, bd9_s, bd10_s, bd11_s, bd12_s, bd13_s, bd14_s, bd15_s, bd16_s, bd17_s, bd18_s, bd19_s, bd20_s, bd21_s, bd22_s, bd23_s, bd24_s, bd25_s]
      all_goals rfl
    · simp (disch := omega) only [f_X10_tripClass, f_X10_lookTrip, f_X10_lookTrip_b27, it_0 b2 b3 h, f_X10_fail, ll_le, ll_lt, ll_eq, lr_le, lr_lt, lr_eq, ll_add, lr_add, ll_mul, lr_mul, nI_add, pk_mul, nI_leI, nI_ltI, nI_eq, ll_sub, pk_sub, lm_add, rd_n, rd_l, wr_n, wr_l, lm_ne, lm_ne', lm_lt, lm_le, m1_lt, m1_le, m1_le0, m1_lt0, m1_0, m1_0', l1_0, gd_0, gd_1, gd_T, or_true, true_or, false_or, or_false, nle_T, nle_F, nlt_T, nlt_F, neq_T, neq_F, ↓reduceIte, ne_eq, not_true_eq_false, not_false_eq_true, bd1_s, bd2_s, bd3_s, bd4_s, bd5_s, bd6_s, bd7_s, bd8_s, bd9_s, bd10_s, bd11_s, bd12_s, bd13_s, bd14_s, bd15_s, bd16_s, bd17_s, bd18_s, bd19_s, bd20_s, bd21_s, bd22_s, bd23_s, bd24_s, bd25_s]
theorem q_tripPassages (p : Int32) (hL : LR n G T tp tn0 vn0 am iv pd pa pl sb vc cn0 ln0 ax ga hx hp la ps rp st tg ti tr S) : ∃ x r r' t', f_X9_tripPassages F p tn0 pa = some (x, r) ∧ f_X10_tripPassages F p th S = some (r', t') ∧ AX [2] x r r' t' := by
  obtain ⟨c, tN, vN, lt0, rfl, L1, L2, rfl, L3, L4, L5, L6, L7⟩ := hL
  obtain ⟨rfl, b2, b3, b4, b5, b6, b7, b8⟩ := L6
  rcases idx_cases p (show tN < 2 ^ 31 by omega) with ⟨j, j1, rfl⟩ | h
  · obtain ⟨g1, g2, g3, g4, g5, g6⟩ := b7 j j1
    refine ⟨0, pa j, pa j, 0, ?_, ?_, AX.ok⟩
    · simp (disch := omega) only [f_X9_tripPassages, rt_1 b3 j1, ll_le, ll_lt, ll_eq, lr_le, lr_lt, lr_eq, ll_add, lr_add, ll_mul, lr_mul, nI_add, pk_mul, nI_leI, nI_ltI, nI_eq, ll_sub, pk_sub, lm_add, rd_n, rd_l, wr_n, wr_l, lm_ne, lm_ne', lm_lt, lm_le, m1_lt, m1_le, m1_le0, m1_lt0, m1_0, m1_0', l1_0, gd_0, gd_1, gd_T, or_true, true_or, false_or, or_false, nle_T, nle_F, nlt_T, nlt_F, neq_T, neq_F, ↓reduceIte, ne_eq, not_true_eq_false, not_false_eq_true, bd1_s, bd2_s, bd3_s, bd4_s, bd5_s, bd6_s, bd7_s, bd8_s, bd9_s, bd10_s, bd11_s, bd12_s, bd13_s, bd14_s, bd15_s, bd16_s, bd17_s, bd18_s, bd19_s, bd20_s, bd21_s, bd22_s, bd23_s, bd24_s, bd25_s]
    · simp (disch := omega) only [f_X10_tripPassages, f_X10_lookTrip, f_X10_lookTrip_b27, it_1 b2 b3 j1, oft_l, ← g5, ll_le, ll_lt, ll_eq, lr_le, lr_lt, lr_eq, ll_add, lr_add, ll_mul, lr_mul, nI_add, pk_mul, nI_leI, nI_ltI, nI_eq, ll_sub, pk_sub, lm_add, rd_n, rd_l, wr_n, wr_l, lm_ne, lm_ne', lm_lt, lm_le, m1_lt, m1_le, m1_le0, m1_lt0, m1_0, m1_0', l1_0, gd_0, gd_1, gd_T, or_true, true_or, false_or, or_false, nle_T, nle_F, nlt_T, nlt_F, neq_T, neq_F, ↓reduceIte, ne_eq, not_true_eq_false, not_false_eq_true, bd1_s, bd2_s, bd3_s, bd4_s, bd5_s, bd6_s, bd7_s, bd8_s, bd9_s, bd10_s, bd11_s, bd12_s, bd13_s, bd14_s, bd15_s, bd16_s, bd17_s, bd18_s, bd19_s, bd20_s, bd21_s, bd22_s, bd23_s, bd24_s, bd25_s]
  · refine ⟨2, 0, 0, 1, ?_, ?_, AX.th (by decide) (by decide) (by decide)⟩
    · simp (disch := omega) only [f_X9_tripPassages, rt_0 h, ll_le, ll_lt, ll_eq, lr_le, lr_lt, lr_eq, ll_add, lr_add, ll_mul, lr_mul, nI_add, pk_mul, nI_leI, nI_ltI, nI_eq, ll_sub, pk_sub, lm_add, rd_n, rd_l, wr_n, wr_l, lm_ne, lm_ne', lm_lt, lm_le, m1_lt, m1_le, m1_le0, m1_lt0, m1_0, m1_0', l1_0, gd_0, gd_1, gd_T, or_true, true_or, false_or, or_false, nle_T, nle_F, nlt_T, nlt_F, neq_T, neq_F, ↓reduceIte, ne_eq, not_true_eq_false, not_false_eq_true, bd1_s, bd2_s, bd3_s, bd4_s, bd5_s, bd6_s, bd7_s, bd8_s, bd9_s, bd10_s, bd11_s, bd12_s, bd13_s, bd14_s, bd15_s, bd16_s, bd17_s, bd18_s, bd19_s, bd20_s, bd21_s, bd22_s, bd23_s, bd24_s, bd25_s]
      all_goals rfl
    · simp (disch := omega) only [f_X10_tripPassages, f_X10_lookTrip, f_X10_lookTrip_b27, it_0 b2 b3 h, f_X10_fail, ll_le, ll_lt, ll_eq, lr_le, lr_lt, lr_eq, ll_add, lr_add, ll_mul, lr_mul, nI_add, pk_mul, nI_leI, nI_ltI, nI_eq, ll_sub, pk_sub, lm_add, rd_n, rd_l, wr_n, wr_l, lm_ne, lm_ne', lm_lt, lm_le, m1_lt, m1_le, m1_le0, m1_lt0, m1_0, m1_0', l1_0, gd_0, gd_1, gd_T, or_true, true_or, false_or, or_false, nle_T, nle_F, nlt_T, nlt_F, neq_T, neq_F, ↓reduceIte, ne_eq, not_true_eq_false, not_false_eq_true, bd1_s, bd2_s, bd3_s, bd4_s, bd5_s, bd6_s, bd7_s, bd8_s, bd9_s, bd10_s, bd11_s, bd12_s, bd13_s, bd14_s, bd15_s, bd16_s, bd17_s, bd18_s, bd19_s, bd20_s, bd21_s, bd22_s, bd23_s, bd24_s, bd25_s]
theorem q_tripState (p : Int32) (hL : LR n G T tp tn0 vn0 am iv pd pa pl sb vc cn0 ln0 ax ga hx hp la ps rp st tg ti tr S) : ∃ x r r' t', f_X9_tripState F p tn0 sb = some (x, r) ∧ f_X10_tripState F p th S = some (r', t') ∧ AX [2] x r r' t' := by
  obtain ⟨c, tN, vN, lt0, rfl, L1, L2, rfl, L3, L4, L5, L6, L7⟩ := hL
  obtain ⟨rfl, b2, b3, b4, b5, b6, b7, b8⟩ := L6
  rcases idx_cases p (show tN < 2 ^ 31 by omega) with ⟨j, j1, rfl⟩ | h
  · obtain ⟨g1, g2, g3, g4, g5, g6⟩ := b7 j j1
    refine ⟨0, sb j, sb j, 0, ?_, ?_, AX.ok⟩
    · simp (disch := omega) only [f_X9_tripState, rt_1 b3 j1, ll_le, ll_lt, ll_eq, lr_le, lr_lt, lr_eq, ll_add, lr_add, ll_mul, lr_mul, nI_add, pk_mul, nI_leI, nI_ltI, nI_eq, ll_sub, pk_sub, lm_add, rd_n, rd_l, wr_n, wr_l, lm_ne, lm_ne', lm_lt, lm_le, m1_lt, m1_le, m1_le0, m1_lt0, m1_0, m1_0', l1_0, gd_0, gd_1, gd_T, or_true, true_or, false_or, or_false, nle_T, nle_F, nlt_T, nlt_F, neq_T, neq_F, ↓reduceIte, ne_eq, not_true_eq_false, not_false_eq_true, bd1_s, bd2_s, bd3_s, bd4_s, bd5_s, bd6_s, bd7_s, bd8_s, bd9_s, bd10_s, bd11_s, bd12_s, bd13_s, bd14_s, bd15_s, bd16_s, bd17_s, bd18_s, bd19_s, bd20_s, bd21_s, bd22_s, bd23_s, bd24_s, bd25_s]
    · simp (disch := omega) only [f_X10_tripState, f_X10_lookTrip, f_X10_lookTrip_b27, it_1 b2 b3 j1, oft_l, ← g6, ll_le, ll_lt, ll_eq, lr_le, lr_lt, lr_eq, ll_add, lr_add, ll_mul, lr_mul, nI_add, pk_mul, nI_leI, nI_ltI, nI_eq, ll_sub, pk_sub, lm_add, rd_n, rd_l, wr_n, wr_l, lm_ne, lm_ne', lm_lt, lm_le, m1_lt, m1_le, m1_le0, m1_lt0, m1_0, m1_0', l1_0, gd_0, gd_1, gd_T, or_true, true_or, false_or, or_false, nle_T, nle_F, nlt_T, nlt_F, neq_T, neq_F, ↓reduceIte, ne_eq, not_true_eq_false, not_false_eq_true, bd1_s, bd2_s, bd3_s, bd4_s, bd5_s, bd6_s, bd7_s, bd8_s, bd9_s, bd10_s, bd11_s, bd12_s, bd13_s, bd14_s, bd15_s, bd16_s, bd17_s, bd18_s, bd19_s, bd20_s, bd21_s, bd22_s, bd23_s, bd24_s, bd25_s]
  · refine ⟨2, 0, 0, 1, ?_, ?_, AX.th (by decide) (by decide) (by decide)⟩
    · simp (disch := omega) only [f_X9_tripState, rt_0 h, ll_le, ll_lt, ll_eq, lr_le, lr_lt, lr_eq, ll_add, lr_add, ll_mul, lr_mul, nI_add, pk_mul, nI_leI, nI_ltI, nI_eq, ll_sub, pk_sub, lm_add, rd_n, rd_l, wr_n, wr_l, lm_ne, lm_ne', lm_lt, lm_le, m1_lt, m1_le, m1_le0, m1_lt0, m1_0, m1_0', l1_0, gd_0, gd_1, gd_T, or_true, true_or, false_or, or_false, nle_T, nle_F, nlt_T, nlt_F, neq_T, neq_F, ↓reduceIte, ne_eq, not_true_eq_false, not_false_eq_true, bd1_s, bd2_s, bd3_s, bd4_s, bd5_s, bd6_s, bd7_s, bd8_s, bd9_s, bd10_s, bd11_s, bd12_s, bd13_s, bd14_s, bd15_s, bd16_s, bd17_s, bd18_s, bd19_s, bd20_s, bd21_s, bd22_s, bd23_s, bd24_s, bd25_s]
      all_goals rfl
    · simp (disch := omega) only [f_X10_tripState, f_X10_lookTrip, f_X10_lookTrip_b27, it_0 b2 b3 h, f_X10_fail, ll_le, ll_lt, ll_eq, lr_le, lr_lt, lr_eq, ll_add, lr_add, ll_mul, lr_mul, nI_add, pk_mul, nI_leI, nI_ltI, nI_eq, ll_sub, pk_sub, lm_add, rd_n, rd_l, wr_n, wr_l, lm_ne, lm_ne', lm_lt, lm_le, m1_lt, m1_le, m1_le0, m1_lt0, m1_0, m1_0', l1_0, gd_0, gd_1, gd_T, or_true, true_or, false_or, or_false, nle_T, nle_F, nlt_T, nlt_F, neq_T, neq_F, ↓reduceIte, ne_eq, not_true_eq_false, not_false_eq_true, bd1_s, bd2_s, bd3_s, bd4_s, bd5_s, bd6_s, bd7_s, bd8_s, bd9_s, bd10_s, bd11_s, bd12_s, bd13_s, bd14_s, bd15_s, bd16_s, bd17_s, bd18_s, bd19_s, bd20_s, bd21_s, bd22_s, bd23_s, bd24_s, bd25_s]
theorem q_invoiceOf (p : Int32) (hL : LR n G T tp tn0 vn0 am iv pd pa pl sb vc cn0 ln0 ax ga hx hp la ps rp st tg ti tr S) : ∃ x r r' t', f_X9_invoiceOf F p tn0 iv = some (x, r) ∧ f_X10_invoiceOf F p th S = some (r', t') ∧ AX [2] x r r' t' := by
  obtain ⟨c, tN, vN, lt0, rfl, L1, L2, rfl, L3, L4, L5, L6, L7⟩ := hL
  obtain ⟨rfl, b2, b3, b4, b5, b6, b7, b8⟩ := L6
  rcases idx_cases p (show tN < 2 ^ 31 by omega) with ⟨j, j1, rfl⟩ | h
  · obtain ⟨g1, g2, g3, g4, g5, g6⟩ := b7 j j1
    refine ⟨0, iv j, iv j, 0, ?_, ?_, AX.ok⟩
    · simp (disch := omega) only [f_X9_invoiceOf, rt_1 b3 j1, ll_le, ll_lt, ll_eq, lr_le, lr_lt, lr_eq, ll_add, lr_add, ll_mul, lr_mul, nI_add, pk_mul, nI_leI, nI_ltI, nI_eq, ll_sub, pk_sub, lm_add, rd_n, rd_l, wr_n, wr_l, lm_ne, lm_ne', lm_lt, lm_le, m1_lt, m1_le, m1_le0, m1_lt0, m1_0, m1_0', l1_0, gd_0, gd_1, gd_T, or_true, true_or, false_or, or_false, nle_T, nle_F, nlt_T, nlt_F, neq_T, neq_F, ↓reduceIte, ne_eq, not_true_eq_false, not_false_eq_true, bd1_s, bd2_s, bd3_s, bd4_s, bd5_s, bd6_s, bd7_s, bd8_s, bd9_s, bd10_s, bd11_s, bd12_s, bd13_s, bd14_s, bd15_s, bd16_s, bd17_s, bd18_s, bd19_s, bd20_s, bd21_s, bd22_s, bd23_s, bd24_s, bd25_s]
    · simp (disch := omega) only [f_X10_invoiceOf, f_X10_lookTrip, f_X10_lookTrip_b27, it_1 b2 b3 j1, oft_l, ← g1, ll_le, ll_lt, ll_eq, lr_le, lr_lt, lr_eq, ll_add, lr_add, ll_mul, lr_mul, nI_add, pk_mul, nI_leI, nI_ltI, nI_eq, ll_sub, pk_sub, lm_add, rd_n, rd_l, wr_n, wr_l, lm_ne, lm_ne', lm_lt, lm_le, m1_lt, m1_le, m1_le0, m1_lt0, m1_0, m1_0', l1_0, gd_0, gd_1, gd_T, or_true, true_or, false_or, or_false, nle_T, nle_F, nlt_T, nlt_F, neq_T, neq_F, ↓reduceIte, ne_eq, not_true_eq_false, not_false_eq_true, bd1_s, bd2_s, bd3_s, bd4_s, bd5_s, bd6_s, bd7_s, bd8_s, bd9_s, bd10_s, bd11_s, bd12_s, bd13_s, bd14_s, bd15_s, bd16_s, bd17_s, bd18_s, bd19_s, bd20_s, bd21_s, bd22_s, bd23_s, bd24_s, bd25_s]
  · refine ⟨2, 0, 0, 1, ?_, ?_, AX.th (by decide) (by decide) (by decide)⟩
    · simp (disch := omega) only [f_X9_invoiceOf, rt_0 h, ll_le, ll_lt, ll_eq, lr_le, lr_lt, lr_eq, ll_add, lr_add, ll_mul, lr_mul, nI_add, pk_mul, nI_leI, nI_ltI, nI_eq, ll_sub, pk_sub, lm_add, rd_n, rd_l, wr_n, wr_l, lm_ne, lm_ne', lm_lt, lm_le, m1_lt, m1_le, m1_le0, m1_lt0, m1_0, m1_0', l1_0, gd_0, gd_1, gd_T, or_true, true_or, false_or, or_false, nle_T, nle_F, nlt_T, nlt_F, neq_T, neq_F, ↓reduceIte, ne_eq, not_true_eq_false, not_false_eq_true, bd1_s, bd2_s, bd3_s, bd4_s, bd5_s, bd6_s, bd7_s, bd8_s, bd9_s, bd10_s, bd11_s, bd12_s, bd13_s, bd14_s, bd15_s, bd16_s, bd17_s, bd18_s, bd19_s, bd20_s, bd21_s, bd22_s, bd23_s, bd24_s, bd25_s]
      all_goals rfl
    · simp (disch := omega) only [f_X10_invoiceOf, f_X10_lookTrip, f_X10_lookTrip_b27, it_0 b2 b3 h, f_X10_fail, ll_le, ll_lt, ll_eq, lr_le, lr_lt, lr_eq, ll_add, lr_add, ll_mul, lr_mul, nI_add, pk_mul, nI_leI, nI_ltI, nI_eq, ll_sub, pk_sub, lm_add, rd_n, rd_l, wr_n, wr_l, lm_ne, lm_ne', lm_lt, lm_le, m1_lt, m1_le, m1_le0, m1_lt0, m1_0, m1_0', l1_0, gd_0, gd_1, gd_T, or_true, true_or, false_or, or_false, nle_T, nle_F, nlt_T, nlt_F, neq_T, neq_F, ↓reduceIte, ne_eq, not_true_eq_false, not_false_eq_true, bd1_s, bd2_s, bd3_s, bd4_s, bd5_s, bd6_s, bd7_s, bd8_s, bd9_s, bd10_s, bd11_s, bd12_s, bd13_s, bd14_s, bd15_s, bd16_s, bd17_s, bd18_s, bd19_s, bd20_s, bd21_s, bd22_s, bd23_s, bd24_s, bd25_s]
theorem q_invoicePlate (p : Int32) (hN : NR gn ln cn tn wn cf fn mM mP ca' cp' tp' ta' bs lf lt lm lq ca cp tp ta G T) (hL : LR n G T tp tn0 vn0 am iv pd pa pl sb vc cn0 ln0 ax ga hx hp la ps rp st tg ti tr S) (hF : 100 ≤ F) : ∃ x r r' t', f_X9_invoicePlate F p vn0 pl = some (x, r) ∧ f_X10_invoicePlate F p th S = some (r', t') ∧ AX [2] x r r' t' := by
  obtain ⟨L, C, w, c5, fe, M, P, rfl, rfl, rfl, rfl, rfl, rfl, rfl, N1, N2, N3, N4, N5, N6, N7, N8, N9, N10, N11⟩ := hN
  obtain ⟨c, tN, vN, lt0, rfl, L1, L2, rfl, L3, L4, L5, L6, L7⟩ := hL
  have b1 := L6.1
  have b5 := L6.2.2.2.2.1
  have b6 : vN ≤ 80 := Nat.le_trans L6.2.2.2.2.2.1 (by omega)
  have b6' := L6.2.2.2.2.2.1
  have b4 := L6.2.2.2.1
  subst b4
  have htp : ∀ k, k < T → tp' k = tp k := fun k hk => (N10.2.2.2.2.2.1 k hk).1
  have hT := N10.2.2.2.1.1
  rcases idx_cases p (show vN < 2 ^ 31 by omega) with ⟨j, j1, rfl⟩ | h
  · obtain ⟨g1, g2, g3⟩ := L6.2.2.2.2.2.2.2 j j1
    
    refine ⟨0, pl j, pl j, 0, ?_, ?_, AX.ok⟩
    · simp (disch := omega) only [f_X9_invoicePlate, ri_1 b6 j1, ll_le, ll_lt, ll_eq, lr_le, lr_lt, lr_eq, ll_add, lr_add, ll_mul, lr_mul, nI_add, pk_mul, nI_leI, nI_ltI, nI_eq, ll_sub, pk_sub, lm_add, rd_n, rd_l, wr_n, wr_l, lm_ne, lm_ne', lm_lt, lm_le, m1_lt, m1_le, m1_le0, m1_lt0, m1_0, m1_0', l1_0, gd_0, gd_1, gd_T, or_true, true_or, false_or, or_false, nle_T, nle_F, nlt_T, nlt_F, neq_T, neq_F, ↓reduceIte, ne_eq, not_true_eq_false, not_false_eq_true, bd1_s, bd2_s, bd3_s, bd4_s, bd5_s, bd6_s, bd7_s, bd8_s, bd9_s, bd10_s, bd11_s, bd12_s, bd13_s, bd14_s, bd15_s, bd16_s, bd17_s, bd18_s, bd19_s, bd20_s, bd21_s, bd22_s, bd23_s, bd24_s, bd25_s]
    · simp (disch := omega) only [f_X10_invoicePlate, f_X10_invoicePlate_b27, ii_1 b5 b6 j1, ofi_l, ← g1, ll_le, ll_lt, ll_eq, lr_le, lr_lt, lr_eq, ll_add, lr_add, ll_mul, lr_mul, nI_add, pk_mul, nI_leI, nI_ltI, nI_eq, ll_sub, pk_sub, lm_add, rd_n, rd_l, wr_n, wr_l, lm_ne, lm_ne', lm_lt, lm_le, m1_lt, m1_le, m1_le0, m1_lt0, m1_0, m1_0', l1_0, gd_0, gd_1, gd_T, or_true, true_or, false_or, or_false, nle_T, nle_F, nlt_T, nlt_F, neq_T, neq_F, ↓reduceIte, ne_eq, not_true_eq_false, not_false_eq_true, bd1_s, bd2_s, bd3_s, bd4_s, bd5_s, bd6_s, bd7_s, bd8_s, bd9_s, bd10_s, bd11_s, bd12_s, bd13_s, bd14_s, bd15_s, bd16_s, bd17_s, bd18_s, bd19_s, bd20_s, bd21_s, bd22_s, bd23_s, bd24_s, bd25_s]
  · refine ⟨2, 0, 0, 1, ?_, ?_, AX.th (by decide) (by decide) (by decide)⟩
    · simp (disch := omega) only [f_X9_invoicePlate, ri_0 h, ll_le, ll_lt, ll_eq, lr_le, lr_lt, lr_eq, ll_add, lr_add, ll_mul, lr_mul, nI_add, pk_mul, nI_leI, nI_ltI, nI_eq, ll_sub, pk_sub, lm_add, rd_n, rd_l, wr_n, wr_l, lm_ne, lm_ne', lm_lt, lm_le, m1_lt, m1_le, m1_le0, m1_lt0, m1_0, m1_0', l1_0, gd_0, gd_1, gd_T, or_true, true_or, false_or, or_false, nle_T, nle_F, nlt_T, nlt_F, neq_T, neq_F, ↓reduceIte, ne_eq, not_true_eq_false, not_false_eq_true, bd1_s, bd2_s, bd3_s, bd4_s, bd5_s, bd6_s, bd7_s, bd8_s, bd9_s, bd10_s, bd11_s, bd12_s, bd13_s, bd14_s, bd15_s, bd16_s, bd17_s, bd18_s, bd19_s, bd20_s, bd21_s, bd22_s, bd23_s, bd24_s, bd25_s]
      all_goals rfl
    · simp (disch := omega) only [f_X10_invoicePlate, f_X10_invoicePlate_b27, ii_0 b5 b6 h, f_X10_fail, ll_le, ll_lt, ll_eq, lr_le, lr_lt, lr_eq, ll_add, lr_add, ll_mul, lr_mul, nI_add, pk_mul, nI_leI, nI_ltI, nI_eq, ll_sub, pk_sub, lm_add, rd_n, rd_l, wr_n, wr_l, lm_ne, lm_ne', lm_lt, lm_le, m1_lt, m1_le, m1_le0, m1_lt0, m1_0, m1_0', l1_0, gd_0, gd_1, gd_T, or_true, true_or, false_or, or_false, nle_T, nle_F, nlt_T, nlt_F, neq_T, neq_F, ↓reduceIte, ne_eq, not_true_eq_false, not_false_eq_true, bd1_s, bd2_s, bd3_s, bd4_s, bd5_s, bd6_s, bd7_s, bd8_s, bd9_s, bd10_s, bd11_s, bd12_s, bd13_s, bd14_s, bd15_s, bd16_s, bd17_s, bd18_s, bd19_s, bd20_s, bd21_s, bd22_s, bd23_s, bd24_s, bd25_s]
theorem q_invoiceTag (p : Int32) (hN : NR gn ln cn tn wn cf fn mM mP ca' cp' tp' ta' bs lf lt lm lq ca cp tp ta G T) (hL : LR n G T tp tn0 vn0 am iv pd pa pl sb vc cn0 ln0 ax ga hx hp la ps rp st tg ti tr S) (hF : 100 ≤ F) : ∃ x r r' t', f_X9_invoiceTag F p vn0 pl tn tp' = some (x, r) ∧ f_X10_invoiceTag F p th S = some (r', t') ∧ AX [2] x r r' t' := by
  obtain ⟨L, C, w, c5, fe, M, P, rfl, rfl, rfl, rfl, rfl, rfl, rfl, N1, N2, N3, N4, N5, N6, N7, N8, N9, N10, N11⟩ := hN
  obtain ⟨c, tN, vN, lt0, rfl, L1, L2, rfl, L3, L4, L5, L6, L7⟩ := hL
  have b1 := L6.1
  have b5 := L6.2.2.2.2.1
  have b6 : vN ≤ 80 := Nat.le_trans L6.2.2.2.2.2.1 (by omega)
  have b6' := L6.2.2.2.2.2.1
  have b4 := L6.2.2.2.1
  subst b4
  have htp : ∀ k, k < T → tp' k = tp k := fun k hk => (N10.2.2.2.2.2.1 k hk).1
  have hT := N10.2.2.2.1.1
  rcases idx_cases p (show vN < 2 ^ 31 by omega) with ⟨j, j1, rfl⟩ | h
  · obtain ⟨g1, g2, g3⟩ := L6.2.2.2.2.2.2.2 j j1
    have w1 : f_X4_tagWithPlate F (S (2404 + 3 * j + 1)) (nI T) tp' = some (oI (tw T tp (S (2404 + 3 * j + 1)))) := by rw [twp_v _ tp' hT hF, tw_congr _ htp]
    refine ⟨0, oI (tw T tp (S (2404 + 3 * j + 1))), oI (tw T tp (S (2404 + 3 * j + 1))), 0, ?_, ?_, AX.ok⟩
    · simp (disch := omega) only [f_X9_invoiceTag, ri_1 b6 j1, g1, w1, ll_le, ll_lt, ll_eq, lr_le, lr_lt, lr_eq, ll_add, lr_add, ll_mul, lr_mul, nI_add, pk_mul, nI_leI, nI_ltI, nI_eq, ll_sub, pk_sub, lm_add, rd_n, rd_l, wr_n, wr_l, lm_ne, lm_ne', lm_lt, lm_le, m1_lt, m1_le, m1_le0, m1_lt0, m1_0, m1_0', l1_0, gd_0, gd_1, gd_T, or_true, true_or, false_or, or_false, nle_T, nle_F, nlt_T, nlt_F, neq_T, neq_F, ↓reduceIte, ne_eq, not_true_eq_false, not_false_eq_true, bd1_s, bd2_s, bd3_s, bd4_s, bd5_s, bd6_s, bd7_s, bd8_s, bd9_s, bd10_s, bd11_s, bd12_s, bd13_s, bd14_s, bd15_s, bd16_s, bd17_s, bd18_s, bd19_s, bd20_s, bd21_s, bd22_s, bd23_s, bd24_s, bd25_s]
    · simp (disch := omega) only [f_X10_invoiceTag, f_X10_invoiceTag_b27, ii_1 b5 b6 j1, ofi_l, g3, ll_le, ll_lt, ll_eq, lr_le, lr_lt, lr_eq, ll_add, lr_add, ll_mul, lr_mul, nI_add, pk_mul, nI_leI, nI_ltI, nI_eq, ll_sub, pk_sub, lm_add, rd_n, rd_l, wr_n, wr_l, lm_ne, lm_ne', lm_lt, lm_le, m1_lt, m1_le, m1_le0, m1_lt0, m1_0, m1_0', l1_0, gd_0, gd_1, gd_T, or_true, true_or, false_or, or_false, nle_T, nle_F, nlt_T, nlt_F, neq_T, neq_F, ↓reduceIte, ne_eq, not_true_eq_false, not_false_eq_true, bd1_s, bd2_s, bd3_s, bd4_s, bd5_s, bd6_s, bd7_s, bd8_s, bd9_s, bd10_s, bd11_s, bd12_s, bd13_s, bd14_s, bd15_s, bd16_s, bd17_s, bd18_s, bd19_s, bd20_s, bd21_s, bd22_s, bd23_s, bd24_s, bd25_s]
  · refine ⟨2, 0, 0, 1, ?_, ?_, AX.th (by decide) (by decide) (by decide)⟩
    · simp (disch := omega) only [f_X9_invoiceTag, ri_0 h, ll_le, ll_lt, ll_eq, lr_le, lr_lt, lr_eq, ll_add, lr_add, ll_mul, lr_mul, nI_add, pk_mul, nI_leI, nI_ltI, nI_eq, ll_sub, pk_sub, lm_add, rd_n, rd_l, wr_n, wr_l, lm_ne, lm_ne', lm_lt, lm_le, m1_lt, m1_le, m1_le0, m1_lt0, m1_0, m1_0', l1_0, gd_0, gd_1, gd_T, or_true, true_or, false_or, or_false, nle_T, nle_F, nlt_T, nlt_F, neq_T, neq_F, ↓reduceIte, ne_eq, not_true_eq_false, not_false_eq_true, bd1_s, bd2_s, bd3_s, bd4_s, bd5_s, bd6_s, bd7_s, bd8_s, bd9_s, bd10_s, bd11_s, bd12_s, bd13_s, bd14_s, bd15_s, bd16_s, bd17_s, bd18_s, bd19_s, bd20_s, bd21_s, bd22_s, bd23_s, bd24_s, bd25_s]
      all_goals rfl
    · simp (disch := omega) only [f_X10_invoiceTag, f_X10_invoiceTag_b27, ii_0 b5 b6 h, f_X10_fail, ll_le, ll_lt, ll_eq, lr_le, lr_lt, lr_eq, ll_add, lr_add, ll_mul, lr_mul, nI_add, pk_mul, nI_leI, nI_ltI, nI_eq, ll_sub, pk_sub, lm_add, rd_n, rd_l, wr_n, wr_l, lm_ne, lm_ne', lm_lt, lm_le, m1_lt, m1_le, m1_le0, m1_lt0, m1_0, m1_0', l1_0, gd_0, gd_1, gd_T, or_true, true_or, false_or, or_false, nle_T, nle_F, nlt_T, nlt_F, neq_T, neq_F, ↓reduceIte, ne_eq, not_true_eq_false, not_false_eq_true, bd1_s, bd2_s, bd3_s, bd4_s, bd5_s, bd6_s, bd7_s, bd8_s, bd9_s, bd10_s, bd11_s, bd12_s, bd13_s, bd14_s, bd15_s, bd16_s, bd17_s, bd18_s, bd19_s, bd20_s, bd21_s, bd22_s, bd23_s, bd24_s, bd25_s]
theorem q_invoiceTotal (p : Int32) (hN : NR gn ln cn tn wn cf fn mM mP ca' cp' tp' ta' bs lf lt lm lq ca cp tp ta G T) (hL : LR n G T tp tn0 vn0 am iv pd pa pl sb vc cn0 ln0 ax ga hx hp la ps rp st tg ti tr S) (hF : 100 ≤ F) : ∃ x r r' t', f_X9_invoiceTotal F p tn0 vn0 am iv pl sb tn fn tp' = some (x, r) ∧ f_X10_invoiceTotal F p th bs S = some (r', t') ∧ AX [2] x r r' t' := by
  obtain ⟨L, C, w, c5, fe, M, P, rfl, rfl, rfl, rfl, rfl, rfl, rfl, N1, N2, N3, N4, N5, N6, N7, N8, N9, N10, N11⟩ := hN
  obtain ⟨c, tN, vN, lt0, rfl, L1, L2, rfl, L3, L4, L5, L6, L7⟩ := hL
  have b1 := L6.1
  have b5 := L6.2.2.2.2.1
  have b6 : vN ≤ 80 := Nat.le_trans L6.2.2.2.2.2.1 (by omega)
  have b6' := L6.2.2.2.2.2.1
  have b4 := L6.2.2.2.1
  subst b4
  have htp : ∀ k, k < T → tp' k = tp k := fun k hk => (N10.2.2.2.2.2.1 k hk).1
  have hT := N10.2.2.2.1.1
  rcases idx_cases p (show vN < 2 ^ 31 by omega) with ⟨j, j1, rfl⟩ | h
  · obtain ⟨g1, g2, g3⟩ := L6.2.2.2.2.2.2.2 j j1
    have w1 := to1_v (F := F) (fe := nI fe) L6 j1 hT htp hF
    have w2 := to10_v (F := F) L6 j1 hT N8 hF
    refine ⟨0, tot S j (feI T tp (nI fe) (S (2404 + 3 * j + 1))) tN, tot S j (feI T tp (nI fe) (S (2404 + 3 * j + 1))) tN, 0, ?_, ?_, AX.ok⟩
    · simp (disch := omega) only [f_X9_invoiceTotal, ri_1 b6 j1, w1, ll_le, ll_lt, ll_eq, lr_le, lr_lt, lr_eq, ll_add, lr_add, ll_mul, lr_mul, nI_add, pk_mul, nI_leI, nI_ltI, nI_eq, ll_sub, pk_sub, lm_add, rd_n, rd_l, wr_n, wr_l, lm_ne, lm_ne', lm_lt, lm_le, m1_lt, m1_le, m1_le0, m1_lt0, m1_0, m1_0', l1_0, gd_0, gd_1, gd_T, or_true, true_or, false_or, or_false, nle_T, nle_F, nlt_T, nlt_F, neq_T, neq_F, ↓reduceIte, ne_eq, not_true_eq_false, not_false_eq_true, bd1_s, bd2_s, bd3_s, bd4_s, bd5_s, bd6_s, bd7_s, bd8_s, bd9_s, bd10_s, bd11_s, bd12_s, bd13_s, bd14_s, bd15_s, bd16_s, bd17_s, bd18_s, bd19_s, bd20_s, bd21_s, bd22_s, bd23_s, bd24_s, bd25_s]
    · simp (disch := omega) only [f_X10_invoiceTotal, f_X10_invoiceTotal_b26, ii_1 b5 b6 j1, w2, ll_le, ll_lt, ll_eq, lr_le, lr_lt, lr_eq, ll_add, lr_add, ll_mul, lr_mul, nI_add, pk_mul, nI_leI, nI_ltI, nI_eq, ll_sub, pk_sub, lm_add, rd_n, rd_l, wr_n, wr_l, lm_ne, lm_ne', lm_lt, lm_le, m1_lt, m1_le, m1_le0, m1_lt0, m1_0, m1_0', l1_0, gd_0, gd_1, gd_T, or_true, true_or, false_or, or_false, nle_T, nle_F, nlt_T, nlt_F, neq_T, neq_F, ↓reduceIte, ne_eq, not_true_eq_false, not_false_eq_true, bd1_s, bd2_s, bd3_s, bd4_s, bd5_s, bd6_s, bd7_s, bd8_s, bd9_s, bd10_s, bd11_s, bd12_s, bd13_s, bd14_s, bd15_s, bd16_s, bd17_s, bd18_s, bd19_s, bd20_s, bd21_s, bd22_s, bd23_s, bd24_s, bd25_s]
  · refine ⟨2, 0, 0, 1, ?_, ?_, AX.th (by decide) (by decide) (by decide)⟩
    · simp (disch := omega) only [f_X9_invoiceTotal, ri_0 h, ll_le, ll_lt, ll_eq, lr_le, lr_lt, lr_eq, ll_add, lr_add, ll_mul, lr_mul, nI_add, pk_mul, nI_leI, nI_ltI, nI_eq, ll_sub, pk_sub, lm_add, rd_n, rd_l, wr_n, wr_l, lm_ne, lm_ne', lm_lt, lm_le, m1_lt, m1_le, m1_le0, m1_lt0, m1_0, m1_0', l1_0, gd_0, gd_1, gd_T, or_true, true_or, false_or, or_false, nle_T, nle_F, nlt_T, nlt_F, neq_T, neq_F, ↓reduceIte, ne_eq, not_true_eq_false, not_false_eq_true, bd1_s, bd2_s, bd3_s, bd4_s, bd5_s, bd6_s, bd7_s, bd8_s, bd9_s, bd10_s, bd11_s, bd12_s, bd13_s, bd14_s, bd15_s, bd16_s, bd17_s, bd18_s, bd19_s, bd20_s, bd21_s, bd22_s, bd23_s, bd24_s, bd25_s]
      all_goals rfl
    · simp (disch := omega) only [f_X10_invoiceTotal, f_X10_invoiceTotal_b26, ii_0 b5 b6 h, f_X10_fail, ll_le, ll_lt, ll_eq, lr_le, lr_lt, lr_eq, ll_add, lr_add, ll_mul, lr_mul, nI_add, pk_mul, nI_leI, nI_ltI, nI_eq, ll_sub, pk_sub, lm_add, rd_n, rd_l, wr_n, wr_l, lm_ne, lm_ne', lm_lt, lm_le, m1_lt, m1_le, m1_le0, m1_lt0, m1_0, m1_0', l1_0, gd_0, gd_1, gd_T, or_true, true_or, false_or, or_false, nle_T, nle_F, nlt_T, nlt_F, neq_T, neq_F, ↓reduceIte, ne_eq, not_true_eq_false, not_false_eq_true, bd1_s, bd2_s, bd3_s, bd4_s, bd5_s, bd6_s, bd7_s, bd8_s, bd9_s, bd10_s, bd11_s, bd12_s, bd13_s, bd14_s, bd15_s, bd16_s, bd17_s, bd18_s, bd19_s, bd20_s, bd21_s, bd22_s, bd23_s, bd24_s, bd25_s]
theorem q_balance (p : Int32) (hN : NR gn ln cn tn wn cf fn mM mP ca' cp' tp' ta' bs lf lt lm lq ca cp tp ta G T) (hL : LR n G T tp tn0 vn0 am iv pd pa pl sb vc cn0 ln0 ax ga hx hp la ps rp st tg ti tr S) (hF : 100 ≤ F) : ∃ x r r' t', f_X9_balance F p tn0 vn0 am iv pd pl sb tn fn tp' = some (x, r) ∧ f_X10_balance F p th bs S = some (r', t') ∧ AX [2] x r r' t' := by
  obtain ⟨L, C, w, c5, fe, M, P, rfl, rfl, rfl, rfl, rfl, rfl, rfl, N1, N2, N3, N4, N5, N6, N7, N8, N9, N10, N11⟩ := hN
  obtain ⟨c, tN, vN, lt0, rfl, L1, L2, rfl, L3, L4, L5, L6, L7⟩ := hL
  have b1 := L6.1
  have b5 := L6.2.2.2.2.1
  have b6 : vN ≤ 80 := Nat.le_trans L6.2.2.2.2.2.1 (by omega)
  have b6' := L6.2.2.2.2.2.1
  have b4 := L6.2.2.2.1
  subst b4
  have htp : ∀ k, k < T → tp' k = tp k := fun k hk => (N10.2.2.2.2.2.1 k hk).1
  have hT := N10.2.2.2.1.1
  rcases idx_cases p (show vN < 2 ^ 31 by omega) with ⟨j, j1, rfl⟩ | h
  · obtain ⟨g1, g2, g3⟩ := L6.2.2.2.2.2.2.2 j j1
    have w1 := ba1_v (F := F) (fe := nI fe) L6 j1 hT htp hF
    have w2 := ba10_v (F := F) L6 j1 hT N8 hF
    refine ⟨0, balI tN T tp (nI fe) S j, balI tN T tp (nI fe) S j, 0, ?_, ?_, AX.ok⟩
    · simp (disch := omega) only [f_X9_balance, ri_1 b6 j1, w1, ll_le, ll_lt, ll_eq, lr_le, lr_lt, lr_eq, ll_add, lr_add, ll_mul, lr_mul, nI_add, pk_mul, nI_leI, nI_ltI, nI_eq, ll_sub, pk_sub, lm_add, rd_n, rd_l, wr_n, wr_l, lm_ne, lm_ne', lm_lt, lm_le, m1_lt, m1_le, m1_le0, m1_lt0, m1_0, m1_0', l1_0, gd_0, gd_1, gd_T, or_true, true_or, false_or, or_false, nle_T, nle_F, nlt_T, nlt_F, neq_T, neq_F, ↓reduceIte, ne_eq, not_true_eq_false, not_false_eq_true, bd1_s, bd2_s, bd3_s, bd4_s, bd5_s, bd6_s, bd7_s, bd8_s, bd9_s, bd10_s, bd11_s, bd12_s, bd13_s, bd14_s, bd15_s, bd16_s, bd17_s, bd18_s, bd19_s, bd20_s, bd21_s, bd22_s, bd23_s, bd24_s, bd25_s]
    · simp (disch := omega) only [f_X10_balance, f_X10_balance_b26, ii_1 b5 b6 j1, w2, ll_le, ll_lt, ll_eq, lr_le, lr_lt, lr_eq, ll_add, lr_add, ll_mul, lr_mul, nI_add, pk_mul, nI_leI, nI_ltI, nI_eq, ll_sub, pk_sub, lm_add, rd_n, rd_l, wr_n, wr_l, lm_ne, lm_ne', lm_lt, lm_le, m1_lt, m1_le, m1_le0, m1_lt0, m1_0, m1_0', l1_0, gd_0, gd_1, gd_T, or_true, true_or, false_or, or_false, nle_T, nle_F, nlt_T, nlt_F, neq_T, neq_F, ↓reduceIte, ne_eq, not_true_eq_false, not_false_eq_true, bd1_s, bd2_s, bd3_s, bd4_s, bd5_s, bd6_s, bd7_s, bd8_s, bd9_s, bd10_s, bd11_s, bd12_s, bd13_s, bd14_s, bd15_s, bd16_s, bd17_s, bd18_s, bd19_s, bd20_s, bd21_s, bd22_s, bd23_s, bd24_s, bd25_s]
  · refine ⟨2, 0, 0, 1, ?_, ?_, AX.th (by decide) (by decide) (by decide)⟩
    · simp (disch := omega) only [f_X9_balance, ri_0 h, ll_le, ll_lt, ll_eq, lr_le, lr_lt, lr_eq, ll_add, lr_add, ll_mul, lr_mul, nI_add, pk_mul, nI_leI, nI_ltI, nI_eq, ll_sub, pk_sub, lm_add, rd_n, rd_l, wr_n, wr_l, lm_ne, lm_ne', lm_lt, lm_le, m1_lt, m1_le, m1_le0, m1_lt0, m1_0, m1_0', l1_0, gd_0, gd_1, gd_T, or_true, true_or, false_or, or_false, nle_T, nle_F, nlt_T, nlt_F, neq_T, neq_F, ↓reduceIte, ne_eq, not_true_eq_false, not_false_eq_true, bd1_s, bd2_s, bd3_s, bd4_s, bd5_s, bd6_s, bd7_s, bd8_s, bd9_s, bd10_s, bd11_s, bd12_s, bd13_s, bd14_s, bd15_s, bd16_s, bd17_s, bd18_s, bd19_s, bd20_s, bd21_s, bd22_s, bd23_s, bd24_s, bd25_s]
      all_goals rfl
    · simp (disch := omega) only [f_X10_balance, f_X10_balance_b26, ii_0 b5 b6 h, f_X10_fail, ll_le, ll_lt, ll_eq, lr_le, lr_lt, lr_eq, ll_add, lr_add, ll_mul, lr_mul, nI_add, pk_mul, nI_leI, nI_ltI, nI_eq, ll_sub, pk_sub, lm_add, rd_n, rd_l, wr_n, wr_l, lm_ne, lm_ne', lm_lt, lm_le, m1_lt, m1_le, m1_le0, m1_lt0, m1_0, m1_0', l1_0, gd_0, gd_1, gd_T, or_true, true_or, false_or, or_false, nle_T, nle_F, nlt_T, nlt_F, neq_T, neq_F, ↓reduceIte, ne_eq, not_true_eq_false, not_false_eq_true, bd1_s, bd2_s, bd3_s, bd4_s, bd5_s, bd6_s, bd7_s, bd8_s, bd9_s, bd10_s, bd11_s, bd12_s, bd13_s, bd14_s, bd15_s, bd16_s, bd17_s, bd18_s, bd19_s, bd20_s, bd21_s, bd22_s, bd23_s, bd24_s, bd25_s]
theorem q_outstanding (hN : NR gn ln cn tn wn cf fn mM mP ca' cp' tp' ta' bs lf lt lm lq ca cp tp ta G T) (hL : LR n G T tp tn0 vn0 am iv pd pa pl sb vc cn0 ln0 ax ga hx hp la ps rp st tg ti tr S) (hF : 100 ≤ F) : ∃ r, f_X9_outstanding F tn0 vn0 am iv pd pl sb tn fn tp' = some r ∧ f_X10_outstanding F th bs S = some (r, 0) := by
  obtain ⟨L, C, w, c5, fe, M, P, rfl, rfl, rfl, rfl, rfl, rfl, rfl, N1, N2, N3, N4, N5, N6, N7, N8, N9, N10, N11⟩ := hN
  obtain ⟨c, tN, vN, lt0, rfl, L1, L2, rfl, L3, L4, L5, L6, L7⟩ := hL
  have htp : ∀ k, k < T → tp' k = tp k := fun k hk => (N10.2.2.2.2.2.1 k hk).1
  have hT := N10.2.2.2.1.1
  exact ⟨_, ou9_v L6 hT htp hF, ou10_v L6 hT N8 hF⟩
theorem ar_1 {a b e : Nat} (h0 : bs 0 = nI G) (hG : G ≤ 10) (ha : a < G) (hb : b < G) (he : e ≤ 99999) : f_X10_areRoute F (nI a) (nI b) (nI e) bs = some 1 := by
  unfold f_X10_areRoute
  rw [ig_1 h0 hG ha, bd1_s, if_neg (by decide), ig_1 h0 hG hb, bd1_s, if_neg (by decide), rg_1 (F := F) (p := nI e) (a := 0) (b := 99999) (by omega) (by omega) (by rw [nI_toInt (by omega)]; omega) (by rw [nI_toInt (by omega)]; omega), bd1_s, if_neg (by decide)]
  exact gd_1
theorem ar_0 {p q e : Int32} (h0 : bs 0 = nI G) (hG : G ≤ 10) (h : (p < 0 ∨ nI G ≤ p) ∨ (q < 0 ∨ nI G ≤ q) ∨ (e.toInt < (0 : Nat) ∨ ((99999 : Nat) : Int) < e.toInt)) : f_X10_areRoute F p q e bs = some 0 := by
  unfold f_X10_areRoute
  rcases idx_cases p (show G < 2 ^ 31 by omega) with ⟨a, a1, rfl⟩ | hp
  · rw [ig_1 h0 hG a1, bd1_s, if_neg (by decide)]
    rcases idx_cases q (show G < 2 ^ 31 by omega) with ⟨b, b1, rfl⟩ | hq
    · rw [ig_1 h0 hG b1, bd1_s, if_neg (by decide)]
      have he : e.toInt < (0 : Nat) ∨ ((99999 : Nat) : Int) < e.toInt := by
        rcases h with h | h | h
        · exfalso
          rw [i32_lt, i32_le, nI_toInt (by omega), nI_toInt (by omega)] at h
          have : (0 : Int32).toInt = 0 := by decide
          omega
        · exfalso
          rw [i32_lt, i32_le, nI_toInt (by omega), nI_toInt (by omega)] at h
          have : (0 : Int32).toInt = 0 := by decide
          omega
        · exact h
      rw [rg_0 (F := F) (p := e) (a := 0) (b := 99999) (by omega) (by omega) he, bd1_s, if_pos rfl]
      exact gd_0
    · rw [ig_0 h0 hG hq, bd1_s, if_pos rfl]
      exact gd_0
  · rw [ig_0 h0 hG hp, bd1_s, if_pos rfl]
    exact gd_0
theorem fr_0 {p q e lk pr : Int32} {s : Nat → Int32} (hG : G ≤ 10) (h : (p < 0 ∨ nI G ≤ p) ∨ (q < 0 ∨ nI G ≤ q) ∨ (e.toInt < (0 : Nat) ∨ ((99999 : Nat) : Int) < e.toInt)) : f_X9_findRoute F p q e (nI G) mM mP lk pr s = some (1, lk, pr, s) := by
  unfold f_X9_findRoute f_X9_findRoute_b22
  rcases idx_cases p (show G < 2 ^ 31 by omega) with ⟨a, a1, rfl⟩ | hp
  · rw [hg_1 hG a1, bd1_s, if_neg (by decide)]
    rcases idx_cases q (show G < 2 ^ 31 by omega) with ⟨b, b1, rfl⟩ | hq
    · rw [hg_1 hG b1, bd1_s, if_neg (by decide)]
      have he : e.toInt < (0 : Nat) ∨ ((99999 : Nat) : Int) < e.toInt := by
        rcases h with h | h | h
        · exfalso
          rw [i32_lt, i32_le, nI_toInt (by omega), nI_toInt (by omega)] at h
          have : (0 : Int32).toInt = 0 := by decide
          omega
        · exfalso
          rw [i32_lt, i32_le, nI_toInt (by omega), nI_toInt (by omega)] at h
          have : (0 : Int32).toInt = 0 := by decide
          omega
        · exact h
      rw [rqt_0 (F := F) he, bd1_s]; rfl
    · rw [hg_0 hq, bd1_s, if_pos rfl]
  · rw [hg_0 hp, bd1_s, if_pos rfl]
theorem rt_cases (p q e : Int32) (hG : G ≤ 10) : (∃ a b c, a < G ∧ b < G ∧ c ≤ 99999 ∧ p = nI a ∧ q = nI b ∧ e = nI c) ∨ ((p < 0 ∨ nI G ≤ p) ∨ (q < 0 ∨ nI G ≤ q) ∨ (e.toInt < (0 : Nat) ∨ ((99999 : Nat) : Int) < e.toInt)) := by
  rcases idx_cases p (show G < 2 ^ 31 by omega) with ⟨a, a1, rfl⟩ | h
  · rcases idx_cases q (show G < 2 ^ 31 by omega) with ⟨b, b1, rfl⟩ | h
    · rcases rg_cases e 0 99999 (by omega) with ⟨c, -, c2, rfl⟩ | h
      · exact .inl ⟨a, b, c, a1, b1, c2, rfl, rfl, rfl⟩
      · exact .inr (.inr (.inr h))
    · exact .inr (.inr (.inl h))
  · exact .inr (.inl h)
theorem same_rt {L a b : Nat} {e : Int32} {M P : Nat → Nat → Nat} (h : NM G L M P lf lt lm lq mM mP) (hL : bs 1 = nI L) (hL2 : L ≤ 24) (hG : G ≤ 10) (ha : a < G) (hb : b < G) (hF : 100 ≤ F) (lk pr : Int32) (s : Nat → Int32) (rm rc : Int32) (route tried : Nat → Int32) :
    ∃ lk' pr' s' rm' rc' route' tried', f_X7_find F (nI a) (nI b) e lk pr s (nI G) mM mP = some (lk', pr', s') ∧ f_X10_layRoute F (nI a) (nI b) e rm rc bs lf lm lq lt route tried = some (rm', rm', rc', route', tried') ∧ ((lk' = -1 ∧ pr' = -1 ∧ rm' = 0) ∨ ∃ l, 1 ≤ l ∧ l ≤ 3 ∧ lk' = nI l ∧ rm' = nI l ∧ rc' = pr' ∧ ∀ i, i ≤ l → s' i = route' i) := by
  obtain ⟨⟨k1, x1, s1⟩, q1, q2⟩ := find_v (F := F) (e := e) h hG ha hb hF lk pr s
  obtain ⟨⟨o0, o1, o2, o3, o4⟩, w1, w2, -, w3⟩ := lay_v (F := F) (e := e) h hL hL2 hG ha hb hF rm rc route tried
  have nf := vd_nf (e := e) h hG ha hb
  dsimp only at q2 w2 w3
  subst w2
  refine ⟨k1, x1, s1, o0, o2, o3, o4, q1, w1, ?_⟩
  rcases q2 with ⟨n1, n2, n3⟩ | q2
  · rcases w3 with ⟨m1, -⟩ | ⟨l, b', c, hv, -⟩
    · exact .inl ⟨n1, n2, m1⟩
    · exact absurd hv (n3 l b' c)
  · rcases w3 with ⟨-, m3⟩ | w3
    · obtain ⟨l, b', c, hv, -⟩ := q2; exact absurd hv (m3 l b' c)
    · obtain ⟨z1, z2, l, z3, z4, z5, -, z6⟩ := be_uniq nf q2 w3
      exact .inr ⟨l, z3, z4, z5, z1.symm.trans z5, z2.symm, z6⟩
theorem q_routeLinks (p q e lk pr : Int32) (s : Nat → Int32) (rm rc : Int32) (route tried : Nat → Int32) (hN : NR gn ln cn tn wn cf fn mM mP ca' cp' tp' ta' bs lf lt lm lq ca cp tp ta G T) (hF : 100 ≤ F) : ∃ x r lk' pr' s' r' t' rm' rc' route' tried', f_X9_routeLinks F p q e gn mM mP lk pr s = some (x, r, lk', pr', s') ∧ f_X10_routeLinks F p q e th rm rc bs lf lm lq lt route tried = some (r', t', rm', rc', route', tried') ∧ AX [1] x r r' t' := by
  obtain ⟨L, C, w, c5, fe, M, P, rfl, rfl, rfl, rfl, rfl, rfl, rfl, N1, N2, N3, N4, N5, N6, N7, N8, N9, N10, N11⟩ := hN
  rcases rt_cases p q e N1 with ⟨a, b, c, a1, b1, c1, rfl, rfl, rfl⟩ | h
  · obtain ⟨lk', pr', s', rm', rc', route', tried', w1, w2, w3⟩ := same_rt (e := nI c) N9 N6 N2 N1 a1 b1 hF lk pr s rm rc route tried
    have f1 : f_X9_findRoute F (nI a) (nI b) (nI c) (nI G) mM mP lk pr s = some (0, lk', pr', s') := by
      unfold f_X9_findRoute
      rw [hg_1 N1 a1, bd1_s, if_neg (by decide), hg_1 N1 b1, bd1_s, if_neg (by decide), rqt_1 c1, bd1_s, if_neg (by decide), w1, bd3_s]
    rcases w3 with ⟨rfl, rfl, rfl⟩ | ⟨l, l1, l2, rfl, rfl, hrc, w4⟩
    · refine ⟨0, -1, -1, -1, s', -1, 0, 0, rc', route', tried', ?_, ?_, AX.ok⟩
      · simp (disch := omega) only [f_X9_routeLinks, f1, ll_le, ll_lt, ll_eq, lr_le, lr_lt, lr_eq, ll_add, lr_add, ll_mul, lr_mul, nI_add, pk_mul, nI_leI, nI_ltI, nI_eq, ll_sub, pk_sub, lm_add, rd_n, rd_l, wr_n, wr_l, lm_ne, lm_ne', lm_lt, lm_le, m1_lt, m1_le, m1_le0, m1_lt0, m1_0, m1_0', l1_0, gd_0, gd_1, gd_T, or_true, true_or, false_or, or_false, nle_T, nle_F, nlt_T, nlt_F, neq_T, neq_F, ↓reduceIte, ne_eq, not_true_eq_false, not_false_eq_true, bd1_s, bd2_s, bd3_s, bd4_s, bd5_s, bd6_s, bd7_s, bd8_s, bd9_s, bd10_s, bd11_s, bd12_s, bd13_s, bd14_s, bd15_s, bd16_s, bd17_s, bd18_s, bd19_s, bd20_s, bd21_s, bd22_s, bd23_s, bd24_s, bd25_s]
        all_goals rfl
      · simp (disch := omega) only [f_X10_routeLinks, f_X10_routeLinks_b41, ar_1 N5 N1 a1 b1 c1, w2, ll_le, ll_lt, ll_eq, lr_le, lr_lt, lr_eq, ll_add, lr_add, ll_mul, lr_mul, nI_add, pk_mul, nI_leI, nI_ltI, nI_eq, ll_sub, pk_sub, lm_add, rd_n, rd_l, wr_n, wr_l, lm_ne, lm_ne', lm_lt, lm_le, m1_lt, m1_le, m1_le0, m1_lt0, m1_0, m1_0', l1_0, gd_0, gd_1, gd_T, or_true, true_or, false_or, or_false, nle_T, nle_F, nlt_T, nlt_F, neq_T, neq_F, ↓reduceIte, ne_eq, not_true_eq_false, not_false_eq_true, bd1_s, bd2_s, bd3_s, bd4_s, bd5_s, bd6_s, bd7_s, bd8_s, bd9_s, bd10_s, bd11_s, bd12_s, bd13_s, bd14_s, bd15_s, bd16_s, bd17_s, bd18_s, bd19_s, bd20_s, bd21_s, bd22_s, bd23_s, bd24_s, bd25_s]
        all_goals rfl
    · refine ⟨0, nI l, nI l, pr', s', nI l, 0, nI l, rc', route', tried', ?_, ?_, AX.ok⟩
      · simp (disch := omega) only [f_X9_routeLinks, f1, ll_le, ll_lt, ll_eq, lr_le, lr_lt, lr_eq, ll_add, lr_add, ll_mul, lr_mul, nI_add, pk_mul, nI_leI, nI_ltI, nI_eq, ll_sub, pk_sub, lm_add, rd_n, rd_l, wr_n, wr_l, lm_ne, lm_ne', lm_lt, lm_le, m1_lt, m1_le, m1_le0, m1_lt0, m1_0, m1_0', l1_0, gd_0, gd_1, gd_T, or_true, true_or, false_or, or_false, nle_T, nle_F, nlt_T, nlt_F, neq_T, neq_F, ↓reduceIte, ne_eq, not_true_eq_false, not_false_eq_true, bd1_s, bd2_s, bd3_s, bd4_s, bd5_s, bd6_s, bd7_s, bd8_s, bd9_s, bd10_s, bd11_s, bd12_s, bd13_s, bd14_s, bd15_s, bd16_s, bd17_s, bd18_s, bd19_s, bd20_s, bd21_s, bd22_s, bd23_s, bd24_s, bd25_s]
        all_goals rfl
      · simp (disch := omega) only [f_X10_routeLinks, f_X10_routeLinks_b41, ar_1 N5 N1 a1 b1 c1, w2, ll_le, ll_lt, ll_eq, lr_le, lr_lt, lr_eq, ll_add, lr_add, ll_mul, lr_mul, nI_add, pk_mul, nI_leI, nI_ltI, nI_eq, ll_sub, pk_sub, lm_add, rd_n, rd_l, wr_n, wr_l, lm_ne, lm_ne', lm_lt, lm_le, m1_lt, m1_le, m1_le0, m1_lt0, m1_0, m1_0', l1_0, gd_0, gd_1, gd_T, or_true, true_or, false_or, or_false, nle_T, nle_F, nlt_T, nlt_F, neq_T, neq_F, ↓reduceIte, ne_eq, not_true_eq_false, not_false_eq_true, bd1_s, bd2_s, bd3_s, bd4_s, bd5_s, bd6_s, bd7_s, bd8_s, bd9_s, bd10_s, bd11_s, bd12_s, bd13_s, bd14_s, bd15_s, bd16_s, bd17_s, bd18_s, bd19_s, bd20_s, bd21_s, bd22_s, bd23_s, bd24_s, bd25_s]
        all_goals rfl
  · refine ⟨1, 0, lk, pr, s, 0, 1, rm, rc, route, tried, ?_, ?_, AX.th (by decide) (by decide) (by decide)⟩
    · simp (disch := omega) only [f_X9_routeLinks, fr_0 N1 h, ll_le, ll_lt, ll_eq, lr_le, lr_lt, lr_eq, ll_add, lr_add, ll_mul, lr_mul, nI_add, pk_mul, nI_leI, nI_ltI, nI_eq, ll_sub, pk_sub, lm_add, rd_n, rd_l, wr_n, wr_l, lm_ne, lm_ne', lm_lt, lm_le, m1_lt, m1_le, m1_le0, m1_lt0, m1_0, m1_0', l1_0, gd_0, gd_1, gd_T, or_true, true_or, false_or, or_false, nle_T, nle_F, nlt_T, nlt_F, neq_T, neq_F, ↓reduceIte, ne_eq, not_true_eq_false, not_false_eq_true, bd1_s, bd2_s, bd3_s, bd4_s, bd5_s, bd6_s, bd7_s, bd8_s, bd9_s, bd10_s, bd11_s, bd12_s, bd13_s, bd14_s, bd15_s, bd16_s, bd17_s, bd18_s, bd19_s, bd20_s, bd21_s, bd22_s, bd23_s, bd24_s, bd25_s]
      all_goals rfl
    · simp (disch := omega) only [f_X10_routeLinks, ar_0 N5 N1 h, f_X10_fail, ll_le, ll_lt, ll_eq, lr_le, lr_lt, lr_eq, ll_add, lr_add, ll_mul, lr_mul, nI_add, pk_mul, nI_leI, nI_ltI, nI_eq, ll_sub, pk_sub, lm_add, rd_n, rd_l, wr_n, wr_l, lm_ne, lm_ne', lm_lt, lm_le, m1_lt, m1_le, m1_le0, m1_lt0, m1_0, m1_0', l1_0, gd_0, gd_1, gd_T, or_true, true_or, false_or, or_false, nle_T, nle_F, nlt_T, nlt_F, neq_T, neq_F, ↓reduceIte, ne_eq, not_true_eq_false, not_false_eq_true, bd1_s, bd2_s, bd3_s, bd4_s, bd5_s, bd6_s, bd7_s, bd8_s, bd9_s, bd10_s, bd11_s, bd12_s, bd13_s, bd14_s, bd15_s, bd16_s, bd17_s, bd18_s, bd19_s, bd20_s, bd21_s, bd22_s, bd23_s, bd24_s, bd25_s]
theorem q_routePrice (p q e lk pr : Int32) (s : Nat → Int32) (rm rc : Int32) (route tried : Nat → Int32) (hN : NR gn ln cn tn wn cf fn mM mP ca' cp' tp' ta' bs lf lt lm lq ca cp tp ta G T) (hF : 100 ≤ F) : ∃ x r lk' pr' s' r' t' rm' rc' route' tried', f_X9_routePrice F p q e gn mM mP lk pr s = some (x, r, lk', pr', s') ∧ f_X10_routePrice F p q e th rm rc bs lf lm lq lt route tried = some (r', t', rm', rc', route', tried') ∧ AX [1] x r r' t' := by
  obtain ⟨L, C, w, c5, fe, M, P, rfl, rfl, rfl, rfl, rfl, rfl, rfl, N1, N2, N3, N4, N5, N6, N7, N8, N9, N10, N11⟩ := hN
  rcases rt_cases p q e N1 with ⟨a, b, c, a1, b1, c1, rfl, rfl, rfl⟩ | h
  · obtain ⟨lk', pr', s', rm', rc', route', tried', w1, w2, w3⟩ := same_rt (e := nI c) N9 N6 N2 N1 a1 b1 hF lk pr s rm rc route tried
    have f1 : f_X9_findRoute F (nI a) (nI b) (nI c) (nI G) mM mP lk pr s = some (0, lk', pr', s') := by
      unfold f_X9_findRoute
      rw [hg_1 N1 a1, bd1_s, if_neg (by decide), hg_1 N1 b1, bd1_s, if_neg (by decide), rqt_1 c1, bd1_s, if_neg (by decide), w1, bd3_s]
    rcases w3 with ⟨rfl, rfl, rfl⟩ | ⟨l, l1, l2, rfl, rfl, hrc, w4⟩
    · refine ⟨0, -1, -1, -1, s', -1, 0, 0, rc', route', tried', ?_, ?_, AX.ok⟩
      · simp (disch := omega) only [f_X9_routePrice, f1, ll_le, ll_lt, ll_eq, lr_le, lr_lt, lr_eq, ll_add, lr_add, ll_mul, lr_mul, nI_add, pk_mul, nI_leI, nI_ltI, nI_eq, ll_sub, pk_sub, lm_add, rd_n, rd_l, wr_n, wr_l, lm_ne, lm_ne', lm_lt, lm_le, m1_lt, m1_le, m1_le0, m1_lt0, m1_0, m1_0', l1_0, gd_0, gd_1, gd_T, or_true, true_or, false_or, or_false, nle_T, nle_F, nlt_T, nlt_F, neq_T, neq_F, ↓reduceIte, ne_eq, not_true_eq_false, not_false_eq_true, bd1_s, bd2_s, bd3_s, bd4_s, bd5_s, bd6_s, bd7_s, bd8_s, bd9_s, bd10_s, bd11_s, bd12_s, bd13_s, bd14_s, bd15_s, bd16_s, bd17_s, bd18_s, bd19_s, bd20_s, bd21_s, bd22_s, bd23_s, bd24_s, bd25_s]
        all_goals rfl
      · simp (disch := omega) only [f_X10_routePrice, f_X10_routePrice_b39, ar_1 N5 N1 a1 b1 c1, w2, ll_le, ll_lt, ll_eq, lr_le, lr_lt, lr_eq, ll_add, lr_add, ll_mul, lr_mul, nI_add, pk_mul, nI_leI, nI_ltI, nI_eq, ll_sub, pk_sub, lm_add, rd_n, rd_l, wr_n, wr_l, lm_ne, lm_ne', lm_lt, lm_le, m1_lt, m1_le, m1_le0, m1_lt0, m1_0, m1_0', l1_0, gd_0, gd_1, gd_T, or_true, true_or, false_or, or_false, nle_T, nle_F, nlt_T, nlt_F, neq_T, neq_F, ↓reduceIte, ne_eq, not_true_eq_false, not_false_eq_true, bd1_s, bd2_s, bd3_s, bd4_s, bd5_s, bd6_s, bd7_s, bd8_s, bd9_s, bd10_s, bd11_s, bd12_s, bd13_s, bd14_s, bd15_s, bd16_s, bd17_s, bd18_s, bd19_s, bd20_s, bd21_s, bd22_s, bd23_s, bd24_s, bd25_s]
        all_goals rfl
    · refine ⟨0, pr', nI l, pr', s', rc', 0, nI l, rc', route', tried', ?_, ?_, AX.ok' hrc⟩
      · simp (disch := omega) only [f_X9_routePrice, f1, ll_le, ll_lt, ll_eq, lr_le, lr_lt, lr_eq, ll_add, lr_add, ll_mul, lr_mul, nI_add, pk_mul, nI_leI, nI_ltI, nI_eq, ll_sub, pk_sub, lm_add, rd_n, rd_l, wr_n, wr_l, lm_ne, lm_ne', lm_lt, lm_le, m1_lt, m1_le, m1_le0, m1_lt0, m1_0, m1_0', l1_0, gd_0, gd_1, gd_T, or_true, true_or, false_or, or_false, nle_T, nle_F, nlt_T, nlt_F, neq_T, neq_F, ↓reduceIte, ne_eq, not_true_eq_false, not_false_eq_true, bd1_s, bd2_s, bd3_s, bd4_s, bd5_s, bd6_s, bd7_s, bd8_s, bd9_s, bd10_s, bd11_s, bd12_s, bd13_s, bd14_s, bd15_s, bd16_s, bd17_s, bd18_s, bd19_s, bd20_s, bd21_s, bd22_s, bd23_s, bd24_s, bd25_s]
        all_goals rfl
      · simp (disch := omega) only [f_X10_routePrice, f_X10_routePrice_b39, ar_1 N5 N1 a1 b1 c1, w2, ll_le, ll_lt, ll_eq, lr_le, lr_lt, lr_eq, ll_add, lr_add, ll_mul, lr_mul, nI_add, pk_mul, nI_leI, nI_ltI, nI_eq, ll_sub, pk_sub, lm_add, rd_n, rd_l, wr_n, wr_l, lm_ne, lm_ne', lm_lt, lm_le, m1_lt, m1_le, m1_le0, m1_lt0, m1_0, m1_0', l1_0, gd_0, gd_1, gd_T, or_true, true_or, false_or, or_false, nle_T, nle_F, nlt_T, nlt_F, neq_T, neq_F, ↓reduceIte, ne_eq, not_true_eq_false, not_false_eq_true, bd1_s, bd2_s, bd3_s, bd4_s, bd5_s, bd6_s, bd7_s, bd8_s, bd9_s, bd10_s, bd11_s, bd12_s, bd13_s, bd14_s, bd15_s, bd16_s, bd17_s, bd18_s, bd19_s, bd20_s, bd21_s, bd22_s, bd23_s, bd24_s, bd25_s]
        all_goals rfl
  · refine ⟨1, 0, lk, pr, s, 0, 1, rm, rc, route, tried, ?_, ?_, AX.th (by decide) (by decide) (by decide)⟩
    · simp (disch := omega) only [f_X9_routePrice, fr_0 N1 h, ll_le, ll_lt, ll_eq, lr_le, lr_lt, lr_eq, ll_add, lr_add, ll_mul, lr_mul, nI_add, pk_mul, nI_leI, nI_ltI, nI_eq, ll_sub, pk_sub, lm_add, rd_n, rd_l, wr_n, wr_l, lm_ne, lm_ne', lm_lt, lm_le, m1_lt, m1_le, m1_le0, m1_lt0, m1_0, m1_0', l1_0, gd_0, gd_1, gd_T, or_true, true_or, false_or, or_false, nle_T, nle_F, nlt_T, nlt_F, neq_T, neq_F, ↓reduceIte, ne_eq, not_true_eq_false, not_false_eq_true, bd1_s, bd2_s, bd3_s, bd4_s, bd5_s, bd6_s, bd7_s, bd8_s, bd9_s, bd10_s, bd11_s, bd12_s, bd13_s, bd14_s, bd15_s, bd16_s, bd17_s, bd18_s, bd19_s, bd20_s, bd21_s, bd22_s, bd23_s, bd24_s, bd25_s]
      all_goals rfl
    · simp (disch := omega) only [f_X10_routePrice, ar_0 N5 N1 h, f_X10_fail, ll_le, ll_lt, ll_eq, lr_le, lr_lt, lr_eq, ll_add, lr_add, ll_mul, lr_mul, nI_add, pk_mul, nI_leI, nI_ltI, nI_eq, ll_sub, pk_sub, lm_add, rd_n, rd_l, wr_n, wr_l, lm_ne, lm_ne', lm_lt, lm_le, m1_lt, m1_le, m1_le0, m1_lt0, m1_0, m1_0', l1_0, gd_0, gd_1, gd_T, or_true, true_or, false_or, or_false, nle_T, nle_F, nlt_T, nlt_F, neq_T, neq_F, ↓reduceIte, ne_eq, not_true_eq_false, not_false_eq_true, bd1_s, bd2_s, bd3_s, bd4_s, bd5_s, bd6_s, bd7_s, bd8_s, bd9_s, bd10_s, bd11_s, bd12_s, bd13_s, bd14_s, bd15_s, bd16_s, bd17_s, bd18_s, bd19_s, bd20_s, bd21_s, bd22_s, bd23_s, bd24_s, bd25_s]
theorem q_routeGantry (p q e y lk pr : Int32) (s : Nat → Int32) (rm rc : Int32) (route tried : Nat → Int32) (hN : NR gn ln cn tn wn cf fn mM mP ca' cp' tp' ta' bs lf lt lm lq ca cp tp ta G T) (hF : 100 ≤ F) : ∃ x r lk' pr' s' r' t' rm' rc' route' tried', f_X9_routeGantry F p q e y gn mM mP lk pr s = some (x, r, lk', pr', s') ∧ f_X10_routeGantry F p q e y th rm rc bs lf lm lq lt route tried = some (r', t', rm', rc', route', tried') ∧ AX [1] x r r' t' := by
  obtain ⟨L, C, w, c5, fe, M, P, rfl, rfl, rfl, rfl, rfl, rfl, rfl, N1, N2, N3, N4, N5, N6, N7, N8, N9, N10, N11⟩ := hN
  rcases rt_cases p q e N1 with ⟨a, b, c, a1, b1, c1, rfl, rfl, rfl⟩ | h
  · obtain ⟨lk', pr', s', rm', rc', route', tried', w1, w2, w3⟩ := same_rt (e := nI c) N9 N6 N2 N1 a1 b1 hF lk pr s rm rc route tried
    have f1 : f_X9_findRoute F (nI a) (nI b) (nI c) (nI G) mM mP lk pr s = some (0, lk', pr', s') := by
      unfold f_X9_findRoute
      rw [hg_1 N1 a1, bd1_s, if_neg (by decide), hg_1 N1 b1, bd1_s, if_neg (by decide), rqt_1 c1, bd1_s, if_neg (by decide), w1, bd3_s]
    rcases w3 with ⟨rfl, rfl, rfl⟩ | ⟨l, l1, l2, rfl, rfl, hrc, w4⟩
    · have sa : f_X7_stopAt F y (-1) s' = some (-1) := by
        by_cases h1 : y < 0
        · simp (disch := omega) only [f_X7_stopAt, f_X7_stopAt_b21, f_X7_stopAt_b22, h1, ll_le, ll_lt, ll_eq, lr_le, lr_lt, lr_eq, ll_add, lr_add, ll_mul, lr_mul, nI_add, pk_mul, nI_leI, nI_ltI, nI_eq, ll_sub, pk_sub, lm_add, rd_n, rd_l, wr_n, wr_l, lm_ne, lm_ne', lm_lt, lm_le, m1_lt, m1_le, m1_le0, m1_lt0, m1_0, m1_0', l1_0, gd_0, gd_1, gd_T, or_true, true_or, false_or, or_false, nle_T, nle_F, nlt_T, nlt_F, neq_T, neq_F, ↓reduceIte, ne_eq, not_true_eq_false, not_false_eq_true, bd1_s, bd2_s, bd3_s, bd4_s, bd5_s, bd6_s, bd7_s, bd8_s, bd9_s, bd10_s, bd11_s, bd12_s, bd13_s, bd14_s, bd15_s, bd16_s, bd17_s, bd18_s, bd19_s, bd20_s, bd21_s, bd22_s, bd23_s, bd24_s, bd25_s]
        · have h2 : (-1 : Int32) < y := by
            rw [i32_lt] at h1 ⊢
            have e0 : (0 : Int32).toInt = 0 := by decide
            have e1 : (-1 : Int32).toInt = -1 := by decide
            omega
          simp (disch := omega) only [f_X7_stopAt, f_X7_stopAt_b21, f_X7_stopAt_b22, h1, h2, ll_le, ll_lt, ll_eq, lr_le, lr_lt, lr_eq, ll_add, lr_add, ll_mul, lr_mul, nI_add, pk_mul, nI_leI, nI_ltI, nI_eq, ll_sub, pk_sub, lm_add, rd_n, rd_l, wr_n, wr_l, lm_ne, lm_ne', lm_lt, lm_le, m1_lt, m1_le, m1_le0, m1_lt0, m1_0, m1_0', l1_0, gd_0, gd_1, gd_T, or_true, true_or, false_or, or_false, nle_T, nle_F, nlt_T, nlt_F, neq_T, neq_F, ↓reduceIte, ne_eq, not_true_eq_false, not_false_eq_true, bd1_s, bd2_s, bd3_s, bd4_s, bd5_s, bd6_s, bd7_s, bd8_s, bd9_s, bd10_s, bd11_s, bd12_s, bd13_s, bd14_s, bd15_s, bd16_s, bd17_s, bd18_s, bd19_s, bd20_s, bd21_s, bd22_s, bd23_s, bd24_s, bd25_s]
      refine ⟨0, -1, -1, -1, s', -1, 0, 0, rc', route', tried', ?_, ?_, AX.ok⟩
      · simp (disch := omega) only [f_X9_routeGantry, f1, sa, ll_le, ll_lt, ll_eq, lr_le, lr_lt, lr_eq, ll_add, lr_add, ll_mul, lr_mul, nI_add, pk_mul, nI_leI, nI_ltI, nI_eq, ll_sub, pk_sub, lm_add, rd_n, rd_l, wr_n, wr_l, lm_ne, lm_ne', lm_lt, lm_le, m1_lt, m1_le, m1_le0, m1_lt0, m1_0, m1_0', l1_0, gd_0, gd_1, gd_T, or_true, true_or, false_or, or_false, nle_T, nle_F, nlt_T, nlt_F, neq_T, neq_F, ↓reduceIte, ne_eq, not_true_eq_false, not_false_eq_true, bd1_s, bd2_s, bd3_s, bd4_s, bd5_s, bd6_s, bd7_s, bd8_s, bd9_s, bd10_s, bd11_s, bd12_s, bd13_s, bd14_s, bd15_s, bd16_s, bd17_s, bd18_s, bd19_s, bd20_s, bd21_s, bd22_s, bd23_s, bd24_s, bd25_s]
        all_goals rfl
      · simp (disch := omega) only [f_X10_routeGantry, f_X10_routeGantry_b58, f_X10_routeGantry_b59, ar_1 N5 N1 a1 b1 c1, w2, ll_le, ll_lt, ll_eq, lr_le, lr_lt, lr_eq, ll_add, lr_add, ll_mul, lr_mul, nI_add, pk_mul, nI_leI, nI_ltI, nI_eq, ll_sub, pk_sub, lm_add, rd_n, rd_l, wr_n, wr_l, lm_ne, lm_ne', lm_lt, lm_le, m1_lt, m1_le, m1_le0, m1_lt0, m1_0, m1_0', l1_0, gd_0, gd_1, gd_T, or_true, true_or, false_or, or_false, nle_T, nle_F, nlt_T, nlt_F, neq_T, neq_F, ↓reduceIte, ne_eq, not_true_eq_false, not_false_eq_true, bd1_s, bd2_s, bd3_s, bd4_s, bd5_s, bd6_s, bd7_s, bd8_s, bd9_s, bd10_s, bd11_s, bd12_s, bd13_s, bd14_s, bd15_s, bd16_s, bd17_s, bd18_s, bd19_s, bd20_s, bd21_s, bd22_s, bd23_s, bd24_s, bd25_s]
        all_goals rfl
    · rcases rg_cases y 0 l (by omega) with ⟨j, -, j2, rfl⟩ | h
      · refine ⟨0, s' j, nI l, pr', s', route' j, 0, nI l, rc', route', tried', ?_, ?_, AX.ok' (w4 j j2).symm⟩
        · simp (disch := omega) only [f_X9_routeGantry, f1, f_X7_stopAt, f_X7_stopAt_b21, f_X7_stopAt_b22, ll_le, ll_lt, ll_eq, lr_le, lr_lt, lr_eq, ll_add, lr_add, ll_mul, lr_mul, nI_add, pk_mul, nI_leI, nI_ltI, nI_eq, ll_sub, pk_sub, lm_add, rd_n, rd_l, wr_n, wr_l, lm_ne, lm_ne', lm_lt, lm_le, m1_lt, m1_le, m1_le0, m1_lt0, m1_0, m1_0', l1_0, gd_0, gd_1, gd_T, or_true, true_or, false_or, or_false, nle_T, nle_F, nlt_T, nlt_F, neq_T, neq_F, ↓reduceIte, ne_eq, not_true_eq_false, not_false_eq_true, bd1_s, bd2_s, bd3_s, bd4_s, bd5_s, bd6_s, bd7_s, bd8_s, bd9_s, bd10_s, bd11_s, bd12_s, bd13_s, bd14_s, bd15_s, bd16_s, bd17_s, bd18_s, bd19_s, bd20_s, bd21_s, bd22_s, bd23_s, bd24_s, bd25_s]
          all_goals rfl
        · have wi : f_X10_within F (nI j).toInt64 0 ((nI l).toInt64) = some 1 := within_1 (by rw [i64_0, Int32.toInt_toInt64, nI_toInt (by omega)]; omega) (by rw [Int32.toInt_toInt64, Int32.toInt_toInt64, nI_toInt (by omega), nI_toInt (by omega)]; omega)
          simp (disch := omega) only [f_X10_routeGantry, f_X10_routeGantry_b58, f_X10_routeGantry_b59, ar_1 N5 N1 a1 b1 c1, w2, wi, ll_le, ll_lt, ll_eq, lr_le, lr_lt, lr_eq, ll_add, lr_add, ll_mul, lr_mul, nI_add, pk_mul, nI_leI, nI_ltI, nI_eq, ll_sub, pk_sub, lm_add, rd_n, rd_l, wr_n, wr_l, lm_ne, lm_ne', lm_lt, lm_le, m1_lt, m1_le, m1_le0, m1_lt0, m1_0, m1_0', l1_0, gd_0, gd_1, gd_T, or_true, true_or, false_or, or_false, nle_T, nle_F, nlt_T, nlt_F, neq_T, neq_F, ↓reduceIte, ne_eq, not_true_eq_false, not_false_eq_true, bd1_s, bd2_s, bd3_s, bd4_s, bd5_s, bd6_s, bd7_s, bd8_s, bd9_s, bd10_s, bd11_s, bd12_s, bd13_s, bd14_s, bd15_s, bd16_s, bd17_s, bd18_s, bd19_s, bd20_s, bd21_s, bd22_s, bd23_s, bd24_s, bd25_s]
          all_goals rfl
      · refine ⟨0, -1, nI l, pr', s', -1, 0, nI l, rc', route', tried', ?_, ?_, AX.ok⟩
        · have sa : f_X7_stopAt F y (nI l) s' = some (-1) := by
            by_cases h1 : y < 0
            · simp (disch := omega) only [f_X7_stopAt, f_X7_stopAt_b21, f_X7_stopAt_b22, h1, ll_le, ll_lt, ll_eq, lr_le, lr_lt, lr_eq, ll_add, lr_add, ll_mul, lr_mul, nI_add, pk_mul, nI_leI, nI_ltI, nI_eq, ll_sub, pk_sub, lm_add, rd_n, rd_l, wr_n, wr_l, lm_ne, lm_ne', lm_lt, lm_le, m1_lt, m1_le, m1_le0, m1_lt0, m1_0, m1_0', l1_0, gd_0, gd_1, gd_T, or_true, true_or, false_or, or_false, nle_T, nle_F, nlt_T, nlt_F, neq_T, neq_F, ↓reduceIte, ne_eq, not_true_eq_false, not_false_eq_true, bd1_s, bd2_s, bd3_s, bd4_s, bd5_s, bd6_s, bd7_s, bd8_s, bd9_s, bd10_s, bd11_s, bd12_s, bd13_s, bd14_s, bd15_s, bd16_s, bd17_s, bd18_s, bd19_s, bd20_s, bd21_s, bd22_s, bd23_s, bd24_s, bd25_s]
            · have h2 : nI l < y := by
                rw [i32_lt] at h1 ⊢
                rw [nI_toInt (by omega)]
                have e0 : (0 : Int32).toInt = 0 := by decide
                omega
              simp (disch := omega) only [f_X7_stopAt, f_X7_stopAt_b21, f_X7_stopAt_b22, h1, h2, ll_le, ll_lt, ll_eq, lr_le, lr_lt, lr_eq, ll_add, lr_add, ll_mul, lr_mul, nI_add, pk_mul, nI_leI, nI_ltI, nI_eq, ll_sub, pk_sub, lm_add, rd_n, rd_l, wr_n, wr_l, lm_ne, lm_ne', lm_lt, lm_le, m1_lt, m1_le, m1_le0, m1_lt0, m1_0, m1_0', l1_0, gd_0, gd_1, gd_T, or_true, true_or, false_or, or_false, nle_T, nle_F, nlt_T, nlt_F, neq_T, neq_F, ↓reduceIte, ne_eq, not_true_eq_false, not_false_eq_true, bd1_s, bd2_s, bd3_s, bd4_s, bd5_s, bd6_s, bd7_s, bd8_s, bd9_s, bd10_s, bd11_s, bd12_s, bd13_s, bd14_s, bd15_s, bd16_s, bd17_s, bd18_s, bd19_s, bd20_s, bd21_s, bd22_s, bd23_s, bd24_s, bd25_s]
          simp (disch := omega) only [f_X9_routeGantry, f1, sa, ll_le, ll_lt, ll_eq, lr_le, lr_lt, lr_eq, ll_add, lr_add, ll_mul, lr_mul, nI_add, pk_mul, nI_leI, nI_ltI, nI_eq, ll_sub, pk_sub, lm_add, rd_n, rd_l, wr_n, wr_l, lm_ne, lm_ne', lm_lt, lm_le, m1_lt, m1_le, m1_le0, m1_lt0, m1_0, m1_0', l1_0, gd_0, gd_1, gd_T, or_true, true_or, false_or, or_false, nle_T, nle_F, nlt_T, nlt_F, neq_T, neq_F, ↓reduceIte, ne_eq, not_true_eq_false, not_false_eq_true, bd1_s, bd2_s, bd3_s, bd4_s, bd5_s, bd6_s, bd7_s, bd8_s, bd9_s, bd10_s, bd11_s, bd12_s, bd13_s, bd14_s, bd15_s, bd16_s, bd17_s, bd18_s, bd19_s, bd20_s, bd21_s, bd22_s, bd23_s, bd24_s, bd25_s]
          all_goals rfl
        · have wi : f_X10_within F y.toInt64 0 ((nI l).toInt64) = some 0 := within_0 (by rw [i64_0, Int32.toInt_toInt64, Int32.toInt_toInt64, nI_toInt (by omega)]; omega)
          simp (disch := omega) only [f_X10_routeGantry, f_X10_routeGantry_b58, f_X10_routeGantry_b59, ar_1 N5 N1 a1 b1 c1, w2, wi, ll_le, ll_lt, ll_eq, lr_le, lr_lt, lr_eq, ll_add, lr_add, ll_mul, lr_mul, nI_add, pk_mul, nI_leI, nI_ltI, nI_eq, ll_sub, pk_sub, lm_add, rd_n, rd_l, wr_n, wr_l, lm_ne, lm_ne', lm_lt, lm_le, m1_lt, m1_le, m1_le0, m1_lt0, m1_0, m1_0', l1_0, gd_0, gd_1, gd_T, or_true, true_or, false_or, or_false, nle_T, nle_F, nlt_T, nlt_F, neq_T, neq_F, ↓reduceIte, ne_eq, not_true_eq_false, not_false_eq_true, bd1_s, bd2_s, bd3_s, bd4_s, bd5_s, bd6_s, bd7_s, bd8_s, bd9_s, bd10_s, bd11_s, bd12_s, bd13_s, bd14_s, bd15_s, bd16_s, bd17_s, bd18_s, bd19_s, bd20_s, bd21_s, bd22_s, bd23_s, bd24_s, bd25_s]
          all_goals rfl
  · refine ⟨1, 0, lk, pr, s, 0, 1, rm, rc, route, tried, ?_, ?_, AX.th (by decide) (by decide) (by decide)⟩
    · simp (disch := omega) only [f_X9_routeGantry, fr_0 N1 h, ll_le, ll_lt, ll_eq, lr_le, lr_lt, lr_eq, ll_add, lr_add, ll_mul, lr_mul, nI_add, pk_mul, nI_leI, nI_ltI, nI_eq, ll_sub, pk_sub, lm_add, rd_n, rd_l, wr_n, wr_l, lm_ne, lm_ne', lm_lt, lm_le, m1_lt, m1_le, m1_le0, m1_lt0, m1_0, m1_0', l1_0, gd_0, gd_1, gd_T, or_true, true_or, false_or, or_false, nle_T, nle_F, nlt_T, nlt_F, neq_T, neq_F, ↓reduceIte, ne_eq, not_true_eq_false, not_false_eq_true, bd1_s, bd2_s, bd3_s, bd4_s, bd5_s, bd6_s, bd7_s, bd8_s, bd9_s, bd10_s, bd11_s, bd12_s, bd13_s, bd14_s, bd15_s, bd16_s, bd17_s, bd18_s, bd19_s, bd20_s, bd21_s, bd22_s, bd23_s, bd24_s, bd25_s]
      all_goals rfl
    · simp (disch := omega) only [f_X10_routeGantry, ar_0 N5 N1 h, f_X10_fail, ll_le, ll_lt, ll_eq, lr_le, lr_lt, lr_eq, ll_add, lr_add, ll_mul, lr_mul, nI_add, pk_mul, nI_leI, nI_ltI, nI_eq, ll_sub, pk_sub, lm_add, rd_n, rd_l, wr_n, wr_l, lm_ne, lm_ne', lm_lt, lm_le, m1_lt, m1_le, m1_le0, m1_lt0, m1_0, m1_0', l1_0, gd_0, gd_1, gd_T, or_true, true_or, false_or, or_false, nle_T, nle_F, nlt_T, nlt_F, neq_T, neq_F, ↓reduceIte, ne_eq, not_true_eq_false, not_false_eq_true, bd1_s, bd2_s, bd3_s, bd4_s, bd5_s, bd6_s, bd7_s, bd8_s, bd9_s, bd10_s, bd11_s, bd12_s, bd13_s, bd14_s, bd15_s, bd16_s, bd17_s, bd18_s, bd19_s, bd20_s, bd21_s, bd22_s, bd23_s, bd24_s, bd25_s]
end
