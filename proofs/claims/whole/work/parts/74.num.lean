/-! numbers and words of a text, on both sides -/
theorem rk_1 {k : Nat} (h : k ≤ 4) : (rk k = 1) ↔ k = 1 := by
  rcases (show k = 0 ∨ k = 1 ∨ k = 2 ∨ k = 3 ∨ k = 4 by omega) with rfl | rfl | rfl | rfl | rfl <;> decide
theorem rk_2 {k : Nat} (h : k ≤ 4) : (rk k = 2) ↔ k = 2 := by
  rcases (show k = 0 ∨ k = 1 ∨ k = 2 ∨ k = 3 ∨ k = 4 by omega) with rfl | rfl | rfl | rfl | rfl <;> decide
theorem rk_s {k : Nat} (h : k ≤ 4) : (rk k = 59) ↔ k = 3 := by
  rcases (show k = 0 ∨ k = 1 ∨ k = 2 ∨ k = 3 ∨ k = 4 by omega) with rfl | rfl | rfl | rfl | rfl <;> decide
theorem rk_0 {k : Nat} (h : k ≤ 4) : (rk k = 0) ↔ k = 0 := by
  rcases (show k = 0 ∨ k = 1 ∨ k = 2 ∨ k = 3 ∨ k = 4 by omega) with rfl | rfl | rfl | rfl | rfl <;> decide
section
variable {F n e s e' k : Nat} {b : Nat → Nat} {tx bf : Nat → Int32} {v eo : Int32}
theorem fl_0 {d : Nat} : f_X5_fail F (nI d) 0 (nI s) = some (nI (8 * s + d)) := by
  simp (disch := omega) only [f_X5_fail, f_X5_fail_b20, ll_le, ll_lt, ll_eq, lr_le, lr_lt, lr_eq, ll_add, lr_add, ll_mul, lr_mul, nI_add, pk_mul, nI_leI, nI_ltI, nI_eq, ll_sub, pk_sub, lm_add, rd_n, rd_l, wr_n, wr_l, lm_ne, lm_ne', lm_lt, lm_le, m1_lt, m1_le, m1_le0, m1_lt0, m1_0, m1_0', l1_0, gd_0, gd_1, gd_T, or_true, true_or, false_or, or_false, nle_T, nle_F, nlt_T, nlt_F, neq_T, neq_F, ↓reduceIte, ne_eq, not_true_eq_false, not_false_eq_true, bd1_s, bd2_s, bd3_s, bd4_s, bd5_s, bd6_s, bd7_s, bd8_s, bd9_s, bd10_s, bd11_s, bd12_s, bd13_s, bd14_s, bd15_s, bd16_s, bd17_s, bd18_s, bd19_s, bd20_s, bd21_s, bd22_s, bd23_s, bd24_s, bd25_s]
theorem fl_f {f : Nat} {d st : Int32} (h : f ≠ 0) (hf : f < 2 ^ 31) : f_X5_fail F d (nI f) st = some (nI f) := by
  have : ¬ nI f = (0 : Int32) := nI_nz h hf
  simp (disch := omega) only [f_X5_fail, f_X5_fail_b20, this, ll_le, ll_lt, ll_eq, lr_le, lr_lt, lr_eq, ll_add, lr_add, ll_mul, lr_mul, nI_add, pk_mul, nI_leI, nI_ltI, nI_eq, ll_sub, pk_sub, lm_add, rd_n, rd_l, wr_n, wr_l, lm_ne, lm_ne', lm_lt, lm_le, m1_lt, m1_le, m1_le0, m1_lt0, m1_0, m1_0', l1_0, gd_0, gd_1, gd_T, or_true, true_or, false_or, or_false, nle_T, nle_F, nlt_T, nlt_F, neq_T, neq_F, ↓reduceIte, ne_eq, not_true_eq_false, not_false_eq_true, bd1_s, bd2_s, bd3_s, bd4_s, bd5_s, bd6_s, bd7_s, bd8_s, bd9_s, bd10_s, bd11_s, bd12_s, bd13_s, bd14_s, bd15_s, bd16_s, bd17_s, bd18_s, bd19_s, bd20_s, bd21_s, bd22_s, bd23_s, bd24_s, bd25_s]
theorem mu_1 {d ts : Int32} : f_X10_must F 1 d ts 0 eo = some (1, 0, eo) := by
  simp (disch := omega) only [f_X10_must, f_X10_must_b24, f_X10_must_b36, ll_le, ll_lt, ll_eq, lr_le, lr_lt, lr_eq, ll_add, lr_add, ll_mul, lr_mul, nI_add, pk_mul, nI_leI, nI_ltI, nI_eq, ll_sub, pk_sub, lm_add, rd_n, rd_l, wr_n, wr_l, lm_ne, lm_ne', lm_lt, lm_le, m1_lt, m1_le, m1_le0, m1_lt0, m1_0, m1_0', l1_0, gd_0, gd_1, gd_T, or_true, true_or, false_or, or_false, nle_T, nle_F, nlt_T, nlt_F, neq_T, neq_F, ↓reduceIte, ne_eq, not_true_eq_false, not_false_eq_true, bd1_s, bd2_s, bd3_s, bd4_s, bd5_s, bd6_s, bd7_s, bd8_s, bd9_s, bd10_s, bd11_s, bd12_s, bd13_s, bd14_s, bd15_s, bd16_s, bd17_s, bd18_s, bd19_s, bd20_s, bd21_s, bd22_s, bd23_s, bd24_s, bd25_s]
theorem mu_0 {d ts : Int32} (h : ¬ d = 0) : f_X10_must F 0 d ts 0 eo = some (0, d, ts) := by
  simp (disch := omega) only [f_X10_must, f_X10_must_b24, f_X10_must_b36, h, ll_le, ll_lt, ll_eq, lr_le, lr_lt, lr_eq, ll_add, lr_add, ll_mul, lr_mul, nI_add, pk_mul, nI_leI, nI_ltI, nI_eq, ll_sub, pk_sub, lm_add, rd_n, rd_l, wr_n, wr_l, lm_ne, lm_ne', lm_lt, lm_le, m1_lt, m1_le, m1_le0, m1_lt0, m1_0, m1_0', l1_0, gd_0, gd_1, gd_T, or_true, true_or, false_or, or_false, nle_T, nle_F, nlt_T, nlt_F, neq_T, neq_F, ↓reduceIte, ne_eq, not_true_eq_false, not_false_eq_true, bd1_s, bd2_s, bd3_s, bd4_s, bd5_s, bd6_s, bd7_s, bd8_s, bd9_s, bd10_s, bd11_s, bd12_s, bd13_s, bd14_s, bd15_s, bd16_s, bd17_s, bd18_s, bd19_s, bd20_s, bd21_s, bd22_s, bd23_s, bd24_s, bd25_s]
theorem mu_e {c d ts er : Int32} (h : ¬ er = 0) : f_X10_must F c d ts er eo = some (0, er, eo) := by
  simp (disch := omega) only [f_X10_must, f_X10_must_b24, f_X10_must_b36, h, ll_le, ll_lt, ll_eq, lr_le, lr_lt, lr_eq, ll_add, lr_add, ll_mul, lr_mul, nI_add, pk_mul, nI_leI, nI_ltI, nI_eq, ll_sub, pk_sub, lm_add, rd_n, rd_l, wr_n, wr_l, lm_ne, lm_ne', lm_lt, lm_le, m1_lt, m1_le, m1_le0, m1_lt0, m1_0, m1_0', l1_0, gd_0, gd_1, gd_T, or_true, true_or, false_or, or_false, nle_T, nle_F, nlt_T, nlt_F, neq_T, neq_F, ↓reduceIte, ne_eq, not_true_eq_false, not_false_eq_true, bd1_s, bd2_s, bd3_s, bd4_s, bd5_s, bd6_s, bd7_s, bd8_s, bd9_s, bd10_s, bd11_s, bd12_s, bd13_s, bd14_s, bd15_s, bd16_s, bd17_s, bd18_s, bd19_s, bd20_s, bd21_s, bd22_s, bd23_s, bd24_s, bd25_s]
theorem num_both {L H : Int32} {lo hi : Nat} (h : TXT n b tx bf) (t : TOK F n tx e s e' k v) (hL : L = nI lo) (hH : H = nI hi) (hlo : lo ≤ 10000) (hhi : hi ≤ 10000) (hF : 2000 ≤ F) :
    (∃ x s2 e2 k2 v2, lo ≤ x ∧ x ≤ hi ∧ (∀ tk st, f_X5_readNumber F L H (nI n) 0 tk st (nI e) tx = some (nI x, 0, nI 2, nI s, nI e')) ∧ (∀ eo, f_X10_number F L H (nI n) (nI s) (nI e') (rk k) v 0 eo bf = some (nI x, nI s2, nI e2, rk k2, v2, 0, eo)) ∧ TOK F n tx e' s2 e2 k2 v2 ∧ k = 2 ∧ v = nI x) ∨
    (∃ r d, (d = 1 ∨ d = 2) ∧ (∀ tk st, f_X5_readNumber F L H (nI n) 0 tk st (nI e) tx = some (r, nI (8 * s + d), nI k, nI s, nI e')) ∧ (∀ eo, f_X10_number F L H (nI n) (nI s) (nI e') (rk k) v 0 eo bf = some (0, nI s, nI e', rk k, v, nI d, nI s)) ∧ (d = 1 → k ≠ 2) ∧ (d = 2 → k = 2 ∧ ∃ x, v = nI x ∧ x ≤ 9999 ∧ (x < lo ∨ hi < x))) := by
  subst hL hH
  have h1 := h.1
  obtain ⟨t1, t2, t3, t4, t5, t6, t7, t8⟩ := id t
  have f1 : f_X5_fail F 1 0 (nI s) = some (nI (8 * s + 1)) := fl_0 (d := 1)
  have f2 : f_X5_fail F 2 0 (nI s) = some (nI (8 * s + 2)) := fl_0 (d := 2)
  by_cases k2 : k = 2
  · subst k2
    obtain ⟨x, x1, rfl, x3⟩ := t8 rfl
    have e2 : rk 2 = 2 := by decide
    by_cases hx : lo ≤ x ∧ x ≤ hi
    · obtain ⟨s2, e2', k2, v2, w1, w2⟩ := tok h t3 hF (nI s) (rk 2) (nI x)
      have wi : f_X10_within F (nI x).toInt64 (nI lo).toInt64 (nI hi).toInt64 = some 1 := within_1 (by rw [Int32.toInt_toInt64, Int32.toInt_toInt64, nI_toInt (by omega), nI_toInt (by omega)]; omega) (by rw [Int32.toInt_toInt64, Int32.toInt_toInt64, nI_toInt (by omega), nI_toInt (by omega)]; omega)
      refine .inl ⟨x, s2, e2', k2, v2, hx.1, hx.2, fun tk st => ?_, fun eo => ?_, w2, rfl, rfl⟩
      · unfold f_X5_readNumber
        rw [t7, bd3_s, if_pos (show nI 2 = (2 : Int32) from rfl), x3, if_neg (fun w => by have := (nI_ltI (by omega) (by omega)).mp w; omega), if_pos ((nI_leI (by omega) (by omega)).mpr hx.2)]
        rfl
      · rw [e2] at w1
        unfold f_X10_number f_X10_number_b14
        rw [e2, if_pos rfl, mu_1, bd3_s, if_neg (show ¬ (1 : Int32) = 0 by decide), wi, bd1_s, mu_1, bd3_s, if_neg (show ¬ (1 : Int32) = 0 by decide), w1, bd4_s]
    · have wi : f_X10_within F (nI x).toInt64 (nI lo).toInt64 (nI hi).toInt64 = some 0 := within_0 (by rw [Int32.toInt_toInt64, Int32.toInt_toInt64, Int32.toInt_toInt64, nI_toInt (by omega), nI_toInt (by omega), nI_toInt (by omega)]; omega)
      refine .inr ⟨nI x, 2, .inr rfl, fun tk st => ?_, fun eo => ?_, fun w => by omega, fun _ => ⟨rfl, x, rfl, x1, by omega⟩⟩
      · unfold f_X5_readNumber
        rw [t7, bd3_s, if_pos (show nI 2 = (2 : Int32) from rfl), x3]
        by_cases hx1 : x < lo
        · rw [if_pos ((nI_ltI (by omega) (by omega)).mpr hx1)]
          unfold f_X5_readNumber_b68 f_X5_readNumber_b73
          rw [f2, bd1_s]
        · rw [if_neg (fun w => hx1 ((nI_ltI (by omega) (by omega)).mp w)), if_neg (fun w => by have := (nI_leI (by omega) (by omega)).mp w; omega)]
          unfold f_X5_readNumber_b68 f_X5_readNumber_b73
          rw [f2, bd1_s]
      · unfold f_X10_number f_X10_number_b14 f_X10_number_b41
        rw [e2, if_pos rfl, mu_1, bd3_s, if_neg (show ¬ (1 : Int32) = 0 by decide), wi, bd1_s, mu_0 (by decide), bd3_s, if_pos rfl]
        rfl
  · refine .inr ⟨-1, 1, .inl rfl, fun tk st => ?_, fun eo => ?_, fun _ => k2, fun w => by omega⟩
    · unfold f_X5_readNumber
      rw [t7, bd3_s, if_neg (show ¬ nI k = (2 : Int32) from fun w => k2 ((nI_eq (b := 2) (by omega) (by omega)).mp w)), f1, bd1_s]
    · unfold f_X10_number f_X10_number_b14 f_X10_number_b41
      rw [if_neg (fun w => k2 ((rk_2 t4).mp w)), mu_0 (by decide), bd3_s, if_pos rfl]
      rfl
/-- behind a failure the class reads on, and nothing counts -/
theorem num_f {f : Nat} (h : TXT n b tx bf) (he : e ≤ n) (hf : f ≠ 0) (hf2 : f < 2 ^ 31) (lo hi : Int32) (hF : 2000 ≤ F) : ∃ r k s e', e' ≤ n ∧ ∀ tk st, f_X5_readNumber F lo hi (nI n) (nI f) tk st (nI e) tx = some (r, nI f, nI k, nI s, nI e') := by
  obtain ⟨s, e', k, v, -, t1, t2, t3, t4, t5, t6, t7, t8⟩ := tok h he hF 0 0 0
  have ff : ∀ d st, f_X5_fail F d (nI f) st = some (nI f) := fun d st => fl_f hf hf2
  by_cases k2 : k = 2
  · subst k2
    obtain ⟨x, x1, rfl, x3⟩ := t8 rfl
    refine ⟨nI x, 2, s, e', t3, fun tk st => ?_⟩
    unfold f_X5_readNumber
    rw [t7, bd3_s, if_pos (show nI 2 = (2 : Int32) from rfl), x3]
    unfold f_X5_readNumber_b68 f_X5_readNumber_b73
    rw [ff, bd1_s]
    split
    · rfl
    · split <;> rfl
  · refine ⟨-1, k, s, e', t3, fun tk st => ?_⟩
    unfold f_X5_readNumber
    rw [t7, bd3_s, if_neg (show ¬ nI k = (2 : Int32) from fun w => k2 ((nI_eq (b := 2) (by omega) (by omega)).mp w)), ff, bd1_s]
theorem sem_f {f : Nat} (h : TXT n b tx bf) (he : e ≤ n) (hf : f ≠ 0) (hf2 : f < 2 ^ 31) (hF : 2000 ≤ F) : ∃ k s e', e' ≤ n ∧ ∀ tk st, f_X5_readSemicolon F (nI n) (nI f) tk st (nI e) tx = some (nI f, nI k, nI s, nI e') := by
  obtain ⟨s, e', k, v, -, t1, t2, t3, t4, t5, t6, t7, t8⟩ := tok h he hF 0 0 0
  have ff : ∀ d st, f_X5_fail F d (nI f) st = some (nI f) := fun d st => fl_f hf hf2
  refine ⟨k, s, e', t3, fun tk st => ?_⟩
  unfold f_X5_readSemicolon f_X5_readSemicolon_b17
  rw [t7, bd3_s, ff, bd1_s]
  split <;> rfl
theorem slen_le : ∀ j, j < 7 → SLEN.getD j 0 ≤ 10 := by decide
theorem isw {j : Nat} (h : TXT n b tx bf) (hj : j < 7) (t : TOK F n tx e s e' k v) (hF : 2000 ≤ F) : ∃ r : Int32, (r = 0 ∨ r = 1) ∧ f_X5_isWord F j (nI k) (nI s) (nI e') tx = some r ∧ f_X10_is F j (nI n) (nI s) (nI e') (rk k) 0 bf = some r ∧ (r = 1 → k = 1) := by
  have h1 := h.1
  obtain ⟨t1, t2, t3, t4, t5, t6, t7, t8⟩ := id t
  have hm := slen_le j hj
  unfold f_X5_isWord f_X10_is f_X5_isWord_b24 f_X10_is_b31
  by_cases k1 : k = 1
  · subst k1
    have e1 : rk 1 = 1 := by decide
    rw [e1, if_pos (show nI 1 = (1 : Int32) from rfl), if_pos rfl, if_pos rfl, pk_sub t2]
    by_cases hl : e' - s = SLEN.getD j 0
    · rw [if_pos (by rw [hl]), if_pos (by rw [hl])]
      unfold f_X5_isWord_L28 f_X10_is_L35
      obtain ⟨m, hme⟩ : ∃ m, SLEN.getD j 0 = m := ⟨_, rfl⟩
      rw [hme] at hm hl
      by_cases hall : ∀ i, i < m → nI (b (s + i)) = sch j i
      · refine ⟨1, .inr rfl, ?_, ?_, fun _ => rfl⟩
        · refine lp_at (fun i => nI i) m (by omega) rfl (fun i hi q => ?_) (fun q => ?_)
          · obtain ⟨-, g1, -⟩ := h.2 (s + i) (by omega)
            have g2 := hall i hi
            simp (disch := omega) only [f_X5_isWord_h28, hme, g1, g2, ll_le, ll_lt, ll_eq, lr_le, lr_lt, lr_eq, ll_add, lr_add, ll_mul, lr_mul, nI_add, pk_mul, nI_leI, nI_ltI, nI_eq, ll_sub, pk_sub, lm_add, rd_n, rd_l, wr_n, wr_l, lm_ne, lm_ne', lm_lt, lm_le, m1_lt, m1_le, m1_le0, m1_lt0, m1_0, m1_0', l1_0, gd_0, gd_1, gd_T, or_true, true_or, false_or, or_false, nle_T, nle_F, nlt_T, nlt_F, neq_T, neq_F, ↓reduceIte, ne_eq, not_true_eq_false, not_false_eq_true, bd1_s, bd2_s, bd3_s, bd4_s, bd5_s, bd6_s, bd7_s, bd8_s, bd9_s, bd10_s, bd11_s, bd12_s, bd13_s, bd14_s, bd15_s, bd16_s, bd17_s, bd18_s, bd19_s, bd20_s, bd21_s, bd22_s, bd23_s, bd24_s, bd25_s]
          · simp (disch := omega) only [f_X5_isWord_h28, hme, ll_le, ll_lt, ll_eq, lr_le, lr_lt, lr_eq, ll_add, lr_add, ll_mul, lr_mul, nI_add, pk_mul, nI_leI, nI_ltI, nI_eq, ll_sub, pk_sub, lm_add, rd_n, rd_l, wr_n, wr_l, lm_ne, lm_ne', lm_lt, lm_le, m1_lt, m1_le, m1_le0, m1_lt0, m1_0, m1_0', l1_0, gd_0, gd_1, gd_T, or_true, true_or, false_or, or_false, nle_T, nle_F, nlt_T, nlt_F, neq_T, neq_F, ↓reduceIte, ne_eq, not_true_eq_false, not_false_eq_true, bd1_s, bd2_s, bd3_s, bd4_s, bd5_s, bd6_s, bd7_s, bd8_s, bd9_s, bd10_s, bd11_s, bd12_s, bd13_s, bd14_s, bd15_s, bd16_s, bd17_s, bd18_s, bd19_s, bd20_s, bd21_s, bd22_s, bd23_s, bd24_s, bd25_s]
        · refine lp_at (fun i => nI i) m (by omega) rfl (fun i hi q => ?_) (fun q => ?_)
          · have g1 := by_i (F := F) h (show s + i < n by omega)
            have g2 := hall i hi
            simp (disch := omega) only [f_X10_is_h35, hme, g1, g2, ll_le, ll_lt, ll_eq, lr_le, lr_lt, lr_eq, ll_add, lr_add, ll_mul, lr_mul, nI_add, pk_mul, nI_leI, nI_ltI, nI_eq, ll_sub, pk_sub, lm_add, rd_n, rd_l, wr_n, wr_l, lm_ne, lm_ne', lm_lt, lm_le, m1_lt, m1_le, m1_le0, m1_lt0, m1_0, m1_0', l1_0, gd_0, gd_1, gd_T, or_true, true_or, false_or, or_false, nle_T, nle_F, nlt_T, nlt_F, neq_T, neq_F, ↓reduceIte, ne_eq, not_true_eq_false, not_false_eq_true, bd1_s, bd2_s, bd3_s, bd4_s, bd5_s, bd6_s, bd7_s, bd8_s, bd9_s, bd10_s, bd11_s, bd12_s, bd13_s, bd14_s, bd15_s, bd16_s, bd17_s, bd18_s, bd19_s, bd20_s, bd21_s, bd22_s, bd23_s, bd24_s, bd25_s]
          · simp (disch := omega) only [f_X10_is_h35, hme, ll_le, ll_lt, ll_eq, lr_le, lr_lt, lr_eq, ll_add, lr_add, ll_mul, lr_mul, nI_add, pk_mul, nI_leI, nI_ltI, nI_eq, ll_sub, pk_sub, lm_add, rd_n, rd_l, wr_n, wr_l, lm_ne, lm_ne', lm_lt, lm_le, m1_lt, m1_le, m1_le0, m1_lt0, m1_0, m1_0', l1_0, gd_0, gd_1, gd_T, or_true, true_or, false_or, or_false, nle_T, nle_F, nlt_T, nlt_F, neq_T, neq_F, ↓reduceIte, ne_eq, not_true_eq_false, not_false_eq_true, bd1_s, bd2_s, bd3_s, bd4_s, bd5_s, bd6_s, bd7_s, bd8_s, bd9_s, bd10_s, bd11_s, bd12_s, bd13_s, bd14_s, bd15_s, bd16_s, bd17_s, bd18_s, bd19_s, bd20_s, bd21_s, bd22_s, bd23_s, bd24_s, bd25_s]
      · obtain ⟨i0, i1, i2, i3⟩ : ∃ i0, i0 < m ∧ ¬ nI (b (s + i0)) = sch j i0 ∧ ∀ i, i < i0 → nI (b (s + i)) = sch j i := by
          obtain ⟨q, q1, q2, q3, q4⟩ := run_ex (n := m) (e := 0) (fun i => nI (b (s + i)) = sch j i) (Nat.zero_le _)
          rcases q4 with rfl | ⟨w1, w2⟩
          · exact absurd (fun i hi => q3 i (Nat.zero_le _) hi) hall
          · exact ⟨q, w1, w2, fun i hi => q3 i (Nat.zero_le _) hi⟩
        refine ⟨0, .inl rfl, ?_, ?_, fun w => absurd w (by decide)⟩
        · refine lp_at (fun i => nI i) i0 (by omega) rfl (fun i hi q => ?_) (fun q => ?_)
          · obtain ⟨-, g1, -⟩ := h.2 (s + i) (by omega)
            have g2 := i3 i hi
            simp (disch := omega) only [f_X5_isWord_h28, hme, g1, g2, ll_le, ll_lt, ll_eq, lr_le, lr_lt, lr_eq, ll_add, lr_add, ll_mul, lr_mul, nI_add, pk_mul, nI_leI, nI_ltI, nI_eq, ll_sub, pk_sub, lm_add, rd_n, rd_l, wr_n, wr_l, lm_ne, lm_ne', lm_lt, lm_le, m1_lt, m1_le, m1_le0, m1_lt0, m1_0, m1_0', l1_0, gd_0, gd_1, gd_T, or_true, true_or, false_or, or_false, nle_T, nle_F, nlt_T, nlt_F, neq_T, neq_F, ↓reduceIte, ne_eq, not_true_eq_false, not_false_eq_true, bd1_s, bd2_s, bd3_s, bd4_s, bd5_s, bd6_s, bd7_s, bd8_s, bd9_s, bd10_s, bd11_s, bd12_s, bd13_s, bd14_s, bd15_s, bd16_s, bd17_s, bd18_s, bd19_s, bd20_s, bd21_s, bd22_s, bd23_s, bd24_s, bd25_s]
          · obtain ⟨-, g1, -⟩ := h.2 (s + i0) (by omega)
            simp (disch := omega) only [f_X5_isWord_h28, hme, g1, i2, ll_le, ll_lt, ll_eq, lr_le, lr_lt, lr_eq, ll_add, lr_add, ll_mul, lr_mul, nI_add, pk_mul, nI_leI, nI_ltI, nI_eq, ll_sub, pk_sub, lm_add, rd_n, rd_l, wr_n, wr_l, lm_ne, lm_ne', lm_lt, lm_le, m1_lt, m1_le, m1_le0, m1_lt0, m1_0, m1_0', l1_0, gd_0, gd_1, gd_T, or_true, true_or, false_or, or_false, nle_T, nle_F, nlt_T, nlt_F, neq_T, neq_F, ↓reduceIte, ne_eq, not_true_eq_false, not_false_eq_true, bd1_s, bd2_s, bd3_s, bd4_s, bd5_s, bd6_s, bd7_s, bd8_s, bd9_s, bd10_s, bd11_s, bd12_s, bd13_s, bd14_s, bd15_s, bd16_s, bd17_s, bd18_s, bd19_s, bd20_s, bd21_s, bd22_s, bd23_s, bd24_s, bd25_s]
        · refine lp_at (fun i => nI i) i0 (by omega) rfl (fun i hi q => ?_) (fun q => ?_)
          · have g1 := by_i (F := F) h (show s + i < n by omega)
            have g2 := i3 i hi
            simp (disch := omega) only [f_X10_is_h35, hme, g1, g2, ll_le, ll_lt, ll_eq, lr_le, lr_lt, lr_eq, ll_add, lr_add, ll_mul, lr_mul, nI_add, pk_mul, nI_leI, nI_ltI, nI_eq, ll_sub, pk_sub, lm_add, rd_n, rd_l, wr_n, wr_l, lm_ne, lm_ne', lm_lt, lm_le, m1_lt, m1_le, m1_le0, m1_lt0, m1_0, m1_0', l1_0, gd_0, gd_1, gd_T, or_true, true_or, false_or, or_false, nle_T, nle_F, nlt_T, nlt_F, neq_T, neq_F, ↓reduceIte, ne_eq, not_true_eq_false, not_false_eq_true, bd1_s, bd2_s, bd3_s, bd4_s, bd5_s, bd6_s, bd7_s, bd8_s, bd9_s, bd10_s, bd11_s, bd12_s, bd13_s, bd14_s, bd15_s, bd16_s, bd17_s, bd18_s, bd19_s, bd20_s, bd21_s, bd22_s, bd23_s, bd24_s, bd25_s]
          · have g1 := by_i (F := F) h (show s + i0 < n by omega)
            simp (disch := omega) only [f_X10_is_h35, hme, g1, i2, ll_le, ll_lt, ll_eq, lr_le, lr_lt, lr_eq, ll_add, lr_add, ll_mul, lr_mul, nI_add, pk_mul, nI_leI, nI_ltI, nI_eq, ll_sub, pk_sub, lm_add, rd_n, rd_l, wr_n, wr_l, lm_ne, lm_ne', lm_lt, lm_le, m1_lt, m1_le, m1_le0, m1_lt0, m1_0, m1_0', l1_0, gd_0, gd_1, gd_T, or_true, true_or, false_or, or_false, nle_T, nle_F, nlt_T, nlt_F, neq_T, neq_F, ↓reduceIte, ne_eq, not_true_eq_false, not_false_eq_true, bd1_s, bd2_s, bd3_s, bd4_s, bd5_s, bd6_s, bd7_s, bd8_s, bd9_s, bd10_s, bd11_s, bd12_s, bd13_s, bd14_s, bd15_s, bd16_s, bd17_s, bd18_s, bd19_s, bd20_s, bd21_s, bd22_s, bd23_s, bd24_s, bd25_s]
    · have hl' : ¬ nI (e' - s) = nI (SLEN.getD j 0) := fun w => hl ((nI_eq (by omega) (by omega)).mp w)
      rw [if_neg hl', if_neg hl']
      exact ⟨0, .inl rfl, gd_0, gd_0, fun w => absurd w (by decide)⟩
  · rw [if_neg (show ¬ nI k = (1 : Int32) from fun w => k1 ((nI_eq (b := 1) (by omega) (by omega)).mp w)), if_pos rfl, if_neg (fun w => k1 ((rk_1 t4).mp w))]
    exact ⟨0, .inl rfl, gd_0, gd_0, fun w => absurd w (by decide)⟩
end
