/-! the routes of the reference -/
section
variable {G L F : Nat} {M P : Nat → Nat → Nat} {lf lt lm lq mM mP bs : Nat → Int32} {f t : Nat} {e rm rc : Int32} {route tried : Nat → Int32} {V : Nat → Nat → Nat → Prop}
theorem isbL0 {l : Nat} (hl : l ≤ 3) (hF : 100 ≤ F) (hq : ∀ i, i ≤ l → tried i = route i) : f_X10_isBetter_L47 F rm rc route tried (nI l, 0) = some 0 := by
  unfold f_X10_isBetter_L47
  refine lp_at (fun i => (nI l, nI i)) (l + 1) (by omega) rfl (fun i hi k => ?_) (fun k => ?_)
  · simp (disch := omega) only [f_X10_isBetter_h47, hq i (by omega), ll_le, ll_lt, ll_eq, lr_le, lr_lt, lr_eq, ll_add, lr_add, ll_mul, lr_mul, nI_add, pk_mul, nI_leI, nI_ltI, nI_eq, ll_sub, pk_sub, lm_add, rd_n, rd_l, wr_n, wr_l, lm_ne, lm_ne', lm_lt, lm_le, m1_lt, m1_le, m1_le0, m1_lt0, m1_0, m1_0', l1_0, gd_0, gd_1, gd_T, or_true, true_or, false_or, or_false, nle_T, nle_F, nlt_T, nlt_F, neq_T, neq_F, ↓reduceIte, ne_eq, not_true_eq_false, not_false_eq_true, bd1_s, bd2_s, bd3_s, bd4_s, bd5_s, bd6_s, bd7_s, bd8_s, bd9_s, bd10_s, bd11_s, bd12_s, bd13_s, bd14_s, bd15_s, bd16_s, bd17_s, bd18_s, bd19_s, bd20_s, bd21_s, bd22_s, bd23_s, bd24_s, bd25_s]
  · simp (disch := omega) only [f_X10_isBetter_h47, ll_le, ll_lt, ll_eq, lr_le, lr_lt, lr_eq, ll_add, lr_add, ll_mul, lr_mul, nI_add, pk_mul, nI_leI, nI_ltI, nI_eq, ll_sub, pk_sub, lm_add, rd_n, rd_l, wr_n, wr_l, lm_ne, lm_ne', lm_lt, lm_le, m1_lt, m1_le, m1_le0, m1_lt0, m1_0, m1_0', l1_0, gd_0, gd_1, gd_T, or_true, true_or, false_or, or_false, nle_T, nle_F, nlt_T, nlt_F, neq_T, neq_F, ↓reduceIte, ne_eq, not_true_eq_false, not_false_eq_true, bd1_s, bd2_s, bd3_s, bd4_s, bd5_s, bd6_s, bd7_s, bd8_s, bd9_s, bd10_s, bd11_s, bd12_s, bd13_s, bd14_s, bd15_s, bd16_s, bd17_s, bd18_s, bd19_s, bd20_s, bd21_s, bd22_s, bd23_s, bd24_s, bd25_s]
theorem isbL1 {l n : Nat} (hl : l ≤ 3) (hF : 100 ≤ F) (hn : n ≤ l) (hq : ∀ i, i < n → tried i = route i) (hd : tried n ≠ route n) : f_X10_isBetter_L47 F rm rc route tried (nI l, 0) = some (if route n ≤ tried n then 0 else 1) := by
  unfold f_X10_isBetter_L47
  refine lp_at (fun i => (nI l, nI i)) n (by omega) rfl (fun i hi k => ?_) (fun k => ?_)
  · simp (disch := omega) only [f_X10_isBetter_h47, hq i (by omega), ll_le, ll_lt, ll_eq, lr_le, lr_lt, lr_eq, ll_add, lr_add, ll_mul, lr_mul, nI_add, pk_mul, nI_leI, nI_ltI, nI_eq, ll_sub, pk_sub, lm_add, rd_n, rd_l, wr_n, wr_l, lm_ne, lm_ne', lm_lt, lm_le, m1_lt, m1_le, m1_le0, m1_lt0, m1_0, m1_0', l1_0, gd_0, gd_1, gd_T, or_true, true_or, false_or, or_false, nle_T, nle_F, nlt_T, nlt_F, neq_T, neq_F, ↓reduceIte, ne_eq, not_true_eq_false, not_false_eq_true, bd1_s, bd2_s, bd3_s, bd4_s, bd5_s, bd6_s, bd7_s, bd8_s, bd9_s, bd10_s, bd11_s, bd12_s, bd13_s, bd14_s, bd15_s, bd16_s, bd17_s, bd18_s, bd19_s, bd20_s, bd21_s, bd22_s, bd23_s, bd24_s, bd25_s]
  · by_cases hx : route n ≤ tried n
    · simp (disch := omega) only [f_X10_isBetter_h47, f_X10_isBetter_b87, hd, hx, ll_le, ll_lt, ll_eq, lr_le, lr_lt, lr_eq, ll_add, lr_add, ll_mul, lr_mul, nI_add, pk_mul, nI_leI, nI_ltI, nI_eq, ll_sub, pk_sub, lm_add, rd_n, rd_l, wr_n, wr_l, lm_ne, lm_ne', lm_lt, lm_le, m1_lt, m1_le, m1_le0, m1_lt0, m1_0, m1_0', l1_0, gd_0, gd_1, gd_T, or_true, true_or, false_or, or_false, nle_T, nle_F, nlt_T, nlt_F, neq_T, neq_F, ↓reduceIte, ne_eq, not_true_eq_false, not_false_eq_true, bd1_s, bd2_s, bd3_s, bd4_s, bd5_s, bd6_s, bd7_s, bd8_s, bd9_s, bd10_s, bd11_s, bd12_s, bd13_s, bd14_s, bd15_s, bd16_s, bd17_s, bd18_s, bd19_s, bd20_s, bd21_s, bd22_s, bd23_s, bd24_s, bd25_s]
    · simp (disch := omega) only [f_X10_isBetter_h47, f_X10_isBetter_b87, hd, hx, ll_le, ll_lt, ll_eq, lr_le, lr_lt, lr_eq, ll_add, lr_add, ll_mul, lr_mul, nI_add, pk_mul, nI_leI, nI_ltI, nI_eq, ll_sub, pk_sub, lm_add, rd_n, rd_l, wr_n, wr_l, lm_ne, lm_ne', lm_lt, lm_le, m1_lt, m1_le, m1_le0, m1_lt0, m1_0, m1_0', l1_0, gd_0, gd_1, gd_T, or_true, true_or, false_or, or_false, nle_T, nle_F, nlt_T, nlt_F, neq_T, neq_F, ↓reduceIte, ne_eq, not_true_eq_false, not_false_eq_true, bd1_s, bd2_s, bd3_s, bd4_s, bd5_s, bd6_s, bd7_s, bd8_s, bd9_s, bd10_s, bd11_s, bd12_s, bd13_s, bd14_s, bd15_s, bd16_s, bd17_s, bd18_s, bd19_s, bd20_s, bd21_s, bd22_s, bd23_s, bd24_s, bd25_s]
theorem isb_v {l b c l1 b1 c1 x x1 : Nat} (h1 : 1 ≤ l ∧ l ≤ 3 ∧ b < 10 ∧ c < 10 ∧ (l = 1 → b = 0 ∧ c = 0) ∧ (l = 2 → c = 0) ∧ x ≤ 15000) (h2 : 1 ≤ l1 ∧ l1 ≤ 3 ∧ b1 < 10 ∧ c1 < 10 ∧ (l1 = 1 → b1 = 0 ∧ c1 = 0) ∧ (l1 = 2 → c1 = 0) ∧ x1 ≤ 15000) (hF : 100 ≤ F) (hr : ST f t l b c route) (ht : ST f t l1 b1 c1 tried) :
    f_X10_isBetter F (nI l1) (nI x1) (nI l) (nI x) route tried = some (if l1 * 100000000 + x1 * 100 + b1 * 10 + c1 < l * 100000000 + x * 100 + b * 10 + c then 1 else 0) := by
  rcases Nat.lt_trichotomy l1 l with q | q | q
  · rw [if_pos (by omega)]
    simp (disch := omega) only [f_X10_isBetter, f_X10_isBetter_b15, f_X10_isBetter_b33, ll_le, ll_lt, ll_eq, lr_le, lr_lt, lr_eq, ll_add, lr_add, ll_mul, lr_mul, nI_add, pk_mul, nI_leI, nI_ltI, nI_eq, ll_sub, pk_sub, lm_add, rd_n, rd_l, wr_n, wr_l, lm_ne, lm_ne', lm_lt, lm_le, m1_lt, m1_le, m1_le0, m1_lt0, m1_0, m1_0', l1_0, gd_0, gd_1, gd_T, or_true, true_or, false_or, or_false, nle_T, nle_F, nlt_T, nlt_F, neq_T, neq_F, ↓reduceIte, ne_eq, not_true_eq_false, not_false_eq_true, bd1_s, bd2_s, bd3_s, bd4_s, bd5_s, bd6_s, bd7_s, bd8_s, bd9_s, bd10_s, bd11_s, bd12_s, bd13_s, bd14_s, bd15_s, bd16_s, bd17_s, bd18_s, bd19_s, bd20_s, bd21_s, bd22_s, bd23_s, bd24_s, bd25_s]
  · subst q
    rcases Nat.lt_trichotomy x1 x with q | q | q
    · rw [if_pos (by omega)]
      simp (disch := omega) only [f_X10_isBetter, f_X10_isBetter_b15, f_X10_isBetter_b33, ll_le, ll_lt, ll_eq, lr_le, lr_lt, lr_eq, ll_add, lr_add, ll_mul, lr_mul, nI_add, pk_mul, nI_leI, nI_ltI, nI_eq, ll_sub, pk_sub, lm_add, rd_n, rd_l, wr_n, wr_l, lm_ne, lm_ne', lm_lt, lm_le, m1_lt, m1_le, m1_le0, m1_lt0, m1_0, m1_0', l1_0, gd_0, gd_1, gd_T, or_true, true_or, false_or, or_false, nle_T, nle_F, nlt_T, nlt_F, neq_T, neq_F, ↓reduceIte, ne_eq, not_true_eq_false, not_false_eq_true, bd1_s, bd2_s, bd3_s, bd4_s, bd5_s, bd6_s, bd7_s, bd8_s, bd9_s, bd10_s, bd11_s, bd12_s, bd13_s, bd14_s, bd15_s, bd16_s, bd17_s, bd18_s, bd19_s, bd20_s, bd21_s, bd22_s, bd23_s, bd24_s, bd25_s]
    · subst q
      have e0 : f_X10_isBetter F (nI l1) (nI x1) (nI l1) (nI x1) route tried = f_X10_isBetter_L47 F (nI l1) (nI x1) route tried (nI l1, 0) := by
        simp (disch := omega) only [f_X10_isBetter, f_X10_isBetter_b15, f_X10_isBetter_b33, ll_le, ll_lt, ll_eq, lr_le, lr_lt, lr_eq, ll_add, lr_add, ll_mul, lr_mul, nI_add, pk_mul, nI_leI, nI_ltI, nI_eq, ll_sub, pk_sub, lm_add, rd_n, rd_l, wr_n, wr_l, lm_ne, lm_ne', lm_lt, lm_le, m1_lt, m1_le, m1_le0, m1_lt0, m1_0, m1_0', l1_0, gd_0, gd_1, gd_T, or_true, true_or, false_or, or_false, nle_T, nle_F, nlt_T, nlt_F, neq_T, neq_F, ↓reduceIte, ne_eq, not_true_eq_false, not_false_eq_true, bd1_s, bd2_s, bd3_s, bd4_s, bd5_s, bd6_s, bd7_s, bd8_s, bd9_s, bd10_s, bd11_s, bd12_s, bd13_s, bd14_s, bd15_s, bd16_s, bd17_s, bd18_s, bd19_s, bd20_s, bd21_s, bd22_s, bd23_s, bd24_s, bd25_s]
      rw [e0]
      have r0 : tried 0 = route 0 := ht.1.trans hr.1.symm
      have hl : l1 = 1 ∨ l1 = 2 ∨ l1 = 3 := by omega
      rcases hl with rfl | rfl | rfl
      · have r1 : tried 1 = route 1 := (ht.2.1 rfl).trans (hr.2.1 rfl).symm
        rw [isbL0 (by omega) hF (fun i hi => by have : i = 0 ∨ i = 1 := by omega
                                                rcases this with rfl | rfl; exact (r0); exact (r1)), if_neg (by omega)]
      · have r2 : tried 2 = route 2 := (ht.2.2.1 rfl).2.trans (hr.2.2.1 rfl).2.symm
        have t1 := (ht.2.2.1 rfl).1
        have u1 := (hr.2.2.1 rfl).1
        by_cases hb : b1 = b
        · subst hb
          rw [isbL0 (by omega) hF (fun i hi => by have : i = 0 ∨ i = 1 ∨ i = 2 := by omega
                                                  rcases this with rfl | rfl | rfl; exact (r0); exact (t1.trans u1.symm); exact (r2)), if_neg (by omega)]
        · rw [isbL1 (n := 1) (by omega) hF (by omega) (fun i hi => by have : i = 0 := by omega
                                                                      subst this; exact r0) (by rw [t1, u1]; exact fun q => hb ((nI_eq (by omega) (by omega)).mp q)), t1, u1]
          by_cases hc : b ≤ b1
          · rw [if_pos ((nI_leI (by omega) (by omega)).mpr hc), if_neg (by omega)]
          · rw [if_neg (fun q => hc ((nI_leI (by omega) (by omega)).mp q)), if_pos (by omega)]
      · have r3 : tried 3 = route 3 := (ht.2.2.2 rfl).2.2.trans (hr.2.2.2 rfl).2.2.symm
        have t1 := (ht.2.2.2 rfl).1
        have u1 := (hr.2.2.2 rfl).1
        have t2 := (ht.2.2.2 rfl).2.1
        have u2 := (hr.2.2.2 rfl).2.1
        by_cases hb : b1 = b
        · subst hb
          by_cases hb : c1 = c
          · subst hb
            rw [isbL0 (by omega) hF (fun i hi => by have : i = 0 ∨ i = 1 ∨ i = 2 ∨ i = 3 := by omega
                                                    rcases this with rfl | rfl | rfl | rfl; exact (r0); exact (t1.trans u1.symm); exact (t2.trans u2.symm); exact (r3)), if_neg (by omega)]
          · rw [isbL1 (n := 2) (by omega) hF (by omega) (fun i hi => by have : i = 0 ∨ i = 1 := by omega
                                                                        rcases this with rfl | rfl; exact (r0); exact (t1.trans u1.symm)) (by rw [t2, u2]; exact fun q => hb ((nI_eq (by omega) (by omega)).mp q)), t2, u2]
            by_cases hc : c ≤ c1
            · rw [if_pos ((nI_leI (by omega) (by omega)).mpr hc), if_neg (by omega)]
            · rw [if_neg (fun q => hc ((nI_leI (by omega) (by omega)).mp q)), if_pos (by omega)]
        · rw [isbL1 (n := 1) (by omega) hF (by omega) (fun i hi => by have : i = 0 := by omega
                                                                      subst this; exact r0) (by rw [t1, u1]; exact fun q => hb ((nI_eq (by omega) (by omega)).mp q)), t1, u1]
          by_cases hc : b ≤ b1
          · rw [if_pos ((nI_leI (by omega) (by omega)).mpr hc), if_neg (by omega)]
          · rw [if_neg (fun q => hc ((nI_leI (by omega) (by omega)).mp q)), if_pos (by omega)]
    · rw [if_neg (by omega)]
      simp (disch := omega) only [f_X10_isBetter, f_X10_isBetter_b15, f_X10_isBetter_b33, ll_le, ll_lt, ll_eq, lr_le, lr_lt, lr_eq, ll_add, lr_add, ll_mul, lr_mul, nI_add, pk_mul, nI_leI, nI_ltI, nI_eq, ll_sub, pk_sub, lm_add, rd_n, rd_l, wr_n, wr_l, lm_ne, lm_ne', lm_lt, lm_le, m1_lt, m1_le, m1_le0, m1_lt0, m1_0, m1_0', l1_0, gd_0, gd_1, gd_T, or_true, true_or, false_or, or_false, nle_T, nle_F, nlt_T, nlt_F, neq_T, neq_F, ↓reduceIte, ne_eq, not_true_eq_false, not_false_eq_true, bd1_s, bd2_s, bd3_s, bd4_s, bd5_s, bd6_s, bd7_s, bd8_s, bd9_s, bd10_s, bd11_s, bd12_s, bd13_s, bd14_s, bd15_s, bd16_s, bd17_s, bd18_s, bd19_s, bd20_s, bd21_s, bd22_s, bd23_s, bd24_s, bd25_s]
  · rw [if_neg (by omega)]
    simp (disch := omega) only [f_X10_isBetter, f_X10_isBetter_b15, f_X10_isBetter_b33, ll_le, ll_lt, ll_eq, lr_le, lr_lt, lr_eq, ll_add, lr_add, ll_mul, lr_mul, nI_add, pk_mul, nI_leI, nI_ltI, nI_eq, ll_sub, pk_sub, lm_add, rd_n, rd_l, wr_n, wr_l, lm_ne, lm_ne', lm_lt, lm_le, m1_lt, m1_le, m1_le0, m1_lt0, m1_0, m1_0', l1_0, gd_0, gd_1, gd_T, or_true, true_or, false_or, or_false, nle_T, nle_F, nlt_T, nlt_F, neq_T, neq_F, ↓reduceIte, ne_eq, not_true_eq_false, not_false_eq_true, bd1_s, bd2_s, bd3_s, bd4_s, bd5_s, bd6_s, bd7_s, bd8_s, bd9_s, bd10_s, bd11_s, bd12_s, bd13_s, bd14_s, bd15_s, bd16_s, bd17_s, bd18_s, bd19_s, bd20_s, bd21_s, bd22_s, bd23_s, bd24_s, bd25_s]
abbrev RecT : Type := Int32 → Int32 → Int32 → Int32 → Int32 → Int32 → Int32 → (Nat → Int32) → (Nat → Int32) → (Nat → Int32) → (Nat → Int32) → (Nat → Int32) → (Nat → Int32) → (Nat → Int32) → Option (Int32 × Int32 × (Nat → Int32) × (Nat → Int32))
def cpy (s r : Nat → Int32) : Nat → Nat → Int32
  | 0 => r
  | n + 1 => upd (cpy s r n) n (s n)
theorem cpy_at {s r : Nat → Int32} : ∀ {n i : Nat}, i < n → cpy s r n i = s i
  | 0, i, h => by omega
  | n + 1, i, h => by
    show upd (cpy s r n) n (s n) i = s i
    rw [upd_at]
    split
    · subst i; rfl
    · exact cpy_at (by omega)
theorem st_cpy {l b c : Nat} (hl : 1 ≤ l ∧ l ≤ 3) (h : ST f t l b c tried) : ST f t l b c (cpy tried route (l + 1)) := by
  obtain ⟨h0, h1, h2, h3⟩ := h
  refine ⟨(cpy_at (by omega)).trans h0, fun q => ?_, fun q => ?_, fun q => ?_⟩
  · exact (cpy_at (by omega)).trans (h1 q)
  · exact ⟨(cpy_at (by omega)).trans (h2 q).1, (cpy_at (by omega)).trans (h2 q).2⟩
  · exact ⟨(cpy_at (by omega)).trans (h3 q).1, (cpy_at (by omega)).trans (h3 q).2.1, (cpy_at (by omega)).trans (h3 q).2.2⟩
theorem cp44_v (rec : RecT) {l : Nat} (hl : l ≤ 3) (hF : 100 ≤ F) (x2 x3 x4 x5 rm rc : Int32) :
    f_X10_goOn_L44 F rec bs lf lm lq lt (nI l, x2, x3, x4, x5, 0, rm, rc, route, tried) = f_X10_goOn_b70 F rec bs lf lm lq lt (nI l) x2 x3 x4 x5 rm rc (cpy tried route (l + 1)) tried := by
  unfold f_X10_goOn_L44
  refine lp_at (fun i => (nI l, x2, x3, x4, x5, nI i, rm, rc, cpy tried route i, tried)) (l + 1) (by omega) rfl (fun i hi k => ?_) (fun k => ?_)
  · simp (disch := omega) only [f_X10_goOn_h44, cpy, ll_le, ll_lt, ll_eq, lr_le, lr_lt, lr_eq, ll_add, lr_add, ll_mul, lr_mul, nI_add, pk_mul, nI_leI, nI_ltI, nI_eq, ll_sub, pk_sub, lm_add, rd_n, rd_l, wr_n, wr_l, lm_ne, lm_ne', lm_lt, lm_le, m1_lt, m1_le, m1_le0, m1_lt0, m1_0, m1_0', l1_0, gd_0, gd_1, gd_T, or_true, true_or, false_or, or_false, nle_T, nle_F, nlt_T, nlt_F, neq_T, neq_F, ↓reduceIte, ne_eq, not_true_eq_false, not_false_eq_true, bd1_s, bd2_s, bd3_s, bd4_s, bd5_s, bd6_s, bd7_s, bd8_s, bd9_s, bd10_s, bd11_s, bd12_s, bd13_s, bd14_s, bd15_s, bd16_s, bd17_s, bd18_s, bd19_s, bd20_s, bd21_s, bd22_s, bd23_s, bd24_s, bd25_s]
  · simp (disch := omega) only [f_X10_goOn_h44, ll_le, ll_lt, ll_eq, lr_le, lr_lt, lr_eq, ll_add, lr_add, ll_mul, lr_mul, nI_add, pk_mul, nI_leI, nI_ltI, nI_eq, ll_sub, pk_sub, lm_add, rd_n, rd_l, wr_n, wr_l, lm_ne, lm_ne', lm_lt, lm_le, m1_lt, m1_le, m1_le0, m1_lt0, m1_0, m1_0', l1_0, gd_0, gd_1, gd_T, or_true, true_or, false_or, or_false, nle_T, nle_F, nlt_T, nlt_F, neq_T, neq_F, ↓reduceIte, ne_eq, not_true_eq_false, not_false_eq_true, bd1_s, bd2_s, bd3_s, bd4_s, bd5_s, bd6_s, bd7_s, bd8_s, bd9_s, bd10_s, bd11_s, bd12_s, bd13_s, bd14_s, bd15_s, bd16_s, bd17_s, bd18_s, bd19_s, bd20_s, bd21_s, bd22_s, bd23_s, bd24_s, bd25_s]
/-- the best so far in the reference -/
def BS (P : Nat → Nat → Nat) (f t : Nat) (V : Nat → Nat → Nat → Prop) (rm rc : Int32) (route : Nat → Int32) : Prop := (∀ l b c, V l b c → NF P f t l b c) ∧ ((rm = 0 ∧ ∀ l b c, ¬ V l b c) ∨ BE P f t V rm rc route)
theorem BS.iff {V' : Nat → Nat → Nat → Prop} (h : BS P f t V rm rc route) (hV : ∀ l b c, V' l b c ↔ V l b c) : BS P f t V' rm rc route :=
  ⟨fun l b c q => h.1 l b c ((hV l b c).mp q), h.2.elim (fun q => .inl ⟨q.1, fun l b c w => q.2 l b c ((hV l b c).mp w)⟩) (fun q => .inr (be_iff q hV))⟩
theorem off_v (rec : RecT) {l b c x m co : Nat} (hB : BS P f t V rm rc route) (hT : ST f x l b c tried) (hl : 1 ≤ l ∧ l ≤ 3) (hx : x < 10) (ht : t < 10) (hm : m ≤ 1000) (hco : x = t → co = COs P f t l b c) (hn : x = t → NF P f t l b c) (hF : 100 ≤ F) :
    ∃ rm' rc' route', f_X10_goOn_s F rec (nI l) (nI t) (nI m) (nI co) e rm rc bs lf lm lq lt route tried = f_X10_goOn_b70 F rec bs lf lm lq lt (nI l) (nI t) (nI m) (nI co) e rm' rc' route' tried ∧ BS P f t (fun l' b' c' => V l' b' c' ∨ (x = t ∧ ¬ nI m < e ∧ l' = l ∧ b' = b ∧ c' = c)) rm' rc' route' := by
  have hl3 : l = 1 ∨ l = 2 ∨ l = 3 := by omega
  have hlast : tried l = nI x := by
    rcases hl3 with rfl | rfl | rfl
    · exact hT.2.1 rfl
    · exact (hT.2.2.1 rfl).2
    · exact (hT.2.2.2 rfl).2.2
  by_cases hxt : x = t
  · subst hxt
    have hco := hco rfl
    have hn := hn rfl
    by_cases he : nI m < e
    · refine ⟨rm, rc, route, ?_, hB.iff (fun l' b' c' => by simp [he])⟩
      simp (disch := omega) only [f_X10_goOn_s, hlast, he, ll_le, ll_lt, ll_eq, lr_le, lr_lt, lr_eq, ll_add, lr_add, ll_mul, lr_mul, nI_add, pk_mul, nI_leI, nI_ltI, nI_eq, ll_sub, pk_sub, lm_add, rd_n, rd_l, wr_n, wr_l, lm_ne, lm_ne', lm_lt, lm_le, m1_lt, m1_le, m1_le0, m1_lt0, m1_0, m1_0', l1_0, gd_0, gd_1, gd_T, or_true, true_or, false_or, or_false, nle_T, nle_F, nlt_T, nlt_F, neq_T, neq_F, ↓reduceIte, ne_eq, not_true_eq_false, not_false_eq_true, bd1_s, bd2_s, bd3_s, bd4_s, bd5_s, bd6_s, bd7_s, bd8_s, bd9_s, bd10_s, bd11_s, bd12_s, bd13_s, bd14_s, bd15_s, bd16_s, bd17_s, bd18_s, bd19_s, bd20_s, bd21_s, bd22_s, bd23_s, bd24_s, bd25_s]
    · have hV : ∀ l' b' c', (V l' b' c' ∨ (x = x ∧ ¬ nI m < e ∧ l' = l ∧ b' = b ∧ c' = c)) ↔ (V l' b' c' ∨ (l' = l ∧ b' = b ∧ c' = c)) := fun l' b' c' => by simp [he]
      have hNF : ∀ l' b' c', (V l' b' c' ∨ (x = x ∧ ¬ nI m < e ∧ l' = l ∧ b' = b ∧ c' = c)) → NF P f x l' b' c' := by
        rintro l' b' c' (q | ⟨-, -, rfl, rfl, rfl⟩)
        · exact hB.1 _ _ _ q
        · exact hn
      rcases hB.2 with ⟨rfl, hN⟩ | hE
      · refine ⟨nI l, nI co, cpy tried route (l + 1), ?_, hNF, .inr ?_⟩
        · simp (disch := omega) only [f_X10_goOn_s, hlast, he, f_X10_isBetter, f_X10_isBetter_b15, ll_le, ll_lt, ll_eq, lr_le, lr_lt, lr_eq, ll_add, lr_add, ll_mul, lr_mul, nI_add, pk_mul, nI_leI, nI_ltI, nI_eq, ll_sub, pk_sub, lm_add, rd_n, rd_l, wr_n, wr_l, lm_ne, lm_ne', lm_lt, lm_le, m1_lt, m1_le, m1_le0, m1_lt0, m1_0, m1_0', l1_0, gd_0, gd_1, gd_T, or_true, true_or, false_or, or_false, nle_T, nle_F, nlt_T, nlt_F, neq_T, neq_F, ↓reduceIte, ne_eq, not_true_eq_false, not_false_eq_true, bd1_s, bd2_s, bd3_s, bd4_s, bd5_s, bd6_s, bd7_s, bd8_s, bd9_s, bd10_s, bd11_s, bd12_s, bd13_s, bd14_s, bd15_s, bd16_s, bd17_s, bd18_s, bd19_s, bd20_s, bd21_s, bd22_s, bd23_s, bd24_s, bd25_s]
          exact cp44_v rec hl.2 hF _ _ _ _ _ _
        · rw [hco]
          exact be_new hV (st_cpy hl hT) (fun l b c q => absurd q (hN l b c))
      · obtain ⟨l0, b0, c0, q1, rfl, rfl, q4, q5⟩ := id hE
        have n0 := hB.1 _ _ _ q1
        have hb := isb_v (F := F) n0 hn hF q4 hT
        rw [← hco] at hb
        by_cases hk : KY P f x l b c < KY P f x l0 b0 c0
        · rw [if_pos (by unfold KY at hk; rw [← hco] at hk; exact hk)] at hb
          refine ⟨nI l, nI co, cpy tried route (l + 1), ?_, hNF, .inr ?_⟩
          · simp (disch := omega) only [f_X10_goOn_s, hlast, he, hb, ll_le, ll_lt, ll_eq, lr_le, lr_lt, lr_eq, ll_add, lr_add, ll_mul, lr_mul, nI_add, pk_mul, nI_leI, nI_ltI, nI_eq, ll_sub, pk_sub, lm_add, rd_n, rd_l, wr_n, wr_l, lm_ne, lm_ne', lm_lt, lm_le, m1_lt, m1_le, m1_le0, m1_lt0, m1_0, m1_0', l1_0, gd_0, gd_1, gd_T, or_true, true_or, false_or, or_false, nle_T, nle_F, nlt_T, nlt_F, neq_T, neq_F, ↓reduceIte, ne_eq, not_true_eq_false, not_false_eq_true, bd1_s, bd2_s, bd3_s, bd4_s, bd5_s, bd6_s, bd7_s, bd8_s, bd9_s, bd10_s, bd11_s, bd12_s, bd13_s, bd14_s, bd15_s, bd16_s, bd17_s, bd18_s, bd19_s, bd20_s, bd21_s, bd22_s, bd23_s, bd24_s, bd25_s]
            exact cp44_v rec hl.2 hF _ _ _ _ _ _
          · rw [hco]
            exact be_new hV (st_cpy hl hT) (fun l b c q => Nat.le_trans (Nat.le_of_lt hk) (q5 _ _ _ q))
        · rw [if_neg (by unfold KY at hk; rw [← hco] at hk; exact hk)] at hb
          refine ⟨nI l0, nI (COs P f x l0 b0 c0), route, ?_, hNF, .inr (be_old hE hV (fun l' b' c' w1 w2 w3 w4 => ?_))⟩
          · simp (disch := omega) only [f_X10_goOn_s, hlast, he, hb, ll_le, ll_lt, ll_eq, lr_le, lr_lt, lr_eq, ll_add, lr_add, ll_mul, lr_mul, nI_add, pk_mul, nI_leI, nI_ltI, nI_eq, ll_sub, pk_sub, lm_add, rd_n, rd_l, wr_n, wr_l, lm_ne, lm_ne', lm_lt, lm_le, m1_lt, m1_le, m1_le0, m1_lt0, m1_0, m1_0', l1_0, gd_0, gd_1, gd_T, or_true, true_or, false_or, or_false, nle_T, nle_F, nlt_T, nlt_F, neq_T, neq_F, ↓reduceIte, ne_eq, not_true_eq_false, not_false_eq_true, bd1_s, bd2_s, bd3_s, bd4_s, bd5_s, bd6_s, bd7_s, bd8_s, bd9_s, bd10_s, bd11_s, bd12_s, bd13_s, bd14_s, bd15_s, bd16_s, bd17_s, bd18_s, bd19_s, bd20_s, bd21_s, bd22_s, bd23_s, bd24_s, bd25_s]
          · have := q5 _ _ _ w1
            have n1 := hB.1 _ _ _ w1
            unfold NF at n0 n1
            rw [nI_eq (by omega) (by omega)] at w2 w3
            have hkk : KY P f x l' b' c' ≤ KY P f x l0 b0 c0 := by
              obtain ⟨l2, b2, c2, r1, r2, r3, r4, r5⟩ := hE
              have n2 := hB.1 _ _ _ r1
              unfold NF at n2
              have s1 := r5 _ _ _ w1
              have s2 := r5 _ _ _ q1
              rw [nI_eq (by omega) (by omega)] at r2 r3
              have hst : b' = b0 ∧ c' = c0 := by
                obtain ⟨-, a1, a2, a3⟩ := w4
                obtain ⟨-, d1, d2, d3⟩ := q4
                subst w2
                rcases (show l0 = 1 ∨ l0 = 2 ∨ l0 = 3 by omega) with rfl | rfl | rfl
                · omega
                · have := (a2 rfl).1.symm.trans (d2 rfl).1
                  rw [nI_eq (by omega) (by omega)] at this
                  omega
                · have t1 := (a3 rfl).1.symm.trans (d3 rfl).1
                  have t2 := (a3 rfl).2.1.symm.trans (d3 rfl).2.1
                  rw [nI_eq (by omega) (by omega)] at t1 t2
                  omega
              rw [hst.1, hst.2, ← w2]
              exact Nat.le_refl _
            omega
  · refine ⟨rm, rc, route, ?_, hB.iff (fun l' b' c' => by simp [hxt])⟩
    simp (disch := omega) only [f_X10_goOn_s, hlast, ll_le, ll_lt, ll_eq, lr_le, lr_lt, lr_eq, ll_add, lr_add, ll_mul, lr_mul, nI_add, pk_mul, nI_leI, nI_ltI, nI_eq, ll_sub, pk_sub, lm_add, rd_n, rd_l, wr_n, wr_l, lm_ne, lm_ne', lm_lt, lm_le, m1_lt, m1_le, m1_le0, m1_lt0, m1_0, m1_0', l1_0, gd_0, gd_1, gd_T, or_true, true_or, false_or, or_false, nle_T, nle_F, nlt_T, nlt_F, neq_T, neq_F, ↓reduceIte, ne_eq, not_true_eq_false, not_false_eq_true, bd1_s, bd2_s, bd3_s, bd4_s, bd5_s, bd6_s, bd7_s, bd8_s, bd9_s, bd10_s, bd11_s, bd12_s, bd13_s, bd14_s, bd15_s, bd16_s, bd17_s, bd18_s, bd19_s, bd20_s, bd21_s, bd22_s, bd23_s, bd24_s, bd25_s]
def D2 (G : Nat) (M : Nat → Nat → Nat) (f t : Nat) (e : Int32) (b c : Nat) (l' b' c' : Nat) : Prop := (c = t ∧ ¬ nI (M f b + M b c) < e ∧ l' = 2 ∧ b' = b ∧ c' = 0) ∨ (0 < M c t ∧ ¬ nI (M f b + M b c + M c t) < e ∧ l' = 3 ∧ b' = b ∧ c' = c)
def D1 (G : Nat) (M : Nat → Nat → Nat) (f t : Nat) (e : Int32) (b : Nat) (l' b' c' : Nat) : Prop := (b = t ∧ ¬ nI (M f b) < e ∧ l' = 1 ∧ b' = 0 ∧ c' = 0) ∨ ∃ c, c < G ∧ 0 < M b c ∧ D2 G M f t e b c l' b' c'
theorem g2_v (h : NM G L M P lf lt lm lq mM mP) (hL : bs 1 = nI L) (hL2 : L ≤ 24) (hG : G ≤ 10) (hf : f < G) (ht : t < G) (hF : 100 ≤ F) {b c : Nat} (hb : b < G) (hc : c < G) (hB : BS P f t V rm rc route) (hT : ST f c 2 b 0 tried) :
    Ok (f_X10_goOn_r F 2 (nI 2) (nI t) (nI (M f b + M b c)) (nI (P f b + P b c)) e rm rc bs lf lm lq lt route tried) (fun r => BS P f t (fun l' b' c' => V l' b' c' ∨ D2 G M f t e b c l' b' c') r.1 r.2.1 r.2.2.1 ∧ ST f c 2 b 0 r.2.2.2) := by
  have n1 := h.b hf hb
  have n2 := h.b hb hc
  have n3 := h.b hc ht
  have n4 := h.b hb ht
  obtain ⟨rm1, rc1, ro1, e1, hB1⟩ := off_v (F := F) (bs := bs) (lf := lf) (lm := lm) (lq := lq) (lt := lt) (e := e) (f_X10_goOn_r F 1) (m := M f b + M b c) (co := P f b + P b c) hB hT (by omega) (by omega) (by omega) (by omega) (fun q => by subst q; simp [COs]) (fun q => by subst q; simp [NF, COs]; omega) hF
  show Ok (f_X10_goOn_s F (f_X10_goOn_r F 1) (nI 2) (nI t) _ _ e rm rc bs lf lm lq lt route tried) _
  rw [e1]
  unfold f_X10_goOn_b70
  rw [if_neg (by decide)]
  unfold f_X10_goOn_L79
  refine lp_inv (fun i z => ∃ rm rc route tried, z = (nI 2, nI t, nI (M f b + M b c), nI (P f b + P b c), e, nI i, rm, rc, route, tried) ∧ BS P f t (fun l' b' c' => (V l' b' c' ∨ (c = t ∧ ¬ nI (M f b + M b c) < e ∧ l' = 2 ∧ b' = b ∧ c' = 0)) ∨ ((∃ k, k < i ∧ lf k = nI c ∧ lt k = nI t) ∧ ¬ nI (M f b + M b c + M c t) < e ∧ l' = 3 ∧ b' = b ∧ c' = c)) rm rc route ∧ ST f c 2 b 0 tried) L ?_ ?_ (by omega) ⟨rm1, rc1, ro1, tried, rfl, hB1.iff (fun l' b' c' => by constructor; (rintro (q | ⟨⟨k, q, -⟩, -⟩); exact q; omega); exact .inl), hT⟩
  · rintro i z k hi ⟨rm, rc, route, tried, rfl, hB, hT⟩ hk
    obtain ⟨x, y, hx, hy, hxy, f1, f2, f3, f4⟩ := h.2.1 i hi
    have n5 := h.b hx hy
    have t2 := (hT.2.2.1 rfl).2
    have t1 := (hT.2.2.1 rfl).1
    by_cases hxc : x = c
    · subst hxc
      have hT3 : ST f y 3 b x (upd tried 3 (nI y)) := ⟨hT.1, fun q => by omega, fun q => by omega, fun _ => ⟨t1, t2, rfl⟩⟩
      obtain ⟨rm2, rc2, ro2, e2, hB2⟩ := off_v (F := F) (bs := bs) (lf := lf) (lm := lm) (lq := lq) (lt := lt) (e := e) (f_X10_goOn_r F 0) (m := M f b + M b x + M x y) (co := P f b + P b x + P x y) hB hT3 (by omega) (by omega) (by omega) (by omega) (fun q => by subst q; simp [COs]) (fun q => by subst q; simp [NF, COs]; omega) hF
      have e3 : f_X10_goOn_r F 1 (nI 3) (nI t) (nI (M f b + M b x + M x y)) (nI (P f b + P b x + P x y)) e rm rc bs lf lm lq lt route (upd tried 3 (nI y)) = some (rm2, rc2, ro2, upd tried 3 (nI y)) := by
        show f_X10_goOn_s F (f_X10_goOn_r F 0) _ _ _ _ _ _ _ _ _ _ _ _ _ _ = _
        rw [e2]
        unfold f_X10_goOn_b70
        rw [if_pos (show nI 3 = 3 from rfl)]
      have hq := hk (nI 2, nI t, nI (M f b + M b x), nI (P f b + P b x), e, nI (i + 1), rm2, rc2, ro2, upd tried 3 (nI y)) ⟨_, _, _, _, rfl, hB2.iff (fun l' b' c' => by
        constructor
        · rintro (q | ⟨⟨k', q1, q2, q3⟩, q4, q5, q6, q7⟩)
          · exact .inl (.inl q)
          · by_cases hki : k' = i
            · subst hki
              have : y = t := (nI_eq (by omega) (by omega)).mp (f2.symm.trans q3)
              subst this
              exact .inr ⟨rfl, q4, q5, q6, q7⟩
            · exact .inl (.inr ⟨⟨k', by omega, q2, q3⟩, q4, q5, q6, q7⟩)
        · rintro ((q | ⟨⟨k', q1, q2, q3⟩, q4⟩) | ⟨rfl, q2, q3⟩)
          · exact .inl q
          · exact .inr ⟨⟨k', by omega, q2, q3⟩, q4⟩
          · exact .inr ⟨⟨i, by omega, f1, f2⟩, q2, q3⟩), ⟨hT.1, fun q => by omega, fun _ => ⟨t1, t2⟩, fun q => by omega⟩⟩
      simp (disch := omega) only [f_X10_goOn_h79, f_X10_goOn_b153, hL, f1, f2, f3, f4, t2, e3, ll_le, ll_lt, ll_eq, lr_le, lr_lt, lr_eq, ll_add, lr_add, ll_mul, lr_mul, nI_add, pk_mul, nI_leI, nI_ltI, nI_eq, ll_sub, pk_sub, lm_add, rd_n, rd_l, wr_n, wr_l, lm_ne, lm_ne', lm_lt, lm_le, m1_lt, m1_le, m1_le0, m1_lt0, m1_0, m1_0', l1_0, gd_0, gd_1, gd_T, or_true, true_or, false_or, or_false, nle_T, nle_F, nlt_T, nlt_F, neq_T, neq_F, ↓reduceIte, ne_eq, not_true_eq_false, not_false_eq_true, bd1_s, bd2_s, bd3_s, bd4_s, bd5_s, bd6_s, bd7_s, bd8_s, bd9_s, bd10_s, bd11_s, bd12_s, bd13_s, bd14_s, bd15_s, bd16_s, bd17_s, bd18_s, bd19_s, bd20_s, bd21_s, bd22_s, bd23_s, bd24_s, bd25_s]
      exact hq
    · have hq := hk (nI 2, nI t, nI (M f b + M b c), nI (P f b + P b c), e, nI (i + 1), rm, rc, route, tried) ⟨_, _, _, _, rfl, hB.iff (fun l' b' c' => by
        constructor
        · rintro (q | ⟨⟨k', q1, q2, q3⟩, q4⟩)
          · exact .inl q
          · by_cases hki : k' = i
            · subst hki
              exact absurd ((nI_eq (by omega) (by omega)).mp (f1.symm.trans q2)) hxc
            · exact .inr ⟨⟨k', by omega, q2, q3⟩, q4⟩
        · rintro (q | ⟨⟨k', q1, q2, q3⟩, q4⟩)
          · exact .inl q
          · exact .inr ⟨⟨k', by omega, q2, q3⟩, q4⟩), hT⟩
      simp (disch := omega) only [f_X10_goOn_h79, f_X10_goOn_b153, hL, f1, t2, ll_le, ll_lt, ll_eq, lr_le, lr_lt, lr_eq, ll_add, lr_add, ll_mul, lr_mul, nI_add, pk_mul, nI_leI, nI_ltI, nI_eq, ll_sub, pk_sub, lm_add, rd_n, rd_l, wr_n, wr_l, lm_ne, lm_ne', lm_lt, lm_le, m1_lt, m1_le, m1_le0, m1_lt0, m1_0, m1_0', l1_0, gd_0, gd_1, gd_T, or_true, true_or, false_or, or_false, nle_T, nle_F, nlt_T, nlt_F, neq_T, neq_F, ↓reduceIte, ne_eq, not_true_eq_false, not_false_eq_true, bd1_s, bd2_s, bd3_s, bd4_s, bd5_s, bd6_s, bd7_s, bd8_s, bd9_s, bd10_s, bd11_s, bd12_s, bd13_s, bd14_s, bd15_s, bd16_s, bd17_s, bd18_s, bd19_s, bd20_s, bd21_s, bd22_s, bd23_s, bd24_s, bd25_s]
      exact hq
  · rintro z k ⟨rm, rc, route, tried, rfl, hB, hT⟩
    refine ⟨(rm, rc, route, tried), ?_, hB.iff (fun l' b' c' => ?_), hT⟩
    · simp (disch := omega) only [f_X10_goOn_h79, hL, ll_le, ll_lt, ll_eq, lr_le, lr_lt, lr_eq, ll_add, lr_add, ll_mul, lr_mul, nI_add, pk_mul, nI_leI, nI_ltI, nI_eq, ll_sub, pk_sub, lm_add, rd_n, rd_l, wr_n, wr_l, lm_ne, lm_ne', lm_lt, lm_le, m1_lt, m1_le, m1_le0, m1_lt0, m1_0, m1_0', l1_0, gd_0, gd_1, gd_T, or_true, true_or, false_or, or_false, nle_T, nle_F, nlt_T, nlt_F, neq_T, neq_F, ↓reduceIte, ne_eq, not_true_eq_false, not_false_eq_true, bd1_s, bd2_s, bd3_s, bd4_s, bd5_s, bd6_s, bd7_s, bd8_s, bd9_s, bd10_s, bd11_s, bd12_s, bd13_s, bd14_s, bd15_s, bd16_s, bd17_s, bd18_s, bd19_s, bd20_s, bd21_s, bd22_s, bd23_s, bd24_s, bd25_s]
    · unfold D2
      constructor
      · rintro (q | q | ⟨q1, q2⟩)
        · exact .inl (.inl q)
        · exact .inl (.inr q)
        · exact .inr ⟨h.2.2 c t hc ht q1, q2⟩
      · rintro ((q | q) | ⟨⟨k', q1, q2, q3⟩, q4⟩)
        · exact .inl q
        · exact .inr (.inl q)
        · obtain ⟨x, y, hx, hy, hxy, f1, f2, -⟩ := h.2.1 k' q1
          have e1 : x = c := (nI_eq (by omega) (by omega)).mp (f1.symm.trans q2)
          have e2 : y = t := (nI_eq (by omega) (by omega)).mp (f2.symm.trans q3)
          subst e1 e2
          exact .inr (.inr ⟨hxy, q4⟩)
end
