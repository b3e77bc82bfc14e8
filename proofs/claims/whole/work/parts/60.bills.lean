/-! trips and invoices -/
def BR (tN vN T : Nat) (tp : Nat → Int32) (tn vn : Int32) (am iv pd pa pl sb vc S : Nat → Int32) : Prop :=
  tn = nI tN ∧ S 1 = nI tN ∧ tN ≤ 80 ∧ vn = nI vN ∧ S 2 = nI vN ∧ vN ≤ 40 ∧
  (∀ t, t < tN → iv t = S (2004 + 5 * t + 0) ∧ (∃ a, a < vN ∧ S (2004 + 5 * t + 0) = nI a) ∧ am t = S (2004 + 5 * t + 1) ∧ vc t = S (2004 + 5 * t + 2) ∧ pa t = S (2004 + 5 * t + 3) ∧ sb t = S (2004 + 5 * t + 4)) ∧
  (∀ i, i < vN → pl i = S (2404 + 3 * i + 1) ∧ pd i = S (2404 + 3 * i + 2) ∧ S (2404 + 3 * i + 0) = oI (tw T tp (S (2404 + 3 * i + 1))))
/-- the sum of what the trips of invoice i come to -/
def tot (S : Nat → Int32) (i : Nat) (x : Int32) : Nat → Int32
  | 0 => x
  | t + 1 => if S (2004 + 5 * t + 0) = nI i ∧ ¬ S (2004 + 5 * t + 4) = 2 then tot S i x t + S (2004 + 5 * t + 1) else tot S i x t
def feI (T : Nat) (tp : Nat → Int32) (fe x : Int32) : Int32 := match tw T tp x with
  | some _ => 0
  | none => fe
def balI (tN T : Nat) (tp : Nat → Int32) (fe : Int32) (S : Nat → Int32) (i : Nat) : Int32 := tot S i (feI T tp fe (S (2404 + 3 * i + 1))) tN - S (2404 + 3 * i + 2)
section
variable {tN vN T F i : Nat} {tp tp' am iv pd pa pl sb vc S bs : Nat → Int32} {tn vn fe : Int32}
theorem to1_v (h : BR tN vN T tp tn vn am iv pd pa pl sb vc S) (hi : i < vN) (hT : T ≤ 12) (htp : ∀ k, k < T → tp' k = tp k) (hF : 100 ≤ F) : f_X1_totalOf F (nI i) tn am iv pl sb (nI T) fe tp' = some (tot S i (feI T tp fe (S (2404 + 3 * i + 1))) tN) := by
  obtain ⟨rfl, h1, h2, rfl, h3, h4, h5, h6⟩ := h
  unfold f_X1_totalOf
  rw [rd_n (by omega) (by decide), (h6 i hi).1, fee_v _ fe tp' hT hF, bd1_s, tw_congr _ htp]
  unfold f_X1_totalOf_L14
  refine lp_at (fun t => (nI i, tot S i (feI T tp fe (S (2404 + 3 * i + 1))) t, nI t)) tN (by omega) rfl (fun t ht k => ?_) (fun k => ?_)
  · obtain ⟨g1, g2, g3, g4, g5, g6⟩ := h5 t ht
    by_cases c1 : S (2004 + 5 * t + 0) = nI i
    · by_cases c2 : S (2004 + 5 * t + 4) = 2
      · have : tot S i (feI T tp fe (S (2404 + 3 * i + 1))) (t + 1) = tot S i (feI T tp fe (S (2404 + 3 * i + 1))) t := if_neg (by simp [c2])
        simp (disch := omega) only [f_X1_totalOf_h14, f_X1_totalOf_b55, g1, g3, g6, c1, c2, this, ll_le, ll_lt, ll_eq, lr_le, lr_lt, lr_eq, ll_add, lr_add, ll_mul, lr_mul, nI_add, pk_mul, nI_leI, nI_ltI, nI_eq, ll_sub, pk_sub, lm_add, rd_n, rd_l, wr_n, wr_l, lm_ne, lm_ne', lm_lt, lm_le, m1_lt, m1_le, m1_le0, m1_lt0, m1_0, m1_0', l1_0, gd_0, gd_1, gd_T, or_true, true_or, false_or, or_false, nle_T, nle_F, nlt_T, nlt_F, neq_T, neq_F, ↓reduceIte, ne_eq, not_true_eq_false, not_false_eq_true, bd1_s, bd2_s, bd3_s, bd4_s, bd5_s, bd6_s, bd7_s, bd8_s, bd9_s, bd10_s, bd11_s, bd12_s, bd13_s, bd14_s, bd15_s, bd16_s, bd17_s, bd18_s, bd19_s, bd20_s, bd21_s, bd22_s, bd23_s, bd24_s, bd25_s]
      · have : tot S i (feI T tp fe (S (2404 + 3 * i + 1))) (t + 1) = tot S i (feI T tp fe (S (2404 + 3 * i + 1))) t + S (2004 + 5 * t + 1) := if_pos ⟨c1, c2⟩
        simp (disch := omega) only [f_X1_totalOf_h14, f_X1_totalOf_b55, g1, g3, g6, c1, c2, this, ll_le, ll_lt, ll_eq, lr_le, lr_lt, lr_eq, ll_add, lr_add, ll_mul, lr_mul, nI_add, pk_mul, nI_leI, nI_ltI, nI_eq, ll_sub, pk_sub, lm_add, rd_n, rd_l, wr_n, wr_l, lm_ne, lm_ne', lm_lt, lm_le, m1_lt, m1_le, m1_le0, m1_lt0, m1_0, m1_0', l1_0, gd_0, gd_1, gd_T, or_true, true_or, false_or, or_false, nle_T, nle_F, nlt_T, nlt_F, neq_T, neq_F, ↓reduceIte, ne_eq, not_true_eq_false, not_false_eq_true, bd1_s, bd2_s, bd3_s, bd4_s, bd5_s, bd6_s, bd7_s, bd8_s, bd9_s, bd10_s, bd11_s, bd12_s, bd13_s, bd14_s, bd15_s, bd16_s, bd17_s, bd18_s, bd19_s, bd20_s, bd21_s, bd22_s, bd23_s, bd24_s, bd25_s]
    · have : tot S i (feI T tp fe (S (2404 + 3 * i + 1))) (t + 1) = tot S i (feI T tp fe (S (2404 + 3 * i + 1))) t := if_neg (fun w => c1 w.1)
      simp (disch := omega) only [f_X1_totalOf_h14, f_X1_totalOf_b55, g1, c1, this, ll_le, ll_lt, ll_eq, lr_le, lr_lt, lr_eq, ll_add, lr_add, ll_mul, lr_mul, nI_add, pk_mul, nI_leI, nI_ltI, nI_eq, ll_sub, pk_sub, lm_add, rd_n, rd_l, wr_n, wr_l, lm_ne, lm_ne', lm_lt, lm_le, m1_lt, m1_le, m1_le0, m1_lt0, m1_0, m1_0', l1_0, gd_0, gd_1, gd_T, or_true, true_or, false_or, or_false, nle_T, nle_F, nlt_T, nlt_F, neq_T, neq_F, ↓reduceIte, ne_eq, not_true_eq_false, not_false_eq_true, bd1_s, bd2_s, bd3_s, bd4_s, bd5_s, bd6_s, bd7_s, bd8_s, bd9_s, bd10_s, bd11_s, bd12_s, bd13_s, bd14_s, bd15_s, bd16_s, bd17_s, bd18_s, bd19_s, bd20_s, bd21_s, bd22_s, bd23_s, bd24_s, bd25_s]
  · simp (disch := omega) only [f_X1_totalOf_h14, ll_le, ll_lt, ll_eq, lr_le, lr_lt, lr_eq, ll_add, lr_add, ll_mul, lr_mul, nI_add, pk_mul, nI_leI, nI_ltI, nI_eq, ll_sub, pk_sub, lm_add, rd_n, rd_l, wr_n, wr_l, lm_ne, lm_ne', lm_lt, lm_le, m1_lt, m1_le, m1_le0, m1_lt0, m1_0, m1_0', l1_0, gd_0, gd_1, gd_T, or_true, true_or, false_or, or_false, nle_T, nle_F, nlt_T, nlt_F, neq_T, neq_F, ↓reduceIte, ne_eq, not_true_eq_false, not_false_eq_true, bd1_s, bd2_s, bd3_s, bd4_s, bd5_s, bd6_s, bd7_s, bd8_s, bd9_s, bd10_s, bd11_s, bd12_s, bd13_s, bd14_s, bd15_s, bd16_s, bd17_s, bd18_s, bd19_s, bd20_s, bd21_s, bd22_s, bd23_s, bd24_s, bd25_s]
theorem to10_v (h : BR tN vN T tp tn vn am iv pd pa pl sb vc S) (hi : i < vN) (hT : T ≤ 12) (hb : bs 6 = fe) (hF : 100 ≤ F) : f_X10_totalOf F (nI i) bs S = some (tot S i (feI T tp fe (S (2404 + 3 * i + 1))) tN) := by
  obtain ⟨rfl, h1, h2, rfl, h3, h4, h5, h6⟩ := h
  have hloop : f_X10_totalOf_b20 F bs S (nI i) (feI T tp fe (S (2404 + 3 * i + 1))) = some (tot S i (feI T tp fe (S (2404 + 3 * i + 1))) tN) := by
    unfold f_X10_totalOf_b20 f_X10_totalOf_L23
    refine lp_at (fun t => (nI i, tot S i (feI T tp fe (S (2404 + 3 * i + 1))) t, nI t)) tN (by omega) rfl (fun t ht k => ?_) (fun k => ?_)
    · by_cases c1 : S (2004 + 5 * t + 0) = nI i
      · by_cases c2 : S (2004 + 5 * t + 4) = 2
        · have : tot S i (feI T tp fe (S (2404 + 3 * i + 1))) (t + 1) = tot S i (feI T tp fe (S (2404 + 3 * i + 1))) t := if_neg (by simp [c2])
          simp (disch := omega) only [f_X10_totalOf_h23, f_X10_totalOf_b63, f_X10_totalOf_b64, oft_l, h1, c1, c2, this, Int32.add_zero, ll_le, ll_lt, ll_eq, lr_le, lr_lt, lr_eq, ll_add, lr_add, ll_mul, lr_mul, nI_add, pk_mul, nI_leI, nI_ltI, nI_eq, ll_sub, pk_sub, lm_add, rd_n, rd_l, wr_n, wr_l, lm_ne, lm_ne', lm_lt, lm_le, m1_lt, m1_le, m1_le0, m1_lt0, m1_0, m1_0', l1_0, gd_0, gd_1, gd_T, or_true, true_or, false_or, or_false, nle_T, nle_F, nlt_T, nlt_F, neq_T, neq_F, ↓reduceIte, ne_eq, not_true_eq_false, not_false_eq_true, bd1_s, bd2_s, bd3_s, bd4_s, bd5_s, bd6_s, bd7_s, bd8_s, bd9_s, bd10_s, bd11_s, bd12_s, bd13_s, bd14_s, bd15_s, bd16_s, bd17_s, bd18_s, bd19_s, bd20_s, bd21_s, bd22_s, bd23_s, bd24_s, bd25_s]
        · have : tot S i (feI T tp fe (S (2404 + 3 * i + 1))) (t + 1) = tot S i (feI T tp fe (S (2404 + 3 * i + 1))) t + S (2004 + 5 * t + 1) := if_pos ⟨c1, c2⟩
          simp (disch := omega) only [f_X10_totalOf_h23, f_X10_totalOf_b63, f_X10_totalOf_b64, oft_l, h1, c1, c2, this, ll_le, ll_lt, ll_eq, lr_le, lr_lt, lr_eq, ll_add, lr_add, ll_mul, lr_mul, nI_add, pk_mul, nI_leI, nI_ltI, nI_eq, ll_sub, pk_sub, lm_add, rd_n, rd_l, wr_n, wr_l, lm_ne, lm_ne', lm_lt, lm_le, m1_lt, m1_le, m1_le0, m1_lt0, m1_0, m1_0', l1_0, gd_0, gd_1, gd_T, or_true, true_or, false_or, or_false, nle_T, nle_F, nlt_T, nlt_F, neq_T, neq_F, ↓reduceIte, ne_eq, not_true_eq_false, not_false_eq_true, bd1_s, bd2_s, bd3_s, bd4_s, bd5_s, bd6_s, bd7_s, bd8_s, bd9_s, bd10_s, bd11_s, bd12_s, bd13_s, bd14_s, bd15_s, bd16_s, bd17_s, bd18_s, bd19_s, bd20_s, bd21_s, bd22_s, bd23_s, bd24_s, bd25_s]
      · have : tot S i (feI T tp fe (S (2404 + 3 * i + 1))) (t + 1) = tot S i (feI T tp fe (S (2404 + 3 * i + 1))) t := if_neg (fun w => c1 w.1)
        simp (disch := omega) only [f_X10_totalOf_h23, f_X10_totalOf_b63, f_X10_totalOf_b64, oft_l, h1, c1, this, Int32.add_zero, ll_le, ll_lt, ll_eq, lr_le, lr_lt, lr_eq, ll_add, lr_add, ll_mul, lr_mul, nI_add, pk_mul, nI_leI, nI_ltI, nI_eq, ll_sub, pk_sub, lm_add, rd_n, rd_l, wr_n, wr_l, lm_ne, lm_ne', lm_lt, lm_le, m1_lt, m1_le, m1_le0, m1_lt0, m1_0, m1_0', l1_0, gd_0, gd_1, gd_T, or_true, true_or, false_or, or_false, nle_T, nle_F, nlt_T, nlt_F, neq_T, neq_F, ↓reduceIte, ne_eq, not_true_eq_false, not_false_eq_true, bd1_s, bd2_s, bd3_s, bd4_s, bd5_s, bd6_s, bd7_s, bd8_s, bd9_s, bd10_s, bd11_s, bd12_s, bd13_s, bd14_s, bd15_s, bd16_s, bd17_s, bd18_s, bd19_s, bd20_s, bd21_s, bd22_s, bd23_s, bd24_s, bd25_s]
    · simp (disch := omega) only [f_X10_totalOf_h23, h1, ll_le, ll_lt, ll_eq, lr_le, lr_lt, lr_eq, ll_add, lr_add, ll_mul, lr_mul, nI_add, pk_mul, nI_leI, nI_ltI, nI_eq, ll_sub, pk_sub, lm_add, rd_n, rd_l, wr_n, wr_l, lm_ne, lm_ne', lm_lt, lm_le, m1_lt, m1_le, m1_le0, m1_lt0, m1_0, m1_0', l1_0, gd_0, gd_1, gd_T, or_true, true_or, false_or, or_false, nle_T, nle_F, nlt_T, nlt_F, neq_T, neq_F, ↓reduceIte, ne_eq, not_true_eq_false, not_false_eq_true, bd1_s, bd2_s, bd3_s, bd4_s, bd5_s, bd6_s, bd7_s, bd8_s, bd9_s, bd10_s, bd11_s, bd12_s, bd13_s, bd14_s, bd15_s, bd16_s, bd17_s, bd18_s, bd19_s, bd20_s, bd21_s, bd22_s, bd23_s, bd24_s, bd25_s]
  unfold f_X10_totalOf
  rw [ofi_l (by omega) (by decide), bd1_s, show 2404 + 3 * i + OfNat.ofNat 0 = 2404 + 3 * i + 0 from rfl, (h6 i hi).2.2]
  unfold feI at hloop ⊢
  cases e : tw T tp (S (2404 + 3 * i + 1)) with
  | some k =>
    have := (tw_some e).1
    rw [e] at hloop
    rw [if_pos (show 0 ≤ oI (some k) from nI_pos' (by omega))]
    exact hloop
  | none =>
    rw [e] at hloop
    rw [if_neg (show ¬ 0 ≤ oI none by decide), show (6 : Int32) = nI 6 from rfl, rd_n (by decide) (by decide), hb]
    exact hloop
theorem ba1_v (h : BR tN vN T tp tn vn am iv pd pa pl sb vc S) (hi : i < vN) (hT : T ≤ 12) (htp : ∀ k, k < T → tp' k = tp k) (hF : 100 ≤ F) : f_X1_balanceOf F (nI i) tn am iv pd pl sb (nI T) fe tp' = some (balI tN T tp fe S i) := by
  have h6 := h.2.2.2.2.2.2.2
  have h4 := h.2.2.2.2.2.1
  unfold f_X1_balanceOf balI
  rw [to1_v h hi hT htp hF, bd1_s, rd_n (by omega) (by decide), (h6 i hi).2.1]
theorem ba10_v (h : BR tN vN T tp tn vn am iv pd pa pl sb vc S) (hi : i < vN) (hT : T ≤ 12) (hb : bs 6 = fe) (hF : 100 ≤ F) : f_X10_balanceOf F (nI i) bs S = some (balI tN T tp fe S i) := by
  have h4 := h.2.2.2.2.2.1
  unfold f_X10_balanceOf balI
  rw [to10_v h hi hT hb hF, bd1_s, ofi_l (by omega) (by decide), bd1_s]
def outI (tN T : Nat) (tp : Nat → Int32) (fe : Int32) (S : Nat → Int32) : Nat → Int32
  | 0 => 0
  | i + 1 => outI tN T tp fe S i + (if 0 < balI tN T tp fe S i then balI tN T tp fe S i else 0)
theorem ou9_v (h : BR tN vN T tp tn vn am iv pd pa pl sb vc S) (hT : T ≤ 12) (htp : ∀ k, k < T → tp' k = tp k) (hF : 100 ≤ F) : f_X9_outstanding F tn vn am iv pd pl sb (nI T) fe tp' = some (outI tN T tp fe S vN) := by
  unfold f_X9_outstanding f_X9_outstanding_L4
  have h4 := h.2.2.2.2.2.1
  have hv := h.2.2.2.1
  refine lp_at (fun i => (outI tN T tp fe S i, nI i)) vN (by omega) rfl (fun i hi k => ?_) (fun k => ?_)
  · simp (disch := omega) only [f_X9_outstanding_h4, hv, ba1_v h hi hT htp hF, outI, ll_le, ll_lt, ll_eq, lr_le, lr_lt, lr_eq, ll_add, lr_add, ll_mul, lr_mul, nI_add, pk_mul, nI_leI, nI_ltI, nI_eq, ll_sub, pk_sub, lm_add, rd_n, rd_l, wr_n, wr_l, lm_ne, lm_ne', lm_lt, lm_le, m1_lt, m1_le, m1_le0, m1_lt0, m1_0, m1_0', l1_0, gd_0, gd_1, gd_T, or_true, true_or, false_or, or_false, nle_T, nle_F, nlt_T, nlt_F, neq_T, neq_F, ↓reduceIte, ne_eq, not_true_eq_false, not_false_eq_true, bd1_s, bd2_s, bd3_s, bd4_s, bd5_s, bd6_s, bd7_s, bd8_s, bd9_s, bd10_s, bd11_s, bd12_s, bd13_s, bd14_s, bd15_s, bd16_s, bd17_s, bd18_s, bd19_s, bd20_s, bd21_s, bd22_s, bd23_s, bd24_s, bd25_s]
  · simp (disch := omega) only [f_X9_outstanding_h4, hv, ll_le, ll_lt, ll_eq, lr_le, lr_lt, lr_eq, ll_add, lr_add, ll_mul, lr_mul, nI_add, pk_mul, nI_leI, nI_ltI, nI_eq, ll_sub, pk_sub, lm_add, rd_n, rd_l, wr_n, wr_l, lm_ne, lm_ne', lm_lt, lm_le, m1_lt, m1_le, m1_le0, m1_lt0, m1_0, m1_0', l1_0, gd_0, gd_1, gd_T, or_true, true_or, false_or, or_false, nle_T, nle_F, nlt_T, nlt_F, neq_T, neq_F, ↓reduceIte, ne_eq, not_true_eq_false, not_false_eq_true, bd1_s, bd2_s, bd3_s, bd4_s, bd5_s, bd6_s, bd7_s, bd8_s, bd9_s, bd10_s, bd11_s, bd12_s, bd13_s, bd14_s, bd15_s, bd16_s, bd17_s, bd18_s, bd19_s, bd20_s, bd21_s, bd22_s, bd23_s, bd24_s, bd25_s]
theorem ou10_v {th : Int32} (h : BR tN vN T tp tn vn am iv pd pa pl sb vc S) (hT : T ≤ 12) (hb : bs 6 = fe) (hF : 100 ≤ F) : f_X10_outstanding F th bs S = some (outI tN T tp fe S vN, 0) := by
  unfold f_X10_outstanding f_X10_outstanding_L4
  have h4 := h.2.2.2.2.2.1
  have hv := h.2.2.2.2.1
  refine lp_at (fun i => (outI tN T tp fe S i, nI i, th)) vN (by omega) rfl (fun i hi k => ?_) (fun k => ?_)
  · by_cases hx : 0 < balI tN T tp fe S i
    · have hx2 : ¬ balI tN T tp fe S i ≤ 0 := i32_nle.mpr hx
      simp (disch := omega) only [f_X10_outstanding_h4, f_X10_outstanding_b32, hv, ba10_v h hi hT hb hF, outI, hx, hx2, ll_le, ll_lt, ll_eq, lr_le, lr_lt, lr_eq, ll_add, lr_add, ll_mul, lr_mul, nI_add, pk_mul, nI_leI, nI_ltI, nI_eq, ll_sub, pk_sub, lm_add, rd_n, rd_l, wr_n, wr_l, lm_ne, lm_ne', lm_lt, lm_le, m1_lt, m1_le, m1_le0, m1_lt0, m1_0, m1_0', l1_0, gd_0, gd_1, gd_T, or_true, true_or, false_or, or_false, nle_T, nle_F, nlt_T, nlt_F, neq_T, neq_F, ↓reduceIte, ne_eq, not_true_eq_false, not_false_eq_true, bd1_s, bd2_s, bd3_s, bd4_s, bd5_s, bd6_s, bd7_s, bd8_s, bd9_s, bd10_s, bd11_s, bd12_s, bd13_s, bd14_s, bd15_s, bd16_s, bd17_s, bd18_s, bd19_s, bd20_s, bd21_s, bd22_s, bd23_s, bd24_s, bd25_s]
    · have hx2 : balI tN T tp fe S i ≤ 0 := i32_nlt.mp hx
      simp (disch := omega) only [f_X10_outstanding_h4, f_X10_outstanding_b32, hv, ba10_v h hi hT hb hF, outI, hx, hx2, ll_le, ll_lt, ll_eq, lr_le, lr_lt, lr_eq, ll_add, lr_add, ll_mul, lr_mul, nI_add, pk_mul, nI_leI, nI_ltI, nI_eq, ll_sub, pk_sub, lm_add, rd_n, rd_l, wr_n, wr_l, lm_ne, lm_ne', lm_lt, lm_le, m1_lt, m1_le, m1_le0, m1_lt0, m1_0, m1_0', l1_0, gd_0, gd_1, gd_T, or_true, true_or, false_or, or_false, nle_T, nle_F, nlt_T, nlt_F, neq_T, neq_F, ↓reduceIte, ne_eq, not_true_eq_false, not_false_eq_true, bd1_s, bd2_s, bd3_s, bd4_s, bd5_s, bd6_s, bd7_s, bd8_s, bd9_s, bd10_s, bd11_s, bd12_s, bd13_s, bd14_s, bd15_s, bd16_s, bd17_s, bd18_s, bd19_s, bd20_s, bd21_s, bd22_s, bd23_s, bd24_s, bd25_s]
  · simp (disch := omega) only [f_X10_outstanding_h4, f_X10_told, hv, ll_le, ll_lt, ll_eq, lr_le, lr_lt, lr_eq, ll_add, lr_add, ll_mul, lr_mul, nI_add, pk_mul, nI_leI, nI_ltI, nI_eq, ll_sub, pk_sub, lm_add, rd_n, rd_l, wr_n, wr_l, lm_ne, lm_ne', lm_lt, lm_le, m1_lt, m1_le, m1_le0, m1_lt0, m1_0, m1_0', l1_0, gd_0, gd_1, gd_T, or_true, true_or, false_or, or_false, nle_T, nle_F, nlt_T, nlt_F, neq_T, neq_F, ↓reduceIte, ne_eq, not_true_eq_false, not_false_eq_true, bd1_s, bd2_s, bd3_s, bd4_s, bd5_s, bd6_s, bd7_s, bd8_s, bd9_s, bd10_s, bd11_s, bd12_s, bd13_s, bd14_s, bd15_s, bd16_s, bd17_s, bd18_s, bd19_s, bd20_s, bd21_s, bd22_s, bd23_s, bd24_s, bd25_s]
theorem di1_v (ht : tN ≤ 80) (hs : ∀ t, t < tN → sb t = S (2004 + 5 * t + 4)) (hF : 100 ≤ F) : f_X1_disputedCount F (nI tN) sb = some (nI (cnt1 (fun t => S (2004 + 5 * t + 4) = 1) (fun _ => inferInstance) tN)) := by
  unfold f_X1_disputedCount f_X1_disputedCount_L4
  refine lp_at (fun i => (nI (cnt1 (fun t => S (2004 + 5 * t + 4) = 1) (fun _ => inferInstance) i), nI i)) tN (by omega) rfl (fun i hi q => ?_) (fun q => ?_)
  · by_cases h0 : S (2004 + 5 * i + 4) = 1
    · simp (disch := omega) only [f_X1_disputedCount_h4, f_X1_disputedCount_b25, hs i hi, h0, cnt1, ll_le, ll_lt, ll_eq, lr_le, lr_lt, lr_eq, ll_add, lr_add, ll_mul, lr_mul, nI_add, pk_mul, nI_leI, nI_ltI, nI_eq, ll_sub, pk_sub, lm_add, rd_n, rd_l, wr_n, wr_l, lm_ne, lm_ne', lm_lt, lm_le, m1_lt, m1_le, m1_le0, m1_lt0, m1_0, m1_0', l1_0, gd_0, gd_1, gd_T, or_true, true_or, false_or, or_false, nle_T, nle_F, nlt_T, nlt_F, neq_T, neq_F, ↓reduceIte, ne_eq, not_true_eq_false, not_false_eq_true, bd1_s, bd2_s, bd3_s, bd4_s, bd5_s, bd6_s, bd7_s, bd8_s, bd9_s, bd10_s, bd11_s, bd12_s, bd13_s, bd14_s, bd15_s, bd16_s, bd17_s, bd18_s, bd19_s, bd20_s, bd21_s, bd22_s, bd23_s, bd24_s, bd25_s]
    · simp (disch := omega) only [f_X1_disputedCount_h4, f_X1_disputedCount_b25, hs i hi, h0, cnt1, Nat.add_zero, ll_le, ll_lt, ll_eq, lr_le, lr_lt, lr_eq, ll_add, lr_add, ll_mul, lr_mul, nI_add, pk_mul, nI_leI, nI_ltI, nI_eq, ll_sub, pk_sub, lm_add, rd_n, rd_l, wr_n, wr_l, lm_ne, lm_ne', lm_lt, lm_le, m1_lt, m1_le, m1_le0, m1_lt0, m1_0, m1_0', l1_0, gd_0, gd_1, gd_T, or_true, true_or, false_or, or_false, nle_T, nle_F, nlt_T, nlt_F, neq_T, neq_F, ↓reduceIte, ne_eq, not_true_eq_false, not_false_eq_true, bd1_s, bd2_s, bd3_s, bd4_s, bd5_s, bd6_s, bd7_s, bd8_s, bd9_s, bd10_s, bd11_s, bd12_s, bd13_s, bd14_s, bd15_s, bd16_s, bd17_s, bd18_s, bd19_s, bd20_s, bd21_s, bd22_s, bd23_s, bd24_s, bd25_s]
  · simp (disch := omega) only [f_X1_disputedCount_h4, ll_le, ll_lt, ll_eq, lr_le, lr_lt, lr_eq, ll_add, lr_add, ll_mul, lr_mul, nI_add, pk_mul, nI_leI, nI_ltI, nI_eq, ll_sub, pk_sub, lm_add, rd_n, rd_l, wr_n, wr_l, lm_ne, lm_ne', lm_lt, lm_le, m1_lt, m1_le, m1_le0, m1_lt0, m1_0, m1_0', l1_0, gd_0, gd_1, gd_T, or_true, true_or, false_or, or_false, nle_T, nle_F, nlt_T, nlt_F, neq_T, neq_F, ↓reduceIte, ne_eq, not_true_eq_false, not_false_eq_true, bd1_s, bd2_s, bd3_s, bd4_s, bd5_s, bd6_s, bd7_s, bd8_s, bd9_s, bd10_s, bd11_s, bd12_s, bd13_s, bd14_s, bd15_s, bd16_s, bd17_s, bd18_s, bd19_s, bd20_s, bd21_s, bd22_s, bd23_s, bd24_s, bd25_s]
theorem di10_v {th dp : Int32} {hi : Nat → Int32} (ht : tN ≤ 80) (h1 : S 1 = nI tN) (hF : 100 ≤ F) : f_X10_dispute_L57 F (0, 0, th, dp, hi, S) = some (nI (cnt1 (fun t => S (2004 + 5 * t + 4) = 1) (fun _ => inferInstance) tN), th, dp, hi, S) := by
  unfold f_X10_dispute_L57
  refine lp_at (fun i => (nI (cnt1 (fun t => S (2004 + 5 * t + 4) = 1) (fun _ => inferInstance) i), nI i, th, dp, hi, S)) tN (by omega) rfl (fun i hi q => ?_) (fun q => ?_)
  · by_cases h0 : S (2004 + 5 * i + 4) = 1
    · simp (disch := omega) only [f_X10_dispute_h57, f_X10_dispute_b83, oft_l, h1, h0, cnt1, ll_le, ll_lt, ll_eq, lr_le, lr_lt, lr_eq, ll_add, lr_add, ll_mul, lr_mul, nI_add, pk_mul, nI_leI, nI_ltI, nI_eq, ll_sub, pk_sub, lm_add, rd_n, rd_l, wr_n, wr_l, lm_ne, lm_ne', lm_lt, lm_le, m1_lt, m1_le, m1_le0, m1_lt0, m1_0, m1_0', l1_0, gd_0, gd_1, gd_T, or_true, true_or, false_or, or_false, nle_T, nle_F, nlt_T, nlt_F, neq_T, neq_F, ↓reduceIte, ne_eq, not_true_eq_false, not_false_eq_true, bd1_s, bd2_s, bd3_s, bd4_s, bd5_s, bd6_s, bd7_s, bd8_s, bd9_s, bd10_s, bd11_s, bd12_s, bd13_s, bd14_s, bd15_s, bd16_s, bd17_s, bd18_s, bd19_s, bd20_s, bd21_s, bd22_s, bd23_s, bd24_s, bd25_s]
    · simp (disch := omega) only [f_X10_dispute_h57, f_X10_dispute_b83, oft_l, h1, h0, cnt1, Nat.add_zero, Int32.add_zero, ll_le, ll_lt, ll_eq, lr_le, lr_lt, lr_eq, ll_add, lr_add, ll_mul, lr_mul, nI_add, pk_mul, nI_leI, nI_ltI, nI_eq, ll_sub, pk_sub, lm_add, rd_n, rd_l, wr_n, wr_l, lm_ne, lm_ne', lm_lt, lm_le, m1_lt, m1_le, m1_le0, m1_lt0, m1_0, m1_0', l1_0, gd_0, gd_1, gd_T, or_true, true_or, false_or, or_false, nle_T, nle_F, nlt_T, nlt_F, neq_T, neq_F, ↓reduceIte, ne_eq, not_true_eq_false, not_false_eq_true, bd1_s, bd2_s, bd3_s, bd4_s, bd5_s, bd6_s, bd7_s, bd8_s, bd9_s, bd10_s, bd11_s, bd12_s, bd13_s, bd14_s, bd15_s, bd16_s, bd17_s, bd18_s, bd19_s, bd20_s, bd21_s, bd22_s, bd23_s, bd24_s, bd25_s]
  · simp (disch := omega) only [f_X10_dispute_h57, h1, ll_le, ll_lt, ll_eq, lr_le, lr_lt, lr_eq, ll_add, lr_add, ll_mul, lr_mul, nI_add, pk_mul, nI_leI, nI_ltI, nI_eq, ll_sub, pk_sub, lm_add, rd_n, rd_l, wr_n, wr_l, lm_ne, lm_ne', lm_lt, lm_le, m1_lt, m1_le, m1_le0, m1_lt0, m1_0, m1_0', l1_0, gd_0, gd_1, gd_T, or_true, true_or, false_or, or_false, nle_T, nle_F, nlt_T, nlt_F, neq_T, neq_F, ↓reduceIte, ne_eq, not_true_eq_false, not_false_eq_true, bd1_s, bd2_s, bd3_s, bd4_s, bd5_s, bd6_s, bd7_s, bd8_s, bd9_s, bd10_s, bd11_s, bd12_s, bd13_s, bd14_s, bd15_s, bd16_s, bd17_s, bd18_s, bd19_s, bd20_s, bd21_s, bd22_s, bd23_s, bd24_s, bd25_s]
end
