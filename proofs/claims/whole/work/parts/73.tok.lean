/-! the tokens of a text, on both sides -/
def kd (x : Nat) : Nat := if 97 ≤ x ∧ x ≤ 122 then 1 else if 48 ≤ x ∧ x ≤ 57 then 2 else if x = 59 then 3 else if x = 32 ∨ x = 10 then 5 else 4
/-- the reference's number of a kind -/
def rk (k : Nat) : Int32 := if k = 3 then 59 else if k = 4 then 3 else nI k
theorem kd_le (x : Nat) : kd x ≤ 5 := by
  unfold kd
  split
  · omega
  · split
    · omega
    · split
      · omega
      · split <;> omega
theorem kd_ne {x k : Nat} (h : ¬ kd x = k) (hk : k < 100) : ¬ nI (kd x) = nI k := fun w => h ((nI_eq (by have := kd_le x; omega) (by omega)).mp w)
theorem kd_v {F x : Nat} (hx : x < 256) : f_X5_kindOf F (nI x) = some (nI (kd x)) := by
  unfold kd
  by_cases h1 : 97 ≤ x ∧ x ≤ 122
  · rw [if_pos h1]
    obtain ⟨h1, h2⟩ := h1
    simp (disch := omega) only [f_X5_kindOf, ll_le, ll_lt, ll_eq, lr_le, lr_lt, lr_eq, ll_add, lr_add, ll_mul, lr_mul, nI_add, pk_mul, nI_leI, nI_ltI, nI_eq, ll_sub, pk_sub, lm_add, rd_n, rd_l, wr_n, wr_l, lm_ne, lm_ne', lm_lt, lm_le, m1_lt, m1_le, m1_le0, m1_lt0, m1_0, m1_0', l1_0, gd_0, gd_1, gd_T, or_true, true_or, false_or, or_false, nle_T, nle_F, nlt_T, nlt_F, neq_T, neq_F, ↓reduceIte, ne_eq, not_true_eq_false, not_false_eq_true, bd1_s, bd2_s, bd3_s, bd4_s, bd5_s, bd6_s, bd7_s, bd8_s, bd9_s, bd10_s, bd11_s, bd12_s, bd13_s, bd14_s, bd15_s, bd16_s, bd17_s, bd18_s, bd19_s, bd20_s, bd21_s, bd22_s, bd23_s, bd24_s, bd25_s]
    all_goals rfl
  · rw [if_neg h1]
    have e1 : f_X5_kindOf F (nI x) = f_X5_kindOf_b14 F (nI x) := by
      unfold f_X5_kindOf
      by_cases h : x < 97
      · simp (disch := omega) only [h, ll_le, ll_lt, ll_eq, lr_le, lr_lt, lr_eq, ll_add, lr_add, ll_mul, lr_mul, nI_add, pk_mul, nI_leI, nI_ltI, nI_eq, ll_sub, pk_sub, lm_add, rd_n, rd_l, wr_n, wr_l, lm_ne, lm_ne', lm_lt, lm_le, m1_lt, m1_le, m1_le0, m1_lt0, m1_0, m1_0', l1_0, gd_0, gd_1, gd_T, or_true, true_or, false_or, or_false, nle_T, nle_F, nlt_T, nlt_F, neq_T, neq_F, ↓reduceIte, ne_eq, not_true_eq_false, not_false_eq_true, bd1_s, bd2_s, bd3_s, bd4_s, bd5_s, bd6_s, bd7_s, bd8_s, bd9_s, bd10_s, bd11_s, bd12_s, bd13_s, bd14_s, bd15_s, bd16_s, bd17_s, bd18_s, bd19_s, bd20_s, bd21_s, bd22_s, bd23_s, bd24_s, bd25_s]
      · have : 122 < x := by omega
        simp (disch := omega) only [ll_le, ll_lt, ll_eq, lr_le, lr_lt, lr_eq, ll_add, lr_add, ll_mul, lr_mul, nI_add, pk_mul, nI_leI, nI_ltI, nI_eq, ll_sub, pk_sub, lm_add, rd_n, rd_l, wr_n, wr_l, lm_ne, lm_ne', lm_lt, lm_le, m1_lt, m1_le, m1_le0, m1_lt0, m1_0, m1_0', l1_0, gd_0, gd_1, gd_T, or_true, true_or, false_or, or_false, nle_T, nle_F, nlt_T, nlt_F, neq_T, neq_F, ↓reduceIte, ne_eq, not_true_eq_false, not_false_eq_true, bd1_s, bd2_s, bd3_s, bd4_s, bd5_s, bd6_s, bd7_s, bd8_s, bd9_s, bd10_s, bd11_s, bd12_s, bd13_s, bd14_s, bd15_s, bd16_s, bd17_s, bd18_s, bd19_s, bd20_s, bd21_s, bd22_s, bd23_s, bd24_s, bd25_s]
    rw [e1]
    by_cases h2 : 48 ≤ x ∧ x ≤ 57
    · rw [if_pos h2]
      obtain ⟨h1, h2⟩ := h2
      simp (disch := omega) only [f_X5_kindOf_b14, ll_le, ll_lt, ll_eq, lr_le, lr_lt, lr_eq, ll_add, lr_add, ll_mul, lr_mul, nI_add, pk_mul, nI_leI, nI_ltI, nI_eq, ll_sub, pk_sub, lm_add, rd_n, rd_l, wr_n, wr_l, lm_ne, lm_ne', lm_lt, lm_le, m1_lt, m1_le, m1_le0, m1_lt0, m1_0, m1_0', l1_0, gd_0, gd_1, gd_T, or_true, true_or, false_or, or_false, nle_T, nle_F, nlt_T, nlt_F, neq_T, neq_F, ↓reduceIte, ne_eq, not_true_eq_false, not_false_eq_true, bd1_s, bd2_s, bd3_s, bd4_s, bd5_s, bd6_s, bd7_s, bd8_s, bd9_s, bd10_s, bd11_s, bd12_s, bd13_s, bd14_s, bd15_s, bd16_s, bd17_s, bd18_s, bd19_s, bd20_s, bd21_s, bd22_s, bd23_s, bd24_s, bd25_s]
      all_goals rfl
    · rw [if_neg h2]
      have e2 : f_X5_kindOf_b14 F (nI x) = f_X5_kindOf_b28 F (nI x) := by
        unfold f_X5_kindOf_b14
        by_cases h : x < 48
        · simp (disch := omega) only [h, ll_le, ll_lt, ll_eq, lr_le, lr_lt, lr_eq, ll_add, lr_add, ll_mul, lr_mul, nI_add, pk_mul, nI_leI, nI_ltI, nI_eq, ll_sub, pk_sub, lm_add, rd_n, rd_l, wr_n, wr_l, lm_ne, lm_ne', lm_lt, lm_le, m1_lt, m1_le, m1_le0, m1_lt0, m1_0, m1_0', l1_0, gd_0, gd_1, gd_T, or_true, true_or, false_or, or_false, nle_T, nle_F, nlt_T, nlt_F, neq_T, neq_F, ↓reduceIte, ne_eq, not_true_eq_false, not_false_eq_true, bd1_s, bd2_s, bd3_s, bd4_s, bd5_s, bd6_s, bd7_s, bd8_s, bd9_s, bd10_s, bd11_s, bd12_s, bd13_s, bd14_s, bd15_s, bd16_s, bd17_s, bd18_s, bd19_s, bd20_s, bd21_s, bd22_s, bd23_s, bd24_s, bd25_s]
        · have : 57 < x := by omega
          simp (disch := omega) only [ll_le, ll_lt, ll_eq, lr_le, lr_lt, lr_eq, ll_add, lr_add, ll_mul, lr_mul, nI_add, pk_mul, nI_leI, nI_ltI, nI_eq, ll_sub, pk_sub, lm_add, rd_n, rd_l, wr_n, wr_l, lm_ne, lm_ne', lm_lt, lm_le, m1_lt, m1_le, m1_le0, m1_lt0, m1_0, m1_0', l1_0, gd_0, gd_1, gd_T, or_true, true_or, false_or, or_false, nle_T, nle_F, nlt_T, nlt_F, neq_T, neq_F, ↓reduceIte, ne_eq, not_true_eq_false, not_false_eq_true, bd1_s, bd2_s, bd3_s, bd4_s, bd5_s, bd6_s, bd7_s, bd8_s, bd9_s, bd10_s, bd11_s, bd12_s, bd13_s, bd14_s, bd15_s, bd16_s, bd17_s, bd18_s, bd19_s, bd20_s, bd21_s, bd22_s, bd23_s, bd24_s, bd25_s]
      rw [e2]
      by_cases h3 : x = 59
      · subst h3; rfl
      · rw [if_neg h3]
        by_cases h4 : x = 32
        · subst h4; rfl
        · by_cases h5 : x = 10
          · subst h5; rfl
          · rw [if_neg (by omega)]
            simp (disch := omega) only [f_X5_kindOf_b28, f_X5_kindOf_b53, h3, h4, h5, ll_le, ll_lt, ll_eq, lr_le, lr_lt, lr_eq, ll_add, lr_add, ll_mul, lr_mul, nI_add, pk_mul, nI_leI, nI_ltI, nI_eq, ll_sub, pk_sub, lm_add, rd_n, rd_l, wr_n, wr_l, lm_ne, lm_ne', lm_lt, lm_le, m1_lt, m1_le, m1_le0, m1_lt0, m1_0, m1_0', l1_0, gd_0, gd_1, gd_T, or_true, true_or, false_or, or_false, nle_T, nle_F, nlt_T, nlt_F, neq_T, neq_F, ↓reduceIte, ne_eq, not_true_eq_false, not_false_eq_true, bd1_s, bd2_s, bd3_s, bd4_s, bd5_s, bd6_s, bd7_s, bd8_s, bd9_s, bd10_s, bd11_s, bd12_s, bd13_s, bd14_s, bd15_s, bd16_s, bd17_s, bd18_s, bd19_s, bd20_s, bd21_s, bd22_s, bd23_s, bd24_s, bd25_s]
            all_goals rfl
/-- the text as both sides have it -/
def TXT (n : Nat) (b : Nat → Nat) (tx bf : Nat → Int32) : Prop := n ≤ 900 ∧ ∀ i, i < n → b i < 256 ∧ tx i = nI (b i) ∧ bf i &&& 255 = nI (b i)
section
variable {F n e s : Nat} {b : Nat → Nat} {tx bf : Nat → Int32}
theorem by_i {i : Nat} (h : TXT n b tx bf) (hi : i < n) : f_X10_byteAt F (nI i) (nI n) bf = some (nI (b i)) := by
  obtain ⟨h1, h2⟩ := h
  have := (h2 i hi).2.2
  simp (disch := omega) only [f_X10_byteAt, f_X10_byteAt_b22, this, ll_le, ll_lt, ll_eq, lr_le, lr_lt, lr_eq, ll_add, lr_add, ll_mul, lr_mul, nI_add, pk_mul, nI_leI, nI_ltI, nI_eq, ll_sub, pk_sub, lm_add, rd_n, rd_l, wr_n, wr_l, lm_ne, lm_ne', lm_lt, lm_le, m1_lt, m1_le, m1_le0, m1_lt0, m1_0, m1_0', l1_0, gd_0, gd_1, gd_T, or_true, true_or, false_or, or_false, nle_T, nle_F, nlt_T, nlt_F, neq_T, neq_F, ↓reduceIte, ne_eq, not_true_eq_false, not_false_eq_true, bd1_s, bd2_s, bd3_s, bd4_s, bd5_s, bd6_s, bd7_s, bd8_s, bd9_s, bd10_s, bd11_s, bd12_s, bd13_s, bd14_s, bd15_s, bd16_s, bd17_s, bd18_s, bd19_s, bd20_s, bd21_s, bd22_s, bd23_s, bd24_s, bd25_s]
theorem by_n (h : TXT n b tx bf) : f_X10_byteAt F (nI n) (nI n) bf = some (-1) := by
  obtain ⟨h1, h2⟩ := h
  simp (disch := omega) only [f_X10_byteAt, f_X10_byteAt_b22, ll_le, ll_lt, ll_eq, lr_le, lr_lt, lr_eq, ll_add, lr_add, ll_mul, lr_mul, nI_add, pk_mul, nI_leI, nI_ltI, nI_eq, ll_sub, pk_sub, lm_add, rd_n, rd_l, wr_n, wr_l, lm_ne, lm_ne', lm_lt, lm_le, m1_lt, m1_le, m1_le0, m1_lt0, m1_0, m1_0', l1_0, gd_0, gd_1, gd_T, or_true, true_or, false_or, or_false, nle_T, nle_F, nlt_T, nlt_F, neq_T, neq_F, ↓reduceIte, ne_eq, not_true_eq_false, not_false_eq_true, bd1_s, bd2_s, bd3_s, bd4_s, bd5_s, bd6_s, bd7_s, bd8_s, bd9_s, bd10_s, bd11_s, bd12_s, bd13_s, bd14_s, bd15_s, bd16_s, bd17_s, bd18_s, bd19_s, bd20_s, bd21_s, bd22_s, bd23_s, bd24_s, bd25_s]
/-- the first place from e on that is not of a kind -/
theorem run_ex (Q : Nat → Prop) (he : e ≤ n) : ∃ s, e ≤ s ∧ s ≤ n ∧ (∀ i, e ≤ i → i < s → Q i) ∧ (s = n ∨ (s < n ∧ ¬ Q s)) := by
  have h : ∀ d e, e + d = n → ∃ s, e ≤ s ∧ s ≤ n ∧ (∀ i, e ≤ i → i < s → Q i) ∧ (s = n ∨ (s < n ∧ ¬ Q s)) := by
    intro d
    induction d with
    | zero => intro e h; exact ⟨e, Nat.le_refl _, by omega, fun i h1 h2 => by omega, .inl (by omega)⟩
    | succ d ih =>
      intro e h
      by_cases hq : Q e
      · obtain ⟨s, h1, h2, h3, h4⟩ := ih (e + 1) (by omega)
        exact ⟨s, by omega, h2, fun i g1 g2 => by
          by_cases ei : i = e
          · subst ei; exact hq
          · exact h3 i (by omega) g2, h4⟩
      · exact ⟨e, Nat.le_refl _, by omega, fun i h1 h2 => by omega, .inr ⟨by omega, hq⟩⟩
  exact h (n - e) e (by omega)
theorem w_dig {x : Nat} (hx : x < 256) (h : kd x = 2) : 48 ≤ x ∧ x ≤ 57 := by
  unfold kd at h
  split at h
  · omega
  · split at h
    · assumption
    · split at h
      · omega
      · split at h <;> omega
theorem w_ndig {x : Nat} (h : kd x ≠ 2) : x < 48 ∨ 57 < x := by
  unfold kd at h
  by_cases h1 : 97 ≤ x ∧ x ≤ 122
  · omega
  · rw [if_neg h1] at h
    by_cases h2 : 48 ≤ x ∧ x ≤ 57
    · rw [if_pos h2] at h; omega
    · omega
theorem w_let {x : Nat} (h : kd x = 1) : 97 ≤ x ∧ x ≤ 122 := by
  unfold kd at h
  by_cases h1 : 97 ≤ x ∧ x ≤ 122
  · exact h1
  · rw [if_neg h1] at h
    split at h
    · omega
    · split at h
      · omega
      · split at h <;> omega
theorem w_nlet {x : Nat} (h : kd x ≠ 1) : x < 97 ∨ 122 < x := by
  unfold kd at h
  by_cases h1 : 97 ≤ x ∧ x ≤ 122
  · rw [if_pos h1] at h; omega
  · omega
theorem w_wh {x : Nat} (h : kd x = 5) : x = 32 ∨ x = 10 := by
  unfold kd at h
  split at h
  · omega
  · split at h
    · omega
    · split at h
      · omega
      · split at h
        · assumption
        · omega
theorem w_nwh {x : Nat} (h : kd x ≠ 5) : x ≠ 32 ∧ x ≠ 10 := by
  constructor
  · intro e; subst e; exact h (by decide)
  · intro e; subst e; exact h (by decide)
theorem wi_1 {x lo hi : Nat} (h1 : lo ≤ x) (h2 : x ≤ hi) (h3 : hi < 2 ^ 31) : f_X10_within F (nI x).toInt64 (no_index (OfNat.ofNat lo)) (no_index (OfNat.ofNat hi)) = some 1 :=
  rg_1 (F := F) (p := nI x) (a := lo) (b := hi) (by omega) (by omega) (by rw [nI_toInt (by omega)]; omega) (by rw [nI_toInt (by omega)]; omega)
theorem wi_0 {x lo hi : Nat} (h : x < lo ∨ hi < x) (hx : x < 2 ^ 31) (h3 : hi < 2 ^ 31) (h4 : lo < 2 ^ 31) : f_X10_within F (nI x).toInt64 (no_index (OfNat.ofNat lo)) (no_index (OfNat.ofNat hi)) = some 0 :=
  rg_0 (F := F) (p := nI x) (a := lo) (b := hi) (by omega) (by omega) (by rw [nI_toInt hx]; omega)
theorem wi_m {lo hi : Nat} (h3 : hi < 2 ^ 31) (h4 : lo < 2 ^ 31) : f_X10_within F (-1 : Int32).toInt64 (no_index (OfNat.ofNat lo)) (no_index (OfNat.ofNat hi)) = some 0 :=
  rg_0 (F := F) (p := -1) (a := lo) (b := hi) (by omega) (by omega) (by
    have : (-1 : Int32).toInt = -1 := by decide
    omega)
/-! skipping what is white -/
theorem sk_5 (h : TXT n b tx bf) (he : e ≤ s) (hs : s ≤ n) (hw : ∀ i, e ≤ i → i < s → kd (b i) = 5) (hend : s = n ∨ (s < n ∧ ¬ kd (b s) = 5)) (hF : 2000 ≤ F) (tk : Int32) : f_X5_advance_L8 F (nI n) tx (tk, nI e, nI e) = f_X5_advance_b48 F (nI n) tx tk (nI s) (nI e) := by
  obtain ⟨h1, h2⟩ := h
  unfold f_X5_advance_L8
  refine lp_at (fun i => (tk, nI (e + i), nI e)) (s - e) (by omega) rfl (fun i hi k => ?_) (fun k => ?_)
  · obtain ⟨g1, g2, -⟩ := h2 (e + i) (by omega)
    have g3 := kd_v (F := F) g1
    rw [hw (e + i) (by omega) (by omega)] at g3
    simp (disch := omega) only [f_X5_advance_h8, g2, g3, Nat.add_assoc, ll_le, ll_lt, ll_eq, lr_le, lr_lt, lr_eq, ll_add, lr_add, ll_mul, lr_mul, nI_add, pk_mul, nI_leI, nI_ltI, nI_eq, ll_sub, pk_sub, lm_add, rd_n, rd_l, wr_n, wr_l, lm_ne, lm_ne', lm_lt, lm_le, m1_lt, m1_le, m1_le0, m1_lt0, m1_0, m1_0', l1_0, gd_0, gd_1, gd_T, or_true, true_or, false_or, or_false, nle_T, nle_F, nlt_T, nlt_F, neq_T, neq_F, ↓reduceIte, ne_eq, not_true_eq_false, not_false_eq_true, bd1_s, bd2_s, bd3_s, bd4_s, bd5_s, bd6_s, bd7_s, bd8_s, bd9_s, bd10_s, bd11_s, bd12_s, bd13_s, bd14_s, bd15_s, bd16_s, bd17_s, bd18_s, bd19_s, bd20_s, bd21_s, bd22_s, bd23_s, bd24_s, bd25_s]
    all_goals rfl
  · have e1 : e + (s - e) = s := by omega
    rcases hend with w | ⟨w1, w2⟩
    · simp (disch := omega) only [f_X5_advance_h8, e1, ll_le, ll_lt, ll_eq, lr_le, lr_lt, lr_eq, ll_add, lr_add, ll_mul, lr_mul, nI_add, pk_mul, nI_leI, nI_ltI, nI_eq, ll_sub, pk_sub, lm_add, rd_n, rd_l, wr_n, wr_l, lm_ne, lm_ne', lm_lt, lm_le, m1_lt, m1_le, m1_le0, m1_lt0, m1_0, m1_0', l1_0, gd_0, gd_1, gd_T, or_true, true_or, false_or, or_false, nle_T, nle_F, nlt_T, nlt_F, neq_T, neq_F, ↓reduceIte, ne_eq, not_true_eq_false, not_false_eq_true, bd1_s, bd2_s, bd3_s, bd4_s, bd5_s, bd6_s, bd7_s, bd8_s, bd9_s, bd10_s, bd11_s, bd12_s, bd13_s, bd14_s, bd15_s, bd16_s, bd17_s, bd18_s, bd19_s, bd20_s, bd21_s, bd22_s, bd23_s, bd24_s, bd25_s]
    · obtain ⟨g1, g2, -⟩ := h2 s w1
      have g3 := kd_v (F := F) g1
      have g4 : ¬ nI (kd (b s)) = (5 : Int32) := show ¬ nI (kd (b s)) = nI 5 from kd_ne w2 (by omega)
      simp (disch := omega) only [f_X5_advance_h8, e1, g2, g3, g4, ll_le, ll_lt, ll_eq, lr_le, lr_lt, lr_eq, ll_add, lr_add, ll_mul, lr_mul, nI_add, pk_mul, nI_leI, nI_ltI, nI_eq, ll_sub, pk_sub, lm_add, rd_n, rd_l, wr_n, wr_l, lm_ne, lm_ne', lm_lt, lm_le, m1_lt, m1_le, m1_le0, m1_lt0, m1_0, m1_0', l1_0, gd_0, gd_1, gd_T, or_true, true_or, false_or, or_false, nle_T, nle_F, nlt_T, nlt_F, neq_T, neq_F, ↓reduceIte, ne_eq, not_true_eq_false, not_false_eq_true, bd1_s, bd2_s, bd3_s, bd4_s, bd5_s, bd6_s, bd7_s, bd8_s, bd9_s, bd10_s, bd11_s, bd12_s, bd13_s, bd14_s, bd15_s, bd16_s, bd17_s, bd18_s, bd19_s, bd20_s, bd21_s, bd22_s, bd23_s, bd24_s, bd25_s]
theorem sk_10 (h : TXT n b tx bf) (he : e ≤ s) (hs : s ≤ n) (hw : ∀ i, e ≤ i → i < s → kd (b i) = 5) (hend : s = n ∨ (s < n ∧ ¬ kd (b s) = 5)) (hF : 2000 ≤ F) (tk v : Int32) (r : Option (Int32 × Int32 × Int32 × Int32)) (hr : ∀ k, f_X10_nextToken_h8 F (nI n) bf k (nI s) (nI e) tk v = r) : f_X10_nextToken_L8 F (nI n) bf (nI e, nI e, tk, v) = r := by
  have h1 := h.1
  unfold f_X10_nextToken_L8
  refine lp_at (fun i => (nI (e + i), nI e, tk, v)) (s - e) (by omega) rfl (fun i hi k => ?_) (fun k => ?_)
  · have g1 := by_i (F := F) h (show e + i < n by omega)
    rcases w_wh (hw (e + i) (by omega) (by omega)) with w | w
    · rw [w] at g1
      simp (disch := omega) only [f_X10_nextToken_h8, f_X10_nextToken_b34, g1, Nat.add_assoc, ll_le, ll_lt, ll_eq, lr_le, lr_lt, lr_eq, ll_add, lr_add, ll_mul, lr_mul, nI_add, pk_mul, nI_leI, nI_ltI, nI_eq, ll_sub, pk_sub, lm_add, rd_n, rd_l, wr_n, wr_l, lm_ne, lm_ne', lm_lt, lm_le, m1_lt, m1_le, m1_le0, m1_lt0, m1_0, m1_0', l1_0, gd_0, gd_1, gd_T, or_true, true_or, false_or, or_false, nle_T, nle_F, nlt_T, nlt_F, neq_T, neq_F, ↓reduceIte, ne_eq, not_true_eq_false, not_false_eq_true, bd1_s, bd2_s, bd3_s, bd4_s, bd5_s, bd6_s, bd7_s, bd8_s, bd9_s, bd10_s, bd11_s, bd12_s, bd13_s, bd14_s, bd15_s, bd16_s, bd17_s, bd18_s, bd19_s, bd20_s, bd21_s, bd22_s, bd23_s, bd24_s, bd25_s]
      all_goals rfl
    · rw [w] at g1
      simp (disch := omega) only [f_X10_nextToken_h8, f_X10_nextToken_b34, g1, Nat.add_assoc, ll_le, ll_lt, ll_eq, lr_le, lr_lt, lr_eq, ll_add, lr_add, ll_mul, lr_mul, nI_add, pk_mul, nI_leI, nI_ltI, nI_eq, ll_sub, pk_sub, lm_add, rd_n, rd_l, wr_n, wr_l, lm_ne, lm_ne', lm_lt, lm_le, m1_lt, m1_le, m1_le0, m1_lt0, m1_0, m1_0', l1_0, gd_0, gd_1, gd_T, or_true, true_or, false_or, or_false, nle_T, nle_F, nlt_T, nlt_F, neq_T, neq_F, ↓reduceIte, ne_eq, not_true_eq_false, not_false_eq_true, bd1_s, bd2_s, bd3_s, bd4_s, bd5_s, bd6_s, bd7_s, bd8_s, bd9_s, bd10_s, bd11_s, bd12_s, bd13_s, bd14_s, bd15_s, bd16_s, bd17_s, bd18_s, bd19_s, bd20_s, bd21_s, bd22_s, bd23_s, bd24_s, bd25_s]
      all_goals rfl
  · have e1 : e + (s - e) = s := by omega
    dsimp only
    rw [e1]
    exact hr k
/-! a run of letters or of digits -/
theorem rn_5 {q e' : Nat} (h : TXT n b tx bf) (hq : q = 1 ∨ q = 2) (hs : s < e') (he : e' ≤ n) (hw : ∀ i, s ≤ i → i < e' → kd (b i) = q) (hend : e' = n ∨ (e' < n ∧ ¬ kd (b e') = q)) (hF : 2000 ≤ F) : f_X5_advance_L121 F (nI n) tx (1, nI q, nI s, nI (s + 1)) = some (nI (if e' - s ≤ (if q = 1 then 10 else 4) then q else 4), nI s, nI e') := by
  obtain ⟨h1, h2⟩ := h
  have hq2 : q < 100 := by omega
  unfold f_X5_advance_L121
  refine lp_at (fun i => (1, nI q, nI s, nI (s + (1 + i)))) (e' - s - 1) (by omega) rfl (fun i hi k => ?_) (fun k => ?_)
  · obtain ⟨g1, g2, -⟩ := h2 (s + (1 + i)) (by omega)
    have g3 := kd_v (F := F) g1
    rw [hw (s + (1 + i)) (by omega) (by omega)] at g3
    simp (disch := omega) only [f_X5_advance_h121, g2, g3, Nat.add_assoc, ll_le, ll_lt, ll_eq, lr_le, lr_lt, lr_eq, ll_add, lr_add, ll_mul, lr_mul, nI_add, pk_mul, nI_leI, nI_ltI, nI_eq, ll_sub, pk_sub, lm_add, rd_n, rd_l, wr_n, wr_l, lm_ne, lm_ne', lm_lt, lm_le, m1_lt, m1_le, m1_le0, m1_lt0, m1_0, m1_0', l1_0, gd_0, gd_1, gd_T, or_true, true_or, false_or, or_false, nle_T, nle_F, nlt_T, nlt_F, neq_T, neq_F, ↓reduceIte, ne_eq, not_true_eq_false, not_false_eq_true, bd1_s, bd2_s, bd3_s, bd4_s, bd5_s, bd6_s, bd7_s, bd8_s, bd9_s, bd10_s, bd11_s, bd12_s, bd13_s, bd14_s, bd15_s, bd16_s, bd17_s, bd18_s, bd19_s, bd20_s, bd21_s, bd22_s, bd23_s, bd24_s, bd25_s]
  · have e1 : s + (1 + (e' - s - 1)) = e' := by omega
    have fin : f_X5_advance_b168 F (nI n) tx 1 (nI q) (nI s) (nI e') = some (nI (if e' - s ≤ (if q = 1 then 10 else 4) then q else 4), nI s, nI e') := by
      rcases hq with rfl | rfl
      · by_cases hl : e' - s ≤ 10
        · simp (disch := omega) only [f_X5_advance_b168, f_X5_advance_b195, f_X5_advance_b203, hl, ll_le, ll_lt, ll_eq, lr_le, lr_lt, lr_eq, ll_add, lr_add, ll_mul, lr_mul, nI_add, pk_mul, nI_leI, nI_ltI, nI_eq, ll_sub, pk_sub, lm_add, rd_n, rd_l, wr_n, wr_l, lm_ne, lm_ne', lm_lt, lm_le, m1_lt, m1_le, m1_le0, m1_lt0, m1_0, m1_0', l1_0, gd_0, gd_1, gd_T, or_true, true_or, false_or, or_false, nle_T, nle_F, nlt_T, nlt_F, neq_T, neq_F, ↓reduceIte, ne_eq, not_true_eq_false, not_false_eq_true, bd1_s, bd2_s, bd3_s, bd4_s, bd5_s, bd6_s, bd7_s, bd8_s, bd9_s, bd10_s, bd11_s, bd12_s, bd13_s, bd14_s, bd15_s, bd16_s, bd17_s, bd18_s, bd19_s, bd20_s, bd21_s, bd22_s, bd23_s, bd24_s, bd25_s]
          all_goals rfl
        · have hl' : 10 < e' - s := by omega
          simp (disch := omega) only [f_X5_advance_b168, f_X5_advance_b195, f_X5_advance_b203, ll_le, ll_lt, ll_eq, lr_le, lr_lt, lr_eq, ll_add, lr_add, ll_mul, lr_mul, nI_add, pk_mul, nI_leI, nI_ltI, nI_eq, ll_sub, pk_sub, lm_add, rd_n, rd_l, wr_n, wr_l, lm_ne, lm_ne', lm_lt, lm_le, m1_lt, m1_le, m1_le0, m1_lt0, m1_0, m1_0', l1_0, gd_0, gd_1, gd_T, or_true, true_or, false_or, or_false, nle_T, nle_F, nlt_T, nlt_F, neq_T, neq_F, ↓reduceIte, ne_eq, not_true_eq_false, not_false_eq_true, bd1_s, bd2_s, bd3_s, bd4_s, bd5_s, bd6_s, bd7_s, bd8_s, bd9_s, bd10_s, bd11_s, bd12_s, bd13_s, bd14_s, bd15_s, bd16_s, bd17_s, bd18_s, bd19_s, bd20_s, bd21_s, bd22_s, bd23_s, bd24_s, bd25_s]
          all_goals rfl
      · by_cases hl : e' - s ≤ 4
        · simp (disch := omega) only [f_X5_advance_b168, f_X5_advance_b195, f_X5_advance_b203, hl, ll_le, ll_lt, ll_eq, lr_le, lr_lt, lr_eq, ll_add, lr_add, ll_mul, lr_mul, nI_add, pk_mul, nI_leI, nI_ltI, nI_eq, ll_sub, pk_sub, lm_add, rd_n, rd_l, wr_n, wr_l, lm_ne, lm_ne', lm_lt, lm_le, m1_lt, m1_le, m1_le0, m1_lt0, m1_0, m1_0', l1_0, gd_0, gd_1, gd_T, or_true, true_or, false_or, or_false, nle_T, nle_F, nlt_T, nlt_F, neq_T, neq_F, ↓reduceIte, ne_eq, not_true_eq_false, not_false_eq_true, bd1_s, bd2_s, bd3_s, bd4_s, bd5_s, bd6_s, bd7_s, bd8_s, bd9_s, bd10_s, bd11_s, bd12_s, bd13_s, bd14_s, bd15_s, bd16_s, bd17_s, bd18_s, bd19_s, bd20_s, bd21_s, bd22_s, bd23_s, bd24_s, bd25_s]
          all_goals rfl
        · have hl' : 4 < e' - s := by omega
          simp (disch := omega) only [f_X5_advance_b168, f_X5_advance_b195, f_X5_advance_b203, ll_le, ll_lt, ll_eq, lr_le, lr_lt, lr_eq, ll_add, lr_add, ll_mul, lr_mul, nI_add, pk_mul, nI_leI, nI_ltI, nI_eq, ll_sub, pk_sub, lm_add, rd_n, rd_l, wr_n, wr_l, lm_ne, lm_ne', lm_lt, lm_le, m1_lt, m1_le, m1_le0, m1_lt0, m1_0, m1_0', l1_0, gd_0, gd_1, gd_T, or_true, true_or, false_or, or_false, nle_T, nle_F, nlt_T, nlt_F, neq_T, neq_F, ↓reduceIte, ne_eq, not_true_eq_false, not_false_eq_true, bd1_s, bd2_s, bd3_s, bd4_s, bd5_s, bd6_s, bd7_s, bd8_s, bd9_s, bd10_s, bd11_s, bd12_s, bd13_s, bd14_s, bd15_s, bd16_s, bd17_s, bd18_s, bd19_s, bd20_s, bd21_s, bd22_s, bd23_s, bd24_s, bd25_s]
          all_goals rfl
    dsimp only
    rw [e1]
    rcases hend with w | ⟨w1, w2⟩
    · subst w
      unfold f_X5_advance_h121
      rw [if_neg (by decide), if_pos i32_rf]
      exact fin
    · obtain ⟨g1, g2, -⟩ := h2 e' w1
      have g3 := kd_v (F := F) g1
      have g4 : ¬ nI (kd (b e')) = nI q := kd_ne w2 hq2
      unfold f_X5_advance_h121
      rw [if_neg (by decide), if_neg (fun w => by have := (nI_leI (by omega) (by omega)).mp w; omega), rd_n (by omega) (by decide), g2, g3, bd1_s, if_neg g4]
      exact fin
theorem rn_w {e' : Nat} {tk v : Int32} (h : TXT n b tx bf) (hs : s < e') (he : e' ≤ n) (hw : ∀ i, s ≤ i → i < e' → kd (b i) = 1) (hend : e' = n ∨ (e' < n ∧ ¬ kd (b e') = 1)) (hF : 2000 ≤ F) : f_X10_nextToken_L96 F (nI n) bf (nI s, nI s, tk, v) = some (nI s, nI e', (if e' - s ≤ 10 then 1 else 3), v) := by
  have h1 := h.1
  unfold f_X10_nextToken_L96
  refine lp_at (fun i => (nI s, nI (s + i), tk, v)) (e' - s) (by omega) rfl (fun i hi k => ?_) (fun k => ?_)
  · have g1 := by_i (F := F) h (show s + i < n by omega)
    obtain ⟨g2, g3⟩ := w_let (hw (s + i) (by omega) (by omega))
    have g4 := wi_1 (F := F) (lo := 97) (hi := 122) g2 g3 (by omega)
    simp (disch := omega) only [f_X10_nextToken_h96, g1, g4, Nat.add_assoc, ll_le, ll_lt, ll_eq, lr_le, lr_lt, lr_eq, ll_add, lr_add, ll_mul, lr_mul, nI_add, pk_mul, nI_leI, nI_ltI, nI_eq, ll_sub, pk_sub, lm_add, rd_n, rd_l, wr_n, wr_l, lm_ne, lm_ne', lm_lt, lm_le, m1_lt, m1_le, m1_le0, m1_lt0, m1_0, m1_0', l1_0, gd_0, gd_1, gd_T, or_true, true_or, false_or, or_false, nle_T, nle_F, nlt_T, nlt_F, neq_T, neq_F, ↓reduceIte, ne_eq, not_true_eq_false, not_false_eq_true, bd1_s, bd2_s, bd3_s, bd4_s, bd5_s, bd6_s, bd7_s, bd8_s, bd9_s, bd10_s, bd11_s, bd12_s, bd13_s, bd14_s, bd15_s, bd16_s, bd17_s, bd18_s, bd19_s, bd20_s, bd21_s, bd22_s, bd23_s, bd24_s, bd25_s]
  · have e1 : s + (e' - s) = e' := by omega
    dsimp only
    rw [e1]
    have fin : ∀ r : Int32, f_X10_byteAt F (nI e') (nI n) bf = some r → f_X10_within F r.toInt64 97 122 = some 0 → f_X10_nextToken_h96 F (nI n) bf k (nI s) (nI e') tk v = some (nI s, nI e', (if e' - s ≤ 10 then 1 else 3), v) := by
      intro r r1 r2
      by_cases hl : e' - s ≤ 10
      · simp (disch := omega) only [f_X10_nextToken_h96, f_X10_nextToken_b150, f_X10_nextToken_b302, r1, r2, hl, ll_le, ll_lt, ll_eq, lr_le, lr_lt, lr_eq, ll_add, lr_add, ll_mul, lr_mul, nI_add, pk_mul, nI_leI, nI_ltI, nI_eq, ll_sub, pk_sub, lm_add, rd_n, rd_l, wr_n, wr_l, lm_ne, lm_ne', lm_lt, lm_le, m1_lt, m1_le, m1_le0, m1_lt0, m1_0, m1_0', l1_0, gd_0, gd_1, gd_T, or_true, true_or, false_or, or_false, nle_T, nle_F, nlt_T, nlt_F, neq_T, neq_F, ↓reduceIte, ne_eq, not_true_eq_false, not_false_eq_true, bd1_s, bd2_s, bd3_s, bd4_s, bd5_s, bd6_s, bd7_s, bd8_s, bd9_s, bd10_s, bd11_s, bd12_s, bd13_s, bd14_s, bd15_s, bd16_s, bd17_s, bd18_s, bd19_s, bd20_s, bd21_s, bd22_s, bd23_s, bd24_s, bd25_s]
      · have hl' : 10 < e' - s := by omega
        simp (disch := omega) only [f_X10_nextToken_h96, f_X10_nextToken_b150, f_X10_nextToken_b302, r1, r2, ll_le, ll_lt, ll_eq, lr_le, lr_lt, lr_eq, ll_add, lr_add, ll_mul, lr_mul, nI_add, pk_mul, nI_leI, nI_ltI, nI_eq, ll_sub, pk_sub, lm_add, rd_n, rd_l, wr_n, wr_l, lm_ne, lm_ne', lm_lt, lm_le, m1_lt, m1_le, m1_le0, m1_lt0, m1_0, m1_0', l1_0, gd_0, gd_1, gd_T, or_true, true_or, false_or, or_false, nle_T, nle_F, nlt_T, nlt_F, neq_T, neq_F, ↓reduceIte, ne_eq, not_true_eq_false, not_false_eq_true, bd1_s, bd2_s, bd3_s, bd4_s, bd5_s, bd6_s, bd7_s, bd8_s, bd9_s, bd10_s, bd11_s, bd12_s, bd13_s, bd14_s, bd15_s, bd16_s, bd17_s, bd18_s, bd19_s, bd20_s, bd21_s, bd22_s, bd23_s, bd24_s, bd25_s]
    rcases hend with w | ⟨w1, w2⟩
    · subst w
      exact fin (-1) (by_n h) (wi_m (lo := 97) (hi := 122) (by omega) (by omega))
    · have g1 := (h.2 e' w1).1
      exact fin _ (by_i h w1) (wi_0 (lo := 97) (hi := 122) (w_nlet w2) (by omega) (by omega) (by omega))
/-- the number that the first i digits spell (four at most count) -/
def vl (b : Nat → Nat) (s : Nat) : Nat → Nat
  | 0 => 0
  | i + 1 => if i < 4 then 10 * vl b s i + b (s + i) - 48 else vl b s i
theorem vl_le {m : Nat} (hd : ∀ i, i < m → 48 ≤ b (s + i) ∧ b (s + i) ≤ 57) : vl b s m ≤ 9999 := by
  have st : ∀ i, i < m → i < 4 → vl b s (i + 1) ≤ 10 * vl b s i + 9 := fun i hi h4 => by
    have := hd i hi
    show (if i < 4 then 10 * vl b s i + b (s + i) - 48 else vl b s i) ≤ _
    rw [if_pos h4]; omega
  have hi : ∀ i, 4 ≤ i → vl b s (i + 1) = vl b s i := fun i hi => if_neg (by omega)
  have z : vl b s 0 = 0 := rfl
  have h4 : ∀ i, i ≤ m → i ≤ 4 → vl b s i < 10 ^ i := by
    intro i
    induction i with
    | zero => intro _ _; rw [z]; decide
    | succ i ih =>
      intro h1 h2
      have w1 := ih (by omega) (by omega)
      have w2 := st i (by omega) (by omega)
      rw [Nat.pow_succ]
      omega
  have h5 : ∀ i, i ≤ m → vl b s i ≤ 9999 := by
    intro i
    induction i with
    | zero => intro _; rw [z]; omega
    | succ i ih =>
      intro h1
      by_cases h : i < 4
      · have w := h4 (i + 1) h1 (by omega)
        have : 10 ^ (i + 1) ≤ 10 ^ 4 := Nat.pow_le_pow_right (by omega) (by omega)
        omega
      · rw [hi i (by omega)]; exact ih (by omega)
  exact h5 m (Nat.le_refl _)
theorem vl_s {i : Nat} (h4 : i < 4) (hd : 48 ≤ b (s + i)) : (10 * nI (vl b s i) + nI (b (s + i))) - 48 = nI (vl b s (i + 1)) := by
  have : vl b s (i + 1) = 10 * vl b s i + b (s + i) - 48 := if_pos h4
  rw [this, lr_mul, nI_add]
  exact pk_sub (show 48 ≤ 10 * vl b s i + b (s + i) by omega)
theorem rn_n {e' : Nat} {tk : Int32} (h : TXT n b tx bf) (hs : s < e') (he : e' ≤ n) (hw : ∀ i, s ≤ i → i < e' → kd (b i) = 2) (hend : e' = n ∨ (e' < n ∧ ¬ kd (b e') = 2)) (hF : 2000 ≤ F) : f_X10_nextToken_L175 F (nI n) bf (nI s, nI s, tk, 0) = some (nI s, nI e', (if e' - s ≤ 4 then 2 else 3), nI (vl b s (e' - s))) := by
  have h1 := h.1
  unfold f_X10_nextToken_L175
  refine lp_at (fun i => (nI s, nI (s + i), tk, nI (vl b s i))) (e' - s) (by omega) rfl (fun i hi k => ?_) (fun k => ?_)
  · have g1 := by_i (F := F) h (show s + i < n by omega)
    obtain ⟨g2, g3⟩ := w_dig (h.2 (s + i) (by omega)).1 (hw (s + i) (by omega) (by omega))
    have g4 := wi_1 (F := F) (lo := 48) (hi := 57) g2 g3 (by omega)
    have e2 : s + i - s = i := by omega
    by_cases h4 : i < 4
    · have g5 := vl_s (b := b) (s := s) h4 g2
      unfold f_X10_nextToken_h175 f_X10_nextToken_b236
      rw [g1, bd1_s, g4, bd1_s, if_neg (by decide), pk_sub (show s ≤ s + i by omega), e2, if_neg (show ¬ (4 : Int32) ≤ nI i from fun w => by have := (nI_leI (a := 4) (by omega) (by omega)).mp w; omega), bd1_s, g5]
      exact congrArg (fun x => k (nI s, x, tk, nI (vl b s (i + 1)))) (nI_add (s + i) 1)
    · have g5 : vl b s (i + 1) = vl b s i := if_neg h4
      have h4' : 4 ≤ i := by omega
      simp (disch := omega) only [f_X10_nextToken_h175, f_X10_nextToken_b236, g1, g4, e2, g5, Nat.add_assoc, ll_le, ll_lt, ll_eq, lr_le, lr_lt, lr_eq, ll_add, lr_add, ll_mul, lr_mul, nI_add, pk_mul, nI_leI, nI_ltI, nI_eq, ll_sub, pk_sub, lm_add, rd_n, rd_l, wr_n, wr_l, lm_ne, lm_ne', lm_lt, lm_le, m1_lt, m1_le, m1_le0, m1_lt0, m1_0, m1_0', l1_0, gd_0, gd_1, gd_T, or_true, true_or, false_or, or_false, nle_T, nle_F, nlt_T, nlt_F, neq_T, neq_F, ↓reduceIte, ne_eq, not_true_eq_false, not_false_eq_true, bd1_s, bd2_s, bd3_s, bd4_s, bd5_s, bd6_s, bd7_s, bd8_s, bd9_s, bd10_s, bd11_s, bd12_s, bd13_s, bd14_s, bd15_s, bd16_s, bd17_s, bd18_s, bd19_s, bd20_s, bd21_s, bd22_s, bd23_s, bd24_s, bd25_s]
  · have e1 : s + (e' - s) = e' := by omega
    dsimp only
    rw [e1]
    have fin : ∀ r v : Int32, f_X10_byteAt F (nI e') (nI n) bf = some r → f_X10_within F r.toInt64 48 57 = some 0 → f_X10_nextToken_h175 F (nI n) bf k (nI s) (nI e') tk v = some (nI s, nI e', (if e' - s ≤ 4 then 2 else 3), v) := by
      intro r v r1 r2
      by_cases hl : e' - s ≤ 4
      · simp (disch := omega) only [f_X10_nextToken_h175, f_X10_nextToken_b271, f_X10_nextToken_b302, r1, r2, hl, ll_le, ll_lt, ll_eq, lr_le, lr_lt, lr_eq, ll_add, lr_add, ll_mul, lr_mul, nI_add, pk_mul, nI_leI, nI_ltI, nI_eq, ll_sub, pk_sub, lm_add, rd_n, rd_l, wr_n, wr_l, lm_ne, lm_ne', lm_lt, lm_le, m1_lt, m1_le, m1_le0, m1_lt0, m1_0, m1_0', l1_0, gd_0, gd_1, gd_T, or_true, true_or, false_or, or_false, nle_T, nle_F, nlt_T, nlt_F, neq_T, neq_F, ↓reduceIte, ne_eq, not_true_eq_false, not_false_eq_true, bd1_s, bd2_s, bd3_s, bd4_s, bd5_s, bd6_s, bd7_s, bd8_s, bd9_s, bd10_s, bd11_s, bd12_s, bd13_s, bd14_s, bd15_s, bd16_s, bd17_s, bd18_s, bd19_s, bd20_s, bd21_s, bd22_s, bd23_s, bd24_s, bd25_s]
      · have hl' : 4 < e' - s := by omega
        simp (disch := omega) only [f_X10_nextToken_h175, f_X10_nextToken_b271, f_X10_nextToken_b302, r1, r2, ll_le, ll_lt, ll_eq, lr_le, lr_lt, lr_eq, ll_add, lr_add, ll_mul, lr_mul, nI_add, pk_mul, nI_leI, nI_ltI, nI_eq, ll_sub, pk_sub, lm_add, rd_n, rd_l, wr_n, wr_l, lm_ne, lm_ne', lm_lt, lm_le, m1_lt, m1_le, m1_le0, m1_lt0, m1_0, m1_0', l1_0, gd_0, gd_1, gd_T, or_true, true_or, false_or, or_false, nle_T, nle_F, nlt_T, nlt_F, neq_T, neq_F, ↓reduceIte, ne_eq, not_true_eq_false, not_false_eq_true, bd1_s, bd2_s, bd3_s, bd4_s, bd5_s, bd6_s, bd7_s, bd8_s, bd9_s, bd10_s, bd11_s, bd12_s, bd13_s, bd14_s, bd15_s, bd16_s, bd17_s, bd18_s, bd19_s, bd20_s, bd21_s, bd22_s, bd23_s, bd24_s, bd25_s]
    rcases hend with w | ⟨w1, w2⟩
    · subst w
      exact fin (-1) _ (by_n h) (wi_m (lo := 48) (hi := 57) (by omega) (by omega))
    · have g1 := (h.2 e' w1).1
      exact fin _ _ (by_i h w1) (wi_0 (lo := 48) (hi := 57) (w_ndig w2) (by omega) (by omega) (by omega))
/-- the token from place e on: its kind k, its place, its number -/
def TOK (F n : Nat) (tx : Nat → Int32) (e s e' k : Nat) (v : Int32) : Prop :=
  e ≤ s ∧ s ≤ e' ∧ e' ≤ n ∧ k ≤ 4 ∧ (k = 0 → s = n) ∧ (k ≠ 0 → s < e') ∧ (∀ tk st, f_X5_advance F (nI n) tk st (nI e) tx = some (nI k, nI s, nI e')) ∧
  (k = 2 → ∃ x, x ≤ 9999 ∧ v = nI x ∧ ∀ lo hi fl tk st, f_X5_readNumber_L27 F (nI n) tx (lo, hi, 0, nI s, fl, tk, st, nI e') = (if nI x < lo then f_X5_readNumber_b68 F (nI n) tx (nI x) fl tk st (nI e') else if nI x ≤ hi then f_X5_readNumber_b73 F (nI n) tx (nI x) fl tk st (nI e') else f_X5_readNumber_b68 F (nI n) tx (nI x) fl tk st (nI e')))
theorem rnum_v {e' : Nat} {lo hi fl tk st : Int32} (h : TXT n b tx bf) (hs : s < e') (he : e' ≤ n) (hw : ∀ i, s ≤ i → i < e' → kd (b i) = 2) (hl : e' - s ≤ 4) (hF : 2000 ≤ F) : f_X5_readNumber_L27 F (nI n) tx (lo, hi, 0, nI s, fl, tk, st, nI e') = (if nI (vl b s (e' - s)) < lo then f_X5_readNumber_b68 F (nI n) tx (nI (vl b s (e' - s))) fl tk st (nI e') else if nI (vl b s (e' - s)) ≤ hi then f_X5_readNumber_b73 F (nI n) tx (nI (vl b s (e' - s))) fl tk st (nI e') else f_X5_readNumber_b68 F (nI n) tx (nI (vl b s (e' - s))) fl tk st (nI e')) := by
  have h1 := h.1
  unfold f_X5_readNumber_L27
  refine lp_at (fun i => (lo, hi, nI (vl b s i), nI (s + i), fl, tk, st, nI e')) (e' - s) (by omega) rfl (fun i hi' k => ?_) (fun k => ?_)
  · obtain ⟨g0, g1, -⟩ := h.2 (s + i) (by omega)
    obtain ⟨g2, g3⟩ := w_dig g0 (hw (s + i) (by omega) (by omega))
    have g5 := vl_s (b := b) (s := s) (show i < 4 by omega) g2
    unfold f_X5_readNumber_h27
    rw [if_neg (show ¬ nI e' ≤ nI (s + i) from fun w => by have := (nI_leI (by omega) (by omega)).mp w; omega), rd_n (by omega) (by decide), g1, g5]
    exact congrArg (fun x => k (lo, hi, nI (vl b s (i + 1)), x, fl, tk, st, nI e')) (nI_add (s + i) 1)
  · have e1 : s + (e' - s) = e' := by omega
    dsimp only
    rw [e1]
    unfold f_X5_readNumber_h27
    rw [if_pos i32_rf]
/-- both sides come to the same token -/
theorem tok (h : TXT n b tx bf) (he : e ≤ n) (hF : 2000 ≤ F) (ts tk v : Int32) : ∃ s e' k v', f_X10_nextToken F (nI n) ts (nI e) tk v bf = some (nI s, nI e', rk k, v') ∧ TOK F n tx e s e' k v' := by
  have h1 := h.1
  obtain ⟨s, s1, s2, s3, s4⟩ := run_ex (fun i => kd (b i) = 5) he
  have a5 := fun tk => sk_5 (F := F) h s1 s2 s3 s4 hF tk
  have a10 := sk_10 (F := F) h s1 s2 s3 s4 hF tk v
  rcases s4 with rfl | ⟨s4, s5⟩
  · -- the end
    refine ⟨s, s, 0, v, ?_, s1, Nat.le_refl _, Nat.le_refl _, by omega, fun _ => rfl, fun w => absurd rfl w, fun tk st => ?_, fun w => by omega⟩
    · unfold f_X10_nextToken
      refine a10 _ (fun k => ?_)
      have g := by_n (F := F) h
      simp (disch := omega) only [f_X10_nextToken_h8, f_X10_nextToken_b302, g, ll_le, ll_lt, ll_eq, lr_le, lr_lt, lr_eq, ll_add, lr_add, ll_mul, lr_mul, nI_add, pk_mul, nI_leI, nI_ltI, nI_eq, ll_sub, pk_sub, lm_add, rd_n, rd_l, wr_n, wr_l, lm_ne, lm_ne', lm_lt, lm_le, m1_lt, m1_le, m1_le0, m1_lt0, m1_0, m1_0', l1_0, gd_0, gd_1, gd_T, or_true, true_or, false_or, or_false, nle_T, nle_F, nlt_T, nlt_F, neq_T, neq_F, ↓reduceIte, ne_eq, not_true_eq_false, not_false_eq_true, bd1_s, bd2_s, bd3_s, bd4_s, bd5_s, bd6_s, bd7_s, bd8_s, bd9_s, bd10_s, bd11_s, bd12_s, bd13_s, bd14_s, bd15_s, bd16_s, bd17_s, bd18_s, bd19_s, bd20_s, bd21_s, bd22_s, bd23_s, bd24_s, bd25_s]
      all_goals rfl
    · unfold f_X5_advance
      rw [a5]
      simp (disch := omega) only [f_X5_advance_b48, ll_le, ll_lt, ll_eq, lr_le, lr_lt, lr_eq, ll_add, lr_add, ll_mul, lr_mul, nI_add, pk_mul, nI_leI, nI_ltI, nI_eq, ll_sub, pk_sub, lm_add, rd_n, rd_l, wr_n, wr_l, lm_ne, lm_ne', lm_lt, lm_le, m1_lt, m1_le, m1_le0, m1_lt0, m1_0, m1_0', l1_0, gd_0, gd_1, gd_T, or_true, true_or, false_or, or_false, nle_T, nle_F, nlt_T, nlt_F, neq_T, neq_F, ↓reduceIte, ne_eq, not_true_eq_false, not_false_eq_true, bd1_s, bd2_s, bd3_s, bd4_s, bd5_s, bd6_s, bd7_s, bd8_s, bd9_s, bd10_s, bd11_s, bd12_s, bd13_s, bd14_s, bd15_s, bd16_s, bd17_s, bd18_s, bd19_s, bd20_s, bd21_s, bd22_s, bd23_s, bd24_s, bd25_s]
      all_goals rfl
  · have hb := h.2 s s4
    have k5 := kd_v (F := F) hb.1
    have g := by_i (F := F) h s4
    obtain ⟨n32, n10⟩ := w_nwh s5
    have n32' : ¬ nI (b s) = (32 : Int32) := fun w => n32 ((nI_eq (b := 32) (by omega) (by omega)).mp w)
    have n10' : ¬ nI (b s) = (10 : Int32) := fun w => n10 ((nI_eq (b := 10) (by omega) (by omega)).mp w)
    have nm1 : ¬ nI (b s) = (-1 : Int32) := nI_nm (by omega)
    by_cases q1 : kd (b s) = 1
    · -- a word
      obtain ⟨e', e1, e2, e3, e4⟩ := run_ex (fun i => kd (b i) = 1) (show s + 1 ≤ n by omega)
      have hw : ∀ i, s ≤ i → i < e' → kd (b i) = 1 := fun i g1 g2 => by
        by_cases ei : i = s
        · subst ei; exact q1
        · exact e3 i (by omega) g2
      have r5 := rn_5 (F := F) (q := 1) h (.inl rfl) (show s < e' by omega) e2 hw e4 hF
      have r10 := rn_w (F := F) (tk := 3) (v := v) h (show s < e' by omega) e2 hw e4 hF
      obtain ⟨l1, l2⟩ := w_let q1
      have wl := wi_1 (F := F) (lo := 97) (hi := 122) l1 l2 (by omega)
      refine ⟨s, e', (if e' - s ≤ 10 then 1 else 4), v, ?_, s1, by omega, e2, by split <;> omega, fun w => ?_, fun _ => by omega, fun tk st => ?_, fun w => ?_⟩
      · unfold f_X10_nextToken
        refine a10 _ (fun k => ?_)
        simp (disch := omega) only [f_X10_nextToken_h8, g, n32', n10', nm1, wl, r10, ll_le, ll_lt, ll_eq, lr_le, lr_lt, lr_eq, ll_add, lr_add, ll_mul, lr_mul, nI_add, pk_mul, nI_leI, nI_ltI, nI_eq, ll_sub, pk_sub, lm_add, rd_n, rd_l, wr_n, wr_l, lm_ne, lm_ne', lm_lt, lm_le, m1_lt, m1_le, m1_le0, m1_lt0, m1_0, m1_0', l1_0, gd_0, gd_1, gd_T, or_true, true_or, false_or, or_false, nle_T, nle_F, nlt_T, nlt_F, neq_T, neq_F, ↓reduceIte, ne_eq, not_true_eq_false, not_false_eq_true, bd1_s, bd2_s, bd3_s, bd4_s, bd5_s, bd6_s, bd7_s, bd8_s, bd9_s, bd10_s, bd11_s, bd12_s, bd13_s, bd14_s, bd15_s, bd16_s, bd17_s, bd18_s, bd19_s, bd20_s, bd21_s, bd22_s, bd23_s, bd24_s, bd25_s]
        by_cases hl : e' - s ≤ 10
        · rw [if_pos hl, if_pos hl]; rfl
        · rw [if_neg hl, if_neg hl]; rfl
      · split at w <;> omega
      · unfold f_X5_advance
        rw [a5]
        rw [q1] at k5
        unfold f_X5_advance_b48 f_X5_advance_b115 f_X5_advance_b120
        rw [if_pos (show nI s < nI n from (nI_ltI (by omega) (by omega)).mpr s4), rd_n (by omega) (by decide), hb.2.1, k5, bd1_s, if_pos (show nI 1 = (1 : Int32) from rfl)]
        exact (congrArg (fun x => f_X5_advance_L121 F (nI n) tx (1, nI 1, nI s, x)) (nI_add s 1)).trans r5
      · split at w <;> omega
    · by_cases q2 : kd (b s) = 2
      · -- a number
        obtain ⟨e', e1, e2, e3, e4⟩ := run_ex (fun i => kd (b i) = 2) (show s + 1 ≤ n by omega)
        have hw : ∀ i, s ≤ i → i < e' → kd (b i) = 2 := fun i g1 g2 => by
          by_cases ei : i = s
          · subst ei; exact q2
          · exact e3 i (by omega) g2
        have r5 := rn_5 (F := F) (q := 2) h (.inr rfl) (show s < e' by omega) e2 hw e4 hF
        have r10 := rn_n (F := F) (tk := 3) h (show s < e' by omega) e2 hw e4 hF
        obtain ⟨l1, l2⟩ := w_dig hb.1 q2
        have wl := wi_0 (F := F) (x := b s) (lo := 97) (hi := 122) (by omega) (by omega) (by omega) (by omega)
        have wd := wi_1 (F := F) (lo := 48) (hi := 57) l1 l2 (by omega)
        refine ⟨s, e', (if e' - s ≤ 4 then 2 else 4), nI (vl b s (e' - s)), ?_, s1, by omega, e2, by split <;> omega, fun w => ?_, fun _ => by omega, fun tk st => ?_, fun w => ?_⟩
        · unfold f_X10_nextToken
          refine a10 _ (fun k => ?_)
          simp (disch := omega) only [f_X10_nextToken_h8, g, n32', n10', nm1, wl, wd, r10, ll_le, ll_lt, ll_eq, lr_le, lr_lt, lr_eq, ll_add, lr_add, ll_mul, lr_mul, nI_add, pk_mul, nI_leI, nI_ltI, nI_eq, ll_sub, pk_sub, lm_add, rd_n, rd_l, wr_n, wr_l, lm_ne, lm_ne', lm_lt, lm_le, m1_lt, m1_le, m1_le0, m1_lt0, m1_0, m1_0', l1_0, gd_0, gd_1, gd_T, or_true, true_or, false_or, or_false, nle_T, nle_F, nlt_T, nlt_F, neq_T, neq_F, ↓reduceIte, ne_eq, not_true_eq_false, not_false_eq_true, bd1_s, bd2_s, bd3_s, bd4_s, bd5_s, bd6_s, bd7_s, bd8_s, bd9_s, bd10_s, bd11_s, bd12_s, bd13_s, bd14_s, bd15_s, bd16_s, bd17_s, bd18_s, bd19_s, bd20_s, bd21_s, bd22_s, bd23_s, bd24_s, bd25_s]
          by_cases hl : e' - s ≤ 4
          · rw [if_pos hl, if_pos hl]; rfl
          · rw [if_neg hl, if_neg hl]; rfl
        · split at w <;> omega
        · unfold f_X5_advance
          rw [a5]
          rw [q2] at k5
          unfold f_X5_advance_b48 f_X5_advance_b115 f_X5_advance_b120
          rw [if_pos (show nI s < nI n from (nI_ltI (by omega) (by omega)).mpr s4), rd_n (by omega) (by decide), hb.2.1, k5, bd1_s, if_neg (show ¬ nI 2 = (1 : Int32) by decide), if_pos (show nI 2 = (2 : Int32) from rfl)]
          exact (congrArg (fun x => f_X5_advance_L121 F (nI n) tx (1, nI 2, nI s, x)) (nI_add s 1)).trans r5
        · have hl : e' - s ≤ 4 := by split at w <;> omega
          refine ⟨vl b s (e' - s), vl_le (fun i hi => ?_), rfl, fun lo hi fl tk st => rnum_v h (by omega) e2 hw hl hF⟩
          exact w_dig (h.2 (s + i) (by omega)).1 (hw (s + i) (by omega) (by omega))
      · -- a sign
        have wl := wi_0 (F := F) (x := b s) (lo := 97) (hi := 122) (w_nlet q1) (by omega) (by omega) (by omega)
        have wd := wi_0 (F := F) (x := b s) (lo := 48) (hi := 57) (w_ndig q2) (by omega) (by omega) (by omega)
        have hadv : ∀ k, kd (b s) = k → k ≠ 1 → k ≠ 2 → k ≤ 4 → ∀ tk st, f_X5_advance F (nI n) tk st (nI e) tx = some (nI k, nI s, nI (s + 1)) := by
          intro k ek kn1 kn2 k4 tk st
          unfold f_X5_advance
          rw [a5]
          rw [ek] at k5
          unfold f_X5_advance_b48 f_X5_advance_b120 f_X5_advance_L121
          rw [if_pos (show nI s < nI n from (nI_ltI (by omega) (by omega)).mpr s4), rd_n (by omega) (by decide), hb.2.1, k5, bd1_s, if_neg (show ¬ nI k = (1 : Int32) from fun w => kn1 ((nI_eq (b := 1) (by omega) (by omega)).mp w)), if_neg (show ¬ nI k = (2 : Int32) from fun w => kn2 ((nI_eq (b := 2) (by omega) (by omega)).mp w))]
          refine lp_at (fun _ => (0, nI k, nI s, nI s + 1)) 0 (by omega) rfl (fun i hi k => by omega) (fun k => ?_)
          unfold f_X5_advance_h121 f_X5_advance_b168 f_X5_advance_b203
          rw [if_pos rfl, if_pos rfl]
          exact congrArg (fun x => some (_, nI s, x)) (nI_add s 1)
        by_cases q3 : b s = 59
        · have ek : kd (b s) = 3 := by rw [q3]; decide
          refine ⟨s, s + 1, 3, v, ?_, s1, by omega, by omega, by omega, fun w => by omega, fun _ => by omega, hadv 3 ek (by omega) (by omega) (by omega), fun w => by omega⟩
          unfold f_X10_nextToken
          refine a10 _ (fun k => ?_)
          rw [q3] at g wl wd n32' n10' nm1
          simp (disch := omega) only [f_X10_nextToken_h8, f_X10_nextToken_b299, f_X10_nextToken_b302, g, n32', n10', nm1, wl, wd, ll_le, ll_lt, ll_eq, lr_le, lr_lt, lr_eq, ll_add, lr_add, ll_mul, lr_mul, nI_add, pk_mul, nI_leI, nI_ltI, nI_eq, ll_sub, pk_sub, lm_add, rd_n, rd_l, wr_n, wr_l, lm_ne, lm_ne', lm_lt, lm_le, m1_lt, m1_le, m1_le0, m1_lt0, m1_0, m1_0', l1_0, gd_0, gd_1, gd_T, or_true, true_or, false_or, or_false, nle_T, nle_F, nlt_T, nlt_F, neq_T, neq_F, ↓reduceIte, ne_eq, not_true_eq_false, not_false_eq_true, bd1_s, bd2_s, bd3_s, bd4_s, bd5_s, bd6_s, bd7_s, bd8_s, bd9_s, bd10_s, bd11_s, bd12_s, bd13_s, bd14_s, bd15_s, bd16_s, bd17_s, bd18_s, bd19_s, bd20_s, bd21_s, bd22_s, bd23_s, bd24_s, bd25_s]
          all_goals rfl
        · have ek : kd (b s) = 4 := by
            unfold kd
            have w1 := w_nlet q1
            have w2 := w_ndig q2
            rw [if_neg (by omega), if_neg (by omega), if_neg q3, if_neg (by omega)]
          have q3' : ¬ nI (b s) = (59 : Int32) := fun w => q3 ((nI_eq (b := 59) (by omega) (by omega)).mp w)
          refine ⟨s, s + 1, 4, v, ?_, s1, by omega, by omega, by omega, fun w => by omega, fun _ => by omega, hadv 4 ek (by omega) (by omega) (by omega), fun w => by omega⟩
          unfold f_X10_nextToken
          refine a10 _ (fun k => ?_)
          simp (disch := omega) only [f_X10_nextToken_h8, f_X10_nextToken_b299, f_X10_nextToken_b302, g, n32', n10', nm1, wl, wd, q3', ll_le, ll_lt, ll_eq, lr_le, lr_lt, lr_eq, ll_add, lr_add, ll_mul, lr_mul, nI_add, pk_mul, nI_leI, nI_ltI, nI_eq, ll_sub, pk_sub, lm_add, rd_n, rd_l, wr_n, wr_l, lm_ne, lm_ne', lm_lt, lm_le, m1_lt, m1_le, m1_le0, m1_lt0, m1_0, m1_0', l1_0, gd_0, gd_1, gd_T, or_true, true_or, false_or, or_false, nle_T, nle_F, nlt_T, nlt_F, neq_T, neq_F, ↓reduceIte, ne_eq, not_true_eq_false, not_false_eq_true, bd1_s, bd2_s, bd3_s, bd4_s, bd5_s, bd6_s, bd7_s, bd8_s, bd9_s, bd10_s, bd11_s, bd12_s, bd13_s, bd14_s, bd15_s, bd16_s, bd17_s, bd18_s, bd19_s, bd20_s, bd21_s, bd22_s, bd23_s, bd24_s, bd25_s]
          all_goals rfl
end
