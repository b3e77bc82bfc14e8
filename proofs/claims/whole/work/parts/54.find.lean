/-! the routes of the toll side -/
theorem upd_at (f : Nat → Int32) (k : Nat) (x : Int32) (j : Nat) : upd f k x j = if j = k then x else f j := rfl
section
variable {G L F : Nat} {M P : Nat → Nat → Nat} {lf lt lm lq mM mP : Nat → Int32} {f t : Nat} {e : Int32}
theorem mo_M (h : NM G L M P lf lt lm lq mM mP) {a b : Nat} (hG : G ≤ 10) (ha : a < G) (hb : b < G) : f_X4_minutesOf F (nI a) (nI b) (nI G) mM = some (nI (M a b)) := by
  rw [mo_v mM hG ha hb, (h.1 a b ha hb).1]
theorem po_M (h : NM G L M P lf lt lm lq mM mP) {a b : Nat} (hG : G ≤ 10) (ha : a < G) (hb : b < G) : f_X4_priceOf F (nI a) (nI b) (nI G) mP = some (nI (P a b)) := by
  rw [po_v mP hG ha hb, (h.1 a b ha hb).2.1]
theorem NM.b (h : NM G L M P lf lt lm lq mM mP) {a b : Nat} (ha : a < G) (hb : b < G) : M a b ≤ 120 ∧ P a b ≤ 5000 ∧ (M a b = 0 ↔ P a b = 0) := (h.1 a b ha hb).2.2
/-- the routes of 1, 2, 3 links -/
def V1 (M : Nat → Nat → Nat) (f t : Nat) (e : Int32) (l b c : Nat) : Prop := l = 1 ∧ b = 0 ∧ c = 0 ∧ 0 < M f t ∧ ¬ nI (M f t) < e
def V2 (M : Nat → Nat → Nat) (f t : Nat) (e : Int32) (n l b c : Nat) : Prop := l = 2 ∧ b < n ∧ c = 0 ∧ 0 < M f b ∧ 0 < M b t ∧ ¬ nI (M f b + M b t) < e
def V3 (M : Nat → Nat → Nat) (f t : Nat) (e : Int32) (G n k l b c : Nat) : Prop := l = 3 ∧ (b < n ∧ c < G ∨ b = n ∧ c < k) ∧ 0 < M f b ∧ 0 < M b c ∧ 0 < M c t ∧ ¬ nI (M f b + M b c + M c t) < e
theorem fd_v (h : NM G L M P lf lt lm lq mM mP) (hG : G ≤ 10) (hf : f < G) (ht : t < G) (s : Nat → Int32) :
    Ok (f_X7_findDirect F (nI f) (nI t) e (-1) (-1) s (nI G) mM mP) (fun r => (r.1 = -1 ∧ r.2.1 = -1 ∧ ∀ l b c, ¬ V1 M f t e l b c) ∨ BE P f t (V1 M f t e) r.1 r.2.1 r.2.2) := by
  have hb := h.b hf ht
  by_cases h1 : 0 < M f t
  · by_cases h2 : nI (M f t) < e
    · refine ⟨(-1, -1, s), ?_, .inl ⟨rfl, rfl, fun l b c hv => hv.2.2.2.2 h2⟩⟩
      simp (disch := omega) only [f_X7_findDirect, f_X7_findDirect_b49, mo_M h, h2, ll_le, ll_lt, ll_eq, lr_le, lr_lt, lr_eq, ll_add, lr_add, ll_mul, lr_mul, nI_add, pk_mul, nI_leI, nI_ltI, nI_eq, ll_sub, pk_sub, lm_add, rd_n, rd_l, wr_n, wr_l, lm_ne, lm_ne', lm_lt, lm_le, m1_lt, m1_le, m1_le0, m1_lt0, m1_0, m1_0', l1_0, gd_0, gd_1, gd_T, or_true, true_or, false_or, or_false, nle_T, nle_F, nlt_T, nlt_F, neq_T, neq_F, ↓reduceIte, ne_eq, not_true_eq_false, not_false_eq_true, bd1_s, bd2_s, bd3_s, bd4_s, bd5_s, bd6_s, bd7_s, bd8_s, bd9_s, bd10_s, bd11_s, bd12_s, bd13_s, bd14_s, bd15_s, bd16_s, bd17_s, bd18_s, bd19_s, bd20_s, bd21_s, bd22_s, bd23_s, bd24_s, bd25_s]
    · refine ⟨(1, nI (P f t), upd (upd s 0 (nI f)) 1 (nI t)), ?_, .inr ⟨1, 0, 0, ⟨rfl, rfl, rfl, h1, h2⟩, rfl, rfl, ⟨rfl, fun _ => rfl, fun h => by omega, fun h => by omega⟩, fun l b c hv => ?_⟩⟩
      · simp (disch := omega) only [f_X7_findDirect, f_X7_findDirect_b49, mo_M h, po_M h, h2, ll_le, ll_lt, ll_eq, lr_le, lr_lt, lr_eq, ll_add, lr_add, ll_mul, lr_mul, nI_add, pk_mul, nI_leI, nI_ltI, nI_eq, ll_sub, pk_sub, lm_add, rd_n, rd_l, wr_n, wr_l, lm_ne, lm_ne', lm_lt, lm_le, m1_lt, m1_le, m1_le0, m1_lt0, m1_0, m1_0', l1_0, gd_0, gd_1, gd_T, or_true, true_or, false_or, or_false, nle_T, nle_F, nlt_T, nlt_F, neq_T, neq_F, ↓reduceIte, ne_eq, not_true_eq_false, not_false_eq_true, bd1_s, bd2_s, bd3_s, bd4_s, bd5_s, bd6_s, bd7_s, bd8_s, bd9_s, bd10_s, bd11_s, bd12_s, bd13_s, bd14_s, bd15_s, bd16_s, bd17_s, bd18_s, bd19_s, bd20_s, bd21_s, bd22_s, bd23_s, bd24_s, bd25_s]
      · obtain ⟨rfl, rfl, rfl, -, -⟩ := hv
        exact Nat.le_refl _
  · refine ⟨(-1, -1, s), ?_, .inl ⟨rfl, rfl, fun l b c hv => h1 hv.2.2.2.1⟩⟩
    simp (disch := omega) only [f_X7_findDirect, f_X7_findDirect_b49, mo_M h, ll_le, ll_lt, ll_eq, lr_le, lr_lt, lr_eq, ll_add, lr_add, ll_mul, lr_mul, nI_add, pk_mul, nI_leI, nI_ltI, nI_eq, ll_sub, pk_sub, lm_add, rd_n, rd_l, wr_n, wr_l, lm_ne, lm_ne', lm_lt, lm_le, m1_lt, m1_le, m1_le0, m1_lt0, m1_0, m1_0', l1_0, gd_0, gd_1, gd_T, or_true, true_or, false_or, or_false, nle_T, nle_F, nlt_T, nlt_F, neq_T, neq_F, ↓reduceIte, ne_eq, not_true_eq_false, not_false_eq_true, bd1_s, bd2_s, bd3_s, bd4_s, bd5_s, bd6_s, bd7_s, bd8_s, bd9_s, bd10_s, bd11_s, bd12_s, bd13_s, bd14_s, bd15_s, bd16_s, bd17_s, bd18_s, bd19_s, bd20_s, bd21_s, bd22_s, bd23_s, bd24_s, bd25_s]
theorem fo1_v (h : NM G L M P lf lt lm lq mM mP) (hG : G ≤ 10) (hf : f < G) (ht : t < G) (hF : 100 ≤ F) (s : Nat → Int32) :
    Ok (f_X7_findOverOne F (nI f) (nI t) e (-1) (-1) s (nI G) mM mP) (fun r => (r.1 = -1 ∧ r.2.1 = -1 ∧ ∀ l b c, ¬ V2 M f t e G l b c) ∨ BE P f t (V2 M f t e G) r.1 r.2.1 r.2.2) := by
  unfold f_X7_findOverOne f_X7_findOverOne_L3
  refine lp_inv (fun i z => ∃ lk pr s, z = (nI f, nI t, e, nI i, lk, pr, s) ∧ ((lk = -1 ∧ pr = -1 ∧ ∀ l b c, ¬ V2 M f t e i l b c) ∨ BE P f t (V2 M f t e i) lk pr s)) G ?_ ?_ (by omega) ⟨-1, -1, s, rfl, .inl ⟨rfl, rfl, fun l b c hv => by have := hv.2.1; omega⟩⟩
  · rintro i z k hi ⟨lk, pr, s, rfl, hB⟩ hk
    have b1 := h.b hf hi
    have b2 := h.b hi ht
    by_cases hv : 0 < M f i ∧ 0 < M i t ∧ ¬ nI (M f i + M i t) < e
    · obtain ⟨v1, v2, v3⟩ := hv
      have hV : ∀ l b c, V2 M f t e (i + 1) l b c ↔ V2 M f t e i l b c ∨ (l = 2 ∧ b = i ∧ c = 0) := by
        intro l b c
        unfold V2
        constructor
        · rintro ⟨q1, q2, q3, q4⟩
          by_cases hb : b = i
          · exact .inr ⟨q1, hb, q3⟩
          · exact .inl ⟨q1, by omega, q3, q4⟩
        · rintro (⟨q1, q2, q3, q4⟩ | ⟨rfl, rfl, rfl⟩)
          · exact ⟨q1, by omega, q3, q4⟩
          · exact ⟨rfl, by omega, rfl, v1, v2, v3⟩
      have hn : ST f t 2 i 0 (upd (upd (upd s 0 (nI f)) 1 (nI i)) 2 (nI t)) := ⟨rfl, fun h => by omega, fun _ => ⟨rfl, rfl⟩, fun h => by omega⟩
      rcases hB with ⟨rfl, rfl, hN⟩ | hB
      · have hq := hk _ ⟨_, _, _, rfl, .inr (be_new hV hn (fun l b c hv => absurd hv (hN l b c)))⟩
        simp only [COs] at hq
        simp (disch := omega) only [f_X7_findOverOne_h3, f_X7_findOverOne_b117, f_X7_findOverOne_b84, mo_M h, po_M h, v3, ll_le, ll_lt, ll_eq, lr_le, lr_lt, lr_eq, ll_add, lr_add, ll_mul, lr_mul, nI_add, pk_mul, nI_leI, nI_ltI, nI_eq, ll_sub, pk_sub, lm_add, rd_n, rd_l, wr_n, wr_l, lm_ne, lm_ne', lm_lt, lm_le, m1_lt, m1_le, m1_le0, m1_lt0, m1_0, m1_0', l1_0, gd_0, gd_1, gd_T, or_true, true_or, false_or, or_false, nle_T, nle_F, nlt_T, nlt_F, neq_T, neq_F, ↓reduceIte, ne_eq, not_true_eq_false, not_false_eq_true, bd1_s, bd2_s, bd3_s, bd4_s, bd5_s, bd6_s, bd7_s, bd8_s, bd9_s, bd10_s, bd11_s, bd12_s, bd13_s, bd14_s, bd15_s, bd16_s, bd17_s, bd18_s, bd19_s, bd20_s, bd21_s, bd22_s, bd23_s, bd24_s, bd25_s]
        exact hq
      · obtain ⟨l, b, c, hv, rfl, rfl, hs, hm⟩ := id hB
        obtain ⟨rfl, q2, rfl, q4, q5, q6⟩ := id hv
        have hbG : b < G := by omega
        have b3 := h.b hf hbG
        have b4 := h.b hbG ht
        by_cases hc : P f b + P b t ≤ P f i + P i t
        · have hq := hk _ ⟨_, _, _, rfl, .inr (be_old hB hV (fun l' b' c' hv' e1 e2 _ => by
            obtain ⟨rfl, w2, rfl, -⟩ := hv'
            have w3 : b' < G := by omega
            have w4 := h.b hf w3
            have w5 := h.b w3 ht
            simp only [COs] at e2
            rw [nI_eq (by simp; omega) (by simp; omega)] at e2
            simp only [KY, COs]
            simp at e2 ⊢
            omega))⟩
          simp (disch := omega) only [f_X7_findOverOne_h3, f_X7_findOverOne_b117, f_X7_findOverOne_b84, mo_M h, po_M h, v3, COs, ll_le, ll_lt, ll_eq, lr_le, lr_lt, lr_eq, ll_add, lr_add, ll_mul, lr_mul, nI_add, pk_mul, nI_leI, nI_ltI, nI_eq, ll_sub, pk_sub, lm_add, rd_n, rd_l, wr_n, wr_l, lm_ne, lm_ne', lm_lt, lm_le, m1_lt, m1_le, m1_le0, m1_lt0, m1_0, m1_0', l1_0, gd_0, gd_1, gd_T, or_true, true_or, false_or, or_false, nle_T, nle_F, nlt_T, nlt_F, neq_T, neq_F, ↓reduceIte, ne_eq, not_true_eq_false, not_false_eq_true, bd1_s, bd2_s, bd3_s, bd4_s, bd5_s, bd6_s, bd7_s, bd8_s, bd9_s, bd10_s, bd11_s, bd12_s, bd13_s, bd14_s, bd15_s, bd16_s, bd17_s, bd18_s, bd19_s, bd20_s, bd21_s, bd22_s, bd23_s, bd24_s, bd25_s]
          simp only [COs] at hq
          exact hq
        · have hq := hk _ ⟨_, _, _, rfl, .inr (be_new hV hn (fun l' b' c' hv' => by
            have w1 := hm _ _ _ hv'
            simp only [KY, COs] at w1 ⊢
            simp at w1 ⊢
            obtain ⟨rfl, w2, rfl, -⟩ := hv'
            simp at w1 ⊢
            omega))⟩
          simp (disch := omega) only [f_X7_findOverOne_h3, f_X7_findOverOne_b117, f_X7_findOverOne_b84, mo_M h, po_M h, v3, COs, ll_le, ll_lt, ll_eq, lr_le, lr_lt, lr_eq, ll_add, lr_add, ll_mul, lr_mul, nI_add, pk_mul, nI_leI, nI_ltI, nI_eq, ll_sub, pk_sub, lm_add, rd_n, rd_l, wr_n, wr_l, lm_ne, lm_ne', lm_lt, lm_le, m1_lt, m1_le, m1_le0, m1_lt0, m1_0, m1_0', l1_0, gd_0, gd_1, gd_T, or_true, true_or, false_or, or_false, nle_T, nle_F, nlt_T, nlt_F, neq_T, neq_F, ↓reduceIte, ne_eq, not_true_eq_false, not_false_eq_true, bd1_s, bd2_s, bd3_s, bd4_s, bd5_s, bd6_s, bd7_s, bd8_s, bd9_s, bd10_s, bd11_s, bd12_s, bd13_s, bd14_s, bd15_s, bd16_s, bd17_s, bd18_s, bd19_s, bd20_s, bd21_s, bd22_s, bd23_s, bd24_s, bd25_s]
          simp only [COs] at hq
          exact hq
    · have hV : ∀ l b c, V2 M f t e (i + 1) l b c ↔ V2 M f t e i l b c := by
        intro l b c
        unfold V2
        constructor
        · rintro ⟨q1, q2, q3, q4⟩
          by_cases hb : b = i
          · subst hb; exact absurd q4 hv
          · exact ⟨q1, by omega, q3, q4⟩
        · rintro ⟨q1, q2, q3, q4⟩
          exact ⟨q1, by omega, q3, q4⟩
      have hq := hk (nI f, nI t, e, nI (i + 1), lk, pr, s) ⟨_, _, _, rfl, hB.elim (fun q => .inl ⟨q.1, q.2.1, fun l b c w => q.2.2 l b c ((hV l b c).mp w)⟩) (fun q => .inr (be_iff q hV))⟩
      by_cases v1 : 0 < M f i
      · by_cases v2 : 0 < M i t
        · have v3 : nI (M f i + M i t) < e := Classical.byContradiction fun q => hv ⟨v1, v2, q⟩
          simp (disch := omega) only [f_X7_findOverOne_h3, f_X7_findOverOne_b117, f_X7_findOverOne_b84, mo_M h, po_M h, v3, ll_le, ll_lt, ll_eq, lr_le, lr_lt, lr_eq, ll_add, lr_add, ll_mul, lr_mul, nI_add, pk_mul, nI_leI, nI_ltI, nI_eq, ll_sub, pk_sub, lm_add, rd_n, rd_l, wr_n, wr_l, lm_ne, lm_ne', lm_lt, lm_le, m1_lt, m1_le, m1_le0, m1_lt0, m1_0, m1_0', l1_0, gd_0, gd_1, gd_T, or_true, true_or, false_or, or_false, nle_T, nle_F, nlt_T, nlt_F, neq_T, neq_F, ↓reduceIte, ne_eq, not_true_eq_false, not_false_eq_true, bd1_s, bd2_s, bd3_s, bd4_s, bd5_s, bd6_s, bd7_s, bd8_s, bd9_s, bd10_s, bd11_s, bd12_s, bd13_s, bd14_s, bd15_s, bd16_s, bd17_s, bd18_s, bd19_s, bd20_s, bd21_s, bd22_s, bd23_s, bd24_s, bd25_s]
          exact hq
        · simp (disch := omega) only [f_X7_findOverOne_h3, f_X7_findOverOne_b117, f_X7_findOverOne_b84, mo_M h, po_M h, ll_le, ll_lt, ll_eq, lr_le, lr_lt, lr_eq, ll_add, lr_add, ll_mul, lr_mul, nI_add, pk_mul, nI_leI, nI_ltI, nI_eq, ll_sub, pk_sub, lm_add, rd_n, rd_l, wr_n, wr_l, lm_ne, lm_ne', lm_lt, lm_le, m1_lt, m1_le, m1_le0, m1_lt0, m1_0, m1_0', l1_0, gd_0, gd_1, gd_T, or_true, true_or, false_or, or_false, nle_T, nle_F, nlt_T, nlt_F, neq_T, neq_F, ↓reduceIte, ne_eq, not_true_eq_false, not_false_eq_true, bd1_s, bd2_s, bd3_s, bd4_s, bd5_s, bd6_s, bd7_s, bd8_s, bd9_s, bd10_s, bd11_s, bd12_s, bd13_s, bd14_s, bd15_s, bd16_s, bd17_s, bd18_s, bd19_s, bd20_s, bd21_s, bd22_s, bd23_s, bd24_s, bd25_s]
          exact hq
      · simp (disch := omega) only [f_X7_findOverOne_h3, f_X7_findOverOne_b117, f_X7_findOverOne_b84, mo_M h, po_M h, ll_le, ll_lt, ll_eq, lr_le, lr_lt, lr_eq, ll_add, lr_add, ll_mul, lr_mul, nI_add, pk_mul, nI_leI, nI_ltI, nI_eq, ll_sub, pk_sub, lm_add, rd_n, rd_l, wr_n, wr_l, lm_ne, lm_ne', lm_lt, lm_le, m1_lt, m1_le, m1_le0, m1_lt0, m1_0, m1_0', l1_0, gd_0, gd_1, gd_T, or_true, true_or, false_or, or_false, nle_T, nle_F, nlt_T, nlt_F, neq_T, neq_F, ↓reduceIte, ne_eq, not_true_eq_false, not_false_eq_true, bd1_s, bd2_s, bd3_s, bd4_s, bd5_s, bd6_s, bd7_s, bd8_s, bd9_s, bd10_s, bd11_s, bd12_s, bd13_s, bd14_s, bd15_s, bd16_s, bd17_s, bd18_s, bd19_s, bd20_s, bd21_s, bd22_s, bd23_s, bd24_s, bd25_s]
        exact hq
  · rintro z k ⟨lk, pr, s, rfl, hB⟩
    refine ⟨(lk, pr, s), ?_, hB⟩
    simp (disch := omega) only [f_X7_findOverOne_h3, ll_le, ll_lt, ll_eq, lr_le, lr_lt, lr_eq, ll_add, lr_add, ll_mul, lr_mul, nI_add, pk_mul, nI_leI, nI_ltI, nI_eq, ll_sub, pk_sub, lm_add, rd_n, rd_l, wr_n, wr_l, lm_ne, lm_ne', lm_lt, lm_le, m1_lt, m1_le, m1_le0, m1_lt0, m1_0, m1_0', l1_0, gd_0, gd_1, gd_T, or_true, true_or, false_or, or_false, nle_T, nle_F, nlt_T, nlt_F, neq_T, neq_F, ↓reduceIte, ne_eq, not_true_eq_false, not_false_eq_true, bd1_s, bd2_s, bd3_s, bd4_s, bd5_s, bd6_s, bd7_s, bd8_s, bd9_s, bd10_s, bd11_s, bd12_s, bd13_s, bd14_s, bd15_s, bd16_s, bd17_s, bd18_s, bd19_s, bd20_s, bd21_s, bd22_s, bd23_s, bd24_s, bd25_s]
/-- a route of three links is offered -/
theorem of3_v (h : NM G L M P lf lt lm lq mM mP) (hG : G ≤ 10) (hf : f < G) (ht : t < G) {i j : Nat} (hi : i < G) (hj : j < G) {lk pr : Int32} {s : Nat → Int32}
    (hB : (lk = -1 ∧ pr = -1 ∧ ∀ l b c, ¬ V3 M f t e G i j l b c) ∨ BE P f t (V3 M f t e G i j) lk pr s) (v1 : 0 < M f i) (v2 : 0 < M i j) (v4 : 0 < M j t) (v3 : ¬ nI (M f i + M i j + M j t) < e) :
    Ok (f_X7_offerThree F (nI f) (nI i) (nI j) (nI t) lk pr s (nI G) mP) (fun r => BE P f t (V3 M f t e G i (j + 1)) r.1 r.2.1 r.2.2) := by
  have b1 := h.b hf hi
  have b2 := h.b hi hj
  have b3 := h.b hj ht
  have hV : ∀ l b c, V3 M f t e G i (j + 1) l b c ↔ V3 M f t e G i j l b c ∨ (l = 3 ∧ b = i ∧ c = j) := by
    intro l b c
    unfold V3
    constructor
    · rintro ⟨q1, q2, q4⟩
      by_cases hb : b = i ∧ c = j
      · exact .inr ⟨q1, hb⟩
      · exact .inl ⟨q1, by omega, q4⟩
    · rintro (⟨q1, q2, q4⟩ | ⟨rfl, rfl, rfl⟩)
      · exact ⟨q1, by omega, q4⟩
      · exact ⟨rfl, by omega, v1, v2, v4, v3⟩
  have hn : ST f t 3 i j (upd (upd (upd (upd s 0 (nI f)) 1 (nI i)) 2 (nI j)) 3 (nI t)) := ⟨rfl, fun h => by omega, fun h => by omega, fun _ => ⟨rfl, rfl, rfl⟩⟩
  rcases hB with ⟨rfl, rfl, hN⟩ | hB
  · refine ⟨(nI 3, nI (COs P f t 3 i j), upd (upd (upd (upd s 0 (nI f)) 1 (nI i)) 2 (nI j)) 3 (nI t)), ?_, be_new (P := P) hV hn (fun l b c hv => absurd hv (hN l b c))⟩
    simp (disch := omega) only [f_X7_offerThree, f_X7_offerThree_b42, f_X7_offerThree_b83, po_M h, COs, ll_le, ll_lt, ll_eq, lr_le, lr_lt, lr_eq, ll_add, lr_add, ll_mul, lr_mul, nI_add, pk_mul, nI_leI, nI_ltI, nI_eq, ll_sub, pk_sub, lm_add, rd_n, rd_l, wr_n, wr_l, lm_ne, lm_ne', lm_lt, lm_le, m1_lt, m1_le, m1_le0, m1_lt0, m1_0, m1_0', l1_0, gd_0, gd_1, gd_T, or_true, true_or, false_or, or_false, nle_T, nle_F, nlt_T, nlt_F, neq_T, neq_F, ↓reduceIte, ne_eq, not_true_eq_false, not_false_eq_true, bd1_s, bd2_s, bd3_s, bd4_s, bd5_s, bd6_s, bd7_s, bd8_s, bd9_s, bd10_s, bd11_s, bd12_s, bd13_s, bd14_s, bd15_s, bd16_s, bd17_s, bd18_s, bd19_s, bd20_s, bd21_s, bd22_s, bd23_s, bd24_s, bd25_s]
    rfl
  · obtain ⟨l, b, c, hv, rfl, rfl, hs, hm⟩ := id hB
    obtain ⟨rfl, q2, q4⟩ := id hv
    have hbG : b < G := by omega
    have hcG : c < G := by omega
    have b4 := h.b hf hbG
    have b5 := h.b hbG hcG
    have b6 := h.b hcG ht
    by_cases hc : P f b + P b c + P c t ≤ P f i + P i j + P j t
    · refine ⟨(nI 3, nI (COs P f t 3 b c), s), ?_, be_old hB hV (fun l' b' c' hv' e1 e2 _ => by
        obtain ⟨rfl, w2, -⟩ := hv'
        have w3 : b' < G := by omega
        have w4 : c' < G := by omega
        have w5 := h.b hf w3
        have w6 := h.b w3 w4
        have w7 := h.b w4 ht
        simp only [COs] at e2
        rw [nI_eq (by simp; omega) (by simp; omega)] at e2
        simp only [KY, COs]
        simp at e2 ⊢
        omega)⟩
      simp (disch := omega) only [f_X7_offerThree, f_X7_offerThree_b42, f_X7_offerThree_b83, po_M h, COs, ll_le, ll_lt, ll_eq, lr_le, lr_lt, lr_eq, ll_add, lr_add, ll_mul, lr_mul, nI_add, pk_mul, nI_leI, nI_ltI, nI_eq, ll_sub, pk_sub, lm_add, rd_n, rd_l, wr_n, wr_l, lm_ne, lm_ne', lm_lt, lm_le, m1_lt, m1_le, m1_le0, m1_lt0, m1_0, m1_0', l1_0, gd_0, gd_1, gd_T, or_true, true_or, false_or, or_false, nle_T, nle_F, nlt_T, nlt_F, neq_T, neq_F, ↓reduceIte, ne_eq, not_true_eq_false, not_false_eq_true, bd1_s, bd2_s, bd3_s, bd4_s, bd5_s, bd6_s, bd7_s, bd8_s, bd9_s, bd10_s, bd11_s, bd12_s, bd13_s, bd14_s, bd15_s, bd16_s, bd17_s, bd18_s, bd19_s, bd20_s, bd21_s, bd22_s, bd23_s, bd24_s, bd25_s]
    · refine ⟨(nI 3, nI (COs P f t 3 i j), upd (upd (upd (upd s 0 (nI f)) 1 (nI i)) 2 (nI j)) 3 (nI t)), ?_, be_new (P := P) hV hn (fun l' b' c' hv' => by
        have w1 := hm _ _ _ hv'
        obtain ⟨rfl, w2, -⟩ := hv'
        simp only [KY, COs] at w1 ⊢
        simp at w1 ⊢
        omega)⟩
      simp (disch := omega) only [f_X7_offerThree, f_X7_offerThree_b42, f_X7_offerThree_b83, po_M h, COs, ll_le, ll_lt, ll_eq, lr_le, lr_lt, lr_eq, ll_add, lr_add, ll_mul, lr_mul, nI_add, pk_mul, nI_leI, nI_ltI, nI_eq, ll_sub, pk_sub, lm_add, rd_n, rd_l, wr_n, wr_l, lm_ne, lm_ne', lm_lt, lm_le, m1_lt, m1_le, m1_le0, m1_lt0, m1_0, m1_0', l1_0, gd_0, gd_1, gd_T, or_true, true_or, false_or, or_false, nle_T, nle_F, nlt_T, nlt_F, neq_T, neq_F, ↓reduceIte, ne_eq, not_true_eq_false, not_false_eq_true, bd1_s, bd2_s, bd3_s, bd4_s, bd5_s, bd6_s, bd7_s, bd8_s, bd9_s, bd10_s, bd11_s, bd12_s, bd13_s, bd14_s, bd15_s, bd16_s, bd17_s, bd18_s, bd19_s, bd20_s, bd21_s, bd22_s, bd23_s, bd24_s, bd25_s]
      rfl
theorem fo2_v (h : NM G L M P lf lt lm lq mM mP) (hG : G ≤ 10) (hf : f < G) (ht : t < G) (hF : 100 ≤ F) (s : Nat → Int32) :
    Ok (f_X7_findOverTwo F (nI f) (nI t) e (-1) (-1) s (nI G) mM mP) (fun r => (r.1 = -1 ∧ r.2.1 = -1 ∧ ∀ l b c, ¬ V3 M f t e G G 0 l b c) ∨ BE P f t (V3 M f t e G G 0) r.1 r.2.1 r.2.2) := by
  unfold f_X7_findOverTwo f_X7_findOverTwo_L3
  refine lp_inv (fun i z => ∃ lk pr s, z = (nI f, nI t, e, nI i, lk, pr, s) ∧ ((lk = -1 ∧ pr = -1 ∧ ∀ l b c, ¬ V3 M f t e G i 0 l b c) ∨ BE P f t (V3 M f t e G i 0) lk pr s)) G ?_ ?_ (by omega) ⟨-1, -1, s, rfl, .inl ⟨rfl, rfl, fun l b c hv => by have := hv.2.1; omega⟩⟩
  · rintro i z k hi ⟨lk, pr, s, rfl, hB⟩ hk
    have b1 := h.b hf hi
    simp (disch := omega) only [f_X7_findOverTwo_h3, mo_M h, ll_le, ll_lt, ll_eq, lr_le, lr_lt, lr_eq, ll_add, lr_add, ll_mul, lr_mul, nI_add, pk_mul, nI_leI, nI_ltI, nI_eq, ll_sub, pk_sub, lm_add, rd_n, rd_l, wr_n, wr_l, lm_ne, lm_ne', lm_lt, lm_le, m1_lt, m1_le, m1_le0, m1_lt0, m1_0, m1_0', l1_0, gd_0, gd_1, gd_T, or_true, true_or, false_or, or_false, nle_T, nle_F, nlt_T, nlt_F, neq_T, neq_F, ↓reduceIte, ne_eq, not_true_eq_false, not_false_eq_true, bd1_s, bd2_s, bd3_s, bd4_s, bd5_s, bd6_s, bd7_s, bd8_s, bd9_s, bd10_s, bd11_s, bd12_s, bd13_s, bd14_s, bd15_s, bd16_s, bd17_s, bd18_s, bd19_s, bd20_s, bd21_s, bd22_s, bd23_s, bd24_s, bd25_s]
    unfold f_X7_findOverTwo_L24
    by_cases v1 : 0 < M f i
    · refine lp_inv (fun j z => ∃ lk pr s, z = (nI f, nI t, e, nI i, nI (M f i), nI j, lk, pr, s) ∧ ((lk = -1 ∧ pr = -1 ∧ ∀ l b c, ¬ V3 M f t e G i j l b c) ∨ BE P f t (V3 M f t e G i j) lk pr s)) G ?_ ?_ (by omega) ⟨lk, pr, s, rfl, hB⟩
      · rintro j z k2 hj ⟨lk, pr, s, rfl, hB⟩ hk2
        have b2 := h.b hi hj
        have b3 := h.b hj ht
        by_cases hv : 0 < M i j ∧ 0 < M j t ∧ ¬ nI (M f i + M i j + M j t) < e
        · obtain ⟨v2, v4, v3⟩ := hv
          obtain ⟨⟨o1, o2, o3⟩, e1, e2⟩ := of3_v (F := F) h hG hf ht hi hj hB v1 v2 v4 v3
          have hq := hk2 _ ⟨_, _, _, rfl, .inr e2⟩
          simp (disch := omega) only [f_X7_findOverTwo_h24, f_X7_findOverTwo_b91, f_X7_findOverTwo_b97, mo_M h, v3, e1, ll_le, ll_lt, ll_eq, lr_le, lr_lt, lr_eq, ll_add, lr_add, ll_mul, lr_mul, nI_add, pk_mul, nI_leI, nI_ltI, nI_eq, ll_sub, pk_sub, lm_add, rd_n, rd_l, wr_n, wr_l, lm_ne, lm_ne', lm_lt, lm_le, m1_lt, m1_le, m1_le0, m1_lt0, m1_0, m1_0', l1_0, gd_0, gd_1, gd_T, or_true, true_or, false_or, or_false, nle_T, nle_F, nlt_T, nlt_F, neq_T, neq_F, ↓reduceIte, ne_eq, not_true_eq_false, not_false_eq_true, bd1_s, bd2_s, bd3_s, bd4_s, bd5_s, bd6_s, bd7_s, bd8_s, bd9_s, bd10_s, bd11_s, bd12_s, bd13_s, bd14_s, bd15_s, bd16_s, bd17_s, bd18_s, bd19_s, bd20_s, bd21_s, bd22_s, bd23_s, bd24_s, bd25_s]
          exact hq
        · have hV : ∀ l b c, V3 M f t e G i (j + 1) l b c ↔ V3 M f t e G i j l b c := by
            intro l b c
            unfold V3
            constructor
            · rintro ⟨q1, q2, q3, q4⟩
              by_cases hb : b = i ∧ c = j
              · obtain ⟨rfl, rfl⟩ := hb; exact absurd q4 hv
              · exact ⟨q1, by omega, q3, q4⟩
            · rintro ⟨q1, q2, q3, q4⟩
              exact ⟨q1, by omega, q3, q4⟩
          have hq := hk2 (nI f, nI t, e, nI i, nI (M f i), nI (j + 1), lk, pr, s) ⟨_, _, _, rfl, hB.elim (fun q => .inl ⟨q.1, q.2.1, fun l b c w => q.2.2 l b c ((hV l b c).mp w)⟩) (fun q => .inr (be_iff q hV))⟩
          by_cases v2 : 0 < M i j
          · by_cases v4 : 0 < M j t
            · have v3 : nI (M f i + M i j + M j t) < e := Classical.byContradiction fun q => hv ⟨v2, v4, q⟩
              simp (disch := omega) only [f_X7_findOverTwo_h24, f_X7_findOverTwo_b91, f_X7_findOverTwo_b97, mo_M h, v3, ll_le, ll_lt, ll_eq, lr_le, lr_lt, lr_eq, ll_add, lr_add, ll_mul, lr_mul, nI_add, pk_mul, nI_leI, nI_ltI, nI_eq, ll_sub, pk_sub, lm_add, rd_n, rd_l, wr_n, wr_l, lm_ne, lm_ne', lm_lt, lm_le, m1_lt, m1_le, m1_le0, m1_lt0, m1_0, m1_0', l1_0, gd_0, gd_1, gd_T, or_true, true_or, false_or, or_false, nle_T, nle_F, nlt_T, nlt_F, neq_T, neq_F, ↓reduceIte, ne_eq, not_true_eq_false, not_false_eq_true, bd1_s, bd2_s, bd3_s, bd4_s, bd5_s, bd6_s, bd7_s, bd8_s, bd9_s, bd10_s, bd11_s, bd12_s, bd13_s, bd14_s, bd15_s, bd16_s, bd17_s, bd18_s, bd19_s, bd20_s, bd21_s, bd22_s, bd23_s, bd24_s, bd25_s]
              exact hq
            · simp (disch := omega) only [f_X7_findOverTwo_h24, f_X7_findOverTwo_b91, f_X7_findOverTwo_b97, mo_M h, ll_le, ll_lt, ll_eq, lr_le, lr_lt, lr_eq, ll_add, lr_add, ll_mul, lr_mul, nI_add, pk_mul, nI_leI, nI_ltI, nI_eq, ll_sub, pk_sub, lm_add, rd_n, rd_l, wr_n, wr_l, lm_ne, lm_ne', lm_lt, lm_le, m1_lt, m1_le, m1_le0, m1_lt0, m1_0, m1_0', l1_0, gd_0, gd_1, gd_T, or_true, true_or, false_or, or_false, nle_T, nle_F, nlt_T, nlt_F, neq_T, neq_F, ↓reduceIte, ne_eq, not_true_eq_false, not_false_eq_true, bd1_s, bd2_s, bd3_s, bd4_s, bd5_s, bd6_s, bd7_s, bd8_s, bd9_s, bd10_s, bd11_s, bd12_s, bd13_s, bd14_s, bd15_s, bd16_s, bd17_s, bd18_s, bd19_s, bd20_s, bd21_s, bd22_s, bd23_s, bd24_s, bd25_s]
              exact hq
          · simp (disch := omega) only [f_X7_findOverTwo_h24, f_X7_findOverTwo_b91, f_X7_findOverTwo_b97, mo_M h, ll_le, ll_lt, ll_eq, lr_le, lr_lt, lr_eq, ll_add, lr_add, ll_mul, lr_mul, nI_add, pk_mul, nI_leI, nI_ltI, nI_eq, ll_sub, pk_sub, lm_add, rd_n, rd_l, wr_n, wr_l, lm_ne, lm_ne', lm_lt, lm_le, m1_lt, m1_le, m1_le0, m1_lt0, m1_0, m1_0', l1_0, gd_0, gd_1, gd_T, or_true, true_or, false_or, or_false, nle_T, nle_F, nlt_T, nlt_F, neq_T, neq_F, ↓reduceIte, ne_eq, not_true_eq_false, not_false_eq_true, bd1_s, bd2_s, bd3_s, bd4_s, bd5_s, bd6_s, bd7_s, bd8_s, bd9_s, bd10_s, bd11_s, bd12_s, bd13_s, bd14_s, bd15_s, bd16_s, bd17_s, bd18_s, bd19_s, bd20_s, bd21_s, bd22_s, bd23_s, bd24_s, bd25_s]
            exact hq
      · rintro z k2 ⟨lk, pr, s, rfl, hB⟩
        have hV : ∀ l b c, V3 M f t e G (i + 1) 0 l b c ↔ V3 M f t e G i G l b c := by
          intro l b c
          unfold V3
          constructor <;> (rintro ⟨q1, q2, q3⟩; exact ⟨q1, by omega, q3⟩)
        have hq := hk (nI f, nI t, e, nI (i + 1), lk, pr, s) ⟨_, _, _, rfl, hB.elim (fun q => .inl ⟨q.1, q.2.1, fun l b c w => q.2.2 l b c ((hV l b c).mp w)⟩) (fun q => .inr (be_iff q hV))⟩
        simp (disch := omega) only [f_X7_findOverTwo_h24, f_X7_findOverTwo_b91, f_X7_findOverTwo_b97, ll_le, ll_lt, ll_eq, lr_le, lr_lt, lr_eq, ll_add, lr_add, ll_mul, lr_mul, nI_add, pk_mul, nI_leI, nI_ltI, nI_eq, ll_sub, pk_sub, lm_add, rd_n, rd_l, wr_n, wr_l, lm_ne, lm_ne', lm_lt, lm_le, m1_lt, m1_le, m1_le0, m1_lt0, m1_0, m1_0', l1_0, gd_0, gd_1, gd_T, or_true, true_or, false_or, or_false, nle_T, nle_F, nlt_T, nlt_F, neq_T, neq_F, ↓reduceIte, ne_eq, not_true_eq_false, not_false_eq_true, bd1_s, bd2_s, bd3_s, bd4_s, bd5_s, bd6_s, bd7_s, bd8_s, bd9_s, bd10_s, bd11_s, bd12_s, bd13_s, bd14_s, bd15_s, bd16_s, bd17_s, bd18_s, bd19_s, bd20_s, bd21_s, bd22_s, bd23_s, bd24_s, bd25_s]
        exact hq
    · have hV : ∀ l b c, V3 M f t e G (i + 1) 0 l b c ↔ V3 M f t e G i 0 l b c := by
        intro l b c
        unfold V3
        constructor
        · rintro ⟨q1, q2, q3, q4⟩
          by_cases hb : b = i
          · subst hb; exact absurd q3 v1
          · exact ⟨q1, by omega, q3, q4⟩
        · rintro ⟨q1, q2, q3, q4⟩
          exact ⟨q1, by omega, q3, q4⟩
      have hq := hk (nI f, nI t, e, nI (i + 1), lk, pr, s) ⟨_, _, _, rfl, hB.elim (fun q => .inl ⟨q.1, q.2.1, fun l b c w => q.2.2 l b c ((hV l b c).mp w)⟩) (fun q => .inr (be_iff q hV))⟩
      cases F with
      | zero => omega
      | succ F =>
        show Ok (f_X7_findOverTwo_h24 _ k (nI G) mM mP _ _ _ _ _ _ _ _ _ _) _
        simp (disch := omega) only [f_X7_findOverTwo_h24, f_X7_findOverTwo_b91, f_X7_findOverTwo_b97, ll_le, ll_lt, ll_eq, lr_le, lr_lt, lr_eq, ll_add, lr_add, ll_mul, lr_mul, nI_add, pk_mul, nI_leI, nI_ltI, nI_eq, ll_sub, pk_sub, lm_add, rd_n, rd_l, wr_n, wr_l, lm_ne, lm_ne', lm_lt, lm_le, m1_lt, m1_le, m1_le0, m1_lt0, m1_0, m1_0', l1_0, gd_0, gd_1, gd_T, or_true, true_or, false_or, or_false, nle_T, nle_F, nlt_T, nlt_F, neq_T, neq_F, ↓reduceIte, ne_eq, not_true_eq_false, not_false_eq_true, bd1_s, bd2_s, bd3_s, bd4_s, bd5_s, bd6_s, bd7_s, bd8_s, bd9_s, bd10_s, bd11_s, bd12_s, bd13_s, bd14_s, bd15_s, bd16_s, bd17_s, bd18_s, bd19_s, bd20_s, bd21_s, bd22_s, bd23_s, bd24_s, bd25_s]
        exact hq
  · rintro z k ⟨lk, pr, s, rfl, hB⟩
    refine ⟨(lk, pr, s), ?_, hB⟩
    simp (disch := omega) only [f_X7_findOverTwo_h3, ll_le, ll_lt, ll_eq, lr_le, lr_lt, lr_eq, ll_add, lr_add, ll_mul, lr_mul, nI_add, pk_mul, nI_leI, nI_ltI, nI_eq, ll_sub, pk_sub, lm_add, rd_n, rd_l, wr_n, wr_l, lm_ne, lm_ne', lm_lt, lm_le, m1_lt, m1_le, m1_le0, m1_lt0, m1_0, m1_0', l1_0, gd_0, gd_1, gd_T, or_true, true_or, false_or, or_false, nle_T, nle_F, nlt_T, nlt_F, neq_T, neq_F, ↓reduceIte, ne_eq, not_true_eq_false, not_false_eq_true, bd1_s, bd2_s, bd3_s, bd4_s, bd5_s, bd6_s, bd7_s, bd8_s, bd9_s, bd10_s, bd11_s, bd12_s, bd13_s, bd14_s, bd15_s, bd16_s, bd17_s, bd18_s, bd19_s, bd20_s, bd21_s, bd22_s, bd23_s, bd24_s, bd25_s]
/-- all routes -/
def VD (G : Nat) (M : Nat → Nat → Nat) (f t : Nat) (e : Int32) (l b c : Nat) : Prop := V1 M f t e l b c ∨ V2 M f t e G l b c ∨ V3 M f t e G G 0 l b c
theorem vd_nf (h : NM G L M P lf lt lm lq mM mP) (hG : G ≤ 10) (hf : f < G) (ht : t < G) : ∀ l b c, VD G M f t e l b c → NF P f t l b c := by
  rintro l b c (⟨rfl, rfl, rfl, -⟩ | ⟨rfl, q2, rfl, -⟩ | ⟨rfl, q2, -⟩)
  · have := h.b hf ht
    simp only [NF, COs]
    simp; omega
  · have w1 := h.b hf q2
    have w2 := h.b q2 ht
    simp only [NF, COs]
    simp; omega
  · have w3 : b < G := by omega
    have w4 : c < G := by omega
    have w5 := h.b hf w3
    have w6 := h.b w3 w4
    have w7 := h.b w4 ht
    simp only [NF, COs]
    simp; omega
theorem find_v (h : NM G L M P lf lt lm lq mM mP) (hG : G ≤ 10) (hf : f < G) (ht : t < G) (hF : 100 ≤ F) (lk pr : Int32) (s : Nat → Int32) :
    Ok (f_X7_find F (nI f) (nI t) e lk pr s (nI G) mM mP) (fun r => (r.1 = -1 ∧ r.2.1 = -1 ∧ ∀ l b c, ¬ VD G M f t e l b c) ∨ BE P f t (VD G M f t e) r.1 r.2.1 r.2.2) := by
  have nf := vd_nf (e := e) h hG hf ht
  have up : ∀ {V : Nat → Nat → Nat → Prop} {n : Nat} {lk pr : Int32} {s : Nat → Int32}, BE P f t V lk pr s → (∀ l b c, V l b c → l = n) → (∀ l b c, VD G M f t e l b c → n ≤ l) → (∀ l b c, V l b c → VD G M f t e l b c) → (∀ l b c, VD G M f t e l b c → l = n → V l b c) → lk ≠ -1 ∧ BE P f t (VD G M f t e) lk pr s := by
    intro V n lk pr s hB q1 q2 q3 q4
    obtain ⟨l, b, c, h1, rfl, h3, h4, h5⟩ := hB
    have w := nf _ _ _ (q3 _ _ _ h1)
    have w0 := w.1
    have w00 := w.2.1
    refine ⟨fun q => (lm_ne (show l < 2 ^ 31 by omega)).mp q, l, b, c, q3 _ _ _ h1, rfl, h3, h4, fun l' b' c' hv => ?_⟩
    have e1 := q1 _ _ _ h1
    have e2 := q2 _ _ _ hv
    by_cases e3 : l' = n
    · exact h5 _ _ _ (q4 _ _ _ hv e3)
    · have w' := nf _ _ _ hv
      unfold NF at w w'
      unfold KY
      omega
  obtain ⟨⟨a1, a2, a3⟩, e1, c1⟩ := fd_v (F := F) (e := e) h hG hf ht s
  unfold f_X7_find
  rw [e1, bd3_s]
  rcases c1 with ⟨n1, n2, n3⟩ | c1
  · dsimp only at n1 n2
    subst n1 n2
    rw [if_pos rfl]
    obtain ⟨⟨b1, b2, b3⟩, e2, c2⟩ := fo1_v (F := F) (e := e) h hG hf ht hF a3
    rw [e2, bd3_s]
    unfold f_X7_find_b36
    rcases c2 with ⟨m1, m2, m3⟩ | c2
    · dsimp only at m1 m2
      subst m1 m2
      rw [if_pos rfl]
      obtain ⟨⟨d1, d2, d3⟩, e3, c3⟩ := fo2_v (F := F) (e := e) h hG hf ht hF b3
      rw [e3, bd3_s]
      refine ⟨(d1, d2, d3), rfl, ?_⟩
      rcases c3 with ⟨k1, k2, k3⟩ | c3
      · exact .inl ⟨k1, k2, fun l b c => by rintro (q | q | q); exact (n3 _ _ _ q); exact (m3 _ _ _ q); exact (k3 _ _ _ q)⟩
      · exact .inr (up (n := 3) c3 (fun l b c q => q.1) (fun l b c q => by rcases q with q | q | q; exact (absurd q (n3 _ _ _)); exact (absurd q (m3 _ _ _)); exact (by have := q.1; omega)) (fun l b c q => .inr (.inr q)) (fun l b c q e => by rcases q with q | q | q; exact (absurd q (n3 _ _ _)); exact (absurd q (m3 _ _ _)); exact (q))).2
    · have := up (n := 2) c2 (fun l b c q => q.1) (fun l b c q => by rcases q with q | q | q; exact (absurd q (n3 _ _ _)); exact (by have := q.1; omega); exact (by have := q.1; omega)) (fun l b c q => .inr (.inl q)) (fun l b c q e => by rcases q with q | q | q; exact (absurd q (n3 _ _ _)); exact (q); exact (by have := q.1; omega))
      rw [if_neg this.1]
      exact ⟨_, rfl, .inr this.2⟩
  · have := up (n := 1) c1 (fun l b c q => q.1) (fun l b c q => by rcases q with q | q | q <;> (have := q.1; omega)) (fun l b c q => .inl q) (fun l b c q e => by rcases q with q | q | q; exact (q); exact (by have := q.1; omega); exact (by have := q.1; omega))
    rw [if_neg this.1]
    unfold f_X7_find_b36
    rw [if_neg this.1]
    exact ⟨_, rfl, .inr this.2⟩
end
