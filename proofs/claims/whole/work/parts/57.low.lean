/-! the lowest price at a gantry -/
def LW (W : Nat → Prop) (q : Nat) : Prop := (∀ w, W w → 0 < w) ∧ ((q = 0 ∧ ∀ w, ¬ W w) ∨ (W q ∧ ∀ w, W w → q ≤ w))
def lwr (q p : Nat) : Nat := if 0 < p ∧ (q = 0 ∨ p < q) then p else q
theorem LW.iff {W W' : Nat → Prop} {q : Nat} (h : LW W q) (e : ∀ w, W' w ↔ W w) : LW W' q :=
  ⟨fun w q => h.1 w ((e w).mp q), h.2.elim (fun q => .inl ⟨q.1, fun w v => q.2 w ((e w).mp v)⟩) (fun q => .inr ⟨(e _).mpr q.1, fun w v => q.2 w ((e w).mp v)⟩)⟩
theorem LW.uniq {W : Nat → Prop} {q q' : Nat} (h : LW W q) (h' : LW W q') : q = q' := by
  rcases h.2 with ⟨rfl, h1⟩ | ⟨h1, h2⟩ <;> rcases h'.2 with ⟨rfl, h3⟩ | ⟨h3, h4⟩
  · rfl
  · exact absurd h3 (h1 _)
  · exact absurd h1 (h3 _)
  · exact Nat.le_antisymm (h2 _ h3) (h4 _ h1)
theorem LW.step {W : Nat → Prop} {q p : Nat} (h : LW W q) : LW (fun w => W w ∨ (0 < p ∧ w = p)) (lwr q p) := by
  refine ⟨fun w => by rintro (v | ⟨v, rfl⟩); exact (h.1 _ v); exact (v), ?_⟩
  unfold lwr
  by_cases hp : 0 < p
  · rcases h.2 with ⟨rfl, h1⟩ | ⟨h1, h2⟩
    · rw [if_pos ⟨hp, .inl rfl⟩]
      exact .inr ⟨.inr ⟨hp, rfl⟩, fun w => by rintro (v | ⟨v, rfl⟩); exact (absurd v (h1 _)); exact (Nat.le_refl _)⟩
    · have := h.1 _ h1
      by_cases hq : p < q
      · rw [if_pos ⟨hp, .inr hq⟩]
        exact .inr ⟨.inr ⟨hp, rfl⟩, fun w => by rintro (v | ⟨v, rfl⟩); exact (by have := h2 _ v; omega); exact (Nat.le_refl _)⟩
      · rw [if_neg (by omega)]
        exact .inr ⟨.inl h1, fun w => by rintro (v | ⟨v, rfl⟩); exact (h2 _ v); exact (by omega)⟩
  · rw [if_neg (by omega)]
    rcases h.2 with ⟨rfl, h1⟩ | ⟨h1, h2⟩
    · exact .inl ⟨rfl, fun w => by rintro (v | ⟨v, rfl⟩); exact (h1 _ v); exact (hp v)⟩
    · exact .inr ⟨.inl h1, fun w => by rintro (v | ⟨v, rfl⟩); exact (h2 _ v); exact (absurd v hp)⟩
theorem lwr_le {q p : Nat} (h : q ≤ 5000) (h2 : p ≤ 5000) : lwr q p ≤ 5000 := by unfold lwr; split <;> omega
section
variable {G L F : Nat} {M P : Nat → Nat → Nat} {lf lt lm lq mM mP bs : Nat → Int32}
theorem lower_v {q p : Nat} (h : q ≤ 5000) (h2 : p ≤ 5000) : f_X4_lowerPrice F (nI q) (nI p) = some (nI (lwr q p)) := by
  unfold lwr
  by_cases hp : 0 < p
  · by_cases hq : q = 0
    · rw [if_pos ⟨hp, .inl hq⟩]; simp (disch := omega) only [f_X4_lowerPrice, f_X4_lowerPrice_b13, f_X4_lowerPrice_b17, f_X4_lowerPrice_b18, ll_le, ll_lt, ll_eq, lr_le, lr_lt, lr_eq, ll_add, lr_add, ll_mul, lr_mul, nI_add, pk_mul, nI_leI, nI_ltI, nI_eq, ll_sub, pk_sub, lm_add, rd_n, rd_l, wr_n, wr_l, lm_ne, lm_ne', lm_lt, lm_le, m1_lt, m1_le, m1_le0, m1_lt0, m1_0, m1_0', l1_0, gd_0, gd_1, gd_T, or_true, true_or, false_or, or_false, nle_T, nle_F, nlt_T, nlt_F, neq_T, neq_F, ↓reduceIte, ne_eq, not_true_eq_false, not_false_eq_true, bd1_s, bd2_s, bd3_s, bd4_s, bd5_s, bd6_s, bd7_s, bd8_s, bd9_s, bd10_s, bd11_s, bd12_s, bd13_s, bd14_s, bd15_s, bd16_s, bd17_s, bd18_s, bd19_s, bd20_s, bd21_s, bd22_s, bd23_s, bd24_s, bd25_s]
    · by_cases hq : p < q
      · rw [if_pos ⟨hp, .inr hq⟩]; simp (disch := omega) only [f_X4_lowerPrice, f_X4_lowerPrice_b13, f_X4_lowerPrice_b17, f_X4_lowerPrice_b18, ll_le, ll_lt, ll_eq, lr_le, lr_lt, lr_eq, ll_add, lr_add, ll_mul, lr_mul, nI_add, pk_mul, nI_leI, nI_ltI, nI_eq, ll_sub, pk_sub, lm_add, rd_n, rd_l, wr_n, wr_l, lm_ne, lm_ne', lm_lt, lm_le, m1_lt, m1_le, m1_le0, m1_lt0, m1_0, m1_0', l1_0, gd_0, gd_1, gd_T, or_true, true_or, false_or, or_false, nle_T, nle_F, nlt_T, nlt_F, neq_T, neq_F, ↓reduceIte, ne_eq, not_true_eq_false, not_false_eq_true, bd1_s, bd2_s, bd3_s, bd4_s, bd5_s, bd6_s, bd7_s, bd8_s, bd9_s, bd10_s, bd11_s, bd12_s, bd13_s, bd14_s, bd15_s, bd16_s, bd17_s, bd18_s, bd19_s, bd20_s, bd21_s, bd22_s, bd23_s, bd24_s, bd25_s]
      · rw [if_neg (by omega)]; simp (disch := omega) only [f_X4_lowerPrice, f_X4_lowerPrice_b13, f_X4_lowerPrice_b17, f_X4_lowerPrice_b18, ll_le, ll_lt, ll_eq, lr_le, lr_lt, lr_eq, ll_add, lr_add, ll_mul, lr_mul, nI_add, pk_mul, nI_leI, nI_ltI, nI_eq, ll_sub, pk_sub, lm_add, rd_n, rd_l, wr_n, wr_l, lm_ne, lm_ne', lm_lt, lm_le, m1_lt, m1_le, m1_le0, m1_lt0, m1_0, m1_0', l1_0, gd_0, gd_1, gd_T, or_true, true_or, false_or, or_false, nle_T, nle_F, nlt_T, nlt_F, neq_T, neq_F, ↓reduceIte, ne_eq, not_true_eq_false, not_false_eq_true, bd1_s, bd2_s, bd3_s, bd4_s, bd5_s, bd6_s, bd7_s, bd8_s, bd9_s, bd10_s, bd11_s, bd12_s, bd13_s, bd14_s, bd15_s, bd16_s, bd17_s, bd18_s, bd19_s, bd20_s, bd21_s, bd22_s, bd23_s, bd24_s, bd25_s]
  · rw [if_neg (by omega)]; simp (disch := omega) only [f_X4_lowerPrice, f_X4_lowerPrice_b13, f_X4_lowerPrice_b17, f_X4_lowerPrice_b18, ll_le, ll_lt, ll_eq, lr_le, lr_lt, lr_eq, ll_add, lr_add, ll_mul, lr_mul, nI_add, pk_mul, nI_leI, nI_ltI, nI_eq, ll_sub, pk_sub, lm_add, rd_n, rd_l, wr_n, wr_l, lm_ne, lm_ne', lm_lt, lm_le, m1_lt, m1_le, m1_le0, m1_lt0, m1_0, m1_0', l1_0, gd_0, gd_1, gd_T, or_true, true_or, false_or, or_false, nle_T, nle_F, nlt_T, nlt_F, neq_T, neq_F, ↓reduceIte, ne_eq, not_true_eq_false, not_false_eq_true, bd1_s, bd2_s, bd3_s, bd4_s, bd5_s, bd6_s, bd7_s, bd8_s, bd9_s, bd10_s, bd11_s, bd12_s, bd13_s, bd14_s, bd15_s, bd16_s, bd17_s, bd18_s, bd19_s, bd20_s, bd21_s, bd22_s, bd23_s, bd24_s, bd25_s]
def WG (P : Nat → Nat → Nat) (g n w : Nat) : Prop := 0 < w ∧ ∃ a, a < n ∧ (P g a = w ∨ P a g = w)
theorem low4_v (h : NM G L M P lf lt lm lq mM mP) (hG : G ≤ 10) {g : Nat} (hg : g < G) (hF : 100 ≤ F) : Ok (f_X4_lowestPriceAt F (nI g) (nI G) mP) (fun r => ∃ q, q ≤ 5000 ∧ r = nI q ∧ LW (WG P g G) q) := by
  unfold f_X4_lowestPriceAt f_X4_lowestPriceAt_L4
  refine lp_inv (fun i z => ∃ q, q ≤ 5000 ∧ z = (nI g, nI q, nI i) ∧ LW (WG P g i) q) G ?_ ?_ (by omega) ⟨0, by omega, rfl, fun w v => v.1, .inl ⟨rfl, fun w v => by obtain ⟨-, a, ha, -⟩ := v; omega⟩⟩
  · rintro i z k hi ⟨q, hq, rfl, hW⟩ hk
    have b1 := h.b hg hi
    have b2 := h.b hi hg
    have hh := hk (nI g, nI (lwr (lwr q (P g i)) (P i g)), nI (i + 1)) ⟨_, lwr_le (lwr_le hq b1.2.1) b2.2.1, rfl, (hW.step.step).iff (fun w => by
      unfold WG
      constructor
      · rintro ⟨w0, a, ha, wa⟩
        by_cases hai : a = i
        · subst hai
          rcases wa with wa | wa
          · exact .inl (.inr ⟨by omega, wa.symm⟩)
          · exact .inr ⟨by omega, wa.symm⟩
        · exact .inl (.inl ⟨w0, a, by omega, wa⟩)
      · rintro ((⟨w0, a, ha, wa⟩ | ⟨w0, rfl⟩) | ⟨w0, rfl⟩)
        · exact ⟨w0, a, by omega, wa⟩
        · exact ⟨w0, i, by omega, .inl rfl⟩
        · exact ⟨w0, i, by omega, .inr rfl⟩)⟩
    have b3 := lwr_le hq b1.2.1
    simp (disch := omega) only [f_X4_lowestPriceAt_h4, po_M h, lower_v, ll_le, ll_lt, ll_eq, lr_le, lr_lt, lr_eq, ll_add, lr_add, ll_mul, lr_mul, nI_add, pk_mul, nI_leI, nI_ltI, nI_eq, ll_sub, pk_sub, lm_add, rd_n, rd_l, wr_n, wr_l, lm_ne, lm_ne', lm_lt, lm_le, m1_lt, m1_le, m1_le0, m1_lt0, m1_0, m1_0', l1_0, gd_0, gd_1, gd_T, or_true, true_or, false_or, or_false, nle_T, nle_F, nlt_T, nlt_F, neq_T, neq_F, ↓reduceIte, ne_eq, not_true_eq_false, not_false_eq_true, bd1_s, bd2_s, bd3_s, bd4_s, bd5_s, bd6_s, bd7_s, bd8_s, bd9_s, bd10_s, bd11_s, bd12_s, bd13_s, bd14_s, bd15_s, bd16_s, bd17_s, bd18_s, bd19_s, bd20_s, bd21_s, bd22_s, bd23_s, bd24_s, bd25_s]
    exact hh
  · rintro z k ⟨q, hq, rfl, hW⟩
    refine ⟨nI q, ?_, q, hq, rfl, hW⟩
    simp (disch := omega) only [f_X4_lowestPriceAt_h4, ll_le, ll_lt, ll_eq, lr_le, lr_lt, lr_eq, ll_add, lr_add, ll_mul, lr_mul, nI_add, pk_mul, nI_leI, nI_ltI, nI_eq, ll_sub, pk_sub, lm_add, rd_n, rd_l, wr_n, wr_l, lm_ne, lm_ne', lm_lt, lm_le, m1_lt, m1_le, m1_le0, m1_lt0, m1_0, m1_0', l1_0, gd_0, gd_1, gd_T, or_true, true_or, false_or, or_false, nle_T, nle_F, nlt_T, nlt_F, neq_T, neq_F, ↓reduceIte, ne_eq, not_true_eq_false, not_false_eq_true, bd1_s, bd2_s, bd3_s, bd4_s, bd5_s, bd6_s, bd7_s, bd8_s, bd9_s, bd10_s, bd11_s, bd12_s, bd13_s, bd14_s, bd15_s, bd16_s, bd17_s, bd18_s, bd19_s, bd20_s, bd21_s, bd22_s, bd23_s, bd24_s, bd25_s]
theorem low_v (h : NM G L M P lf lt lm lq mM mP) (hL : bs 1 = nI L) (hL2 : L ≤ 24) (hG : G ≤ 10) {g : Nat} (hg : g < G) (hF : 100 ≤ F) : Ok (f_X10_lowestAt F (nI g) bs lf lq lt) (fun r => ∃ q, q ≤ 5000 ∧ r = nI q ∧ LW (WG P g G) q) := by
  unfold f_X10_lowestAt f_X10_lowestAt_L4
  refine lp_inv (fun i z => ∃ q, q ≤ 5000 ∧ z = (nI g, nI q, nI i) ∧ LW (fun w => ∃ a b, a < G ∧ b < G ∧ (a = g ∨ b = g) ∧ 0 < M a b ∧ w = P a b ∧ ∃ k, k < i ∧ lf k = nI a ∧ lt k = nI b) q) L ?_ ?_ (by omega) ⟨0, by omega, rfl, fun w => (by rintro ⟨a, b, -, -, -, -, -, k, q, -⟩; omega), .inl ⟨rfl, fun w => by rintro ⟨a, b, -, -, -, -, -, k, q, -⟩; omega⟩⟩
  · rintro i z k hi ⟨q, hq, rfl, hW⟩ hk
    obtain ⟨x, y, hx, hy, hxy, f1, f2, f3, f4⟩ := h.2.1 i hi
    have b1 := h.b hx hy
    by_cases hc : x = g ∨ y = g
    · have hW2 : LW (fun w => ∃ a b, a < G ∧ b < G ∧ (a = g ∨ b = g) ∧ 0 < M a b ∧ w = P a b ∧ ∃ k, k < i + 1 ∧ lf k = nI a ∧ lt k = nI b) (lwr q (P x y)) := (hW.step (p := P x y)).iff (fun w => by
        constructor
        · rintro ⟨a, b, ha, hb, hab, hm, rfl, k, hk, k1, k2⟩
          by_cases hki : k = i
          · subst hki
            have e1 : x = a := (nI_eq (by omega) (by omega)).mp (f1.symm.trans k1)
            have e2 : y = b := (nI_eq (by omega) (by omega)).mp (f2.symm.trans k2)
            subst e1 e2
            exact .inr ⟨by omega, rfl⟩
          · exact .inl ⟨a, b, ha, hb, hab, hm, rfl, k, by omega, k1, k2⟩
        · rintro (⟨a, b, ha, hb, hab, hm, rfl, k, hk, k1, k2⟩ | ⟨v, rfl⟩)
          · exact ⟨a, b, ha, hb, hab, hm, rfl, k, by omega, k1, k2⟩
          · exact ⟨x, y, hx, hy, hc, hxy, rfl, i, by omega, f1, f2⟩)
      have hh := hk (nI g, nI (lwr q (P x y)), nI (i + 1)) ⟨_, lwr_le hq b1.2.1, rfl, hW2⟩
      have e34 : f_X10_lowestAt_b34 F k bs lf lq lt (nI g) (nI q) (nI i) = k (nI g, nI (lwr q (P x y)), nI (i + 1)) := by
        unfold lwr
        by_cases h0 : q = 0
        · rw [if_pos ⟨by omega, .inl h0⟩]
          simp (disch := omega) only [f_X10_lowestAt_b34, f_X10_lowestAt_b48, f_X10_lowestAt_b55, f4, ll_le, ll_lt, ll_eq, lr_le, lr_lt, lr_eq, ll_add, lr_add, ll_mul, lr_mul, nI_add, pk_mul, nI_leI, nI_ltI, nI_eq, ll_sub, pk_sub, lm_add, rd_n, rd_l, wr_n, wr_l, lm_ne, lm_ne', lm_lt, lm_le, m1_lt, m1_le, m1_le0, m1_lt0, m1_0, m1_0', l1_0, gd_0, gd_1, gd_T, or_true, true_or, false_or, or_false, nle_T, nle_F, nlt_T, nlt_F, neq_T, neq_F, ↓reduceIte, ne_eq, not_true_eq_false, not_false_eq_true, bd1_s, bd2_s, bd3_s, bd4_s, bd5_s, bd6_s, bd7_s, bd8_s, bd9_s, bd10_s, bd11_s, bd12_s, bd13_s, bd14_s, bd15_s, bd16_s, bd17_s, bd18_s, bd19_s, bd20_s, bd21_s, bd22_s, bd23_s, bd24_s, bd25_s]
        · by_cases h1 : P x y < q
          · rw [if_pos ⟨by omega, .inr h1⟩]
            simp (disch := omega) only [f_X10_lowestAt_b34, f_X10_lowestAt_b48, f_X10_lowestAt_b55, f4, ll_le, ll_lt, ll_eq, lr_le, lr_lt, lr_eq, ll_add, lr_add, ll_mul, lr_mul, nI_add, pk_mul, nI_leI, nI_ltI, nI_eq, ll_sub, pk_sub, lm_add, rd_n, rd_l, wr_n, wr_l, lm_ne, lm_ne', lm_lt, lm_le, m1_lt, m1_le, m1_le0, m1_lt0, m1_0, m1_0', l1_0, gd_0, gd_1, gd_T, or_true, true_or, false_or, or_false, nle_T, nle_F, nlt_T, nlt_F, neq_T, neq_F, ↓reduceIte, ne_eq, not_true_eq_false, not_false_eq_true, bd1_s, bd2_s, bd3_s, bd4_s, bd5_s, bd6_s, bd7_s, bd8_s, bd9_s, bd10_s, bd11_s, bd12_s, bd13_s, bd14_s, bd15_s, bd16_s, bd17_s, bd18_s, bd19_s, bd20_s, bd21_s, bd22_s, bd23_s, bd24_s, bd25_s]
          · rw [if_neg (by omega)]
            simp (disch := omega) only [f_X10_lowestAt_b34, f_X10_lowestAt_b48, f_X10_lowestAt_b55, f4, ll_le, ll_lt, ll_eq, lr_le, lr_lt, lr_eq, ll_add, lr_add, ll_mul, lr_mul, nI_add, pk_mul, nI_leI, nI_ltI, nI_eq, ll_sub, pk_sub, lm_add, rd_n, rd_l, wr_n, wr_l, lm_ne, lm_ne', lm_lt, lm_le, m1_lt, m1_le, m1_le0, m1_lt0, m1_0, m1_0', l1_0, gd_0, gd_1, gd_T, or_true, true_or, false_or, or_false, nle_T, nle_F, nlt_T, nlt_F, neq_T, neq_F, ↓reduceIte, ne_eq, not_true_eq_false, not_false_eq_true, bd1_s, bd2_s, bd3_s, bd4_s, bd5_s, bd6_s, bd7_s, bd8_s, bd9_s, bd10_s, bd11_s, bd12_s, bd13_s, bd14_s, bd15_s, bd16_s, bd17_s, bd18_s, bd19_s, bd20_s, bd21_s, bd22_s, bd23_s, bd24_s, bd25_s]
      by_cases hc1 : x = g
      · simp (disch := omega) only [f_X10_lowestAt_h4, hL, f1, f2, e34, ll_le, ll_lt, ll_eq, lr_le, lr_lt, lr_eq, ll_add, lr_add, ll_mul, lr_mul, nI_add, pk_mul, nI_leI, nI_ltI, nI_eq, ll_sub, pk_sub, lm_add, rd_n, rd_l, wr_n, wr_l, lm_ne, lm_ne', lm_lt, lm_le, m1_lt, m1_le, m1_le0, m1_lt0, m1_0, m1_0', l1_0, gd_0, gd_1, gd_T, or_true, true_or, false_or, or_false, nle_T, nle_F, nlt_T, nlt_F, neq_T, neq_F, ↓reduceIte, ne_eq, not_true_eq_false, not_false_eq_true, bd1_s, bd2_s, bd3_s, bd4_s, bd5_s, bd6_s, bd7_s, bd8_s, bd9_s, bd10_s, bd11_s, bd12_s, bd13_s, bd14_s, bd15_s, bd16_s, bd17_s, bd18_s, bd19_s, bd20_s, bd21_s, bd22_s, bd23_s, bd24_s, bd25_s]
        exact hh
      · have hc2 : y = g := hc.resolve_left hc1
        simp (disch := omega) only [f_X10_lowestAt_h4, hL, f1, f2, e34, ll_le, ll_lt, ll_eq, lr_le, lr_lt, lr_eq, ll_add, lr_add, ll_mul, lr_mul, nI_add, pk_mul, nI_leI, nI_ltI, nI_eq, ll_sub, pk_sub, lm_add, rd_n, rd_l, wr_n, wr_l, lm_ne, lm_ne', lm_lt, lm_le, m1_lt, m1_le, m1_le0, m1_lt0, m1_0, m1_0', l1_0, gd_0, gd_1, gd_T, or_true, true_or, false_or, or_false, nle_T, nle_F, nlt_T, nlt_F, neq_T, neq_F, ↓reduceIte, ne_eq, not_true_eq_false, not_false_eq_true, bd1_s, bd2_s, bd3_s, bd4_s, bd5_s, bd6_s, bd7_s, bd8_s, bd9_s, bd10_s, bd11_s, bd12_s, bd13_s, bd14_s, bd15_s, bd16_s, bd17_s, bd18_s, bd19_s, bd20_s, bd21_s, bd22_s, bd23_s, bd24_s, bd25_s]
        exact hh
    · have hh := hk (nI g, nI q, nI (i + 1)) ⟨_, hq, rfl, hW.iff (fun w => by
        constructor
        · rintro ⟨a, b, ha, hb, hab, hm, rfl, k, hk, k1, k2⟩
          by_cases hki : k = i
          · subst hki
            have e1 : x = a := (nI_eq (by omega) (by omega)).mp (f1.symm.trans k1)
            have e2 : y = b := (nI_eq (by omega) (by omega)).mp (f2.symm.trans k2)
            subst e1 e2
            exact absurd hab hc
          · exact ⟨a, b, ha, hb, hab, hm, rfl, k, by omega, k1, k2⟩
        · rintro ⟨a, b, ha, hb, hab, hm, rfl, k, hk, k1, k2⟩
          exact ⟨a, b, ha, hb, hab, hm, rfl, k, by omega, k1, k2⟩)⟩
      simp (disch := omega) only [f_X10_lowestAt_h4, f_X10_lowestAt_b55, hL, f1, f2, ll_le, ll_lt, ll_eq, lr_le, lr_lt, lr_eq, ll_add, lr_add, ll_mul, lr_mul, nI_add, pk_mul, nI_leI, nI_ltI, nI_eq, ll_sub, pk_sub, lm_add, rd_n, rd_l, wr_n, wr_l, lm_ne, lm_ne', lm_lt, lm_le, m1_lt, m1_le, m1_le0, m1_lt0, m1_0, m1_0', l1_0, gd_0, gd_1, gd_T, or_true, true_or, false_or, or_false, nle_T, nle_F, nlt_T, nlt_F, neq_T, neq_F, ↓reduceIte, ne_eq, not_true_eq_false, not_false_eq_true, bd1_s, bd2_s, bd3_s, bd4_s, bd5_s, bd6_s, bd7_s, bd8_s, bd9_s, bd10_s, bd11_s, bd12_s, bd13_s, bd14_s, bd15_s, bd16_s, bd17_s, bd18_s, bd19_s, bd20_s, bd21_s, bd22_s, bd23_s, bd24_s, bd25_s]
      exact hh
  · rintro z k ⟨q, hq, rfl, hW⟩
    refine ⟨nI q, ?_, q, hq, rfl, hW.iff (fun w => ?_)⟩
    · simp (disch := omega) only [f_X10_lowestAt_h4, hL, ll_le, ll_lt, ll_eq, lr_le, lr_lt, lr_eq, ll_add, lr_add, ll_mul, lr_mul, nI_add, pk_mul, nI_leI, nI_ltI, nI_eq, ll_sub, pk_sub, lm_add, rd_n, rd_l, wr_n, wr_l, lm_ne, lm_ne', lm_lt, lm_le, m1_lt, m1_le, m1_le0, m1_lt0, m1_0, m1_0', l1_0, gd_0, gd_1, gd_T, or_true, true_or, false_or, or_false, nle_T, nle_F, nlt_T, nlt_F, neq_T, neq_F, ↓reduceIte, ne_eq, not_true_eq_false, not_false_eq_true, bd1_s, bd2_s, bd3_s, bd4_s, bd5_s, bd6_s, bd7_s, bd8_s, bd9_s, bd10_s, bd11_s, bd12_s, bd13_s, bd14_s, bd15_s, bd16_s, bd17_s, bd18_s, bd19_s, bd20_s, bd21_s, bd22_s, bd23_s, bd24_s, bd25_s]
    · unfold WG
      constructor
      · rintro ⟨w0, a, ha, rfl | rfl⟩
        · have := h.b hg ha
          exact ⟨g, a, hg, ha, .inl rfl, by omega, rfl, h.2.2 g a hg ha (by omega)⟩
        · have := h.b ha hg
          exact ⟨a, g, ha, hg, .inr rfl, by omega, rfl, h.2.2 a g ha hg (by omega)⟩
      · rintro ⟨a, b, ha, hb, rfl | rfl, hm, rfl, -⟩
        · have := h.b ha hb
          exact ⟨by omega, b, hb, .inl rfl⟩
        · have := h.b ha hb
          exact ⟨by omega, a, ha, .inr rfl⟩
theorem same_low (h : NM G L M P lf lt lm lq mM mP) (hL : bs 1 = nI L) (hL2 : L ≤ 24) (hG : G ≤ 10) {g : Nat} (hg : g < G) (hF : 100 ≤ F) : ∃ q, q ≤ 5000 ∧ f_X4_lowestPriceAt F (nI g) (nI G) mP = some (nI q) ∧ f_X10_lowestAt F (nI g) bs lf lq lt = some (nI q) := by
  obtain ⟨r1, e1, q1, h1, rfl, w1⟩ := low4_v (F := F) h hG hg hF
  obtain ⟨r2, e2, q2, h2, rfl, w2⟩ := low_v (F := F) h hL hL2 hG hg hF
  have := w1.uniq w2
  subst this
  exact ⟨q1, h1, e1, e2⟩
end
