/-! readings: the passage that is joined, or begun -/
def lst (S : Nat → Int32) (g l : Int32) : Nat → Option Nat
  | 0 => none
  | n + 1 => if S (4 + 25 * n + 0) = g ∧ S (4 + 25 * n + 1) = l then some n else lst S g l n
theorem lst_lt {S : Nat → Int32} {g l : Int32} : ∀ {n p : Nat}, lst S g l n = some p → p < n
  | 0, _, h => by simp [lst] at h
  | n + 1, p, h => by
    unfold lst at h
    split at h
    · cases h; omega
    · have := lst_lt h; omega
def JC (S : Nat → Int32) (w b : Nat) (x4 : Int32) (p : Nat) : Prop := S (4 + 25 * p + 3) = 0 ∧ nI b - S (4 + 25 * p + 2) ≤ nI w ∧ (x4 = -1 ∨ S (4 + 25 * p + 4) - 1 = -1 ∨ S (4 + 25 * p + 4) - 1 = x4)
noncomputable def jnI (S : Nat → Int32) (w b : Nat) (x4 : Int32) (o : Option Nat) : Int32 := match o with
  | none => -1
  | some p => @ite _ (JC S w b x4 p) (Classical.propDecidable _) (nI p) (-1)
theorem jnI_y {S : Nat → Int32} {w b p : Nat} {x4 : Int32} (h : JC S w b x4 p) : jnI S w b x4 (some p) = nI p := if_pos h
theorem jnI_n {S : Nat → Int32} {w b p : Nat} {x4 : Int32} (h : ¬ JC S w b x4 p) : jnI S w b x4 (some p) = -1 := if_neg h
section
variable {F n G T : Nat} {gn ln cn tn wn cf fn th : Int32} {mM mP ca' cp' tp' ta' bs lf lt lm lq ca cp tp ta : Nat → Int32} {ctn cvn : Int32} {cam civ cpd cpa cpl csb cvc : Nat → Int32} {ccn cln : Int32} {cax cga chx chp cla cps crp cst ctg cti ctr : Nat → Int32} {S hi : Nat → Int32} {nx dp dq : Int32} {ring : Nat → Option Nat} {zr : Nat → LT} {a l b w c : Nat} {x4 : Int32}
theorem tm_iff {a2 : Nat} (h2 : a2 < 100000) (hb : b ≤ 99999) (hw : w ≤ 10) : (nI a2 < nI b - nI w) ↔ ¬ (nI b - nI a2 ≤ nI w) := by
  rw [i32_lt, i32_le, pk_sub_toInt (by omega) (by omega), pk_sub_toInt (by omega) (by omega), nI_toInt (by omega), nI_toInt (by omega)]
  omega
theorem tj_v (hR : ∀ p, p < c → PRow n G T p cax cga chx chp cla cps crp cst ctg cti ctr S) (hc : c ≤ 80) (hb : b ≤ 99999) (hw : w ≤ 10) (hF : 100 ≤ F) : f_X6_toJoin F (nI a) (nI l) (nI b - nI w) x4 (nI c) cga cla cst ctg cti = some (jnI S w b x4 (lst S (nI a) (nI l) c)) := by
  unfold f_X6_toJoin f_X6_toJoin_L8
  have h : ∀ m, m ≤ c → ∀ F', m < F' → lp (fun k z => f_X6_toJoin_h8 F (nI c) cga cla cst ctg cti k z.1 z.2.1 z.2.2.1 z.2.2.2.1 z.2.2.2.2) F' (nI a, nI l, nI b - nI w, x4, nI m + (-1)) = some (jnI S w b x4 (lst S (nI a) (nI l) m)) := by
    intro m
    induction m with
    | zero => intro _ F' hF'; cases F' with
      | zero => omega
      | succ F' =>
        have e : nI 0 + (-1) = -1 := by decide
        rw [e]
        show f_X6_toJoin_h8 F (nI c) cga cla cst ctg cti _ (nI a) (nI l) (nI b - nI w) x4 (-1) = some (-1)
        simp (disch := omega) only [f_X6_toJoin_h8, ll_le, ll_lt, ll_eq, lr_le, lr_lt, lr_eq, ll_add, lr_add, ll_mul, lr_mul, nI_add, pk_mul, nI_leI, nI_ltI, nI_eq, ll_sub, pk_sub, lm_add, rd_n, rd_l, wr_n, wr_l, lm_ne, lm_ne', lm_lt, lm_le, m1_lt, m1_le, m1_le0, m1_lt0, m1_0, m1_0', l1_0, gd_0, gd_1, gd_T, or_true, true_or, false_or, or_false, nle_T, nle_F, nlt_T, nlt_F, neq_T, neq_F, ↓reduceIte, ne_eq, not_true_eq_false, not_false_eq_true, bd1_s, bd2_s, bd3_s, bd4_s, bd5_s, bd6_s, bd7_s, bd8_s, bd9_s, bd10_s, bd11_s, bd12_s, bd13_s, bd14_s, bd15_s, bd16_s, bd17_s, bd18_s, bd19_s, bd20_s, bd21_s, bd22_s, bd23_s, bd24_s, bd25_s]
    | succ m ih => intro hm F' hF'; cases F' with
      | zero => omega
      | succ F' =>
        rw [pk_m1]
        show f_X6_toJoin_h8 F (nI c) cga cla cst ctg cti _ (nI a) (nI l) (nI b - nI w) x4 (nI m) = _
        obtain ⟨p0, p1, p2, p3, p4, p5, -⟩ := hR m (by omega)
        have ih' := ih (by omega) F' (by omega)
        by_cases c1 : S (4 + 25 * m + 0) = nI a
        · by_cases c2 : S (4 + 25 * m + 1) = nI l
          · have e : lst S (nI a) (nI l) (m + 1) = some m := if_pos ⟨c1, c2⟩
            rw [e]
            have g1 : cga m = nI a := p1.trans c1
            have g2 : cla m = nI l := p2.trans c2
            obtain ⟨-, -, ⟨a2, t1, t2⟩, -⟩ := p0
            dsimp only at t2
            have tm : (cti m < nI b - nI w) ↔ ¬ (nI b - S (4 + 25 * m + 2) ≤ nI w) := by rw [p3, t2]; exact tm_iff t1 hb hw
            refine (?_ : ∀ kk, f_X6_toJoin_h8 F (nI c) cga cla cst ctg cti kk (nI a) (nI l) (nI b - nI w) x4 (nI m) = some (jnI S w b x4 (some m))) _
            intro kk
            by_cases c3 : S (4 + 25 * m + 3) = 0
            · have g3 : cst m = 0 := p4.trans c3
              by_cases c4 : nI b - S (4 + 25 * m + 2) ≤ nI w
              · have g4 : ¬ cti m < nI b - nI w := fun w => (tm.mp w) c4
                by_cases c5 : x4 = -1
                · rw [jnI_y ⟨c3, c4, .inl c5⟩]
                  simp (disch := omega) only [f_X6_toJoin_h8, f_X6_toJoin_b68, f_X6_toJoin_b69, f_X6_toJoin_b103, g1, g2, g3, g4, c5, ll_le, ll_lt, ll_eq, lr_le, lr_lt, lr_eq, ll_add, lr_add, ll_mul, lr_mul, nI_add, pk_mul, nI_leI, nI_ltI, nI_eq, ll_sub, pk_sub, lm_add, rd_n, rd_l, wr_n, wr_l, lm_ne, lm_ne', lm_lt, lm_le, m1_lt, m1_le, m1_le0, m1_lt0, m1_0, m1_0', l1_0, gd_0, gd_1, gd_T, or_true, true_or, false_or, or_false, nle_T, nle_F, nlt_T, nlt_F, neq_T, neq_F, ↓reduceIte, ne_eq, not_true_eq_false, not_false_eq_true, bd1_s, bd2_s, bd3_s, bd4_s, bd5_s, bd6_s, bd7_s, bd8_s, bd9_s, bd10_s, bd11_s, bd12_s, bd13_s, bd14_s, bd15_s, bd16_s, bd17_s, bd18_s, bd19_s, bd20_s, bd21_s, bd22_s, bd23_s, bd24_s, bd25_s]
                · by_cases c6 : S (4 + 25 * m + 4) - 1 = -1
                  · rw [jnI_y ⟨c3, c4, .inr (.inl c6)⟩]
                    have g6 : ctg m = -1 := p5.trans c6
                    simp (disch := omega) only [f_X6_toJoin_h8, f_X6_toJoin_b68, f_X6_toJoin_b69, f_X6_toJoin_b103, g1, g2, g3, g4, c5, g6, ll_le, ll_lt, ll_eq, lr_le, lr_lt, lr_eq, ll_add, lr_add, ll_mul, lr_mul, nI_add, pk_mul, nI_leI, nI_ltI, nI_eq, ll_sub, pk_sub, lm_add, rd_n, rd_l, wr_n, wr_l, lm_ne, lm_ne', lm_lt, lm_le, m1_lt, m1_le, m1_le0, m1_lt0, m1_0, m1_0', l1_0, gd_0, gd_1, gd_T, or_true, true_or, false_or, or_false, nle_T, nle_F, nlt_T, nlt_F, neq_T, neq_F, ↓reduceIte, ne_eq, not_true_eq_false, not_false_eq_true, bd1_s, bd2_s, bd3_s, bd4_s, bd5_s, bd6_s, bd7_s, bd8_s, bd9_s, bd10_s, bd11_s, bd12_s, bd13_s, bd14_s, bd15_s, bd16_s, bd17_s, bd18_s, bd19_s, bd20_s, bd21_s, bd22_s, bd23_s, bd24_s, bd25_s]
                  · have g6 : ¬ ctg m = -1 := by rw [p5]; exact c6
                    by_cases c7 : S (4 + 25 * m + 4) - 1 = x4
                    · rw [jnI_y ⟨c3, c4, .inr (.inr c7)⟩]
                      have g7 : ctg m = x4 := p5.trans c7
                      simp (disch := omega) only [f_X6_toJoin_h8, f_X6_toJoin_b68, f_X6_toJoin_b69, f_X6_toJoin_b103, g1, g2, g3, g4, c5, g7, ll_le, ll_lt, ll_eq, lr_le, lr_lt, lr_eq, ll_add, lr_add, ll_mul, lr_mul, nI_add, pk_mul, nI_leI, nI_ltI, nI_eq, ll_sub, pk_sub, lm_add, rd_n, rd_l, wr_n, wr_l, lm_ne, lm_ne', lm_lt, lm_le, m1_lt, m1_le, m1_le0, m1_lt0, m1_0, m1_0', l1_0, gd_0, gd_1, gd_T, or_true, true_or, false_or, or_false, nle_T, nle_F, nlt_T, nlt_F, neq_T, neq_F, ↓reduceIte, ne_eq, not_true_eq_false, not_false_eq_true, bd1_s, bd2_s, bd3_s, bd4_s, bd5_s, bd6_s, bd7_s, bd8_s, bd9_s, bd10_s, bd11_s, bd12_s, bd13_s, bd14_s, bd15_s, bd16_s, bd17_s, bd18_s, bd19_s, bd20_s, bd21_s, bd22_s, bd23_s, bd24_s, bd25_s]
                    · rw [jnI_n (fun w => w.2.2.elim c5 (fun w => w.elim c6 c7))]
                      have g7 : ¬ ctg m = x4 := by rw [p5]; exact c7
                      simp (disch := omega) only [f_X6_toJoin_h8, f_X6_toJoin_b68, f_X6_toJoin_b69, f_X6_toJoin_b103, f_X6_toJoin_b102, g1, g2, g3, g4, c5, g6, g7, ll_le, ll_lt, ll_eq, lr_le, lr_lt, lr_eq, ll_add, lr_add, ll_mul, lr_mul, nI_add, pk_mul, nI_leI, nI_ltI, nI_eq, ll_sub, pk_sub, lm_add, rd_n, rd_l, wr_n, wr_l, lm_ne, lm_ne', lm_lt, lm_le, m1_lt, m1_le, m1_le0, m1_lt0, m1_0, m1_0', l1_0, gd_0, gd_1, gd_T, or_true, true_or, false_or, or_false, nle_T, nle_F, nlt_T, nlt_F, neq_T, neq_F, ↓reduceIte, ne_eq, not_true_eq_false, not_false_eq_true, bd1_s, bd2_s, bd3_s, bd4_s, bd5_s, bd6_s, bd7_s, bd8_s, bd9_s, bd10_s, bd11_s, bd12_s, bd13_s, bd14_s, bd15_s, bd16_s, bd17_s, bd18_s, bd19_s, bd20_s, bd21_s, bd22_s, bd23_s, bd24_s, bd25_s]
              · have g4 : cti m < nI b - nI w := tm.mpr c4
                rw [jnI_n (fun w => c4 w.2.1)]
                by_cases c5 : x4 = -1
                · simp (disch := omega) only [f_X6_toJoin_h8, f_X6_toJoin_b68, f_X6_toJoin_b69, f_X6_toJoin_b103, f_X6_toJoin_b102, g1, g2, g3, g4, c5, ll_le, ll_lt, ll_eq, lr_le, lr_lt, lr_eq, ll_add, lr_add, ll_mul, lr_mul, nI_add, pk_mul, nI_leI, nI_ltI, nI_eq, ll_sub, pk_sub, lm_add, rd_n, rd_l, wr_n, wr_l, lm_ne, lm_ne', lm_lt, lm_le, m1_lt, m1_le, m1_le0, m1_lt0, m1_0, m1_0', l1_0, gd_0, gd_1, gd_T, or_true, true_or, false_or, or_false, nle_T, nle_F, nlt_T, nlt_F, neq_T, neq_F, ↓reduceIte, ne_eq, not_true_eq_false, not_false_eq_true, bd1_s, bd2_s, bd3_s, bd4_s, bd5_s, bd6_s, bd7_s, bd8_s, bd9_s, bd10_s, bd11_s, bd12_s, bd13_s, bd14_s, bd15_s, bd16_s, bd17_s, bd18_s, bd19_s, bd20_s, bd21_s, bd22_s, bd23_s, bd24_s, bd25_s]
                · by_cases g6 : ctg m = -1
                  · simp (disch := omega) only [f_X6_toJoin_h8, f_X6_toJoin_b68, f_X6_toJoin_b69, f_X6_toJoin_b103, f_X6_toJoin_b102, g1, g2, g3, g4, c5, g6, ll_le, ll_lt, ll_eq, lr_le, lr_lt, lr_eq, ll_add, lr_add, ll_mul, lr_mul, nI_add, pk_mul, nI_leI, nI_ltI, nI_eq, ll_sub, pk_sub, lm_add, rd_n, rd_l, wr_n, wr_l, lm_ne, lm_ne', lm_lt, lm_le, m1_lt, m1_le, m1_le0, m1_lt0, m1_0, m1_0', l1_0, gd_0, gd_1, gd_T, or_true, true_or, false_or, or_false, nle_T, nle_F, nlt_T, nlt_F, neq_T, neq_F, ↓reduceIte, ne_eq, not_true_eq_false, not_false_eq_true, bd1_s, bd2_s, bd3_s, bd4_s, bd5_s, bd6_s, bd7_s, bd8_s, bd9_s, bd10_s, bd11_s, bd12_s, bd13_s, bd14_s, bd15_s, bd16_s, bd17_s, bd18_s, bd19_s, bd20_s, bd21_s, bd22_s, bd23_s, bd24_s, bd25_s]
                  · by_cases g7 : ctg m = x4
                    · simp (disch := omega) only [f_X6_toJoin_h8, f_X6_toJoin_b68, f_X6_toJoin_b69, f_X6_toJoin_b103, f_X6_toJoin_b102, g1, g2, g3, g4, c5, g7, ll_le, ll_lt, ll_eq, lr_le, lr_lt, lr_eq, ll_add, lr_add, ll_mul, lr_mul, nI_add, pk_mul, nI_leI, nI_ltI, nI_eq, ll_sub, pk_sub, lm_add, rd_n, rd_l, wr_n, wr_l, lm_ne, lm_ne', lm_lt, lm_le, m1_lt, m1_le, m1_le0, m1_lt0, m1_0, m1_0', l1_0, gd_0, gd_1, gd_T, or_true, true_or, false_or, or_false, nle_T, nle_F, nlt_T, nlt_F, neq_T, neq_F, ↓reduceIte, ne_eq, not_true_eq_false, not_false_eq_true, bd1_s, bd2_s, bd3_s, bd4_s, bd5_s, bd6_s, bd7_s, bd8_s, bd9_s, bd10_s, bd11_s, bd12_s, bd13_s, bd14_s, bd15_s, bd16_s, bd17_s, bd18_s, bd19_s, bd20_s, bd21_s, bd22_s, bd23_s, bd24_s, bd25_s]
                    · simp (disch := omega) only [f_X6_toJoin_h8, f_X6_toJoin_b68, f_X6_toJoin_b69, f_X6_toJoin_b103, f_X6_toJoin_b102, g1, g2, g3, g4, c5, g6, g7, ll_le, ll_lt, ll_eq, lr_le, lr_lt, lr_eq, ll_add, lr_add, ll_mul, lr_mul, nI_add, pk_mul, nI_leI, nI_ltI, nI_eq, ll_sub, pk_sub, lm_add, rd_n, rd_l, wr_n, wr_l, lm_ne, lm_ne', lm_lt, lm_le, m1_lt, m1_le, m1_le0, m1_lt0, m1_0, m1_0', l1_0, gd_0, gd_1, gd_T, or_true, true_or, false_or, or_false, nle_T, nle_F, nlt_T, nlt_F, neq_T, neq_F, ↓reduceIte, ne_eq, not_true_eq_false, not_false_eq_true, bd1_s, bd2_s, bd3_s, bd4_s, bd5_s, bd6_s, bd7_s, bd8_s, bd9_s, bd10_s, bd11_s, bd12_s, bd13_s, bd14_s, bd15_s, bd16_s, bd17_s, bd18_s, bd19_s, bd20_s, bd21_s, bd22_s, bd23_s, bd24_s, bd25_s]
            · have g3 : ¬ cst m = 0 := by rw [p4]; exact c3
              rw [jnI_n (fun w => c3 w.1)]
              by_cases c5 : x4 = -1
              · simp (disch := omega) only [f_X6_toJoin_h8, f_X6_toJoin_b68, f_X6_toJoin_b69, f_X6_toJoin_b103, f_X6_toJoin_b102, g1, g2, g3, c5, ll_le, ll_lt, ll_eq, lr_le, lr_lt, lr_eq, ll_add, lr_add, ll_mul, lr_mul, nI_add, pk_mul, nI_leI, nI_ltI, nI_eq, ll_sub, pk_sub, lm_add, rd_n, rd_l, wr_n, wr_l, lm_ne, lm_ne', lm_lt, lm_le, m1_lt, m1_le, m1_le0, m1_lt0, m1_0, m1_0', l1_0, gd_0, gd_1, gd_T, or_true, true_or, false_or, or_false, nle_T, nle_F, nlt_T, nlt_F, neq_T, neq_F, ↓reduceIte, ne_eq, not_true_eq_false, not_false_eq_true, bd1_s, bd2_s, bd3_s, bd4_s, bd5_s, bd6_s, bd7_s, bd8_s, bd9_s, bd10_s, bd11_s, bd12_s, bd13_s, bd14_s, bd15_s, bd16_s, bd17_s, bd18_s, bd19_s, bd20_s, bd21_s, bd22_s, bd23_s, bd24_s, bd25_s]
              · by_cases g6 : ctg m = -1
                · simp (disch := omega) only [f_X6_toJoin_h8, f_X6_toJoin_b68, f_X6_toJoin_b69, f_X6_toJoin_b103, f_X6_toJoin_b102, g1, g2, g3, c5, g6, ll_le, ll_lt, ll_eq, lr_le, lr_lt, lr_eq, ll_add, lr_add, ll_mul, lr_mul, nI_add, pk_mul, nI_leI, nI_ltI, nI_eq, ll_sub, pk_sub, lm_add, rd_n, rd_l, wr_n, wr_l, lm_ne, lm_ne', lm_lt, lm_le, m1_lt, m1_le, m1_le0, m1_lt0, m1_0, m1_0', l1_0, gd_0, gd_1, gd_T, or_true, true_or, false_or, or_false, nle_T, nle_F, nlt_T, nlt_F, neq_T, neq_F, ↓reduceIte, ne_eq, not_true_eq_false, not_false_eq_true, bd1_s, bd2_s, bd3_s, bd4_s, bd5_s, bd6_s, bd7_s, bd8_s, bd9_s, bd10_s, bd11_s, bd12_s, bd13_s, bd14_s, bd15_s, bd16_s, bd17_s, bd18_s, bd19_s, bd20_s, bd21_s, bd22_s, bd23_s, bd24_s, bd25_s]
                · by_cases g7 : ctg m = x4
                  · simp (disch := omega) only [f_X6_toJoin_h8, f_X6_toJoin_b68, f_X6_toJoin_b69, f_X6_toJoin_b103, f_X6_toJoin_b102, g1, g2, g3, c5, g7, ll_le, ll_lt, ll_eq, lr_le, lr_lt, lr_eq, ll_add, lr_add, ll_mul, lr_mul, nI_add, pk_mul, nI_leI, nI_ltI, nI_eq, ll_sub, pk_sub, lm_add, rd_n, rd_l, wr_n, wr_l, lm_ne, lm_ne', lm_lt, lm_le, m1_lt, m1_le, m1_le0, m1_lt0, m1_0, m1_0', l1_0, gd_0, gd_1, gd_T, or_true, true_or, false_or, or_false, nle_T, nle_F, nlt_T, nlt_F, neq_T, neq_F, ↓reduceIte, ne_eq, not_true_eq_false, not_false_eq_true, bd1_s, bd2_s, bd3_s, bd4_s, bd5_s, bd6_s, bd7_s, bd8_s, bd9_s, bd10_s, bd11_s, bd12_s, bd13_s, bd14_s, bd15_s, bd16_s, bd17_s, bd18_s, bd19_s, bd20_s, bd21_s, bd22_s, bd23_s, bd24_s, bd25_s]
                  · simp (disch := omega) only [f_X6_toJoin_h8, f_X6_toJoin_b68, f_X6_toJoin_b69, f_X6_toJoin_b103, f_X6_toJoin_b102, g1, g2, g3, c5, g6, g7, ll_le, ll_lt, ll_eq, lr_le, lr_lt, lr_eq, ll_add, lr_add, ll_mul, lr_mul, nI_add, pk_mul, nI_leI, nI_ltI, nI_eq, ll_sub, pk_sub, lm_add, rd_n, rd_l, wr_n, wr_l, lm_ne, lm_ne', lm_lt, lm_le, m1_lt, m1_le, m1_le0, m1_lt0, m1_0, m1_0', l1_0, gd_0, gd_1, gd_T, or_true, true_or, false_or, or_false, nle_T, nle_F, nlt_T, nlt_F, neq_T, neq_F, ↓reduceIte, ne_eq, not_true_eq_false, not_false_eq_true, bd1_s, bd2_s, bd3_s, bd4_s, bd5_s, bd6_s, bd7_s, bd8_s, bd9_s, bd10_s, bd11_s, bd12_s, bd13_s, bd14_s, bd15_s, bd16_s, bd17_s, bd18_s, bd19_s, bd20_s, bd21_s, bd22_s, bd23_s, bd24_s, bd25_s]
          · have e : lst S (nI a) (nI l) (m + 1) = lst S (nI a) (nI l) m := if_neg (fun w => c2 w.2)
            rw [e]
            have g1 : cga m = nI a := p1.trans c1
            have g2 : ¬ cla m = nI l := by rw [p2]; exact c2
            refine Eq.trans ?_ ih'
            unfold f_X6_toJoin_h8 f_X6_toJoin_b104
            rw [if_neg (nI_pos (by omega)), rd_n (by omega) (by decide), if_pos g1, rd_n (by omega) (by decide), if_neg g2]
        · have e : lst S (nI a) (nI l) (m + 1) = lst S (nI a) (nI l) m := if_neg (fun w => c1 w.1)
          rw [e]
          have g1 : ¬ cga m = nI a := by rw [p1]; exact c1
          refine Eq.trans ?_ ih'
          unfold f_X6_toJoin_h8 f_X6_toJoin_b104
          rw [if_neg (nI_pos (by omega)), rd_n (by omega) (by decide), if_neg g1]
  rw [nI_sub1]
  exact h c (Nat.le_refl _) F (by omega)
theorem jo_v (hR : ∀ p, p < c → PWF n G T (fun k => S (4 + 25 * p + k))) (hS : S 0 = nI c) (hw4 : bs 4 = nI w) (hT : T ≤ 12) (hx : x4 = -1 ∨ ∃ k, k < T ∧ x4 = nI k) (hc : c ≤ 80) (hF : 100 ≤ F) : f_X10_joins F (nI a) (nI l) (nI b) x4 bs S = some (jnI S w b x4 (lst S (nI a) (nI l) c)) := by
  unfold f_X10_joins f_X10_joins_L6
  refine lp_at (fun i => (nI a, nI l, nI b, x4, oI (lst S (nI a) (nI l) i), nI i)) c (by omega) rfl (fun i hi k => ?_) (fun k => ?_)
  · by_cases c1 : S (4 + 25 * i + 0) = nI a
    · by_cases c2 : S (4 + 25 * i + 1) = nI l
      · have e : lst S (nI a) (nI l) (i + 1) = some i := if_pos ⟨c1, c2⟩
        simp (disch := omega) only [f_X10_joins_h6, f_X10_joins_b43, hS, ofp_l, c1, c2, e, ll_le, ll_lt, ll_eq, lr_le, lr_lt, lr_eq, ll_add, lr_add, ll_mul, lr_mul, nI_add, pk_mul, nI_leI, nI_ltI, nI_eq, ll_sub, pk_sub, lm_add, rd_n, rd_l, wr_n, wr_l, lm_ne, lm_ne', lm_lt, lm_le, m1_lt, m1_le, m1_le0, m1_lt0, m1_0, m1_0', l1_0, gd_0, gd_1, gd_T, or_true, true_or, false_or, or_false, nle_T, nle_F, nlt_T, nlt_F, neq_T, neq_F, ↓reduceIte, ne_eq, not_true_eq_false, not_false_eq_true, bd1_s, bd2_s, bd3_s, bd4_s, bd5_s, bd6_s, bd7_s, bd8_s, bd9_s, bd10_s, bd11_s, bd12_s, bd13_s, bd14_s, bd15_s, bd16_s, bd17_s, bd18_s, bd19_s, bd20_s, bd21_s, bd22_s, bd23_s, bd24_s, bd25_s]
        all_goals rfl
      · have e : lst S (nI a) (nI l) (i + 1) = lst S (nI a) (nI l) i := if_neg (fun w => c2 w.2)
        simp (disch := omega) only [f_X10_joins_h6, f_X10_joins_b43, hS, ofp_l, c1, c2, e, ll_le, ll_lt, ll_eq, lr_le, lr_lt, lr_eq, ll_add, lr_add, ll_mul, lr_mul, nI_add, pk_mul, nI_leI, nI_ltI, nI_eq, ll_sub, pk_sub, lm_add, rd_n, rd_l, wr_n, wr_l, lm_ne, lm_ne', lm_lt, lm_le, m1_lt, m1_le, m1_le0, m1_lt0, m1_0, m1_0', l1_0, gd_0, gd_1, gd_T, or_true, true_or, false_or, or_false, nle_T, nle_F, nlt_T, nlt_F, neq_T, neq_F, ↓reduceIte, ne_eq, not_true_eq_false, not_false_eq_true, bd1_s, bd2_s, bd3_s, bd4_s, bd5_s, bd6_s, bd7_s, bd8_s, bd9_s, bd10_s, bd11_s, bd12_s, bd13_s, bd14_s, bd15_s, bd16_s, bd17_s, bd18_s, bd19_s, bd20_s, bd21_s, bd22_s, bd23_s, bd24_s, bd25_s]
    · have e : lst S (nI a) (nI l) (i + 1) = lst S (nI a) (nI l) i := if_neg (fun w => c1 w.1)
      simp (disch := omega) only [f_X10_joins_h6, f_X10_joins_b43, hS, ofp_l, c1, e, ll_le, ll_lt, ll_eq, lr_le, lr_lt, lr_eq, ll_add, lr_add, ll_mul, lr_mul, nI_add, pk_mul, nI_leI, nI_ltI, nI_eq, ll_sub, pk_sub, lm_add, rd_n, rd_l, wr_n, wr_l, lm_ne, lm_ne', lm_lt, lm_le, m1_lt, m1_le, m1_le0, m1_lt0, m1_0, m1_0', l1_0, gd_0, gd_1, gd_T, or_true, true_or, false_or, or_false, nle_T, nle_F, nlt_T, nlt_F, neq_T, neq_F, ↓reduceIte, ne_eq, not_true_eq_false, not_false_eq_true, bd1_s, bd2_s, bd3_s, bd4_s, bd5_s, bd6_s, bd7_s, bd8_s, bd9_s, bd10_s, bd11_s, bd12_s, bd13_s, bd14_s, bd15_s, bd16_s, bd17_s, bd18_s, bd19_s, bd20_s, bd21_s, bd22_s, bd23_s, bd24_s, bd25_s]
  · cases e : lst S (nI a) (nI l) c with
    | none =>
      have e1 : oI none = -1 := rfl
      have e2 : jnI S w b x4 none = -1 := rfl
      simp (disch := omega) only [f_X10_joins_h6, f_X10_joins_b82, hS, e1, e2, ll_le, ll_lt, ll_eq, lr_le, lr_lt, lr_eq, ll_add, lr_add, ll_mul, lr_mul, nI_add, pk_mul, nI_leI, nI_ltI, nI_eq, ll_sub, pk_sub, lm_add, rd_n, rd_l, wr_n, wr_l, lm_ne, lm_ne', lm_lt, lm_le, m1_lt, m1_le, m1_le0, m1_lt0, m1_0, m1_0', l1_0, gd_0, gd_1, gd_T, or_true, true_or, false_or, or_false, nle_T, nle_F, nlt_T, nlt_F, neq_T, neq_F, ↓reduceIte, ne_eq, not_true_eq_false, not_false_eq_true, bd1_s, bd2_s, bd3_s, bd4_s, bd5_s, bd6_s, bd7_s, bd8_s, bd9_s, bd10_s, bd11_s, bd12_s, bd13_s, bd14_s, bd15_s, bd16_s, bd17_s, bd18_s, bd19_s, bd20_s, bd21_s, bd22_s, bd23_s, bd24_s, bd25_s]
    | some m =>
      have hm := lst_lt e
      have e1 : oI (some m) = nI m := rfl
      have t4 := tg_cases (hR m hm) hT
      have tl0 : (S (4 + 25 * m + 4) - 1 < 0) ↔ S (4 + 25 * m + 4) - 1 = -1 := by
        rcases t4 with w | ⟨q, q1, w⟩
        · rw [w]; exact ⟨fun _ => rfl, fun _ => by decide⟩
        · rw [w]; exact ⟨fun h => absurd h (nI_pos (by omega)), fun h => absurd h (nI_nm (by omega))⟩
      have xl0 : (x4 < 0) ↔ x4 = -1 := by
        rcases hx with w | ⟨q, q1, w⟩
        · rw [w]; exact ⟨fun _ => rfl, fun _ => by decide⟩
        · rw [w]; exact ⟨fun h => absurd h (nI_pos (by omega)), fun h => absurd h (nI_nm (by omega))⟩
      have hm8 : m < 80 := by omega
      by_cases c3 : S (4 + 25 * m + 3) = 0
      · by_cases c4 : nI b - S (4 + 25 * m + 2) ≤ nI w
        · by_cases c5 : x4 = -1
          · rw [jnI_y ⟨c3, c4, .inl c5⟩]
            simp (disch := omega) only [f_X10_joins_h6, f_X10_joins_b113, f_X10_joins_b115, hS, e1, ofp_l, c3, c4, hw4, c5, ll_le, ll_lt, ll_eq, lr_le, lr_lt, lr_eq, ll_add, lr_add, ll_mul, lr_mul, nI_add, pk_mul, nI_leI, nI_ltI, nI_eq, ll_sub, pk_sub, lm_add, rd_n, rd_l, wr_n, wr_l, lm_ne, lm_ne', lm_lt, lm_le, m1_lt, m1_le, m1_le0, m1_lt0, m1_0, m1_0', l1_0, gd_0, gd_1, gd_T, or_true, true_or, false_or, or_false, nle_T, nle_F, nlt_T, nlt_F, neq_T, neq_F, ↓reduceIte, ne_eq, not_true_eq_false, not_false_eq_true, bd1_s, bd2_s, bd3_s, bd4_s, bd5_s, bd6_s, bd7_s, bd8_s, bd9_s, bd10_s, bd11_s, bd12_s, bd13_s, bd14_s, bd15_s, bd16_s, bd17_s, bd18_s, bd19_s, bd20_s, bd21_s, bd22_s, bd23_s, bd24_s, bd25_s]
          · have n5 : ¬ x4 < 0 := fun w => c5 (xl0.mp w)
            by_cases c6 : S (4 + 25 * m + 4) - 1 = -1
            · rw [jnI_y ⟨c3, c4, .inr (.inl c6)⟩]
              simp (disch := omega) only [f_X10_joins_h6, f_X10_joins_b113, f_X10_joins_b115, hS, e1, ofp_l, c3, c4, hw4, n5, to_v, c6, ll_le, ll_lt, ll_eq, lr_le, lr_lt, lr_eq, ll_add, lr_add, ll_mul, lr_mul, nI_add, pk_mul, nI_leI, nI_ltI, nI_eq, ll_sub, pk_sub, lm_add, rd_n, rd_l, wr_n, wr_l, lm_ne, lm_ne', lm_lt, lm_le, m1_lt, m1_le, m1_le0, m1_lt0, m1_0, m1_0', l1_0, gd_0, gd_1, gd_T, or_true, true_or, false_or, or_false, nle_T, nle_F, nlt_T, nlt_F, neq_T, neq_F, ↓reduceIte, ne_eq, not_true_eq_false, not_false_eq_true, bd1_s, bd2_s, bd3_s, bd4_s, bd5_s, bd6_s, bd7_s, bd8_s, bd9_s, bd10_s, bd11_s, bd12_s, bd13_s, bd14_s, bd15_s, bd16_s, bd17_s, bd18_s, bd19_s, bd20_s, bd21_s, bd22_s, bd23_s, bd24_s, bd25_s]
            · have n6 : ¬ S (4 + 25 * m + 4) - 1 < 0 := fun w => c6 (tl0.mp w)
              by_cases c7 : S (4 + 25 * m + 4) - 1 = x4
              · rw [jnI_y ⟨c3, c4, .inr (.inr c7)⟩]
                rw [c7] at n6
                simp (disch := omega) only [f_X10_joins_h6, f_X10_joins_b113, f_X10_joins_b115, hS, e1, ofp_l, c3, c4, hw4, n5, to_v, c7, ll_le, ll_lt, ll_eq, lr_le, lr_lt, lr_eq, ll_add, lr_add, ll_mul, lr_mul, nI_add, pk_mul, nI_leI, nI_ltI, nI_eq, ll_sub, pk_sub, lm_add, rd_n, rd_l, wr_n, wr_l, lm_ne, lm_ne', lm_lt, lm_le, m1_lt, m1_le, m1_le0, m1_lt0, m1_0, m1_0', l1_0, gd_0, gd_1, gd_T, or_true, true_or, false_or, or_false, nle_T, nle_F, nlt_T, nlt_F, neq_T, neq_F, ↓reduceIte, ne_eq, not_true_eq_false, not_false_eq_true, bd1_s, bd2_s, bd3_s, bd4_s, bd5_s, bd6_s, bd7_s, bd8_s, bd9_s, bd10_s, bd11_s, bd12_s, bd13_s, bd14_s, bd15_s, bd16_s, bd17_s, bd18_s, bd19_s, bd20_s, bd21_s, bd22_s, bd23_s, bd24_s, bd25_s]
              · rw [jnI_n (fun w => w.2.2.elim c5 (fun w => w.elim c6 c7))]
                simp (disch := omega) only [f_X10_joins_h6, f_X10_joins_b113, f_X10_joins_b115, hS, e1, ofp_l, c3, c4, hw4, n5, to_v, n6, c7, ll_le, ll_lt, ll_eq, lr_le, lr_lt, lr_eq, ll_add, lr_add, ll_mul, lr_mul, nI_add, pk_mul, nI_leI, nI_ltI, nI_eq, ll_sub, pk_sub, lm_add, rd_n, rd_l, wr_n, wr_l, lm_ne, lm_ne', lm_lt, lm_le, m1_lt, m1_le, m1_le0, m1_lt0, m1_0, m1_0', l1_0, gd_0, gd_1, gd_T, or_true, true_or, false_or, or_false, nle_T, nle_F, nlt_T, nlt_F, neq_T, neq_F, ↓reduceIte, ne_eq, not_true_eq_false, not_false_eq_true, bd1_s, bd2_s, bd3_s, bd4_s, bd5_s, bd6_s, bd7_s, bd8_s, bd9_s, bd10_s, bd11_s, bd12_s, bd13_s, bd14_s, bd15_s, bd16_s, bd17_s, bd18_s, bd19_s, bd20_s, bd21_s, bd22_s, bd23_s, bd24_s, bd25_s]
        · rw [jnI_n (fun w => c4 w.2.1)]
          simp (disch := omega) only [f_X10_joins_h6, f_X10_joins_b82, hS, e1, ofp_l, c3, c4, hw4, ll_le, ll_lt, ll_eq, lr_le, lr_lt, lr_eq, ll_add, lr_add, ll_mul, lr_mul, nI_add, pk_mul, nI_leI, nI_ltI, nI_eq, ll_sub, pk_sub, lm_add, rd_n, rd_l, wr_n, wr_l, lm_ne, lm_ne', lm_lt, lm_le, m1_lt, m1_le, m1_le0, m1_lt0, m1_0, m1_0', l1_0, gd_0, gd_1, gd_T, or_true, true_or, false_or, or_false, nle_T, nle_F, nlt_T, nlt_F, neq_T, neq_F, ↓reduceIte, ne_eq, not_true_eq_false, not_false_eq_true, bd1_s, bd2_s, bd3_s, bd4_s, bd5_s, bd6_s, bd7_s, bd8_s, bd9_s, bd10_s, bd11_s, bd12_s, bd13_s, bd14_s, bd15_s, bd16_s, bd17_s, bd18_s, bd19_s, bd20_s, bd21_s, bd22_s, bd23_s, bd24_s, bd25_s]
      · rw [jnI_n (fun w => c3 w.1)]
        simp (disch := omega) only [f_X10_joins_h6, f_X10_joins_b82, hS, e1, ofp_l, c3, ll_le, ll_lt, ll_eq, lr_le, lr_lt, lr_eq, ll_add, lr_add, ll_mul, lr_mul, nI_add, pk_mul, nI_leI, nI_ltI, nI_eq, ll_sub, pk_sub, lm_add, rd_n, rd_l, wr_n, wr_l, lm_ne, lm_ne', lm_lt, lm_le, m1_lt, m1_le, m1_le0, m1_lt0, m1_0, m1_0', l1_0, gd_0, gd_1, gd_T, or_true, true_or, false_or, or_false, nle_T, nle_F, nlt_T, nlt_F, neq_T, neq_F, ↓reduceIte, ne_eq, not_true_eq_false, not_false_eq_true, bd1_s, bd2_s, bd3_s, bd4_s, bd5_s, bd6_s, bd7_s, bd8_s, bd9_s, bd10_s, bd11_s, bd12_s, bd13_s, bd14_s, bd15_s, bd16_s, bd17_s, bd18_s, bd19_s, bd20_s, bd21_s, bd22_s, bd23_s, bd24_s, bd25_s]
theorem bg_v (hc : c < 80) (hF : 100 ≤ F) : f_X6_begin F (nI a) (nI l) (nI b) (nI c) cax cga chx chp cla cps crp cst ctg cti ctr = some (nI c, nI (c + 1), spl cax (fun _ => 0) (8 * c) 8, upd cga c (nI a), upd chx c (-1), upd chp c (-1), upd cla c (nI l), spl cps (fun _ => 0) (4 * c) 4, spl crp (fun _ => 0) (4 * c) 4, upd cst c 0, upd ctg c (-1), upd cti c (nI b), upd ctr c (-1)) := by
  simp (disch := omega) only [f_X6_begin, ll_le, ll_lt, ll_eq, lr_le, lr_lt, lr_eq, ll_add, lr_add, ll_mul, lr_mul, nI_add, pk_mul, nI_leI, nI_ltI, nI_eq, ll_sub, pk_sub, lm_add, rd_n, rd_l, wr_n, wr_l, lm_ne, lm_ne', lm_lt, lm_le, m1_lt, m1_le, m1_le0, m1_lt0, m1_0, m1_0', l1_0, gd_0, gd_1, gd_T, or_true, true_or, false_or, or_false, nle_T, nle_F, nlt_T, nlt_F, neq_T, neq_F, ↓reduceIte, ne_eq, not_true_eq_false, not_false_eq_true, bd1_s, bd2_s, bd3_s, bd4_s, bd5_s, bd6_s, bd7_s, bd8_s, bd9_s, bd10_s, bd11_s, bd12_s, bd13_s, bd14_s, bd15_s, bd16_s, bd17_s, bd18_s, bd19_s, bd20_s, bd21_s, bd22_s, bd23_s, bd24_s, bd25_s]
  unfold f_X6_begin_L81
  refine lp_at (fun i => (nI c, nI (4 * c + i), nI c, cax, upd cga c (nI a), upd chx c (-1), upd chp c (-1), upd cla c (nI l), spl cps (fun _ => 0) (4 * c) i, spl crp (fun _ => 0) (4 * c) i, upd cst c 0, upd ctg c (-1), upd cti c (nI b), upd ctr c (-1))) 4 (by omega) ?_ (fun i hi k => ?_) (fun k => ?_)
  · have e : c * 4 = 4 * c + 0 := by omega
    rw [spl_0, spl_0, e]
  · have s1 := spl_s cps (fun _ => 0) (4 * c) i
    have s2 := spl_s crp (fun _ => 0) (4 * c) i
    try dsimp only at s1 s2
    simp (disch := omega) only [f_X6_begin_h81, s1, s2, Nat.add_assoc, ll_le, ll_lt, ll_eq, lr_le, lr_lt, lr_eq, ll_add, lr_add, ll_mul, lr_mul, nI_add, pk_mul, nI_leI, nI_ltI, nI_eq, ll_sub, pk_sub, lm_add, rd_n, rd_l, wr_n, wr_l, lm_ne, lm_ne', lm_lt, lm_le, m1_lt, m1_le, m1_le0, m1_lt0, m1_0, m1_0', l1_0, gd_0, gd_1, gd_T, or_true, true_or, false_or, or_false, nle_T, nle_F, nlt_T, nlt_F, neq_T, neq_F, ↓reduceIte, ne_eq, not_true_eq_false, not_false_eq_true, bd1_s, bd2_s, bd3_s, bd4_s, bd5_s, bd6_s, bd7_s, bd8_s, bd9_s, bd10_s, bd11_s, bd12_s, bd13_s, bd14_s, bd15_s, bd16_s, bd17_s, bd18_s, bd19_s, bd20_s, bd21_s, bd22_s, bd23_s, bd24_s, bd25_s]
  · simp (disch := omega) only [f_X6_begin_h81, ll_le, ll_lt, ll_eq, lr_le, lr_lt, lr_eq, ll_add, lr_add, ll_mul, lr_mul, nI_add, pk_mul, nI_leI, nI_ltI, nI_eq, ll_sub, pk_sub, lm_add, rd_n, rd_l, wr_n, wr_l, lm_ne, lm_ne', lm_lt, lm_le, m1_lt, m1_le, m1_le0, m1_lt0, m1_0, m1_0', l1_0, gd_0, gd_1, gd_T, or_true, true_or, false_or, or_false, nle_T, nle_F, nlt_T, nlt_F, neq_T, neq_F, ↓reduceIte, ne_eq, not_true_eq_false, not_false_eq_true, bd1_s, bd2_s, bd3_s, bd4_s, bd5_s, bd6_s, bd7_s, bd8_s, bd9_s, bd10_s, bd11_s, bd12_s, bd13_s, bd14_s, bd15_s, bd16_s, bd17_s, bd18_s, bd19_s, bd20_s, bd21_s, bd22_s, bd23_s, bd24_s, bd25_s]
    unfold f_X6_begin_L121
    refine lp_at (fun i => (nI c, nI (8 * c + i), nI c, spl cax (fun _ => 0) (8 * c) i, upd cga c (nI a), upd chx c (-1), upd chp c (-1), upd cla c (nI l), spl cps (fun _ => 0) (4 * c) 4, spl crp (fun _ => 0) (4 * c) 4, upd cst c 0, upd ctg c (-1), upd cti c (nI b), upd ctr c (-1))) 8 (by omega) ?_ (fun i hi k => ?_) (fun k => ?_)
    · have e : c * 8 = 8 * c + 0 := by omega
      rw [spl_0, e]
    · have s1 := spl_s cax (fun _ => 0) (8 * c) i
      try dsimp only at s1
      simp (disch := omega) only [f_X6_begin_h121, s1, Nat.add_assoc, ll_le, ll_lt, ll_eq, lr_le, lr_lt, lr_eq, ll_add, lr_add, ll_mul, lr_mul, nI_add, pk_mul, nI_leI, nI_ltI, nI_eq, ll_sub, pk_sub, lm_add, rd_n, rd_l, wr_n, wr_l, lm_ne, lm_ne', lm_lt, lm_le, m1_lt, m1_le, m1_le0, m1_lt0, m1_0, m1_0', l1_0, gd_0, gd_1, gd_T, or_true, true_or, false_or, or_false, nle_T, nle_F, nlt_T, nlt_F, neq_T, neq_F, ↓reduceIte, ne_eq, not_true_eq_false, not_false_eq_true, bd1_s, bd2_s, bd3_s, bd4_s, bd5_s, bd6_s, bd7_s, bd8_s, bd9_s, bd10_s, bd11_s, bd12_s, bd13_s, bd14_s, bd15_s, bd16_s, bd17_s, bd18_s, bd19_s, bd20_s, bd21_s, bd22_s, bd23_s, bd24_s, bd25_s]
    · simp (disch := omega) only [f_X6_begin_h121, ll_le, ll_lt, ll_eq, lr_le, lr_lt, lr_eq, ll_add, lr_add, ll_mul, lr_mul, nI_add, pk_mul, nI_leI, nI_ltI, nI_eq, ll_sub, pk_sub, lm_add, rd_n, rd_l, wr_n, wr_l, lm_ne, lm_ne', lm_lt, lm_le, m1_lt, m1_le, m1_le0, m1_lt0, m1_0, m1_0', l1_0, gd_0, gd_1, gd_T, or_true, true_or, false_or, or_false, nle_T, nle_F, nlt_T, nlt_F, neq_T, neq_F, ↓reduceIte, ne_eq, not_true_eq_false, not_false_eq_true, bd1_s, bd2_s, bd3_s, bd4_s, bd5_s, bd6_s, bd7_s, bd8_s, bd9_s, bd10_s, bd11_s, bd12_s, bd13_s, bd14_s, bd15_s, bd16_s, bd17_s, bd18_s, bd19_s, bd20_s, bd21_s, bd22_s, bd23_s, bd24_s, bd25_s]
def nS (S : Nat → Int32) (c a l b : Nat) : Nat → Int32 := upd (upd (upd (upd (spl (upd S 3 (nI b)) (fun _ => 0) (4 + 25 * c) 25) (4 + 25 * c + 0) (nI a)) (4 + 25 * c + 1) (nI l)) (4 + 25 * c + 2) (nI b)) 0 (nI (c + 1))
theorem nS_o {j : Nat} (h0 : j ≠ 0) (h3 : j ≠ 3) (h : j < 4 + 25 * c ∨ 4 + 25 * c + 25 ≤ j) : nS S c a l b j = S j := by
  unfold nS spl
  rw [upd_at, upd_at, upd_at, upd_at, if_neg h0, if_neg (by omega), if_neg (by omega), if_neg (by omega), if_neg (by omega), upd_at, if_neg h3]
theorem nS_3 : nS S c a l b 3 = nI b := by
  unfold nS spl
  rw [upd_at, upd_at, upd_at, upd_at, if_neg (by omega), if_neg (by omega), if_neg (by omega), if_neg (by omega), if_neg (by omega), upd_at, if_pos rfl]
theorem nS_p {k : Nat} (hk : k < 25) : nS S c a l b (4 + 25 * c + k) = if k = 0 then nI a else if k = 1 then nI l else if k = 2 then nI b else 0 := by
  unfold nS
  rw [upd_at, upd_at, upd_at, upd_at, if_neg (by omega), spl_hi hk]
  by_cases k2 : k = 2
  · subst k2; rw [if_pos rfl, if_neg (by omega), if_neg (by omega), if_pos rfl]
  · rw [if_neg (by omega)]
    by_cases k1 : k = 1
    · subst k1; rw [if_pos rfl, if_neg (by omega), if_pos rfl]
    · rw [if_neg (by omega)]
      by_cases k0 : k = 0
      · subst k0; rw [if_pos rfl, if_pos rfl]
      · rw [if_neg (by omega), if_neg k0, if_neg k1, if_neg k2]
theorem lay10_v {hq : Nat → Int32} (hc : c < 80) (hS : S 0 = nI c) (hF : 100 ≤ F) : f_X10_laysReading_L64 F bs (nI a, nI l, nI b, nI c, 0, 0, dq, hq, upd S 3 (nI b)) = some (nI c, 0, dq, hq, nS S c a l b) := by
  unfold f_X10_laysReading_L64
  refine lp_at (fun i => (nI a, nI l, nI b, nI c, nI i, 0, dq, hq, spl (upd S 3 (nI b)) (fun _ => 0) (4 + 25 * c) i)) 25 (by omega) (by rw [spl_0]; rfl) (fun i hi k => ?_) (fun k => ?_)
  · have s1 := spl_s (upd S 3 (nI b)) (fun _ => 0) (4 + 25 * c) i
    try dsimp only at s1
    simp (disch := omega) only [f_X10_laysReading_h64, sp_v, s1, ll_le, ll_lt, ll_eq, lr_le, lr_lt, lr_eq, ll_add, lr_add, ll_mul, lr_mul, nI_add, pk_mul, nI_leI, nI_ltI, nI_eq, ll_sub, pk_sub, lm_add, rd_n, rd_l, wr_n, wr_l, lm_ne, lm_ne', lm_lt, lm_le, m1_lt, m1_le, m1_le0, m1_lt0, m1_0, m1_0', l1_0, gd_0, gd_1, gd_T, or_true, true_or, false_or, or_false, nle_T, nle_F, nlt_T, nlt_F, neq_T, neq_F, ↓reduceIte, ne_eq, not_true_eq_false, not_false_eq_true, bd1_s, bd2_s, bd3_s, bd4_s, bd5_s, bd6_s, bd7_s, bd8_s, bd9_s, bd10_s, bd11_s, bd12_s, bd13_s, bd14_s, bd15_s, bd16_s, bd17_s, bd18_s, bd19_s, bd20_s, bd21_s, bd22_s, bd23_s, bd24_s, bd25_s]
  · have z0 : upd (upd (upd (spl (upd S 3 (nI b)) (fun _ => 0) (4 + 25 * c) 25) (4 + 25 * c + 0) (nI a)) (4 + 25 * c + 1) (nI l)) (4 + 25 * c + 2) (nI b) 0 = nI c := by
      unfold spl
      rw [upd_at, upd_at, upd_at, if_neg (by omega), if_neg (by omega), if_neg (by omega), if_neg (by omega), upd_at, if_neg (by omega)]; exact hS
    simp (disch := omega) only [f_X10_laysReading_h64, sp_l, z0, ll_le, ll_lt, ll_eq, lr_le, lr_lt, lr_eq, ll_add, lr_add, ll_mul, lr_mul, nI_add, pk_mul, nI_leI, nI_ltI, nI_eq, ll_sub, pk_sub, lm_add, rd_n, rd_l, wr_n, wr_l, lm_ne, lm_ne', lm_lt, lm_le, m1_lt, m1_le, m1_le0, m1_lt0, m1_0, m1_0', l1_0, gd_0, gd_1, gd_T, or_true, true_or, false_or, or_false, nle_T, nle_F, nlt_T, nlt_F, neq_T, neq_F, ↓reduceIte, ne_eq, not_true_eq_false, not_false_eq_true, bd1_s, bd2_s, bd3_s, bd4_s, bd5_s, bd6_s, bd7_s, bd8_s, bd9_s, bd10_s, bd11_s, bd12_s, bd13_s, bd14_s, bd15_s, bd16_s, bd17_s, bd18_s, bd19_s, bd20_s, bd21_s, bd22_s, bd23_s, bd24_s, bd25_s]
    all_goals rfl
end
