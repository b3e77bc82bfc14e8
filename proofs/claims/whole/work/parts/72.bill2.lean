/-! previews and bills -/
theorem cnt1_dis {A B C : Nat → Prop} {dA : ∀ k, Decidable (A k)} {dB : ∀ k, Decidable (B k)} {dC : ∀ k, Decidable (C k)} : ∀ {n : Nat}, (∀ k, k < n → A k → B k → False) → (∀ k, k < n → A k → C k) → (∀ k, k < n → B k → C k) → cnt1 A dA n + cnt1 B dB n ≤ cnt1 C dC n
  | 0, _, _, _ => Nat.le_refl 0
  | n + 1, h, h1, h2 => by
    have ih := cnt1_dis (dA := dA) (dB := dB) (dC := dC) (n := n) (fun k hk => h k (by omega)) (fun k hk => h1 k (by omega)) (fun k hk => h2 k (by omega))
    show (cnt1 A dA n + (if A n then 1 else 0)) + (cnt1 B dB n + (if B n then 1 else 0)) ≤ cnt1 C dC n + (if C n then 1 else 0)
    by_cases ha : A n
    · have hb : ¬ B n := fun w => h n (by omega) ha w
      rw [if_pos ha, if_neg hb, if_pos (h1 n (by omega) ha)]; omega
    · by_cases hb : B n
      · rw [if_neg ha, if_pos hb, if_pos (h2 n (by omega) hb)]; omega
      · rw [if_neg ha, if_neg hb]; omega
section
variable {T c tN vN tN1 iN1 : Nat} {S zi zA zC zp tf tp ip : Nat → Int32}
theorem bS_lo {k : Nat} (h80 : tN + tN1 ≤ 80) (hc : c ≤ 80) (hk : k < 2004 + 5 * tN) (h1 : k ≠ 1) (h2 : k ≠ 2) : bS S zi zA zC zp tf T tp ip c tN vN tN1 iN1 k = bS1 S tf (nI tN) c k := by
  unfold bS
  rw [upd_at, upd_at, if_neg h2, if_neg h1, bS3_o (by omega), bS2_o h80 (.inl hk)]
theorem bS_p {p w : Nat} (h80 : tN + tN1 ≤ 80) (hc : c ≤ 80) (hp : p < 80) (hw : w < 25) : bS S zi zA zC zp tf T tp ip c tN vN tN1 iN1 (4 + 25 * p + w) = if p < c ∧ 0 ≤ tf p ∧ w = 3 then 1 else if p < c ∧ 0 ≤ tf p ∧ w = 24 then (nI tN + tf p) + 1 else S (4 + 25 * p + w) := by
  rw [bS_lo h80 hc (by omega) (by omega) (by omega), bS1_p hw]
theorem bS_o {k : Nat} (h80 : tN + tN1 ≤ 80) (hc : c ≤ 80) (hk : k < 4 ∨ (2004 ≤ k ∧ k < 2004 + 5 * tN)) (h1 : k ≠ 1) (h2 : k ≠ 2) : bS S zi zA zC zp tf T tp ip c tN vN tN1 iN1 k = S k := by
  rw [bS_lo h80 hc (by omega) h1 h2, bS1_o hc (by omega)]
theorem bS_t {t w : Nat} (h80 : tN + tN1 ≤ 80) (ht : t < tN1) (hw : w < 5) : bS S zi zA zC zp tf T tp ip c tN vN tN1 iN1 (2004 + 5 * (tN + t) + w) = bS2 (bS1 S tf (nI tN) c) zi zA zC zp (nI vN) tN tN1 (2004 + 5 * (tN + t) + w) := by
  unfold bS
  rw [upd_at, upd_at, if_neg (by omega), if_neg (by omega), bS3_o (by omega)]
theorem bS_i {k : Nat} (h80 : tN + tN1 ≤ 80) (hc : c ≤ 80) (h1 : 2404 ≤ k) (h2 : k < 2404 + 3 * vN) : bS S zi zA zC zp tf T tp ip c tN vN tN1 iN1 k = S k := by
  unfold bS
  rw [upd_at, upd_at, if_neg (by omega), if_neg (by omega), bS3_o h2, bS2_o h80 (.inr h1), bS1_o hc (by omega)]
theorem bS_j {i w : Nat} : bS S zi zA zC zp tf T tp ip c tN vN tN1 iN1 (2404 + 3 * (vN + i) + w) = bS3 (bS2 (bS1 S tf (nI tN) c) zi zA zC zp (nI vN) tN tN1) T tp ip vN iN1 (2404 + 3 * (vN + i) + w) := by
  unfold bS
  rw [upd_at, upd_at, if_neg (by omega), if_neg (by omega)]
end
section
variable {F n G T : Nat} {gn ln cn tn wn cf fn th : Int32} {mM mP ca' cp' tp' ta' bs lf lt lm lq ca cp tp ta : Nat → Int32} {ctn cvn : Int32} {cam civ cpd cpa cpl csb cvc : Nat → Int32} {ccn cln : Int32} {cax cga chx chp cla cps crp cst ctg cti ctr : Nat → Int32} {S hi : Nat → Int32} {nx dp dq : Int32} {ring : Nat → Option Nat} {zr : Nat → LT}
theorem q_previewTrips (p : Int32) (t0 i0 : Int32) (xip xlp xtr xtA xce xcn xtI xtl xv : Nat → Int32) (lk pr : Int32) (s : Nat → Int32) (rm rc n0 m0 : Int32) (nA nC ni np nv route tried tf : Nat → Int32) (hN : NR gn ln cn tn wn cf fn mM mP ca' cp' tp' ta' bs lf lt lm lq ca cp tp ta G T) (hL : LR n G T tp ctn cvn cam civ cpd cpa cpl csb cvc ccn cln cax cga chx chp cla cps crp cst ctg cti ctr S) (hn : n ≤ 600) (hF : 100 ≤ F) :
    ∃ (x : Nat) (r r' t' : Int32) (t1 i1 : Int32) (yip ylp ytr ytA yce ycn ytI ytl yv : Nat → Int32) (lk1 pr1 : Int32) (s1 : Nat → Int32) (rm1 rc1 n1 m1 : Int32) (zA zC zi zp zv route1 tried1 tf1 : Nat → Int32), f_X9_previewTrips F p ccn cax cga chx chp cps crp cst ctg cti gn cn tn cf ca' cp' mM mP ta' tp' t0 i0 xip xlp xtr xtA xce xcn xtI xtl xv lk pr s = some (x, r, t1, i1, yip, ylp, ytr, ytA, yce, ycn, ytI, ytl, yv, lk1, pr1, s1) ∧ f_X10_previewTrips F p th rm rc n0 m0 bs ca cp lf lm lq lt nA nC ni np nv route S ta tp tried tf = some (r', t', rm1, rc1, n1, m1, zA, zC, zi, zp, zv, route1, tried1, tf1) ∧ AX [1] x r r' t' := by
  obtain ⟨L, C, w, c5, fe, M, P, rfl, rfl, rfl, rfl, rfl, rfl, rfl, N1, N2, N3, N4, N5, N6, N7, N8, N9, N10, N11⟩ := id hN
  obtain ⟨c, tN, vN, lt0, K1, L1, L2, K2, L3, L4, L5, L6, L7⟩ := id hL
  subst K1
  have hT := N10.2.2.2.1
  have htp : ∀ k, k < T → tp' k = tp k := fun k hk => (N10.2.2.2.2.2.1 k hk).1
  have E : BEnv n G L C T c c5 M P bs lf lt lm lq mM mP ca ta tp ca' ta' tp' cax cga chx chp cla cps crp cst ctg cti ctr S := ⟨by omega, L1, L2, N1, N2, N6, N9, N10, L5⟩
  rcases rg_cases p 0 99999 (by omega) with ⟨j, -, j2, rfl⟩ | h
  · have wi : f_X10_within F (nI j).toInt64 0 99999 = some 1 := rg_1 (F := F) (p := nI j) (a := 0) (b := 99999) (by omega) (by omega) (by rw [nI_toInt (by omega)]; omega) (by rw [nI_toInt (by omega)]; omega)
    obtain ⟨_, _, w1, w2, tN1, iN1, ip, lp, tr, tA, ce, cn, tI, tl, v, lk1, pr1, s1, rm1, rc1, zA, zC, zi, zp, zv, route1, tried1, tf1, rt, rfl, rfl, hJ, hi1, hce, -⟩ := plan_two (cut := nI j) E hF N11 t0 i0 xip xlp xtr xtA xce xcn xtI xtl xv lk pr s rm rc n0 m0 nA nC ni np nv route tried tf
    have htc := hJ.lec
    refine ⟨0, nI tN1, nI tN1, 0, nI tN1, nI iN1, ip, lp, tr, tA, ce, cn, tI, tl, v, lk1, pr1, s1, rm1, rc1, nI tN1, nI iN1, zA, zC, zi, zp, zv, route1, tried1, tf1, ?_, ?_, AX.ok⟩
    · simp (disch := omega) only [f_X9_previewTrips, rqt_1 j2, w1, ll_le, ll_lt, ll_eq, lr_le, lr_lt, lr_eq, ll_add, lr_add, ll_mul, lr_mul, nI_add, pk_mul, nI_leI, nI_ltI, nI_eq, ll_sub, pk_sub, lm_add, rd_n, rd_l, wr_n, wr_l, lm_ne, lm_ne', lm_lt, lm_le, m1_lt, m1_le, m1_le0, m1_lt0, m1_0, m1_0', l1_0, gd_0, gd_1, gd_T, or_true, true_or, false_or, or_false, nle_T, nle_F, nlt_T, nlt_F, neq_T, neq_F, ↓reduceIte, ne_eq, not_true_eq_false, not_false_eq_true, bd1_s, bd2_s, bd3_s, bd4_s, bd5_s, bd6_s, bd7_s, bd8_s, bd9_s, bd10_s, bd11_s, bd12_s, bd13_s, bd14_s, bd15_s, bd16_s, bd17_s, bd18_s, bd19_s, bd20_s, bd21_s, bd22_s, bd23_s, bd24_s, bd25_s]
      all_goals rfl
    · simp (disch := omega) only [f_X10_previewTrips, wi, w2, ll_le, ll_lt, ll_eq, lr_le, lr_lt, lr_eq, ll_add, lr_add, ll_mul, lr_mul, nI_add, pk_mul, nI_leI, nI_ltI, nI_eq, ll_sub, pk_sub, lm_add, rd_n, rd_l, wr_n, wr_l, lm_ne, lm_ne', lm_lt, lm_le, m1_lt, m1_le, m1_le0, m1_lt0, m1_0, m1_0', l1_0, gd_0, gd_1, gd_T, or_true, true_or, false_or, or_false, nle_T, nle_F, nlt_T, nlt_F, neq_T, neq_F, ↓reduceIte, ne_eq, not_true_eq_false, not_false_eq_true, bd1_s, bd2_s, bd3_s, bd4_s, bd5_s, bd6_s, bd7_s, bd8_s, bd9_s, bd10_s, bd11_s, bd12_s, bd13_s, bd14_s, bd15_s, bd16_s, bd17_s, bd18_s, bd19_s, bd20_s, bd21_s, bd22_s, bd23_s, bd24_s, bd25_s]
  · have wi : f_X10_within F p.toInt64 0 99999 = some 0 := rg_0 (F := F) (p := p) (a := 0) (b := 99999) (by omega) (by omega) h
    refine ⟨1, 0, 0, 1, t0, i0, xip, xlp, xtr, xtA, xce, xcn, xtI, xtl, xv, lk, pr, s, rm, rc, n0, m0, nA, nC, ni, np, nv, route, tried, tf, ?_, ?_, AX.th (by decide) (by decide) (by decide)⟩
    · simp (disch := omega) only [f_X9_previewTrips, rqt_0 h, ll_le, ll_lt, ll_eq, lr_le, lr_lt, lr_eq, ll_add, lr_add, ll_mul, lr_mul, nI_add, pk_mul, nI_leI, nI_ltI, nI_eq, ll_sub, pk_sub, lm_add, rd_n, rd_l, wr_n, wr_l, lm_ne, lm_ne', lm_lt, lm_le, m1_lt, m1_le, m1_le0, m1_lt0, m1_0, m1_0', l1_0, gd_0, gd_1, gd_T, or_true, true_or, false_or, or_false, nle_T, nle_F, nlt_T, nlt_F, neq_T, neq_F, ↓reduceIte, ne_eq, not_true_eq_false, not_false_eq_true, bd1_s, bd2_s, bd3_s, bd4_s, bd5_s, bd6_s, bd7_s, bd8_s, bd9_s, bd10_s, bd11_s, bd12_s, bd13_s, bd14_s, bd15_s, bd16_s, bd17_s, bd18_s, bd19_s, bd20_s, bd21_s, bd22_s, bd23_s, bd24_s, bd25_s]
      all_goals rfl
    · simp (disch := omega) only [f_X10_previewTrips, wi, f_X10_fail, ll_le, ll_lt, ll_eq, lr_le, lr_lt, lr_eq, ll_add, lr_add, ll_mul, lr_mul, nI_add, pk_mul, nI_leI, nI_ltI, nI_eq, ll_sub, pk_sub, lm_add, rd_n, rd_l, wr_n, wr_l, lm_ne, lm_ne', lm_lt, lm_le, m1_lt, m1_le, m1_le0, m1_lt0, m1_0, m1_0', l1_0, gd_0, gd_1, gd_T, or_true, true_or, false_or, or_false, nle_T, nle_F, nlt_T, nlt_F, neq_T, neq_F, ↓reduceIte, ne_eq, not_true_eq_false, not_false_eq_true, bd1_s, bd2_s, bd3_s, bd4_s, bd5_s, bd6_s, bd7_s, bd8_s, bd9_s, bd10_s, bd11_s, bd12_s, bd13_s, bd14_s, bd15_s, bd16_s, bd17_s, bd18_s, bd19_s, bd20_s, bd21_s, bd22_s, bd23_s, bd24_s, bd25_s]
theorem q_previewTotal (p : Int32) (t0 i0 : Int32) (xip xlp xtr xtA xce xcn xtI xtl xv : Nat → Int32) (lk pr : Int32) (s : Nat → Int32) (rm rc n0 m0 : Int32) (nA nC ni np nv route tried tf : Nat → Int32) (hN : NR gn ln cn tn wn cf fn mM mP ca' cp' tp' ta' bs lf lt lm lq ca cp tp ta G T) (hL : LR n G T tp ctn cvn cam civ cpd cpa cpl csb cvc ccn cln cax cga chx chp cla cps crp cst ctg cti ctr S) (hn : n ≤ 600) (hF : 100 ≤ F) :
    ∃ (x : Nat) (r r' t' : Int32) (t1 i1 : Int32) (yip ylp ytr ytA yce ycn ytI ytl yv : Nat → Int32) (lk1 pr1 : Int32) (s1 : Nat → Int32) (rm1 rc1 n1 m1 : Int32) (zA zC zi zp zv route1 tried1 tf1 : Nat → Int32), f_X9_previewTotal F p ccn cax cga chx chp cps crp cst ctg cti gn cn tn cf fn ca' cp' mM mP ta' tp' t0 i0 xip xlp xtr xtA xce xcn xtI xtl xv lk pr s = some (x, r, t1, i1, yip, ylp, ytr, ytA, yce, ycn, ytI, ytl, yv, lk1, pr1, s1) ∧ f_X10_previewTotal F p th rm rc n0 m0 bs ca cp lf lm lq lt nA nC ni np nv route S ta tp tried tf = some (r', t', rm1, rc1, n1, m1, zA, zC, zi, zp, zv, route1, tried1, tf1) ∧ AX [1] x r r' t' := by
  obtain ⟨L, C, w, c5, fe, M, P, rfl, rfl, rfl, rfl, rfl, rfl, rfl, N1, N2, N3, N4, N5, N6, N7, N8, N9, N10, N11⟩ := id hN
  obtain ⟨c, tN, vN, lt0, K1, L1, L2, K2, L3, L4, L5, L6, L7⟩ := id hL
  subst K1
  have hT := N10.2.2.2.1
  have htp : ∀ k, k < T → tp' k = tp k := fun k hk => (N10.2.2.2.2.2.1 k hk).1
  have E : BEnv n G L C T c c5 M P bs lf lt lm lq mM mP ca ta tp ca' ta' tp' cax cga chx chp cla cps crp cst ctg cti ctr S := ⟨by omega, L1, L2, N1, N2, N6, N9, N10, L5⟩
  rcases rg_cases p 0 99999 (by omega) with ⟨j, -, j2, rfl⟩ | h
  · have wi : f_X10_within F (nI j).toInt64 0 99999 = some 1 := rg_1 (F := F) (p := nI j) (a := 0) (b := 99999) (by omega) (by omega) (by rw [nI_toInt (by omega)]; omega) (by rw [nI_toInt (by omega)]; omega)
    obtain ⟨_, _, w1, w2, tN1, iN1, ip, lp, tr, tA, ce, cn, tI, tl, v, lk1, pr1, s1, rm1, rc1, zA, zC, zi, zp, zv, route1, tried1, tf1, rt, rfl, rfl, hJ, hi1, hce, -⟩ := plan_two (cut := nI j) E hF N11 t0 i0 xip xlp xtr xtA xce xcn xtI xtl xv lk pr s rm rc n0 m0 nA nC ni np nv route tried tf
    have htc := hJ.lec
    have p0 := pt0_v (F := F) (tN := tN1) (iN := iN1) (ip := ip) (ce := ce) (fe := nI fe) hT.1 (by omega) (by omega) htp hF
    have p10 := pt10_v (F := F) (bs := bs) (ca := ca) (cp := cp) (lf := lf) (lm := lm) (lq := lq) (lt := lt) (S := S) (ta := ta) (ip := ip) (nA := zA) (nC := zC) (ni := zi) (np := zp) (route := route1) (tried := tried1) (tf := tf1) (rm := rm1) (rc := rc1) hT (tN := tN1) (by omega) (by omega) hJ.2.2.2 N8 hF
    refine ⟨0, sm0 (fun i => feI T tp (nI fe) (ip i)) iN1 + sm0 ce tN1, sm0 zA tN1 + sm0 (fun i => feI T tp (nI fe) (ip i)) iN1, 0, nI tN1, nI iN1, ip, lp, tr, tA, ce, cn, tI, tl, v, lk1, pr1, s1, rm1, rc1, nI tN1, nI iN1, zA, zC, zi, zp, zv, route1, tried1, tf1, ?_, ?_, AX.ok' ?_⟩
    · simp (disch := omega) only [f_X9_previewTotal, rqt_1 j2, w1, p0, ll_le, ll_lt, ll_eq, lr_le, lr_lt, lr_eq, ll_add, lr_add, ll_mul, lr_mul, nI_add, pk_mul, nI_leI, nI_ltI, nI_eq, ll_sub, pk_sub, lm_add, rd_n, rd_l, wr_n, wr_l, lm_ne, lm_ne', lm_lt, lm_le, m1_lt, m1_le, m1_le0, m1_lt0, m1_0, m1_0', l1_0, gd_0, gd_1, gd_T, or_true, true_or, false_or, or_false, nle_T, nle_F, nlt_T, nlt_F, neq_T, neq_F, ↓reduceIte, ne_eq, not_true_eq_false, not_false_eq_true, bd1_s, bd2_s, bd3_s, bd4_s, bd5_s, bd6_s, bd7_s, bd8_s, bd9_s, bd10_s, bd11_s, bd12_s, bd13_s, bd14_s, bd15_s, bd16_s, bd17_s, bd18_s, bd19_s, bd20_s, bd21_s, bd22_s, bd23_s, bd24_s, bd25_s]
      all_goals rfl
    · simp (disch := omega) only [f_X10_previewTotal, wi, w2, p10, ll_le, ll_lt, ll_eq, lr_le, lr_lt, lr_eq, ll_add, lr_add, ll_mul, lr_mul, nI_add, pk_mul, nI_leI, nI_ltI, nI_eq, ll_sub, pk_sub, lm_add, rd_n, rd_l, wr_n, wr_l, lm_ne, lm_ne', lm_lt, lm_le, m1_lt, m1_le, m1_le0, m1_lt0, m1_0, m1_0', l1_0, gd_0, gd_1, gd_T, or_true, true_or, false_or, or_false, nle_T, nle_F, nlt_T, nlt_F, neq_T, neq_F, ↓reduceIte, ne_eq, not_true_eq_false, not_false_eq_true, bd1_s, bd2_s, bd3_s, bd4_s, bd5_s, bd6_s, bd7_s, bd8_s, bd9_s, bd10_s, bd11_s, bd12_s, bd13_s, bd14_s, bd15_s, bd16_s, bd17_s, bd18_s, bd19_s, bd20_s, bd21_s, bd22_s, bd23_s, bd24_s, bd25_s]
    · rw [sm0_congr (f := zA) (g := ce) (fun t ht => (hce t ht).1.symm), Int32.add_comm]
  · have wi : f_X10_within F p.toInt64 0 99999 = some 0 := rg_0 (F := F) (p := p) (a := 0) (b := 99999) (by omega) (by omega) h
    refine ⟨1, 0, 0, 1, t0, i0, xip, xlp, xtr, xtA, xce, xcn, xtI, xtl, xv, lk, pr, s, rm, rc, n0, m0, nA, nC, ni, np, nv, route, tried, tf, ?_, ?_, AX.th (by decide) (by decide) (by decide)⟩
    · simp (disch := omega) only [f_X9_previewTotal, rqt_0 h, ll_le, ll_lt, ll_eq, lr_le, lr_lt, lr_eq, ll_add, lr_add, ll_mul, lr_mul, nI_add, pk_mul, nI_leI, nI_ltI, nI_eq, ll_sub, pk_sub, lm_add, rd_n, rd_l, wr_n, wr_l, lm_ne, lm_ne', lm_lt, lm_le, m1_lt, m1_le, m1_le0, m1_lt0, m1_0, m1_0', l1_0, gd_0, gd_1, gd_T, or_true, true_or, false_or, or_false, nle_T, nle_F, nlt_T, nlt_F, neq_T, neq_F, ↓reduceIte, ne_eq, not_true_eq_false, not_false_eq_true, bd1_s, bd2_s, bd3_s, bd4_s, bd5_s, bd6_s, bd7_s, bd8_s, bd9_s, bd10_s, bd11_s, bd12_s, bd13_s, bd14_s, bd15_s, bd16_s, bd17_s, bd18_s, bd19_s, bd20_s, bd21_s, bd22_s, bd23_s, bd24_s, bd25_s]
      all_goals rfl
    · simp (disch := omega) only [f_X10_previewTotal, wi, f_X10_fail, ll_le, ll_lt, ll_eq, lr_le, lr_lt, lr_eq, ll_add, lr_add, ll_mul, lr_mul, nI_add, pk_mul, nI_leI, nI_ltI, nI_eq, ll_sub, pk_sub, lm_add, rd_n, rd_l, wr_n, wr_l, lm_ne, lm_ne', lm_lt, lm_le, m1_lt, m1_le, m1_le0, m1_lt0, m1_0, m1_0', l1_0, gd_0, gd_1, gd_T, or_true, true_or, false_or, or_false, nle_T, nle_F, nlt_T, nlt_F, neq_T, neq_F, ↓reduceIte, ne_eq, not_true_eq_false, not_false_eq_true, bd1_s, bd2_s, bd3_s, bd4_s, bd5_s, bd6_s, bd7_s, bd8_s, bd9_s, bd10_s, bd11_s, bd12_s, bd13_s, bd14_s, bd15_s, bd16_s, bd17_s, bd18_s, bd19_s, bd20_s, bd21_s, bd22_s, bd23_s, bd24_s, bd25_s]
theorem h_bill (p : Int32) (t0 i0 : Int32) (xip xlp xtr xtA xce xcn xtI xtl xv : Nat → Int32) (lk pr : Int32) (s : Nat → Int32) (rm rc n0 m0 : Int32) (nA nC ni np nv route tried tf : Nat → Int32) (hN : NR gn ln cn tn wn cf fn mM mP ca' cp' tp' ta' bs lf lt lm lq ca cp tp ta G T) (hL : LR n G T tp ctn cvn cam civ cpd cpa cpl csb cvc ccn cln cax cga chx chp cla cps crp cst ctg cti ctr S) (hH : HR n G T tp nx dp ring zr dq hi) (hn : n < 600) (hF : 30000 ≤ F) :
    (∃ (x : Nat) (r' t' : Int32) (t1 i1 : Int32) (yip ylp ytr ytA yce ycn ytI ytl yv : Nat → Int32) (lk1 pr1 : Int32) (s1 : Nat → Int32) (rm1 rc1 n1 m1 : Int32) (zA zC zi zp zv route1 tried1 tf1 : Nat → Int32), (∀ (rtn rvn : Int32) (ram riv rpd rpa rpl rsb rvc : Nat → Int32) (rcn rln : Int32) (rax rga rhx rhp rla rps rrp rst rtg rti rtr : Nat → Int32), f_X9_billP F p nx dp rtn rvn ram riv rpd rpa rpl rsb rvc rcn rln rax rga rhx rhp rla rps rrp rst rtg rti rtr ctn cvn cam civ cpd cpa cpl csb cvc ccn cln cax cga chx chp cla cps crp cst ctg cti ctr gn cn tn cf ca' cp' mM mP ta' tp' t0 i0 xip xlp xtr xtA xce xcn xtI xtl xv lk pr s = some (x, 0, nx, dp, rtn, rvn, ram, riv, rpd, rpa, rpl, rsb, rvc, rcn, rln, rax, rga, rhx, rhp, rla, rps, rrp, rst, rtg, rti, rtr, ctn, cvn, cam, civ, cpd, cpa, cpl, csb, cvc, cst, ctr, t1, i1, yip, ylp, ytr, ytA, yce, ycn, ytI, ytl, yv, lk1, pr1, s1)) ∧ f_X10_bill F p th dq rm rc n0 m0 bs ca cp hi lf lm lq lt nA nC ni np nv route S ta tp tried tf = some (r', t', dq, rm1, rc1, n1, m1, hi, zA, zC, zi, zp, zv, route1, S, tried1, tf1) ∧ AX [1, 3] x 0 r' t') ∨
    ∃ (x d : Nat) (hi' S' : Nat → Int32) (r : Int32) (qtn qvn : Int32) (qam qiv qpd qpa qpl qsb qvc qst qtr : Nat → Int32) (t1 i1 : Int32) (yip ylp ytr ytA yce ycn ytI ytl yv : Nat → Int32) (lk1 pr1 : Int32) (s1 : Nat → Int32) (rm1 rc1 n1 m1 : Int32) (zA zC zi zp zv route1 tried1 tf1 : Nat → Int32), nx = nI x ∧ x < 10 ∧ dp = nI d ∧ dq = nI d ∧ d ≤ 10 ∧ 0 < r ∧ (∀ (rtn rvn : Int32) (ram riv rpd rpa rpl rsb rvc : Nat → Int32) (rcn rln : Int32) (rax rga rhx rhp rla rps rrp rst rtg rti rtr : Nat → Int32), f_X9_billP F p nx dp rtn rvn ram riv rpd rpa rpl rsb rvc rcn rln rax rga rhx rhp rla rps rrp rst rtg rti rtr ctn cvn cam civ cpd cpa cpl csb cvc ccn cln cax cga chx chp cla cps crp cst ctg cti ctr gn cn tn cf ca' cp' mM mP ta' tp' t0 i0 xip xlp xtr xtA xce xcn xtI xtl xv lk pr s = some (0, r, nI (nx1 x), nI (dp1 d), ctn, cvn, va_cpy cam ram 0 0 80, va_cpy civ riv 0 0 80, va_cpy cpd rpd 0 0 40, va_cpy cpa rpa 0 0 80, va_cpy cpl rpl 0 0 40, va_cpy csb rsb 0 0 80, va_cpy cvc rvc 0 0 80, ccn, cln, va_cpy cax rax 0 0 640, va_cpy cga rga 0 0 80, va_cpy chx rhx 0 0 80, va_cpy chp rhp 0 0 80, va_cpy cla rla 0 0 80, va_cpy cps rps 0 0 320, va_cpy crp rrp 0 0 320, va_cpy cst rst 0 0 80, va_cpy ctg rtg 0 0 80, va_cpy cti rti 0 0 80, va_cpy ctr rtr 0 0 80, qtn, qvn, qam, qiv, qpd, qpa, qpl, qsb, qvc, qst, qtr, t1, i1, yip, ylp, ytr, ytA, yce, ycn, ytI, ytl, yv, lk1, pr1, s1)) ∧ f_X10_bill F p th dq rm rc n0 m0 bs ca cp hi lf lm lq lt nA nC ni np nv route S ta tp tried tf = some (r, 0, nI (dp1 d), rm1, rc1, n1, m1, hi', zA, zC, zi, zp, zv, route1, S', tried1, tf1) ∧ LR (n + 1) G T tp qtn qvn qam qiv qpd qpa qpl qsb qvc ccn cln cax cga chx chp cla cps crp qst ctg cti qtr S' ∧ KH n G T tp x d ring zr ctn cvn cam civ cpd cpa cpl csb cvc ccn cln cax cga chx chp cla cps crp cst ctg cti ctr hi' := by
  obtain ⟨L, C, w, c5, fe, M, P, rfl, rfl, rfl, rfl, rfl, rfl, rfl, N1, N2, N3, N4, N5, N6, N7, N8, N9, N10, N11⟩ := id hN
  obtain ⟨c, tN, vN, lt0, K1, L1, L2, K2, L3, L4, L5, L6, L7⟩ := id hL
  have hF1 : 100 ≤ F := by omega
  subst K1
  have hT := N10.2.2.2.1
  have E : BEnv n G L C T c c5 M P bs lf lt lm lq mM mP ca ta tp ca' ta' tp' cax cga chx chp cla cps crp cst ctg cti ctr S := ⟨by omega, L1, L2, N1, N2, N6, N9, N10, L5⟩
  obtain ⟨b1, b2, b3, b4, b5, b6, b7, b8⟩ := id L6
  rcases rg_cases p 0 99999 (by omega) with ⟨j, -, j2, rfl⟩ | h
  · have wi : f_X10_within F (nI j).toInt64 0 99999 = some 1 := rg_1 (F := F) (p := nI j) (a := 0) (b := 99999) (by omega) (by omega) (by rw [nI_toInt (by omega)]; omega) (by rw [nI_toInt (by omega)]; omega)
    obtain ⟨_, _, w1, w2, tN1, iN1, ip, lp, tr, tA, ce, cn, tI, tl, v, lk1, pr1, s1, rm1, rc1, zA, zC, zi, zp, zv, route1, tried1, tf1, rt, rfl, rfl, hJ, hi1, hce, hopen⟩ := plan_two (cut := nI j) E hF1 N11 t0 i0 xip xlp xtr xtA xce xcn xtI xtl xv lk pr s rm rc n0 m0 nA nC ni np nv route tried tf
    have htc := hJ.lec
    subst b1 b4
    by_cases t0' : tN1 = 0
    · subst t0'
      have i0' : iN1 = 0 := by omega
      subst i0'
      refine .inl ⟨0, 0, 0, nI 0, nI 0, ip, lp, tr, tA, ce, cn, tI, tl, v, lk1, pr1, s1, rm1, rc1, nI 0, nI 0, zA, zC, zi, zp, zv, route1, tried1, tf1, fun rtn rvn ram riv rpd rpa rpl rsb rvc rcn rln rax rga rhx rhp rla rps rrp rst rtg rti rtr => ?_, ?_, AX.ok⟩
      · simp (disch := omega) only [f_X9_billP, f_X9_billP_b94, rqt_1 j2, w1, ll_le, ll_lt, ll_eq, lr_le, lr_lt, lr_eq, ll_add, lr_add, ll_mul, lr_mul, nI_add, pk_mul, nI_leI, nI_ltI, nI_eq, ll_sub, pk_sub, lm_add, rd_n, rd_l, wr_n, wr_l, lm_ne, lm_ne', lm_lt, lm_le, m1_lt, m1_le, m1_le0, m1_lt0, m1_0, m1_0', l1_0, gd_0, gd_1, gd_T, or_true, true_or, false_or, or_false, nle_T, nle_F, nlt_T, nlt_F, neq_T, neq_F, ↓reduceIte, ne_eq, not_true_eq_false, not_false_eq_true, bd1_s, bd2_s, bd3_s, bd4_s, bd5_s, bd6_s, bd7_s, bd8_s, bd9_s, bd10_s, bd11_s, bd12_s, bd13_s, bd14_s, bd15_s, bd16_s, bd17_s, bd18_s, bd19_s, bd20_s, bd21_s, bd22_s, bd23_s, bd24_s, bd25_s]
        all_goals rfl
      · simp (disch := omega) only [f_X10_bill, wi, w2, ll_le, ll_lt, ll_eq, lr_le, lr_lt, lr_eq, ll_add, lr_add, ll_mul, lr_mul, nI_add, pk_mul, nI_leI, nI_ltI, nI_eq, ll_sub, pk_sub, lm_add, rd_n, rd_l, wr_n, wr_l, lm_ne, lm_ne', lm_lt, lm_le, m1_lt, m1_le, m1_le0, m1_lt0, m1_0, m1_0', l1_0, gd_0, gd_1, gd_T, or_true, true_or, false_or, or_false, nle_T, nle_F, nlt_T, nlt_F, neq_T, neq_F, ↓reduceIte, ne_eq, not_true_eq_false, not_false_eq_true, bd1_s, bd2_s, bd3_s, bd4_s, bd5_s, bd6_s, bd7_s, bd8_s, bd9_s, bd10_s, bd11_s, bd12_s, bd13_s, bd14_s, bd15_s, bd16_s, bd17_s, bd18_s, bd19_s, bd20_s, bd21_s, bd22_s, bd23_s, bd24_s, bd25_s]
    · by_cases hv : vN + iN1 ≤ 40
      · obtain ⟨x, d, hi', rfl, x1, rfl, rfl, d1, k10, kP, kh⟩ := keep_both hL hH hF
        have h80 : tN + tN1 ≤ 80 := by
          have w1 := Nat.add_le_add L7 hJ.1
          have w2 : bCn c S + cnt1 (fun p => tr p ≠ -1) (fun _ => inferInstance) c ≤ cnt1 (fun _ => True) (fun _ => inferInstance) c := cnt1_dis (fun k hk u1 u2 => by rw [hopen k hk u2] at u1; exact absurd u1 (by decide)) (fun _ _ _ => trivial) (fun _ _ _ => trivial)
          exact Nat.le_trans w1 (Nat.le_trans w2 (Nat.le_trans (cnt1_le c) L1))
        have htf : ∀ q, q < c → tf1 q = tr q := fun q hq => (hJ.2.1 q hq).1
        have htr : ∀ q, q < c → tr q = -1 ∨ ∃ t, t < tN1 ∧ tr q = nI t := fun q hq => by
          rcases (hJ.2.1 q hq).2 with w | ⟨-, t, t1, t2, -⟩
          · exact .inl w
          · exact .inr ⟨t, t1, t2⟩
        have en := ent_v (F := F) (tN := tN1) (iN := iN1) (tN0 := tN) (vN0 := vN) (c := c) (ip := ip) (tr := tr) (ce := ce) (cn := cn) (tI := tI) (tl := tl) (am := cam) (iv := civ) (pd := cpd) (pa := cpa) (pl := cpl) (sb := csb) (vc := cvc) (st := cst) (tq := ctr) h80 hv L1 hF1
        have b10 := bill10_v (F := F) (bs := bs) (ca := ca) (cp := cp) (lf := lf) (lm := lm) (lq := lq) (lt := lt) (ta := ta) (ip := ip) (nA := zA) (nC := zC) (ni := zi) (np := zp) (route := route1) (tried := tried1) (tf := tf1) (rm := rm1) (rc := rc1) (dp := nI (dp1 d)) (hi := hi') hT L2 b2 b5 h80 hv L1 (fun q hq => by rw [htf q hq]; exact htr q hq) hJ.2.2.2 hF1
        refine .inr ⟨x, d, hi', bS S zi zA zC zp tf1 T tp ip c tN vN tN1 iN1, nI tN1, nI (tN + tN1), nI (vN + iN1), spl cam ce tN tN1, spl civ (fun t => nI vN + tI t) tN tN1, spl cpd (fun _ => 0) vN iN1, spl cpa tl tN tN1, spl cpl ip vN iN1, spl csb (fun _ => 0) tN tN1, spl cvc cn tN tN1, mk1 cst tr (fun _ => 1) c, mk1 ctr tr (fun p => nI tN + tr p) c, nI tN1, nI iN1, ip, lp, tr, tA, ce, cn, tI, tl, v, lk1, pr1, s1, rm1, rc1, nI tN1, nI iN1, zA, zC, zi, zp, zv, route1, tried1, tf1, rfl, x1, rfl, rfl, d1, nI_0lt (by omega) (by omega), fun rtn rvn ram riv rpd rpa rpl rsb rvc rcn rln rax rga rhx rhp rla rps rrp rst rtg rti rtr => ?_, ?_, ?_, kh⟩
        · have kp := kP rtn rvn ram riv rpd rpa rpl rsb rvc rcn rln rax rga rhx rhp rla rps rrp rst rtg rti rtr
          simp (disch := omega) only [f_X9_billP, f_X9_billP_b94, rqt_1 j2, w1, kp, en, ll_le, ll_lt, ll_eq, lr_le, lr_lt, lr_eq, ll_add, lr_add, ll_mul, lr_mul, nI_add, pk_mul, nI_leI, nI_ltI, nI_eq, ll_sub, pk_sub, lm_add, rd_n, rd_l, wr_n, wr_l, lm_ne, lm_ne', lm_lt, lm_le, m1_lt, m1_le, m1_le0, m1_lt0, m1_0, m1_0', l1_0, gd_0, gd_1, gd_T, or_true, true_or, false_or, or_false, nle_T, nle_F, nlt_T, nlt_F, neq_T, neq_F, ↓reduceIte, ne_eq, not_true_eq_false, not_false_eq_true, bd1_s, bd2_s, bd3_s, bd4_s, bd5_s, bd6_s, bd7_s, bd8_s, bd9_s, bd10_s, bd11_s, bd12_s, bd13_s, bd14_s, bd15_s, bd16_s, bd17_s, bd18_s, bd19_s, bd20_s, bd21_s, bd22_s, bd23_s, bd24_s, bd25_s]
          all_goals rfl
        · simp (disch := omega) only [f_X10_bill, wi, w2, b5, k10, b10, ll_le, ll_lt, ll_eq, lr_le, lr_lt, lr_eq, ll_add, lr_add, ll_mul, lr_mul, nI_add, pk_mul, nI_leI, nI_ltI, nI_eq, ll_sub, pk_sub, lm_add, rd_n, rd_l, wr_n, wr_l, lm_ne, lm_ne', lm_lt, lm_le, m1_lt, m1_le, m1_le0, m1_lt0, m1_0, m1_0', l1_0, gd_0, gd_1, gd_T, or_true, true_or, false_or, or_false, nle_T, nle_F, nlt_T, nlt_F, neq_T, neq_F, ↓reduceIte, ne_eq, not_true_eq_false, not_false_eq_true, bd1_s, bd2_s, bd3_s, bd4_s, bd5_s, bd6_s, bd7_s, bd8_s, bd9_s, bd10_s, bd11_s, bd12_s, bd13_s, bd14_s, bd15_s, bd16_s, bd17_s, bd18_s, bd19_s, bd20_s, bd21_s, bd22_s, bd23_s, bd24_s, bd25_s]
        · have tfn : ∀ q, q < c → (0 ≤ tf1 q ↔ tr q ≠ -1) := fun q hq => by
            rw [htf q hq]
            rcases htr q hq with w | ⟨t, t1, t2⟩
            · rw [w]; exact ⟨fun h => absurd h (by decide), fun h => absurd rfl h⟩
            · rw [t2]; exact ⟨fun _ => nI_nm (by omega), fun _ => nI_pos' (by omega)⟩
          refine ⟨c, tN + tN1, vN + iN1, lt0, rfl, L1, by rw [bS_o h80 L1 (by omega) (by omega) (by omega)]; exact L2, K2, L3, by rw [bS_o h80 L1 (by omega) (by omega) (by omega)]; exact L4, fun q hq => ?_, ⟨rfl, by unfold bS; rw [upd_at, if_neg (by omega), upd_at, if_pos rfl], h80, rfl, by unfold bS; rw [upd_at, if_pos rfl], hv, fun t ht => ?_, fun i hi => ?_⟩, ?_⟩
          · have q8 : q < 80 := by omega
            obtain ⟨p0, p1, p2, p3, p4, p5, p6, p7, p8, p9, p10⟩ := id (L5 q hq)
            rcases htr q hq with w | ⟨t, t1, t2⟩
            · have hn0 : ¬ 0 ≤ tf1 q := by rw [htf q hq, w]; decide
              have u : ∀ k, k < 25 → bS S zi zA zC zp tf1 T tp ip c tN vN tN1 iN1 (4 + 25 * q + k) = S (4 + 25 * q + k) := fun k hk => by
                rw [bS_p h80 L1 q8 hk, if_neg (fun w => hn0 w.2.1), if_neg (fun w => hn0 w.2.1)]
              have m1 : mk1 cst tr (fun _ => 1) c q = cst q := if_neg (fun h => h.2 w)
              have m2 : mk1 ctr tr (fun p => nI tN + tr p) c q = ctr q := if_neg (fun h => h.2 w)
              obtain ⟨g0, g1, g2, g3, g4, g5, g6, g7, g8, g9, g10⟩ := PRow.cS (n' := n + 1) (L5 q hq) (by omega) u
              exact ⟨g0, g1, g2, g3, m1.trans g4, g5, g6, g7, g8, g9, m2.trans g10⟩
            · have h0 : 0 ≤ tf1 q := by rw [htf q hq, t2]; exact nI_pos' (by omega)
              have hn1 : tr q ≠ -1 := by rw [t2]; exact nI_nm (by omega)
              have u : ∀ k, k < 25 → k ≠ 3 → k ≠ 24 → bS S zi zA zC zp tf1 T tp ip c tN vN tN1 iN1 (4 + 25 * q + k) = S (4 + 25 * q + k) := fun k hk h3 h24 => by
                rw [bS_p h80 L1 q8 hk, if_neg (fun w => h3 w.2.2), if_neg (fun w => h24 w.2.2)]
              have u3 : bS S zi zA zC zp tf1 T tp ip c tN vN tN1 iN1 (4 + 25 * q + 3) = 1 := by
                rw [bS_p h80 L1 q8 (by omega), if_pos ⟨hq, h0, rfl⟩]
              have u24 : bS S zi zA zC zp tf1 T tp ip c tN vN tN1 iN1 (4 + 25 * q + 24) = nI (tN + t + 1) := by
                rw [bS_p h80 L1 q8 (by omega), if_neg (by omega), if_pos ⟨hq, h0, rfl⟩, htf q hq, t2, nI_add]
                exact nI_add (tN + t) 1
              have m1 : mk1 cst tr (fun _ => 1) c q = 1 := if_pos ⟨hq, hn1⟩
              have m2 : mk1 ctr tr (fun p => nI tN + tr p) c q = nI (tN + t) := (if_pos ⟨hq, hn1⟩).trans (by dsimp only; rw [t2]; exact nI_add tN t)
              obtain ⟨f0, f1, f2, f3, f4, ⟨m, m1', m2', m3', m4'⟩, f6, f7, f8, f9⟩ := p0.congr (n' := n + 1) (r' := fun k => S (4 + 25 * q + k)) (by omega) (fun k hk => rfl)
              exact ⟨⟨by dsimp only; rw [u 0 (by omega) (by omega) (by omega)]; exact f0, by dsimp only; rw [u 1 (by omega) (by omega) (by omega)]; exact f1, by dsimp only; rw [u 2 (by omega) (by omega) (by omega)]; exact f2, ⟨1, by omega, u3⟩, by dsimp only; rw [u 4 (by omega) (by omega) (by omega)]; exact f4, ⟨m, m1', by dsimp only; rw [u 5 (by omega) (by omega) (by omega)]; exact m2', fun k hk => by dsimp only; rw [u (6 + k) (by omega) (by omega) (by omega), u (10 + k) (by omega) (by omega) (by omega)]; exact m3' k hk, fun k g1 g2 => by dsimp only; rw [u (6 + k) (by omega) (by omega) (by omega), u (10 + k) (by omega) (by omega) (by omega)]; exact m4' k g1 g2⟩, fun k hk => by dsimp only; rw [u (14 + k) (by omega) (by omega) (by omega)]; exact f6 k hk, by dsimp only; rw [u 22 (by omega) (by omega) (by omega)]; exact f7, by dsimp only; rw [u 23 (by omega) (by omega) (by omega)]; exact f8, ⟨tN + t + 1, by omega, u24⟩⟩, by rw [u 0 (by omega) (by omega) (by omega)]; exact p1, by rw [u 1 (by omega) (by omega) (by omega)]; exact p2, by rw [u 2 (by omega) (by omega) (by omega)]; exact p3, by rw [u3]; exact m1, by rw [u 4 (by omega) (by omega) (by omega)]; exact p5, fun k hk => by rw [u (6 + k) (by omega) (by omega) (by omega), u (10 + k) (by omega) (by omega) (by omega)]; exact p6 k hk, fun k hk => by rw [u (14 + k) (by omega) (by omega) (by omega)]; exact p7 k hk, by rw [u 22 (by omega) (by omega) (by omega)]; exact p8, by rw [u 23 (by omega) (by omega) (by omega)]; exact p9, by rw [u24, m2, nI_pred]⟩
          · by_cases hlt : t < tN
            · obtain ⟨g1, ⟨a, a1, a2⟩, g3, g4, g5, g6⟩ := b7 t hlt
              have u : ∀ k, k < 5 → bS S zi zA zC zp tf1 T tp ip c tN vN tN1 iN1 (2004 + 5 * t + k) = S (2004 + 5 * t + k) := fun k hk => bS_o h80 L1 (by omega) (by omega) (by omega)
              rw [u 0 (by omega), u 1 (by omega), u 2 (by omega), u 3 (by omega), u 4 (by omega), spl_lo hlt, spl_lo hlt, spl_lo hlt, spl_lo hlt, spl_lo hlt]
              exact ⟨g1, ⟨a, by omega, a2⟩, g3, g4, g5, g6⟩
            · obtain ⟨t', rfl⟩ : ∃ t', t = tN + t' := ⟨t - tN, by omega⟩
              have ht' : t' < tN1 := by omega
              obtain ⟨j1, ⟨a, a1, a2⟩, j3, -⟩ := hJ.2.2.1 t' ht'
              obtain ⟨c1, c2⟩ := hce t' ht'
              have v := fun k (hk : k < 5) => bS_t (S := S) (zi := zi) (zA := zA) (zC := zC) (zp := zp) (tf := tf1) (T := T) (tp := tp) (ip := ip) (c := c) (vN := vN) (iN1 := iN1) h80 ht' hk
              obtain ⟨v0, v1, v2, v3, v4⟩ := bS2_t (S := bS1 S tf1 (nI tN) c) (ni := zi) (nA := zA) (nC := zC) (np := zp) (x := nI vN) (a := tN) ht'
              rw [v 0 (by omega), v 1 (by omega), v 2 (by omega), v 3 (by omega), v 4 (by omega), v0, v1, v2, v3, v4, spl_hi ht', spl_hi ht', spl_hi ht', spl_hi ht', spl_hi ht', j1, j3]
              exact ⟨rfl, ⟨vN + a, by omega, by rw [a2]; exact nI_add vN a⟩, c1, c2, rfl, rfl⟩
          · by_cases hlt : i < vN
            · obtain ⟨g1, g2, g3⟩ := b8 i hlt
              have u : ∀ k, k < 3 → bS S zi zA zC zp tf1 T tp ip c tN vN tN1 iN1 (2404 + 3 * i + k) = S (2404 + 3 * i + k) := fun k hk => bS_i h80 L1 (by omega) (by omega)
              rw [u 0 (by omega), u 1 (by omega), u 2 (by omega), spl_lo hlt, spl_lo hlt]
              exact ⟨g1, g2, g3⟩
            · obtain ⟨i', rfl⟩ : ∃ i', i = vN + i' := ⟨i - vN, by omega⟩
              have hi' : i' < iN1 := by omega
              obtain ⟨v0, v1, v2⟩ := bS3_i (S := bS2 (bS1 S tf1 (nI tN) c) zi zA zC zp (nI vN) tN tN1) (T := T) (tp := tp) (ip := ip) (a := vN) hi'
              rw [bS_j, bS_j, bS_j, v0, v1, v2, spl_hi hi', spl_hi hi']
              exact ⟨rfl, rfl, rfl⟩
          · refine Nat.le_trans (Nat.add_le_add L7 hJ.1) (cnt1_dis (fun k hk u1 u2 => by rw [hopen k hk u2] at u1; exact absurd u1 (by decide)) (fun k hk u1 => ?_) (fun k hk u1 => ?_))
            · show bS S zi zA zC zp tf1 T tp ip c tN vN tN1 iN1 (4 + 25 * k + 3) = 1
              rw [bS_p h80 L1 (by omega) (by omega)]
              split
              · rfl
              · rw [if_neg (by omega)]; exact u1
            · show bS S zi zA zC zp tf1 T tp ip c tN vN tN1 iN1 (4 + 25 * k + 3) = 1
              rw [bS_p h80 L1 (by omega) (by omega), if_pos ⟨hk, (tfn k hk).mpr u1, rfl⟩]
      · refine .inl ⟨3, 0, 2, nI tN1, nI iN1, ip, lp, tr, tA, ce, cn, tI, tl, v, lk1, pr1, s1, rm1, rc1, nI tN1, nI iN1, zA, zC, zi, zp, zv, route1, tried1, tf1, fun rtn rvn ram riv rpd rpa rpl rsb rvc rcn rln rax rga rhx rhp rla rps rrp rst rtg rti rtr => ?_, ?_, AX.th (by decide) (by decide) (by decide)⟩
        · simp (disch := omega) only [f_X9_billP, f_X9_billP_b94, rqt_1 j2, w1, ll_le, ll_lt, ll_eq, lr_le, lr_lt, lr_eq, ll_add, lr_add, ll_mul, lr_mul, nI_add, pk_mul, nI_leI, nI_ltI, nI_eq, ll_sub, pk_sub, lm_add, rd_n, rd_l, wr_n, wr_l, lm_ne, lm_ne', lm_lt, lm_le, m1_lt, m1_le, m1_le0, m1_lt0, m1_0, m1_0', l1_0, gd_0, gd_1, gd_T, or_true, true_or, false_or, or_false, nle_T, nle_F, nlt_T, nlt_F, neq_T, neq_F, ↓reduceIte, ne_eq, not_true_eq_false, not_false_eq_true, bd1_s, bd2_s, bd3_s, bd4_s, bd5_s, bd6_s, bd7_s, bd8_s, bd9_s, bd10_s, bd11_s, bd12_s, bd13_s, bd14_s, bd15_s, bd16_s, bd17_s, bd18_s, bd19_s, bd20_s, bd21_s, bd22_s, bd23_s, bd24_s, bd25_s]
          all_goals rfl
        · simp (disch := omega) only [f_X10_bill, wi, w2, b5, f_X10_fail, ll_le, ll_lt, ll_eq, lr_le, lr_lt, lr_eq, ll_add, lr_add, ll_mul, lr_mul, nI_add, pk_mul, nI_leI, nI_ltI, nI_eq, ll_sub, pk_sub, lm_add, rd_n, rd_l, wr_n, wr_l, lm_ne, lm_ne', lm_lt, lm_le, m1_lt, m1_le, m1_le0, m1_lt0, m1_0, m1_0', l1_0, gd_0, gd_1, gd_T, or_true, true_or, false_or, or_false, nle_T, nle_F, nlt_T, nlt_F, neq_T, neq_F, ↓reduceIte, ne_eq, not_true_eq_false, not_false_eq_true, bd1_s, bd2_s, bd3_s, bd4_s, bd5_s, bd6_s, bd7_s, bd8_s, bd9_s, bd10_s, bd11_s, bd12_s, bd13_s, bd14_s, bd15_s, bd16_s, bd17_s, bd18_s, bd19_s, bd20_s, bd21_s, bd22_s, bd23_s, bd24_s, bd25_s]
  · have wi : f_X10_within F p.toInt64 0 99999 = some 0 := rg_0 (F := F) (p := p) (a := 0) (b := 99999) (by omega) (by omega) h
    refine .inl ⟨1, 0, 1, t0, i0, xip, xlp, xtr, xtA, xce, xcn, xtI, xtl, xv, lk, pr, s, rm, rc, n0, m0, nA, nC, ni, np, nv, route, tried, tf, fun rtn rvn ram riv rpd rpa rpl rsb rvc rcn rln rax rga rhx rhp rla rps rrp rst rtg rti rtr => ?_, ?_, AX.th (by decide) (by decide) (by decide)⟩
    · simp (disch := omega) only [f_X9_billP, rqt_0 h, ll_le, ll_lt, ll_eq, lr_le, lr_lt, lr_eq, ll_add, lr_add, ll_mul, lr_mul, nI_add, pk_mul, nI_leI, nI_ltI, nI_eq, ll_sub, pk_sub, lm_add, rd_n, rd_l, wr_n, wr_l, lm_ne, lm_ne', lm_lt, lm_le, m1_lt, m1_le, m1_le0, m1_lt0, m1_0, m1_0', l1_0, gd_0, gd_1, gd_T, or_true, true_or, false_or, or_false, nle_T, nle_F, nlt_T, nlt_F, neq_T, neq_F, ↓reduceIte, ne_eq, not_true_eq_false, not_false_eq_true, bd1_s, bd2_s, bd3_s, bd4_s, bd5_s, bd6_s, bd7_s, bd8_s, bd9_s, bd10_s, bd11_s, bd12_s, bd13_s, bd14_s, bd15_s, bd16_s, bd17_s, bd18_s, bd19_s, bd20_s, bd21_s, bd22_s, bd23_s, bd24_s, bd25_s]
      all_goals rfl
    · simp (disch := omega) only [f_X10_bill, wi, f_X10_fail, ll_le, ll_lt, ll_eq, lr_le, lr_lt, lr_eq, ll_add, lr_add, ll_mul, lr_mul, nI_add, pk_mul, nI_leI, nI_ltI, nI_eq, ll_sub, pk_sub, lm_add, rd_n, rd_l, wr_n, wr_l, lm_ne, lm_ne', lm_lt, lm_le, m1_lt, m1_le, m1_le0, m1_lt0, m1_0, m1_0', l1_0, gd_0, gd_1, gd_T, or_true, true_or, false_or, or_false, nle_T, nle_F, nlt_T, nlt_F, neq_T, neq_F, ↓reduceIte, ne_eq, not_true_eq_false, not_false_eq_true, bd1_s, bd2_s, bd3_s, bd4_s, bd5_s, bd6_s, bd7_s, bd8_s, bd9_s, bd10_s, bd11_s, bd12_s, bd13_s, bd14_s, bd15_s, bd16_s, bd17_s, bd18_s, bd19_s, bd20_s, bd21_s, bd22_s, bd23_s, bd24_s, bd25_s]
end
