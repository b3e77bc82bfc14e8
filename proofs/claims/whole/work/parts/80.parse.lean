/-! parse -/
def sha (f : Nat → Int32) (h i k : Nat) : Int32 := if k < i then f (h + k) else f k
theorem sha_s {f : Nat → Int32} {h i : Nat} : upd (sha f h i) i (f (h + i)) = sha f h (i + 1) := by
  funext k
  rw [upd_at]
  unfold sha
  by_cases e : k = i
  · subst e; rw [if_pos rfl, if_pos (by omega)]
  · rw [if_neg e]
    by_cases w : k < i
    · rw [if_pos w, if_pos (by omega)]
    · rw [if_neg w, if_neg (by omega)]
theorem sha_0 {f : Nat → Int32} {h : Nat} : sha f h 0 = f := by
  funext k
  exact if_neg (by omega)
theorem sha_lt {f : Nat → Int32} {h i k : Nat} (hk : k < i) : sha f h i k = f (h + k) := if_pos hk
theorem ado_v {F n0 h : Nat} (f : Nat → Int32) (hh : nI n0 / 2 = nI h) (hn : n0 = 2 * h) (h1 : h ≤ 100) (hF : 2000 ≤ F) : f_X10_adopt F n0 f = some (sha f h h) := by
  unfold f_X10_adopt f_X10_adopt_L2
  refine lp_at (fun i => (nI i, sha f h i)) h (by omega) (by rw [sha_0]; rfl) (fun i hi k => ?_) (fun k => ?_)
  · have e1 : sha f h i (h + i) = f (h + i) := if_neg (by omega)
    have e2 := sha_s (f := f) (h := h) (i := i)
    simp (disch := omega) only [f_X10_adopt_h2, hh, e1, e2, ll_le, ll_lt, ll_eq, lr_le, lr_lt, lr_eq, ll_add, lr_add, ll_mul, lr_mul, nI_add, pk_mul, nI_leI, nI_ltI, nI_eq, ll_sub, pk_sub, lm_add, rd_n, rd_l, wr_n, wr_l, lm_ne, lm_ne', lm_lt, lm_le, m1_lt, m1_le, m1_le0, m1_lt0, m1_0, m1_0', l1_0, gd_0, gd_1, gd_T, or_true, true_or, false_or, or_false, nle_T, nle_F, nlt_T, nlt_F, neq_T, neq_F, ↓reduceIte, ne_eq, not_true_eq_false, not_false_eq_true, bd1_s, bd2_s, bd3_s, bd4_s, bd5_s, bd6_s, bd7_s, bd8_s, bd9_s, bd10_s, bd11_s, bd12_s, bd13_s, bd14_s, bd15_s, bd16_s, bd17_s, bd18_s, bd19_s, bd20_s, bd21_s, bd22_s, bd23_s, bd24_s, bd25_s]
  · simp (disch := omega) only [f_X10_adopt_h2, hh, ll_le, ll_lt, ll_eq, lr_le, lr_lt, lr_eq, ll_add, lr_add, ll_mul, lr_mul, nI_add, pk_mul, nI_leI, nI_ltI, nI_eq, ll_sub, pk_sub, lm_add, rd_n, rd_l, wr_n, wr_l, lm_ne, lm_ne', lm_lt, lm_le, m1_lt, m1_le, m1_le0, m1_lt0, m1_0, m1_0', l1_0, gd_0, gd_1, gd_T, or_true, true_or, false_or, or_false, nle_T, nle_F, nlt_T, nlt_F, neq_T, neq_F, ↓reduceIte, ne_eq, not_true_eq_false, not_false_eq_true, bd1_s, bd2_s, bd3_s, bd4_s, bd5_s, bd6_s, bd7_s, bd8_s, bd9_s, bd10_s, bd11_s, bd12_s, bd13_s, bd14_s, bd15_s, bd16_s, bd17_s, bd18_s, bd19_s, bd20_s, bd21_s, bd22_s, bd23_s, bd24_s, bd25_s]
theorem fill_v {F : Nat} (f : Nat → Int32) (hF : 2000 ≤ F) : f_J7_fill_53178 F 100 0 f = some (spl f (fun _ => 0) 0 100) := by
  unfold f_J7_fill_53178 f_J7_fill_53178_L5
  refine lp_at (fun i => (0, nI i, nI 100, spl f (fun _ => 0) 0 i)) 100 (by omega) (by rw [spl_0]; rfl) (fun i hi k => ?_) (fun k => ?_)
  · have s1 := spl_z f (fun _ => 0) i
    try dsimp only at s1
    simp (disch := omega) only [f_J7_fill_53178_h5, s1, ll_le, ll_lt, ll_eq, lr_le, lr_lt, lr_eq, ll_add, lr_add, ll_mul, lr_mul, nI_add, pk_mul, nI_leI, nI_ltI, nI_eq, ll_sub, pk_sub, lm_add, rd_n, rd_l, wr_n, wr_l, lm_ne, lm_ne', lm_lt, lm_le, m1_lt, m1_le, m1_le0, m1_lt0, m1_0, m1_0', l1_0, gd_0, gd_1, gd_T, or_true, true_or, false_or, or_false, nle_T, nle_F, nlt_T, nlt_F, neq_T, neq_F, ↓reduceIte, ne_eq, not_true_eq_false, not_false_eq_true, bd1_s, bd2_s, bd3_s, bd4_s, bd5_s, bd6_s, bd7_s, bd8_s, bd9_s, bd10_s, bd11_s, bd12_s, bd13_s, bd14_s, bd15_s, bd16_s, bd17_s, bd18_s, bd19_s, bd20_s, bd21_s, bd22_s, bd23_s, bd24_s, bd25_s]
  · simp (disch := omega) only [f_J7_fill_53178_h5, ll_le, ll_lt, ll_eq, lr_le, lr_lt, lr_eq, ll_add, lr_add, ll_mul, lr_mul, nI_add, pk_mul, nI_leI, nI_ltI, nI_eq, ll_sub, pk_sub, lm_add, rd_n, rd_l, wr_n, wr_l, lm_ne, lm_ne', lm_lt, lm_le, m1_lt, m1_le, m1_le0, m1_lt0, m1_0, m1_0', l1_0, gd_0, gd_1, gd_T, or_true, true_or, false_or, or_false, nle_T, nle_F, nlt_T, nlt_F, neq_T, neq_F, ↓reduceIte, ne_eq, not_true_eq_false, not_false_eq_true, bd1_s, bd2_s, bd3_s, bd4_s, bd5_s, bd6_s, bd7_s, bd8_s, bd9_s, bd10_s, bd11_s, bd12_s, bd13_s, bd14_s, bd15_s, bd16_s, bd17_s, bd18_s, bd19_s, bd20_s, bd21_s, bd22_s, bd23_s, bd24_s, bd25_s]
theorem clr_v {F : Nat} (S : Nat → Int32) (hF : 30000 ≤ F) : f_X10_clearState F S = some (spl S (fun _ => 0) 0 2524) := by
  unfold f_X10_clearState f_X10_clearState_L2
  refine lp_at (fun i => (nI i, spl S (fun _ => 0) 0 i)) 2524 (by omega) (by rw [spl_0]; rfl) (fun i hi k => ?_) (fun k => ?_)
  · have s1 := spl_z S (fun _ => 0) i
    try dsimp only at s1
    simp (disch := omega) only [f_X10_clearState_h2, s1, ll_le, ll_lt, ll_eq, lr_le, lr_lt, lr_eq, ll_add, lr_add, ll_mul, lr_mul, nI_add, pk_mul, nI_leI, nI_ltI, nI_eq, ll_sub, pk_sub, lm_add, rd_n, rd_l, wr_n, wr_l, lm_ne, lm_ne', lm_lt, lm_le, m1_lt, m1_le, m1_le0, m1_lt0, m1_0, m1_0', l1_0, gd_0, gd_1, gd_T, or_true, true_or, false_or, or_false, nle_T, nle_F, nlt_T, nlt_F, neq_T, neq_F, ↓reduceIte, ne_eq, not_true_eq_false, not_false_eq_true, bd1_s, bd2_s, bd3_s, bd4_s, bd5_s, bd6_s, bd7_s, bd8_s, bd9_s, bd10_s, bd11_s, bd12_s, bd13_s, bd14_s, bd15_s, bd16_s, bd17_s, bd18_s, bd19_s, bd20_s, bd21_s, bd22_s, bd23_s, bd24_s, bd25_s]
  · simp (disch := omega) only [f_X10_clearState_h2, ll_le, ll_lt, ll_eq, lr_le, lr_lt, lr_eq, ll_add, lr_add, ll_mul, lr_mul, nI_add, pk_mul, nI_leI, nI_ltI, nI_eq, ll_sub, pk_sub, lm_add, rd_n, rd_l, wr_n, wr_l, lm_ne, lm_ne', lm_lt, lm_le, m1_lt, m1_le, m1_le0, m1_lt0, m1_0, m1_0', l1_0, gd_0, gd_1, gd_T, or_true, true_or, false_or, or_false, nle_T, nle_F, nlt_T, nlt_F, neq_T, neq_F, ↓reduceIte, ne_eq, not_true_eq_false, not_false_eq_true, bd1_s, bd2_s, bd3_s, bd4_s, bd5_s, bd6_s, bd7_s, bd8_s, bd9_s, bd10_s, bd11_s, bd12_s, bd13_s, bd14_s, bd15_s, bd16_s, bd17_s, bd18_s, bd19_s, bd20_s, bd21_s, bd22_s, bd23_s, bd24_s, bd25_s]
theorem dis_v {F : Nat} (fu : Nat → Int32) (hF : 2000 ≤ F) : f_X8_discard F fu = some (spl fu (fun _ => 0) 0 2) := by
  unfold f_X8_discard f_X8_discard_L2
  refine lp_at (fun i => (nI i, spl fu (fun _ => 0) 0 i)) 2 (by omega) (by rw [spl_0]; rfl) (fun i hi k => ?_) (fun k => ?_)
  · have s1 := spl_z fu (fun _ => 0) i
    try dsimp only at s1
    simp (disch := omega) only [f_X8_discard_h2, nar0, s1, ll_le, ll_lt, ll_eq, lr_le, lr_lt, lr_eq, ll_add, lr_add, ll_mul, lr_mul, nI_add, pk_mul, nI_leI, nI_ltI, nI_eq, ll_sub, pk_sub, lm_add, rd_n, rd_l, wr_n, wr_l, lm_ne, lm_ne', lm_lt, lm_le, m1_lt, m1_le, m1_le0, m1_lt0, m1_0, m1_0', l1_0, gd_0, gd_1, gd_T, or_true, true_or, false_or, or_false, nle_T, nle_F, nlt_T, nlt_F, neq_T, neq_F, ↓reduceIte, ne_eq, not_true_eq_false, not_false_eq_true, bd1_s, bd2_s, bd3_s, bd4_s, bd5_s, bd6_s, bd7_s, bd8_s, bd9_s, bd10_s, bd11_s, bd12_s, bd13_s, bd14_s, bd15_s, bd16_s, bd17_s, bd18_s, bd19_s, bd20_s, bd21_s, bd22_s, bd23_s, bd24_s, bd25_s]
  · simp (disch := omega) only [f_X8_discard_h2, ll_le, ll_lt, ll_eq, lr_le, lr_lt, lr_eq, ll_add, lr_add, ll_mul, lr_mul, nI_add, pk_mul, nI_leI, nI_ltI, nI_eq, ll_sub, pk_sub, lm_add, rd_n, rd_l, wr_n, wr_l, lm_ne, lm_ne', lm_lt, lm_le, m1_lt, m1_le, m1_le0, m1_lt0, m1_0, m1_0', l1_0, gd_0, gd_1, gd_T, or_true, true_or, false_or, or_false, nle_T, nle_F, nlt_T, nlt_F, neq_T, neq_F, ↓reduceIte, ne_eq, not_true_eq_false, not_false_eq_true, bd1_s, bd2_s, bd3_s, bd4_s, bd5_s, bd6_s, bd7_s, bd8_s, bd9_s, bd10_s, bd11_s, bd12_s, bd13_s, bd14_s, bd15_s, bd16_s, bd17_s, bd18_s, bd19_s, bd20_s, bd21_s, bd22_s, bd23_s, bd24_s, bd25_s]
theorem spl_z0 {f g : Nat → Int32} {n k : Nat} (h : k < n) : spl f g 0 n k = g k := by
  have := spl_hi (f := f) (g := g) (a := 0) h
  rwa [Nat.zero_add] at this
section
variable {F n G : Nat} {bf : Nat → Int32} {ts te tk v eo gv dq : Int32} {bs ca cp dr sv lf lm lq lt S ta tp : Nat → Int32}
theorem ok94_v (hF : 30000 ≤ F) : f_X10_parse_b94 F bf 0 0 (nI n) ts te tk v 0 eo gv dq bs ca cp dr sv lf lm lq lt S ta tp = some (dr 1, 0, 0, nI n, ts, te, tk, v, 0, eo, gv, 0, spl bs dr 0 7, sha ca 4 4, sha cp 4 4, dr, upd (upd sv 0 0) 1 0, sha lf 24 24, sha lm 24 24, sha lq 24 24, sha lt 24 24, spl S (fun _ => 0) 0 2524, sha ta 12 12, sha tp 12 12) := by
  unfold f_X10_parse_b94 f_X10_parse_L119
  rw [if_pos rfl]
  refine lp_at (fun i => (nI i, 0, 0, nI n, ts, te, tk, v, 0, eo, gv, dq, spl bs dr 0 i, ca, cp, dr, sv, lf, lm, lq, lt, S, ta, tp)) 7 (by omega) (by rw [spl_0]; rfl) (fun i hi k => ?_) (fun k => ?_)
  · have s1 := spl_z bs dr i
    simp (disch := omega) only [f_X10_parse_h119, s1, ll_le, ll_lt, ll_eq, lr_le, lr_lt, lr_eq, ll_add, lr_add, ll_mul, lr_mul, nI_add, pk_mul, nI_leI, nI_ltI, nI_eq, ll_sub, pk_sub, lm_add, rd_n, rd_l, wr_n, wr_l, lm_ne, lm_ne', lm_lt, lm_le, m1_lt, m1_le, m1_le0, m1_lt0, m1_0, m1_0', l1_0, gd_0, gd_1, gd_T, or_true, true_or, false_or, or_false, nle_T, nle_F, nlt_T, nlt_F, neq_T, neq_F, ↓reduceIte, ne_eq, not_true_eq_false, not_false_eq_true, bd1_s, bd2_s, bd3_s, bd4_s, bd5_s, bd6_s, bd7_s, bd8_s, bd9_s, bd10_s, bd11_s, bd12_s, bd13_s, bd14_s, bd15_s, bd16_s, bd17_s, bd18_s, bd19_s, bd20_s, bd21_s, bd22_s, bd23_s, bd24_s, bd25_s]
  · have a48 : ∀ f, f_X10_adopt F 48 f = some (sha f 24 24) := fun f => ado_v f (by decide) rfl (by omega) (by omega)
    have a8 : ∀ f, f_X10_adopt F 8 f = some (sha f 4 4) := fun f => ado_v f (by decide) rfl (by omega) (by omega)
    have a24 : ∀ f, f_X10_adopt F 24 f = some (sha f 12 12) := fun f => ado_v f (by decide) rfl (by omega) (by omega)
    have cl := clr_v (F := F) S hF
    have e1 : spl bs dr 0 7 1 = dr 1 := spl_z0 (by omega)
    simp (disch := omega) only [f_X10_parse_h119, a48, a8, a24, cl, nar0, e1, ll_le, ll_lt, ll_eq, lr_le, lr_lt, lr_eq, ll_add, lr_add, ll_mul, lr_mul, nI_add, pk_mul, nI_leI, nI_ltI, nI_eq, ll_sub, pk_sub, lm_add, rd_n, rd_l, wr_n, wr_l, lm_ne, lm_ne', lm_lt, lm_le, m1_lt, m1_le, m1_le0, m1_lt0, m1_0, m1_0', l1_0, gd_0, gd_1, gd_T, or_true, true_or, false_or, or_false, nle_T, nle_F, nlt_T, nlt_F, neq_T, neq_F, ↓reduceIte, ne_eq, not_true_eq_false, not_false_eq_true, bd1_s, bd2_s, bd3_s, bd4_s, bd5_s, bd6_s, bd7_s, bd8_s, bd9_s, bd10_s, bd11_s, bd12_s, bd13_s, bd14_s, bd15_s, bd16_s, bd17_s, bd18_s, bd19_s, bd20_s, bd21_s, bd22_s, bd23_s, bd24_s, bd25_s]
theorem NM.cg {L : Nat} {M P : Nat → Nat → Nat} {lf' lt' lm' lq' mM mP : Nat → Int32} (h : NM G L M P lf lt lm lq mM mP) (e : ∀ k, k < L → lf' k = lf k ∧ lt' k = lt k ∧ lm' k = lm k ∧ lq' k = lq k) : NM G L M P lf' lt' lm' lq' mM mP := by
  obtain ⟨h1, h2, h3⟩ := h
  refine ⟨h1, fun k hk => ?_, fun a c ha hc w => ?_⟩
  · rw [(e k hk).1, (e k hk).2.1, (e k hk).2.2.1, (e k hk).2.2.2]; exact h2 k hk
  · obtain ⟨k, k1, k2, k3⟩ := h3 a c ha hc w
    exact ⟨k, k1, by rw [(e k k1).1]; exact k2, by rw [(e k k1).2.1]; exact k3⟩
theorem TW.cg {T : Nat} {tp' : Nat → Int32} (h : TW T tp) (e : ∀ k, k < T → tp' k = tp k) : TW T tp' :=
  ⟨h.1, fun k hk => by rw [e k hk]; exact h.2.1 k hk, fun i j hij hj => by rw [e i (by omega), e j hj]; exact h.2.2 i j hij hj⟩
theorem NR.cg {gn ln cn tn wn cf fn : Int32} {mM mP xca xcp xtp xta ca2 cp2 lf2 lm2 lq2 lt2 ta2 tp2 : Nat → Int32} {T : Nat} (h : NR gn ln cn tn wn cf fn mM mP xca xcp xtp xta bs lf lt lm lq ca cp tp ta G T) (e : FRX ca cp lf lm lq lt ta tp ca2 cp2 lf2 lm2 lq2 lt2 ta2 tp2) : NR gn ln cn tn wn cf fn mM mP xca xcp xtp xta bs lf2 lt2 lm2 lq2 ca2 cp2 tp2 ta2 G T := by
  obtain ⟨L, C, w, c5, fe, M, P, g1, g2, g3, g4, g5, g6, g7, N1, N2, N3, N4, N5, N6, N7, N8, N9, ⟨q1, q2, q3, q4, q5, q6, q7, q8, q9⟩, N11⟩ := h
  obtain ⟨e1, e2, e3⟩ := e
  have hT := q4.1
  exact ⟨L, C, w, c5, fe, M, P, g1, g2, g3, g4, g5, g6, g7, N1, N2, N3, N4, N5, N6, N7, N8, N9.cg (fun k hk => e1 k (by omega)), ⟨q1, q2, fun k hk => by rw [(e2 k (by omega)).1]; exact q3 k hk, q4.cg (fun k hk => (e3 k (by omega)).1), q5, fun k hk => by rw [(e3 k (by omega)).1, (e3 k (by omega)).2]; exact q6 k hk, q7, q8, q9⟩, fun k hk => by rw [(e2 k (by omega)).2]; exact N11 k hk⟩
theorem DRX.nr {ws cs fs ln cn tn wn cf fn : Int32} {xca xcp mM mP xta xtp : Nat → Int32} (h : DRX G ws cs fs ln cn tn wn cf fn xca xcp mM mP xta xtp gv ca cp dr lf lm lq lt ta tp) (hG : G ≤ 10) : ∃ T, NR (nI G) ln cn tn wn cf fn mM mP xca xcp xtp xta (spl bs dr 0 7) (sha lf 24 24) (sha lt 24 24) (sha lm 24 24) (sha lq 24 24) (sha ca 4 4) (sha cp 4 4) (sha tp 12 12) (sha ta 12 12) G T := by
  obtain ⟨L, C, T, w, c5, fe, M, P, rfl, rfl, rfl, rfl, rfl, rfl, W1, W2, W3, W4, D0, D1, D2, D3, D4, D5, D6, ⟨L1, K1⟩, ⟨C1, K2⟩, ⟨K3, K4⟩, -⟩ := h
  have hT := K3.1
  refine ⟨T, L, C, w, c5, fe, M, P, rfl, rfl, rfl, rfl, rfl, rfl, rfl, hG, L1, W1, W4, (spl_z0 (by omega)).trans D0, (spl_z0 (by omega)).trans D1, (spl_z0 (by omega)).trans D4, (spl_z0 (by omega)).trans D6, K1.cg (fun k hk => ⟨sha_lt (by omega), sha_lt (by omega), sha_lt (by omega), sha_lt (by omega)⟩), ⟨C1, (spl_z0 (by omega)).trans D2, fun k hk => (K2 k hk).1.trans (sha_lt (by omega)).symm, K3.cg (fun k hk => sha_lt (by omega)), (spl_z0 (by omega)).trans D3, fun k hk => ⟨(K4 k hk).1.trans (sha_lt (by omega)).symm, (K4 k hk).2.trans (sha_lt (by omega)).symm⟩, (spl_z0 (by omega)).trans D5, W2, W3⟩, fun k hk => (K2 k hk).2.1.trans (sha_lt (by omega)).symm⟩
end
def BUF (hd le : Int32) (tx bf : Nat → Int32) : Prop := ∃ m b, hd = nI m ∧ le = nI m ∧ TXT m b tx bf
theorem LR.zero {n G T : Nat} {tp S am iv pd pa pl sb vc ax ga hx hp la ps rp st tg ti tr : Nat → Int32} (h : ∀ j, j < 2524 → S j = 0) : LR n G T tp 0 0 am iv pd pa pl sb vc 0 0 ax ga hx hp la ps rp st tg ti tr S :=
  ⟨0, 0, 0, 0, rfl, by omega, h 0 (by omega), rfl, by omega, h 3 (by omega), fun p hp => by omega, ⟨rfl, h 1 (by omega), by omega, rfl, h 2 (by omega), by omega, fun t ht => by omega, fun i hi => by omega⟩, Nat.zero_le _⟩
section
variable {F : Nat} {p : Int32} {rn0 : Nat} {dp tn0 vn0 cn0 ln0 lk0 hd len : Int32} {rn6 : Nat} {fl tk st en ws cs fs gn ln cn tn wn cf fn : Int32} {xca xcp mM mP xta xtp tx fu : Nat → Int32} {th le tl ts te tk2 v er eo gv dq : Int32} {bs bf ca cp dr sv lf lm lq lt S ta tp : Nat → Int32}
theorem h_parse (hB : BUF hd le tx bf) (hF : 30000 ≤ F) :
    (f_X9_parse F p rn0 dp tn0 vn0 cn0 ln0 lk0 hd len rn6 fl tk st en ws cs fs gn ln cn tn wn cf fn xca xcp mM mP xta xtp tx fu = some (1, 0, rn0, dp, tn0, vn0, cn0, ln0, hd, len, rn6, fl, tk, st, en, ws, cs, fs, gn, ln, cn, tn, wn, cf, fn, xca, xcp, mM, mP, xta, xtp, fu) ∧ f_X10_parse F p th le tl ts te tk2 v er eo gv dq bs bf ca cp dr sv lf lm lq lt S ta tp = some (0, 1, le, tl, ts, te, tk2, v, er, eo, gv, dq, bs, ca, cp, dr, sv, lf, lm, lq, lt, S, ta, tp)) ∨
    (∃ (r len2 fl2 tk3 st2 en2 ws2 cs2 fs2 gn2 ln2 cn2 tn2 wn2 cf2 fn2 tl2 ts2 te2 tk4 v2 er2 eo2 gv2 : Int32) (xca2 xcp2 mM2 mP2 xta2 xtp2 ca2 cp2 dr2 lf2 lm2 lq2 lt2 ta2 tp2 : Nat → Int32), f_X9_parse F p rn0 dp tn0 vn0 cn0 ln0 lk0 hd len rn6 fl tk st en ws cs fs gn ln cn tn wn cf fn xca xcp mM mP xta xtp tx fu = some (0, r, rn0, dp, tn0, vn0, cn0, ln0, 0, len2, rn6, fl2, tk3, st2, en2, ws2, cs2, fs2, gn2, ln2, cn2, tn2, wn2, cf2, fn2, xca2, xcp2, mM2, mP2, xta2, xtp2, fu) ∧ f_X10_parse F p th le tl ts te tk2 v er eo gv dq bs bf ca cp dr sv lf lm lq lt S ta tp = some (r, 0, 0, tl2, ts2, te2, tk4, v2, er2, eo2, gv2, dq, bs, ca2, cp2, dr2, sv, lf2, lm2, lq2, lt2, S, ta2, tp2) ∧ FRX ca cp lf lm lq lt ta tp ca2 cp2 lf2 lm2 lq2 lt2 ta2 tp2) ∨
    (∃ (G T : Nat) (r len2 fl2 tk3 st2 en2 ws2 cs2 fs2 gn2 ln2 cn2 tn2 wn2 cf2 fn2 tl2 ts2 te2 tk4 v2 er2 eo2 gv2 : Int32) (xca2 xcp2 mM2 mP2 xta2 xtp2 ca2 cp2 dr2 lf2 lm2 lq2 lt2 ta2 tp2 bs2 : Nat → Int32), f_X9_parse F p rn0 dp tn0 vn0 cn0 ln0 lk0 hd len rn6 fl tk st en ws cs fs gn ln cn tn wn cf fn xca xcp mM mP xta xtp tx fu = some (0, r, rn6, 0, 0, 0, 0, 0, 0, len2, rn0, fl2, tk3, st2, en2, ws2, cs2, fs2, gn2, ln2, cn2, tn2, wn2, cf2, fn2, xca2, xcp2, mM2, mP2, xta2, xtp2, spl fu (fun _ => 0) 0 2) ∧ f_X10_parse F p th le tl ts te tk2 v er eo gv dq bs bf ca cp dr sv lf lm lq lt S ta tp = some (r, 0, 0, tl2, ts2, te2, tk4, v2, er2, eo2, gv2, 0, bs2, ca2, cp2, dr2, upd (upd sv 0 0) 1 0, lf2, lm2, lq2, lt2, spl S (fun _ => 0) 0 2524, ta2, tp2) ∧ NR gn2 ln2 cn2 tn2 wn2 cf2 fn2 mM2 mP2 xca2 xcp2 xtp2 xta2 bs2 lf2 lt2 lm2 lq2 ca2 cp2 tp2 ta2 G T) := by
  obtain ⟨m, b, rfl, rfl, hT⟩ := hB
  have hm := hT.1
  rcases rg_cases p 0 m (by omega) with ⟨n, -, n2, rfl⟩ | h
  · have hT' : TXT n b tx bf := ⟨by omega, fun i hi => hT.2 i (by omega)⟩
    have wi : f_X10_within F (nI n).toInt64 0 (nI m).toInt64 = some 1 := within_1 (by rw [i64_0, Int32.toInt_toInt64, nI_toInt (by omega)]; omega) (by rw [Int32.toInt_toInt64, Int32.toInt_toInt64, nI_toInt (by omega), nI_toInt (by omega)]; omega)
    -- the class, up to the text
    have e900 : (if (900 : Int32) < nI n then 900 else nI n) = nI n := if_neg (fun w => by have := (nI_ltI (a := 900) (by omega) (by omega)).mp w; omega)
    have f1 := fill_v (F := F) mM (by omega)
    have f2 := fill_v (F := F) mP (by omega)
    have hp0 : ¬ nI n < (0 : Int32) := nI_pos (by omega)
    have hp1 : nI n ≤ nI m := (nI_leI (by omega) (by omega)).mpr n2
    have z100 : ∀ k, k < 100 → spl mM (fun _ => 0) 0 100 k = 0 ∧ spl mP (fun _ => 0) 0 100 k = 0 := fun k hk => ⟨spl_z0 hk, spl_z0 hk⟩
    -- the reference, up to the text
    have d0 : ∀ q, f_X10_parse F (nI n) th (nI m) tl ts te tk2 v er eo gv dq bs bf ca cp dr sv lf lm lq lt S ta tp = q ↔ (if nI n ≤ (0 : Int32) then f_X10_parse_b94 F bf 0 0 (nI n) ts 0 tk2 v 0 eo 0 dq bs ca cp (upd (upd (spl dr (fun _ => 0) 0 7) 4 1) 5 60) sv lf lm lq lt S ta tp else bd16 (f_X10_readNetwork F (nI n) ts 0 tk2 v 0 eo 0 bf ca cp (upd (upd (spl dr (fun _ => 0) 0 7) 4 1) 5 60) lf lm lq lt ta tp) fun o30 o31 o32 o33 o34 o35 o36 o37 o38 o39 o40 o41 o42 o43 o44 o45 => f_X10_parse_b94 F bf 0 0 (nI n) o30 o31 o32 o33 o34 o35 o36 dq bs o37 o38 o39 sv o40 o41 o42 o43 S o44 o45) = q := by
      intro q
      unfold f_X10_parse
      rw [wi, bd1_s, if_neg (show ¬ (1 : Int32) = 0 by decide)]
      unfold f_X10_parse_L52
      have hl := lp_at (F := F) (body := fun k z => f_X10_parse_h52 F bf k z.1 z.2.1 z.2.2.1 z.2.2.2.1 z.2.2.2.2.1 z.2.2.2.2.2.1 z.2.2.2.2.2.2.1 z.2.2.2.2.2.2.2.1 z.2.2.2.2.2.2.2.2.1 z.2.2.2.2.2.2.2.2.2.1 z.2.2.2.2.2.2.2.2.2.2.1 z.2.2.2.2.2.2.2.2.2.2.2.1 z.2.2.2.2.2.2.2.2.2.2.2.2.1 z.2.2.2.2.2.2.2.2.2.2.2.2.2.1 z.2.2.2.2.2.2.2.2.2.2.2.2.2.2.1 z.2.2.2.2.2.2.2.2.2.2.2.2.2.2.2.1 z.2.2.2.2.2.2.2.2.2.2.2.2.2.2.2.2.1 z.2.2.2.2.2.2.2.2.2.2.2.2.2.2.2.2.2.1 z.2.2.2.2.2.2.2.2.2.2.2.2.2.2.2.2.2.2.1 z.2.2.2.2.2.2.2.2.2.2.2.2.2.2.2.2.2.2.2.1 z.2.2.2.2.2.2.2.2.2.2.2.2.2.2.2.2.2.2.2.2.1 z.2.2.2.2.2.2.2.2.2.2.2.2.2.2.2.2.2.2.2.2.2.1 z.2.2.2.2.2.2.2.2.2.2.2.2.2.2.2.2.2.2.2.2.2.2.1 z.2.2.2.2.2.2.2.2.2.2.2.2.2.2.2.2.2.2.2.2.2.2.2.1 z.2.2.2.2.2.2.2.2.2.2.2.2.2.2.2.2.2.2.2.2.2.2.2.2) (z := (nI n, 0, 0, 0, nI n, ts, 0, tk2, v, 0, eo, 0, dq, bs, ca, cp, dr, sv, lf, lm, lq, lt, S, ta, tp)) (r := (if nI n ≤ (0 : Int32) then f_X10_parse_b94 F bf 0 0 (nI n) ts 0 tk2 v 0 eo 0 dq bs ca cp (upd (upd (spl dr (fun _ => 0) 0 7) 4 1) 5 60) sv lf lm lq lt S ta tp else bd16 (f_X10_readNetwork F (nI n) ts 0 tk2 v 0 eo 0 bf ca cp (upd (upd (spl dr (fun _ => 0) 0 7) 4 1) 5 60) lf lm lq lt ta tp) fun o30 o31 o32 o33 o34 o35 o36 o37 o38 o39 o40 o41 o42 o43 o44 o45 => f_X10_parse_b94 F bf 0 0 (nI n) o30 o31 o32 o33 o34 o35 o36 dq bs o37 o38 o39 sv o40 o41 o42 o43 S o44 o45)) (fun i => (nI n, nI i, 0, 0, nI n, ts, 0, tk2, v, 0, eo, 0, dq, bs, ca, cp, spl dr (fun _ => 0) 0 i, sv, lf, lm, lq, lt, S, ta, tp)) 7 (by omega) (by rw [spl_0]; rfl) (fun i hi k => by
        have s1 := spl_z dr (fun _ => 0) i
        try dsimp only at s1
        dsimp only
        unfold f_X10_parse_h52
        rw [if_neg (show ¬ (7 : Int32) ≤ nI i from fun w => by have := (nI_leI (a := 7) (by omega) (by omega)).mp w; omega), wr_n (by omega) (by decide), s1, show nI i + 1 = nI (i + 1) from nI_add i 1]) (fun k => by
        dsimp only
        unfold f_X10_parse_h52
        rw [if_pos (show (7 : Int32) ≤ nI 7 by decide), show (4 : Int32) = nI 4 from rfl, wr_n (by decide) (by decide), show (5 : Int32) = nI 5 from rfl, wr_n (by decide) (by decide)])
      rw [hl]
    have hd7 : ∀ k, k < 7 → upd (upd (spl dr (fun _ => 0) 0 7) 4 1) 5 60 k = if k = 5 then 60 else if k = 4 then 1 else 0 := fun k hk => by
      rw [upd_at, upd_at, spl_z0 hk]
    by_cases n0 : n = 0
    · -- no text
      subst n0
      refine .inr (.inr ?_)
      have hl : f_X5_readText_b59 F tx 0 (nI 0) 0 tk st 0 0 0 0 0 0 0 0 1 60 0 xca xcp (spl mM (fun _ => 0) 0 100) (spl mP (fun _ => 0) 0 100) xta xtp = some (0, nI 0, 0, tk, st, 0, 0, 0, 0, 0, 0, 0, 0, 1, 60, 0, xca, xcp, spl mM (fun _ => 0) 0 100, spl mP (fun _ => 0) 0 100, xta, xtp) := by
        unfold f_X5_readText_b59 f_X5_readText_L61
        refine lp_at (fun _ => (0, 0, nI 0, 0, tk, st, 0, 0, 0, 0, 0, 0, 0, 0, 1, 60, 0, xca, xcp, spl mM (fun _ => 0) 0 100, spl mP (fun _ => 0) 0 100, xta, xtp)) 0 (by omega) rfl (fun i hi k => by omega) (fun k => ?_)
        dsimp only
        unfold f_X5_readText_h61 f_X5_readText_b102
        rw [if_pos (show nI 0 ≤ (0 : Int32) by decide)]
      have hnr : DRX 0 0 0 0 0 0 0 1 60 0 xca xcp (spl mM (fun _ => 0) 0 100) (spl mP (fun _ => 0) 0 100) xta xtp 0 ca cp (upd (upd (spl dr (fun _ => 0) 0 7) 4 1) 5 60) lf lm lq lt ta tp :=
        ⟨0, 0, 0, 1, 60, 0, fun _ _ => 0, fun _ _ => 0, rfl, rfl, rfl, rfl, rfl, rfl, by omega, by omega, by omega, by omega, hd7 0 (by omega), hd7 1 (by omega), hd7 2 (by omega), hd7 3 (by omega), hd7 4 (by omega), hd7 5 (by omega), hd7 6 (by omega), ⟨by omega, fun a c ha hc => absurd ha (by omega), fun k hk => by omega, fun a c _ _ w => absurd w (Nat.lt_irrefl 0)⟩, ⟨by omega, fun k hk => by omega⟩, ⟨⟨by omega, fun k hk => by omega, fun i j _ hj => by omega⟩, fun k hk => by omega⟩, ⟨0, 0, 0, by omega, by omega, by omega, rfl, rfl, rfl, rfl⟩⟩
      obtain ⟨T, hN⟩ := hnr.nr (bs := bs) (by omega)
      refine ⟨0, T, 0, nI 0, 0, tk, st, 0, 0, 0, 0, 0, 0, 0, 0, 1, 60, 0, nI 0, ts, 0, tk2, v, 0, eo, 0, xca, xcp, spl mM (fun _ => 0) 0 100, spl mP (fun _ => 0) 0 100, xta, xtp, sha ca 4 4, sha cp 4 4, upd (upd (spl dr (fun _ => 0) 0 7) 4 1) 5 60, sha lf 24 24, sha lm 24 24, sha lq 24 24, sha lt 24 24, sha ta 12 12, sha tp 12 12, spl bs (upd (upd (spl dr (fun _ => 0) 0 7) 4 1) 5 60) 0 7, ?_, ?_, hN⟩
      · unfold f_X9_parse f_X5_readText f_X4_reset
        rw [if_neg hp0, if_pos hp1, f1, bd1_s, f2, bd1_s, bd9_s, e900, if_pos (show nI 0 ≤ (0 : Int32) by decide), hl, bd22_s, if_pos rfl]
        unfold f_X3_reset f_X6_reset f_X1_reset f_X2_forget
        rw [bd2_s, bd2_s, bd4_s, bd1_s, dis_v fu (by omega), bd1_s]
      · rw [d0, if_pos (show nI 0 ≤ (0 : Int32) by decide), ok94_v hF, hd7 1 (by omega)]
        rfl
    · have hn0 : ¬ nI n ≤ (0 : Int32) := nI_nl0 n0 (by omega)
      obtain ⟨G, hG, r, r', w1, w2, w3⟩ := txt_both (F := F) (tk := tk) (st := st) (ts := ts) (tk2 := tk2) (v := v) (eo := eo) (xca := xca) (xcp := xcp) (mM := spl mM (fun _ => 0) 0 100) (mP := spl mP (fun _ => 0) 0 100) (xta := xta) (xtp := xtp) (ca := ca) (cp := cp) (dr := upd (upd (spl dr (fun _ => 0) 0 7) 4 1) 5 60) (lf := lf) (lm := lm) (lq := lq) (lt := lt) (ta := ta) (tp := tp) hT' (by omega) (by omega) z100 ⟨hd7 1 (by omega), hd7 2 (by omega), hd7 3 (by omega), hd7 4 (by omega), hd7 5 (by omega), hd7 6 (by omega)⟩
      have hc : f_X5_readText F (nI n) (nI m) len fl tk st en ws cs fs gn ln cn tn wn cf fn xca xcp mM mP xta xtp tx = some r := by
        rw [← w1]
        unfold f_X5_readText f_X4_reset
        rw [f1, bd1_s, f2, bd1_s, bd9_s, e900, if_neg hn0]
      unfold f_X9_parse
      rw [if_neg hp0, if_pos hp1, hc]
      simp only [d0, if_neg hn0, w2]
      rcases w3 with ⟨tk', st', en', ts', te', tk2', v2', eo', ws2, cs2, fs2, ln2, cn2, tn2, wn2, cf2, fn2, gv2, xca2, xcp2, mM2, mP2, xta2, xtp2, ca2, cp2, dr2, lf2, lm2, lq2, lt2, ta2, tp2, rfl, rfl, hD, hFr⟩ | ⟨d, s1, tk', st', en', gn', ts', te', tk2', v2', ws2, cs2, fs2, ln2, cn2, tn2, wn2, cf2, fn2, gv2, xca2, xcp2, mM2, mP2, xta2, xtp2, ca2, cp2, dr2, lf2, lm2, lq2, lt2, ta2, tp2, rfl, rfl, g1, g2, g3, hFr⟩
      · refine .inr (.inr ?_)
        obtain ⟨T, hN⟩ := hD.nr (bs := bs) hG
        refine ⟨G, T, ln2, nI n, 0, tk', st', en', ws2, cs2, fs2, nI G, ln2, cn2, tn2, wn2, cf2, fn2, nI n, ts', te', tk2', v2', 0, eo', gv2, xca2, xcp2, mM2, mP2, xta2, xtp2, sha ca2 4 4, sha cp2 4 4, dr2, sha lf2 24 24, sha lm2 24 24, sha lq2 24 24, sha lt2 24 24, sha ta2 12 12, sha tp2 12 12, spl bs dr2 0 7, ?_, ?_, hN⟩
        · rw [bd22_s, if_pos rfl]
          unfold f_X3_reset f_X6_reset f_X1_reset f_X2_forget
          rw [bd2_s, bd2_s, bd4_s, bd1_s, dis_v fu (by omega), bd1_s]
        · rw [bd16_s, ok94_v hF]
          obtain ⟨L, C, T', w, c5, fe, M, P, rfl, -, -, -, -, -, -, -, -, -, -, D1, -⟩ := hD
          rw [D1]
      · refine .inr (.inl ?_)
        obtain ⟨f1, f2, f3⟩ := fin_f (d := d) (s1 := s1) hT'.1 g1 g2 g3
        refine ⟨-2 - nI (8 * s1 + d), nI n, nI (8 * s1 + d), tk', st', en', ws2, cs2, fs2, gn', ln2, cn2, tn2, wn2, cf2, fn2, nI n, ts', te', tk2', v2', nI d, nI s1, gv2, xca2, xcp2, mM2, mP2, xta2, xtp2, ca2, cp2, dr2, lf2, lm2, lq2, lt2, ta2, tp2, ?_, ?_, hFr⟩
        · rw [bd22_s, if_neg (nI_nz f1 f2)]
        · rw [bd16_s]
          unfold f_X10_parse_b94
          rw [if_neg f3, lr_mul, nI_add]
  · have wi : f_X10_within F p.toInt64 0 (nI m).toInt64 = some 0 := within_0 (by rw [i64_0, Int32.toInt_toInt64, Int32.toInt_toInt64, nI_toInt (by omega)]; omega)
    refine .inl ⟨?_, ?_⟩
    · unfold f_X9_parse f_X9_parse_b15
      by_cases h1 : p < 0
      · rw [if_pos h1]
      · rw [if_neg h1, if_neg (show ¬ p ≤ nI m by
          rw [i32_lt] at h1
          rw [i32_le, nI_toInt (by omega)]
          have e0 : (0 : Int32).toInt = 0 := by decide
          omega)]
    · unfold f_X10_parse f_X10_fail
      rw [wi, bd1_s, if_pos rfl, bd2_s]
end
