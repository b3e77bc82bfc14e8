/-! a statement, whichever it is -/
def DRX (G : Nat) (ws cs fs ln cn tn wn cf fn : Int32) (xca xcp mM mP xta xtp : Nat → Int32) (gv : Int32) (ca cp dr lf lm lq lt ta tp : Nat → Int32) : Prop :=
  ∃ (L C T w c5 fe : Nat) (M P : Nat → Nat → Nat), ln = nI L ∧ cn = nI C ∧ tn = nI T ∧ wn = nI w ∧ cf = nI c5 ∧ fn = nI fe ∧ w ≤ 10 ∧ 1 ≤ c5 ∧ c5 ≤ 300 ∧ fe ≤ 5000 ∧ dr 0 = nI G ∧ dr 1 = nI L ∧ dr 2 = nI C ∧ dr 3 = nI T ∧ dr 4 = nI w ∧ dr 5 = nI c5 ∧ dr 6 = nI fe ∧ LK G L M P lf lt lm lq mM mP ∧ CLR C xca xcp ca cp ∧ TGR T xtp xta tp ta ∧ GVR gv ws cs fs
def FRX (ca cp lf lm lq lt ta tp ca2 cp2 lf2 lm2 lq2 lt2 ta2 tp2 : Nat → Int32) : Prop := (∀ k, k < 24 → lf2 k = lf k ∧ lt2 k = lt k ∧ lm2 k = lm k ∧ lq2 k = lq k) ∧ (∀ k, k < 4 → ca2 k = ca k ∧ cp2 k = cp k) ∧ ∀ k, k < 12 → tp2 k = tp k ∧ ta2 k = ta k
theorem FRX.rf {ca cp lf lm lq lt ta tp : Nat → Int32} : FRX ca cp lf lm lq lt ta tp ca cp lf lm lq lt ta tp := ⟨fun _ _ => ⟨rfl, rfl, rfl, rfl⟩, fun _ _ => ⟨rfl, rfl⟩, fun _ _ => ⟨rfl, rfl⟩⟩
theorem FRX.tr {ca cp lf lm lq lt ta tp ca2 cp2 lf2 lm2 lq2 lt2 ta2 tp2 ca3 cp3 lf3 lm3 lq3 lt3 ta3 tp3 : Nat → Int32} (h : FRX ca cp lf lm lq lt ta tp ca2 cp2 lf2 lm2 lq2 lt2 ta2 tp2) (h' : FRX ca2 cp2 lf2 lm2 lq2 lt2 ta2 tp2 ca3 cp3 lf3 lm3 lq3 lt3 ta3 tp3) : FRX ca cp lf lm lq lt ta tp ca3 cp3 lf3 lm3 lq3 lt3 ta3 tp3 :=
  ⟨fun k hk => ⟨(h'.1 k hk).1.trans (h.1 k hk).1, (h'.1 k hk).2.1.trans (h.1 k hk).2.1, (h'.1 k hk).2.2.1.trans (h.1 k hk).2.2.1, (h'.1 k hk).2.2.2.trans (h.1 k hk).2.2.2⟩, fun k hk => ⟨(h'.2.1 k hk).1.trans (h.2.1 k hk).1, (h'.2.1 k hk).2.trans (h.2.1 k hk).2⟩, fun k hk => ⟨(h'.2.2 k hk).1.trans (h.2.2 k hk).1, (h'.2.2 k hk).2.trans (h.2.2 k hk).2⟩⟩
section
variable {F n e0 e s k G : Nat} {b : Nat → Nat} {tx bf : Nat → Int32} {v eo : Int32} {ws cs fs ln cn tn wn cf fn gv : Int32} {xca xcp mM mP xta xtp ca cp dr lf lm lq lt ta tp : Nat → Int32}
theorem st_all (h : TXT n b tx bf) (t : TOK F n tx e0 s e k v) (hG1 : 2 ≤ G) (hG : G ≤ 10) (hD : DRX G ws cs fs ln cn tn wn cf fn xca xcp mM mP xta xtp gv ca cp dr lf lm lq lt ta tp) (hF : 2000 ≤ F) :
    (∃ (tk' st' : Int32) (e2 s2 e3 k2 : Nat) (v2 : Int32) (ws2 cs2 fs2 ln2 cn2 tn2 wn2 cf2 fn2 gv2 : Int32) (xca2 xcp2 mM2 mP2 xta2 xtp2 ca2 cp2 dr2 lf2 lm2 lq2 lt2 ta2 tp2 : Nat → Int32), f_X5_readStatement F (nI n) 0 (nI k) (nI s) (nI e) ws cs fs (nI G) ln cn tn wn cf fn xca xcp mM mP xta xtp tx = some (0, tk', st', nI e2, ws2, cs2, fs2, ln2, cn2, tn2, wn2, cf2, fn2, xca2, xcp2, mM2, mP2, xta2, xtp2) ∧ (∀ eo, f_X10_statement F (nI n) (nI s) (nI e) (rk k) v 0 eo gv bf ca cp dr lf lm lq lt ta tp = some (nI s2, nI e3, rk k2, v2, 0, eo, gv2, ca2, cp2, dr2, lf2, lm2, lq2, lt2, ta2, tp2)) ∧ TOK F n tx e2 s2 e3 k2 v2 ∧ e ≤ e2 ∧ DRX G ws2 cs2 fs2 ln2 cn2 tn2 wn2 cf2 fn2 xca2 xcp2 mM2 mP2 xta2 xtp2 gv2 ca2 cp2 dr2 lf2 lm2 lq2 lt2 ta2 tp2 ∧ FRX ca cp lf lm lq lt ta tp ca2 cp2 lf2 lm2 lq2 lt2 ta2 tp2) ∨
    (∃ (d s1 e2 : Nat) (tk' st' ts te tk2 v2 : Int32) (ws2 cs2 fs2 ln2 cn2 tn2 wn2 cf2 fn2 gv2 : Int32) (xca2 xcp2 mM2 mP2 xta2 xtp2 ca2 cp2 dr2 lf2 lm2 lq2 lt2 ta2 tp2 : Nat → Int32), 1 ≤ d ∧ d ≤ 4 ∧ s1 ≤ n ∧ e2 ≤ n ∧ f_X5_readStatement F (nI n) 0 (nI k) (nI s) (nI e) ws cs fs (nI G) ln cn tn wn cf fn xca xcp mM mP xta xtp tx = some (nI (8 * s1 + d), tk', st', nI e2, ws2, cs2, fs2, ln2, cn2, tn2, wn2, cf2, fn2, xca2, xcp2, mM2, mP2, xta2, xtp2) ∧ (∀ eo, f_X10_statement F (nI n) (nI s) (nI e) (rk k) v 0 eo gv bf ca cp dr lf lm lq lt ta tp = some (ts, te, tk2, v2, nI d, nI s1, gv2, ca2, cp2, dr2, lf2, lm2, lq2, lt2, ta2, tp2)) ∧ FRX ca cp lf lm lq lt ta tp ca2 cp2 lf2 lm2 lq2 lt2 ta2 tp2) := by
  obtain ⟨L, C, T, w, c5, fe, M, P, rfl, rfl, rfl, rfl, rfl, rfl, W1, W2, W3, W4, D0, D1, D2, D3, D4, D5, D6, K1, K2, K3, ga, gb, gc, g1, g2, g3, rfl, rfl, rfl, rfl⟩ := hD
  have h1 := h.1
  have t3 : e ≤ n := t.2.2.1
  have sn : s ≤ n := Nat.le_trans t.2.1 t3
  have n10 : ¬ (1 : Int32) = 0 := by decide
  obtain ⟨r1, z1, ci1, q1, -⟩ := isw (j := 1) h (by omega) t hF
  obtain ⟨r2, z2, ci2, q2, -⟩ := isw (j := 2) h (by omega) t hF
  obtain ⟨r3, z3, ci3, q3, -⟩ := isw (j := 3) h (by omega) t hF
  obtain ⟨r4, z4, ci4, q4, -⟩ := isw (j := 4) h (by omega) t hF
  obtain ⟨r5, z5, ci5, q5, -⟩ := isw (j := 5) h (by omega) t hF
  obtain ⟨r6, z6, ci6, q6, -⟩ := isw (j := 6) h (by omega) t hF
  rcases z1.symm with z1' | z1'
  · -- link
    have z1' : ¬ r1 = 0 := by rw [z1']; decide
    rcases st_link (tk := rk k) (v := v) h t3 sn hG1 hG D0 D1 K1 hF (nI k) with ⟨L', M', P', tk', st', e2, s2, e3, k2, v2, mM', mP', lf', lm', lq', lt', w1, w2, w3, w4, w5, w6⟩ | ⟨d, s1, e2, tk', st', ts, te, tk2, v2, y1, y2, y3, y4, w1, w2⟩
    · refine .inl ⟨tk', st', e2, s2, e3, k2, v2, nI ga, nI gb, nI gc, nI L', nI C, nI T, nI w, nI c5, nI fe, nI (ga + 2 * gb + 4 * gc), xca, xcp, mM', mP', xta, xtp, ca, cp, upd dr 1 (nI L'), lf', lm', lq', lt', ta, tp, ?_, fun eo => ?_, w3, w4, ⟨L', C, T, w, c5, fe, M', P', rfl, rfl, rfl, rfl, rfl, rfl, W1, W2, W3, W4, (by rw [upd_at, if_neg (by omega)]; exact D0), (by rw [upd_at, if_pos rfl]), (by rw [upd_at, if_neg (by omega)]; exact D2), (by rw [upd_at, if_neg (by omega)]; exact D3), (by rw [upd_at, if_neg (by omega)]; exact D4), (by rw [upd_at, if_neg (by omega)]; exact D5), (by rw [upd_at, if_neg (by omega)]; exact D6), w5, K2, K3, ⟨ga, gb, gc, g1, g2, g3, rfl, rfl, rfl, rfl⟩⟩, ⟨w6, fun _ _ => ⟨rfl, rfl⟩, fun _ _ => ⟨rfl, rfl⟩⟩⟩
      · unfold f_X5_readStatement f_X5_readStatement_b101
        rw [ci1, bd1_s, if_neg z1', w1, bd7_s]
      · unfold f_X10_statement f_X10_statement_b131
        rw [q1, bd1_s, if_neg z1', w2, bd11_s]
    · refine .inr ⟨d, s1, e2, tk', st', ts, te, tk2, v2, nI ga, nI gb, nI gc, nI L, nI C, nI T, nI w, nI c5, nI fe, nI (ga + 2 * gb + 4 * gc), xca, xcp, mM, mP, xta, xtp, ca, cp, dr, lf, lm, lq, lt, ta, tp, y1, y2, y3, y4, ?_, fun eo => ?_, FRX.rf⟩
      · unfold f_X5_readStatement f_X5_readStatement_b101
        rw [ci1, bd1_s, if_neg z1', w1, bd7_s]
      · unfold f_X10_statement f_X10_statement_b131
        rw [q1, bd1_s, if_neg z1', w2, bd11_s]
  rcases z2.symm with z2' | z2'
  · -- class
    have z2' : ¬ r2 = 0 := by rw [z2']; decide
    rcases st_class (tk := rk k) (v := v) h t3 sn D2 K2 hF (nI k) with ⟨C', tk', st', e2, s2, e3, k2, v2, xa', xp', xa, xp, w1, w2, w3, w4, w5, w6⟩ | ⟨d, s1, e2, tk', st', ts, te, tk2, v2, y1, y2, y3, y4, w1, w2⟩
    · refine .inl ⟨tk', st', e2, s2, e3, k2, v2, nI ga, nI gb, nI gc, nI L, nI C', nI T, nI w, nI c5, nI fe, nI (ga + 2 * gb + 4 * gc), xa', xp', mM, mP, xta, xtp, xa, xp, upd dr 2 (nI C'), lf, lm, lq, lt, ta, tp, ?_, fun eo => ?_, w3, w4, ⟨L, C', T, w, c5, fe, M, P, rfl, rfl, rfl, rfl, rfl, rfl, W1, W2, W3, W4, (by rw [upd_at, if_neg (by omega)]; exact D0), (by rw [upd_at, if_neg (by omega)]; exact D1), (by rw [upd_at, if_pos rfl]), (by rw [upd_at, if_neg (by omega)]; exact D3), (by rw [upd_at, if_neg (by omega)]; exact D4), (by rw [upd_at, if_neg (by omega)]; exact D5), (by rw [upd_at, if_neg (by omega)]; exact D6), K1, w5, K3, ⟨ga, gb, gc, g1, g2, g3, rfl, rfl, rfl, rfl⟩⟩, ⟨fun _ _ => ⟨rfl, rfl, rfl, rfl⟩, w6, fun _ _ => ⟨rfl, rfl⟩⟩⟩
      · unfold f_X5_readStatement f_X5_readStatement_b101
        rw [ci1, bd1_s, if_pos z1', ci2, bd1_s, if_neg z2', w1, bd7_s]
      · unfold f_X10_statement f_X10_statement_b131
        rw [q1, bd1_s, if_pos z1', q2, bd1_s, if_neg z2', w2, bd9_s]
    · refine .inr ⟨d, s1, e2, tk', st', ts, te, tk2, v2, nI ga, nI gb, nI gc, nI L, nI C, nI T, nI w, nI c5, nI fe, nI (ga + 2 * gb + 4 * gc), xca, xcp, mM, mP, xta, xtp, ca, cp, dr, lf, lm, lq, lt, ta, tp, y1, y2, y3, y4, ?_, fun eo => ?_, FRX.rf⟩
      · unfold f_X5_readStatement f_X5_readStatement_b101
        rw [ci1, bd1_s, if_pos z1', ci2, bd1_s, if_neg z2', w1, bd7_s]
      · unfold f_X10_statement f_X10_statement_b131
        rw [q1, bd1_s, if_pos z1', q2, bd1_s, if_neg z2', w2, bd9_s]
  rcases z3.symm with z3' | z3'
  · -- tag
    have z3' : ¬ r3 = 0 := by rw [z3']; decide
    rcases st_tag (tk := rk k) (v := v) h t3 sn D3 K3 hF (nI k) with ⟨T2, tk', st', e2, s2, e3, k2, v2, xa', xp', xa, xp, w1, w2, w3, w4, w5, w6⟩ | ⟨d, s1, e2, tk', st', ts, te, tk2, v2, y1, y2, y3, y4, w1, w2⟩
    · refine .inl ⟨tk', st', e2, s2, e3, k2, v2, nI ga, nI gb, nI gc, nI L, nI C, nI T2, nI w, nI c5, nI fe, nI (ga + 2 * gb + 4 * gc), xca, xcp, mM, mP, xa', xp', ca, cp, upd dr 3 (nI T2), lf, lm, lq, lt, xa, xp, ?_, fun eo => ?_, w3, w4, ⟨L, C, T2, w, c5, fe, M, P, rfl, rfl, rfl, rfl, rfl, rfl, W1, W2, W3, W4, (by rw [upd_at, if_neg (by omega)]; exact D0), (by rw [upd_at, if_neg (by omega)]; exact D1), (by rw [upd_at, if_neg (by omega)]; exact D2), (by rw [upd_at, if_pos rfl]), (by rw [upd_at, if_neg (by omega)]; exact D4), (by rw [upd_at, if_neg (by omega)]; exact D5), (by rw [upd_at, if_neg (by omega)]; exact D6), K1, K2, w5, ⟨ga, gb, gc, g1, g2, g3, rfl, rfl, rfl, rfl⟩⟩, ⟨fun _ _ => ⟨rfl, rfl, rfl, rfl⟩, fun _ _ => ⟨rfl, rfl⟩, w6⟩⟩
      · unfold f_X5_readStatement f_X5_readStatement_b101
        rw [ci1, bd1_s, if_pos z1', ci2, bd1_s, if_pos z2', ci3, bd1_s, if_neg z3', w1, bd7_s]
      · unfold f_X10_statement f_X10_statement_b131
        rw [q1, bd1_s, if_pos z1', q2, bd1_s, if_pos z2', q3, bd1_s, if_neg z3', w2, bd9_s]
    · refine .inr ⟨d, s1, e2, tk', st', ts, te, tk2, v2, nI ga, nI gb, nI gc, nI L, nI C, nI T, nI w, nI c5, nI fe, nI (ga + 2 * gb + 4 * gc), xca, xcp, mM, mP, xta, xtp, ca, cp, dr, lf, lm, lq, lt, ta, tp, y1, y2, y3, y4, ?_, fun eo => ?_, FRX.rf⟩
      · unfold f_X5_readStatement f_X5_readStatement_b101
        rw [ci1, bd1_s, if_pos z1', ci2, bd1_s, if_pos z2', ci3, bd1_s, if_neg z3', w1, bd7_s]
      · unfold f_X10_statement f_X10_statement_b131
        rw [q1, bd1_s, if_pos z1', q2, bd1_s, if_pos z2', q3, bd1_s, if_neg z3', w2, bd9_s]
  rcases z4.symm with z4' | z4'
  · -- window
    have z4' : ¬ r4 = 0 := by rw [z4']; decide
    obtain ⟨gt1, gt2⟩ := gv_t0 ga g1 gb g2 gc g3
    rcases st_Window (x0 := nI w) (tk := rk k) (v := v) h t3 sn g1 rfl gt1 hF (nI k) with ⟨x, tk', st', e2, s2, e3, k2, v2, x1, x2, w1, w2, w3, w4⟩ | ⟨d, s1, e2, tk', st', ts, te, tk2, v2, x', y', g', y1, y2, y3, y4, w1, w2⟩
    · refine .inl ⟨tk', st', e2, s2, e3, k2, v2, 1, nI gb, nI gc, nI L, nI C, nI T, nI x, nI c5, nI fe, nI (1 + 2 * gb + 4 * gc), xca, xcp, mM, mP, xta, xtp, ca, cp, upd dr 4 (nI x), lf, lm, lq, lt, ta, tp, ?_, fun eo => ?_, w3, w4, ⟨L, C, T, x, c5, fe, M, P, rfl, rfl, rfl, rfl, rfl, rfl, x2, W2, W3, W4, (by rw [upd_at, if_neg (by omega)]; exact D0), (by rw [upd_at, if_neg (by omega)]; exact D1), (by rw [upd_at, if_neg (by omega)]; exact D2), (by rw [upd_at, if_neg (by omega)]; exact D3), (by rw [upd_at, if_pos rfl]), (by rw [upd_at, if_neg (by omega)]; exact D5), (by rw [upd_at, if_neg (by omega)]; exact D6), K1, K2, K3, ⟨1, gb, gc, by omega, g2, g3, rfl, rfl, rfl, rfl⟩⟩, FRX.rf⟩
      · unfold f_X5_readStatement f_X5_readStatement_b101
        rw [ci1, bd1_s, if_pos z1', ci2, bd1_s, if_pos z2', ci3, bd1_s, if_pos z3', ci4, bd1_s, if_neg z4', w1, bd6_s]
      · unfold f_X10_statement f_X10_statement_b131
        rw [q1, bd1_s, if_pos z1', q2, bd1_s, if_pos z2', q3, bd1_s, if_pos z3', q4, bd1_s, if_neg z4', w2, bd8_s, show (4 : Int32) = nI 4 from rfl, wr_n (by decide) (by decide), gt2]
    · refine .inr ⟨d, s1, e2, tk', st', ts, te, tk2, v2, 1, nI gb, nI gc, nI L, nI C, nI T, x', nI c5, nI fe, g', xca, xcp, mM, mP, xta, xtp, ca, cp, upd dr 4 y', lf, lm, lq, lt, ta, tp, y1, y2, y3, y4, ?_, fun eo => ?_, FRX.rf⟩
      · unfold f_X5_readStatement f_X5_readStatement_b101
        rw [ci1, bd1_s, if_pos z1', ci2, bd1_s, if_pos z2', ci3, bd1_s, if_pos z3', ci4, bd1_s, if_neg z4', w1, bd6_s]
      · unfold f_X10_statement f_X10_statement_b131
        rw [q1, bd1_s, if_pos z1', q2, bd1_s, if_pos z2', q3, bd1_s, if_pos z3', q4, bd1_s, if_neg z4', w2, bd8_s, show (4 : Int32) = nI 4 from rfl, wr_n (by decide) (by decide)]
  rcases z5.symm with z5' | z5'
  · -- confidence
    have z5' : ¬ r5 = 0 := by rw [z5']; decide
    obtain ⟨gt1, gt2⟩ := gv_t1 ga g1 gb g2 gc g3
    rcases st_Confidence (x0 := nI c5) (tk := rk k) (v := v) h t3 sn g2 rfl gt1 hF (nI k) with ⟨x, tk', st', e2, s2, e3, k2, v2, x1, x2, w1, w2, w3, w4⟩ | ⟨d, s1, e2, tk', st', ts, te, tk2, v2, x', y', g', y1, y2, y3, y4, w1, w2⟩
    · refine .inl ⟨tk', st', e2, s2, e3, k2, v2, nI ga, 1, nI gc, nI L, nI C, nI T, nI w, nI x, nI fe, nI (ga + 2 * 1 + 4 * gc), xca, xcp, mM, mP, xta, xtp, ca, cp, upd dr 5 (nI x), lf, lm, lq, lt, ta, tp, ?_, fun eo => ?_, w3, w4, ⟨L, C, T, w, x, fe, M, P, rfl, rfl, rfl, rfl, rfl, rfl, W1, x1, x2, W4, (by rw [upd_at, if_neg (by omega)]; exact D0), (by rw [upd_at, if_neg (by omega)]; exact D1), (by rw [upd_at, if_neg (by omega)]; exact D2), (by rw [upd_at, if_neg (by omega)]; exact D3), (by rw [upd_at, if_neg (by omega)]; exact D4), (by rw [upd_at, if_pos rfl]), (by rw [upd_at, if_neg (by omega)]; exact D6), K1, K2, K3, ⟨ga, 1, gc, g1, by omega, g3, rfl, rfl, rfl, rfl⟩⟩, FRX.rf⟩
      · unfold f_X5_readStatement f_X5_readStatement_b101
        rw [ci1, bd1_s, if_pos z1', ci2, bd1_s, if_pos z2', ci3, bd1_s, if_pos z3', ci4, bd1_s, if_pos z4', ci5, bd1_s, if_neg z5', w1, bd6_s]
      · unfold f_X10_statement f_X10_statement_b131
        rw [q1, bd1_s, if_pos z1', q2, bd1_s, if_pos z2', q3, bd1_s, if_pos z3', q4, bd1_s, if_pos z4', q5, bd1_s, if_neg z5', w2, bd8_s, show (5 : Int32) = nI 5 from rfl, wr_n (by decide) (by decide), gt2]
    · refine .inr ⟨d, s1, e2, tk', st', ts, te, tk2, v2, nI ga, 1, nI gc, nI L, nI C, nI T, nI w, x', nI fe, g', xca, xcp, mM, mP, xta, xtp, ca, cp, upd dr 5 y', lf, lm, lq, lt, ta, tp, y1, y2, y3, y4, ?_, fun eo => ?_, FRX.rf⟩
      · unfold f_X5_readStatement f_X5_readStatement_b101
        rw [ci1, bd1_s, if_pos z1', ci2, bd1_s, if_pos z2', ci3, bd1_s, if_pos z3', ci4, bd1_s, if_pos z4', ci5, bd1_s, if_neg z5', w1, bd6_s]
      · unfold f_X10_statement f_X10_statement_b131
        rw [q1, bd1_s, if_pos z1', q2, bd1_s, if_pos z2', q3, bd1_s, if_pos z3', q4, bd1_s, if_pos z4', q5, bd1_s, if_neg z5', w2, bd8_s, show (5 : Int32) = nI 5 from rfl, wr_n (by decide) (by decide)]
  rcases z6.symm with z6' | z6'
  · -- fee
    have r6e := z6'
    have z6' : ¬ r6 = 0 := by rw [z6']; decide
    obtain ⟨gt1, gt2⟩ := gv_t2 ga g1 gb g2 gc g3
    rcases st_Fee (x0 := nI fe) (tk := rk k) (v := v) h t3 sn g3 rfl gt1 hF (nI k) with ⟨x, tk', st', e2, s2, e3, k2, v2, x1, x2, w1, w2, w3, w4⟩ | ⟨d, s1, e2, tk', st', ts, te, tk2, v2, x', y', g', y1, y2, y3, y4, w1, w2⟩
    · refine .inl ⟨tk', st', e2, s2, e3, k2, v2, nI ga, nI gb, 1, nI L, nI C, nI T, nI w, nI c5, nI x, nI (ga + 2 * gb + 4 * 1), xca, xcp, mM, mP, xta, xtp, ca, cp, upd dr 6 (nI x), lf, lm, lq, lt, ta, tp, ?_, fun eo => ?_, w3, w4, ⟨L, C, T, w, c5, x, M, P, rfl, rfl, rfl, rfl, rfl, rfl, W1, W2, W3, x2, (by rw [upd_at, if_neg (by omega)]; exact D0), (by rw [upd_at, if_neg (by omega)]; exact D1), (by rw [upd_at, if_neg (by omega)]; exact D2), (by rw [upd_at, if_neg (by omega)]; exact D3), (by rw [upd_at, if_neg (by omega)]; exact D4), (by rw [upd_at, if_neg (by omega)]; exact D5), (by rw [upd_at, if_pos rfl]), K1, K2, K3, ⟨ga, gb, 1, g1, g2, by omega, rfl, rfl, rfl, rfl⟩⟩, FRX.rf⟩
      · unfold f_X5_readStatement f_X5_readStatement_b101
        rw [ci1, bd1_s, if_pos z1', ci2, bd1_s, if_pos z2', ci3, bd1_s, if_pos z3', ci4, bd1_s, if_pos z4', ci5, bd1_s, if_pos z5', ci6, bd1_s, if_neg z6', w1, bd6_s]
      · unfold f_X10_statement f_X10_statement_b131
        rw [q1, bd1_s, if_pos z1', q2, bd1_s, if_pos z2', q3, bd1_s, if_pos z3', q4, bd1_s, if_pos z4', q5, bd1_s, if_pos z5', q6, bd1_s, r6e, mu_1, bd3_s, if_neg n10, w2, bd8_s, show (6 : Int32) = nI 6 from rfl, wr_n (by decide) (by decide), gt2]
    · refine .inr ⟨d, s1, e2, tk', st', ts, te, tk2, v2, nI ga, nI gb, 1, nI L, nI C, nI T, nI w, nI c5, x', g', xca, xcp, mM, mP, xta, xtp, ca, cp, upd dr 6 y', lf, lm, lq, lt, ta, tp, y1, y2, y3, y4, ?_, fun eo => ?_, FRX.rf⟩
      · unfold f_X5_readStatement f_X5_readStatement_b101
        rw [ci1, bd1_s, if_pos z1', ci2, bd1_s, if_pos z2', ci3, bd1_s, if_pos z3', ci4, bd1_s, if_pos z4', ci5, bd1_s, if_pos z5', ci6, bd1_s, if_neg z6', w1, bd6_s]
      · unfold f_X10_statement f_X10_statement_b131
        rw [q1, bd1_s, if_pos z1', q2, bd1_s, if_pos z2', q3, bd1_s, if_pos z3', q4, bd1_s, if_pos z4', q5, bd1_s, if_pos z5', q6, bd1_s, r6e, mu_1, bd3_s, if_neg n10, w2, bd8_s, show (6 : Int32) = nI 6 from rfl, wr_n (by decide) (by decide)]
  · -- none of them
    refine .inr ⟨1, s, e, nI k, nI s, nI s, nI e, rk k, v, nI ga, nI gb, nI gc, nI L, nI C, nI T, nI w, nI c5, nI fe, nI (ga + 2 * gb + 4 * gc), xca, xcp, mM, mP, xta, xtp, ca, cp, dr, lf, lm, lq, lt, ta, tp, by omega, by omega, sn, t3, ?_, fun eo => ?_, FRX.rf⟩
    · unfold f_X5_readStatement f_X5_readStatement_b101
      rw [ci1, bd1_s, if_pos z1', ci2, bd1_s, if_pos z2', ci3, bd1_s, if_pos z3', ci4, bd1_s, if_pos z4', ci5, bd1_s, if_pos z5', ci6, bd1_s, if_pos z6', show f_X5_fail F 1 0 (nI s) = some (nI (8 * s + 1)) from fl_0 (d := 1), bd1_s]
    · unfold f_X10_statement f_X10_statement_b131
      rw [q1, bd1_s, if_pos z1', q2, bd1_s, if_pos z2', q3, bd1_s, if_pos z3', q4, bd1_s, if_pos z4', q5, bd1_s, if_pos z5', q6, bd1_s, z6', mu_0 (by decide), bd3_s, if_pos rfl]
      rfl
end
