/-! the text: statement by statement -/
def QT (n G : Nat) (ca0 cp0 lf0 lm0 lq0 lt0 ta0 tp0 : Nat → Int32) (r : Int32 × Int32 × Int32 × Int32 × Int32 × Int32 × Int32 × Int32 × Int32 × Int32 × Int32 × Int32 × Int32 × Int32 × Int32 × Int32 × AR × AR × AR × AR × AR × AR) (r' : Int32 × Int32 × Int32 × Int32 × Int32 × Int32 × Int32 × AR × AR × AR × AR × AR × AR × AR × AR × AR) : Prop :=
  (∃ (tk st en ts te tk2 v2 eo : Int32) (ws cs fs ln cn tn wn cf fn gv : Int32) (xca xcp mM mP xta xtp ca cp dr lf lm lq lt ta tp : Nat → Int32), r = (0, nI n, 0, tk, st, en, ws, cs, fs, nI G, ln, cn, tn, wn, cf, fn, xca, xcp, mM, mP, xta, xtp) ∧ r' = (ts, te, tk2, v2, 0, eo, gv, ca, cp, dr, lf, lm, lq, lt, ta, tp) ∧ DRX G ws cs fs ln cn tn wn cf fn xca xcp mM mP xta xtp gv ca cp dr lf lm lq lt ta tp ∧ FRX ca0 cp0 lf0 lm0 lq0 lt0 ta0 tp0 ca cp lf lm lq lt ta tp) ∨ (∃ (d s1 : Nat) (tk st en gn ts te tk2 v2 : Int32) (ws cs fs ln cn tn wn cf fn gv : Int32) (xca xcp mM mP xta xtp ca cp dr lf lm lq lt ta tp : Nat → Int32), r = (0, nI n, nI (8 * s1 + d), tk, st, en, ws, cs, fs, gn, ln, cn, tn, wn, cf, fn, xca, xcp, mM, mP, xta, xtp) ∧ r' = (ts, te, tk2, v2, nI d, nI s1, gv, ca, cp, dr, lf, lm, lq, lt, ta, tp) ∧ 1 ≤ d ∧ d ≤ 4 ∧ s1 ≤ n ∧ FRX ca0 cp0 lf0 lm0 lq0 lt0 ta0 tp0 ca cp lf lm lq lt ta tp)
section
variable {F n G : Nat} {b : Nat → Nat} {tx bf : Nat → Int32} {ca0 cp0 lf0 lm0 lq0 lt0 ta0 tp0 : Nat → Int32}
theorem txt_loop {i0 : Nat} {z : Int32 × Int32 × Int32 × Int32 × Int32 × Int32 × Int32 × Int32 × Int32 × Int32 × Int32 × Int32 × Int32 × Int32 × Int32 × Int32 × Int32 × AR × AR × AR × AR × AR × AR} {z' : Int32 × Int32 × Int32 × Int32 × Int32 × Int32 × Int32 × AR × AR × AR × AR × AR × AR × AR × AR × AR} (h : TXT n b tx bf) (hG1 : 2 ≤ G) (hG : G ≤ 10) (hF : 2000 ≤ F) (hi : i0 ≤ n) (hI : (∃ (tk st v eo : Int32) (e s e' k : Nat) (ws cs fs ln cn tn wn cf fn gv : Int32) (xca xcp mM mP xta xtp ca cp dr lf lm lq lt ta tp : Nat → Int32), z = (nI i0, 0, nI n, 0, tk, st, nI e, ws, cs, fs, nI G, ln, cn, tn, wn, cf, fn, xca, xcp, mM, mP, xta, xtp) ∧ z' = (nI s, nI e', rk k, v, 0, eo, gv, ca, cp, dr, lf, lm, lq, lt, ta, tp) ∧ TOK F n tx e s e' k v ∧ i0 ≤ e ∧ DRX G ws cs fs ln cn tn wn cf fn xca xcp mM mP xta xtp gv ca cp dr lf lm lq lt ta tp ∧ FRX ca0 cp0 lf0 lm0 lq0 lt0 ta0 tp0 ca cp lf lm lq lt ta tp) ∨ (∃ (d s1 : Nat) (tk st en gn ts te tk2 v2 : Int32) (ws cs fs ln cn tn wn cf fn gv : Int32) (xca xcp mM mP xta xtp ca cp dr lf lm lq lt ta tp : Nat → Int32), z = (nI i0, 0, nI n, nI (8 * s1 + d), tk, st, en, ws, cs, fs, gn, ln, cn, tn, wn, cf, fn, xca, xcp, mM, mP, xta, xtp) ∧ z' = (ts, te, tk2, v2, nI d, nI s1, gv, ca, cp, dr, lf, lm, lq, lt, ta, tp) ∧ 1 ≤ d ∧ d ≤ 4 ∧ s1 ≤ n ∧ FRX ca0 cp0 lf0 lm0 lq0 lt0 ta0 tp0 ca cp lf lm lq lt ta tp)) :
    Ok2 (lp (fun k z => f_X5_readText_h61 F tx k z.1 z.2.1 z.2.2.1 z.2.2.2.1 z.2.2.2.2.1 z.2.2.2.2.2.1 z.2.2.2.2.2.2.1 z.2.2.2.2.2.2.2.1 z.2.2.2.2.2.2.2.2.1 z.2.2.2.2.2.2.2.2.2.1 z.2.2.2.2.2.2.2.2.2.2.1 z.2.2.2.2.2.2.2.2.2.2.2.1 z.2.2.2.2.2.2.2.2.2.2.2.2.1 z.2.2.2.2.2.2.2.2.2.2.2.2.2.1 z.2.2.2.2.2.2.2.2.2.2.2.2.2.2.1 z.2.2.2.2.2.2.2.2.2.2.2.2.2.2.2.1 z.2.2.2.2.2.2.2.2.2.2.2.2.2.2.2.2.1 z.2.2.2.2.2.2.2.2.2.2.2.2.2.2.2.2.2.1 z.2.2.2.2.2.2.2.2.2.2.2.2.2.2.2.2.2.2.1 z.2.2.2.2.2.2.2.2.2.2.2.2.2.2.2.2.2.2.2.1 z.2.2.2.2.2.2.2.2.2.2.2.2.2.2.2.2.2.2.2.2.1 z.2.2.2.2.2.2.2.2.2.2.2.2.2.2.2.2.2.2.2.2.2.1 z.2.2.2.2.2.2.2.2.2.2.2.2.2.2.2.2.2.2.2.2.2.2) F z) (lp (fun k z => f_X10_readNetwork_h62 F (nI n) bf k z.1 z.2.1 z.2.2.1 z.2.2.2.1 z.2.2.2.2.1 z.2.2.2.2.2.1 z.2.2.2.2.2.2.1 z.2.2.2.2.2.2.2.1 z.2.2.2.2.2.2.2.2.1 z.2.2.2.2.2.2.2.2.2.1 z.2.2.2.2.2.2.2.2.2.2.1 z.2.2.2.2.2.2.2.2.2.2.2.1 z.2.2.2.2.2.2.2.2.2.2.2.2.1 z.2.2.2.2.2.2.2.2.2.2.2.2.2.1 z.2.2.2.2.2.2.2.2.2.2.2.2.2.2.1 z.2.2.2.2.2.2.2.2.2.2.2.2.2.2.2) F z') (QT n G ca0 cp0 lf0 lm0 lq0 lt0 ta0 tp0) := by
  have h1 := h.1
  refine lp_two (fun i z z' => (∃ (tk st v eo : Int32) (e s e' k : Nat) (ws cs fs ln cn tn wn cf fn gv : Int32) (xca xcp mM mP xta xtp ca cp dr lf lm lq lt ta tp : Nat → Int32), z = (nI i, 0, nI n, 0, tk, st, nI e, ws, cs, fs, nI G, ln, cn, tn, wn, cf, fn, xca, xcp, mM, mP, xta, xtp) ∧ z' = (nI s, nI e', rk k, v, 0, eo, gv, ca, cp, dr, lf, lm, lq, lt, ta, tp) ∧ TOK F n tx e s e' k v ∧ i ≤ e ∧ DRX G ws cs fs ln cn tn wn cf fn xca xcp mM mP xta xtp gv ca cp dr lf lm lq lt ta tp ∧ FRX ca0 cp0 lf0 lm0 lq0 lt0 ta0 tp0 ca cp lf lm lq lt ta tp) ∨ (∃ (d s1 : Nat) (tk st en gn ts te tk2 v2 : Int32) (ws cs fs ln cn tn wn cf fn gv : Int32) (xca xcp mM mP xta xtp ca cp dr lf lm lq lt ta tp : Nat → Int32), z = (nI i, 0, nI n, nI (8 * s1 + d), tk, st, en, ws, cs, fs, gn, ln, cn, tn, wn, cf, fn, xca, xcp, mM, mP, xta, xtp) ∧ z' = (ts, te, tk2, v2, nI d, nI s1, gv, ca, cp, dr, lf, lm, lq, lt, ta, tp) ∧ 1 ≤ d ∧ d ≤ 4 ∧ s1 ≤ n ∧ FRX ca0 cp0 lf0 lm0 lq0 lt0 ta0 tp0 ca cp lf lm lq lt ta tp)) n ?_ ?_ hi (by omega) (by omega) hI
  · rintro i z z' kk kk' hin (⟨tk, st, v, eo, e, s, e', k, ws, cs, fs, ln, cn, tn, wn, cf, fn, gv, xca, xcp, mM, mP, xta, xtp, ca, cp, dr, lf, lm, lq, lt, ta, tp, rfl, rfl, t, ie, hD, hFr⟩ | ⟨d, s1, tk, st, en, gn, ts, te, tk2, v2, ws, cs, fs, ln, cn, tn, wn, cf, fn, gv, xca, xcp, mM, mP, xta, xtp, ca, cp, dr, lf, lm, lq, lt, ta, tp, rfl, rfl, d1, d2, d3, hFr⟩) hk
    · obtain ⟨t1, t2, t3, t4, t5, t6, t7, t8⟩ := id t
      dsimp only
      unfold f_X5_readText_h61 f_X10_readNetwork_h62
      rw [if_neg (fun w => by have := (nI_leI (by omega) (by omega)).mp w; omega), if_pos rfl, t7, bd3_s, if_pos rfl]
      by_cases k0 : k = 0
      · rw [if_pos (show nI k = (0 : Int32) by rw [k0]; rfl), if_pos ((rk_0 t4).mpr k0)]
        exact ⟨_, _, rfl, rfl, .inl ⟨nI k, nI s, nI e', nI s, nI e', rk k, v, eo, ws, cs, fs, ln, cn, tn, wn, cf, fn, gv, xca, xcp, mM, mP, xta, xtp, ca, cp, dr, lf, lm, lq, lt, ta, tp, rfl, rfl, hD, hFr⟩⟩
      · have hse := t6 k0
        rw [if_neg (nI_nz k0 (by omega)), if_neg (fun w => k0 ((rk_0 t4).mp w))]
        rcases st_all h t hG1 hG hD hF with ⟨tk', st', e2, s2, e3, k2, v2, ws2, cs2, fs2, ln2, cn2, tn2, wn2, cf2, fn2, gv2, xca2, xcp2, mM2, mP2, xta2, xtp2, ca2, cp2, dr2, lf2, lm2, lq2, lt2, ta2, tp2, w1, w2, w3, w4, w5, w6⟩ | ⟨d, s1, e2, tk', st', ts, te, tk2, v2, ws2, cs2, fs2, ln2, cn2, tn2, wn2, cf2, fn2, gv2, xca2, xcp2, mM2, mP2, xta2, xtp2, ca2, cp2, dr2, lf2, lm2, lq2, lt2, ta2, tp2, y1, y2, y3, y4, w1, w2, w6⟩
        · rw [w1, w2, bd19_s, bd16_s]
          obtain ⟨u1, u2, u3, u4, u5, u6, u7, u8⟩ := id w3
          unfold f_X5_readSemicolon f_X5_readSemicolon_b17 f_X10_readNetwork_b95
          rw [u7, bd3_s]
          by_cases k3 : k2 = 3
          · obtain ⟨s4, e4, k4, v4, q1, q2⟩ := tok h u3 hF (nI s2) (rk k2) v2
            rw [if_pos (show nI k2 = (3 : Int32) by rw [k3]; rfl), bd4_s, if_pos ((rk_s u4).mpr k3), mu_1, bd3_s, if_neg (show ¬ (1 : Int32) = 0 by decide), q1, bd4_s, show nI i + 1 = nI (i + 1) from nI_add i 1]
            exact hk _ _ (.inl ⟨nI k2, nI s2, v4, eo, e3, s4, e4, k4, ws2, cs2, fs2, ln2, cn2, tn2, wn2, cf2, fn2, gv2, xca2, xcp2, mM2, mP2, xta2, xtp2, ca2, cp2, dr2, lf2, lm2, lq2, lt2, ta2, tp2, rfl, rfl, q2, by omega, w5, hFr.tr w6⟩)
          · rw [if_neg (show ¬ nI k2 = (3 : Int32) from fun w => k3 ((nI_eq (b := 3) (by omega) (by omega)).mp w)), show f_X5_fail F 1 0 (nI s2) = some (nI (8 * s2 + 1)) from fl_0 (d := 1), bd1_s, bd4_s, if_neg (fun w => k3 ((rk_s u4).mp w)), mu_0 (by decide), bd3_s, if_pos rfl, show nI i + 1 = nI (i + 1) from nI_add i 1]
            exact hk _ _ (.inr ⟨1, s2, nI k2, nI s2, nI e3, nI G, nI s2, nI e3, rk k2, v2, ws2, cs2, fs2, ln2, cn2, tn2, wn2, cf2, fn2, gv2, xca2, xcp2, mM2, mP2, xta2, xtp2, ca2, cp2, dr2, lf2, lm2, lq2, lt2, ta2, tp2, rfl, rfl, by omega, by omega, by omega, hFr.tr w6⟩)
        · rw [w1, w2, bd19_s, bd16_s]
          obtain ⟨f1, f2, f3⟩ := fin_f (d := d) (s1 := s1) h1 y1 y2 y3
          obtain ⟨k9, s9, e9, e91, ws9⟩ := sem_f h y4 f1 f2 hF
          unfold f_X10_readNetwork_b95
          rw [ws9, bd4_s, mu_e f3, bd3_s, mu_e f3, bd3_s, if_pos rfl, show nI i + 1 = nI (i + 1) from nI_add i 1]
          have q := hk _ _ (.inr ⟨d, s1, nI k9, nI s9, nI e9, nI G, ts, te, tk2, v2, ws2, cs2, fs2, ln2, cn2, tn2, wn2, cf2, fn2, gv2, xca2, xcp2, mM2, mP2, xta2, xtp2, ca2, cp2, dr2, lf2, lm2, lq2, lt2, ta2, tp2, rfl, rfl, y1, y2, y3, hFr.tr w6⟩)
          split
          · exact q
          · exact q
    · obtain ⟨f1, f2, f3⟩ := fin_f (d := d) (s1 := s1) h1 d1 d2 d3
      dsimp only
      unfold f_X5_readText_h61 f_X10_readNetwork_h62 f_X5_readText_b102 f_X10_readNetwork_b109
      rw [if_neg (fun w => by have := (nI_leI (by omega) (by omega)).mp w; omega), if_neg (nI_nz f1 f2), if_neg f3]
      exact ⟨_, _, rfl, rfl, .inr ⟨d, s1, tk, st, en, gn, ts, te, tk2, v2, ws, cs, fs, ln, cn, tn, wn, cf, fn, gv, xca, xcp, mM, mP, xta, xtp, ca, cp, dr, lf, lm, lq, lt, ta, tp, rfl, rfl, d1, d2, d3, hFr⟩⟩
  · rintro z z' kk kk' (⟨tk, st, v, eo, e, s, e', k, ws, cs, fs, ln, cn, tn, wn, cf, fn, gv, xca, xcp, mM, mP, xta, xtp, ca, cp, dr, lf, lm, lq, lt, ta, tp, rfl, rfl, t, ie, hD, hFr⟩ | ⟨d, s1, tk, st, en, gn, ts, te, tk2, v2, ws, cs, fs, ln, cn, tn, wn, cf, fn, gv, xca, xcp, mM, mP, xta, xtp, ca, cp, dr, lf, lm, lq, lt, ta, tp, rfl, rfl, d1, d2, d3, hFr⟩)
    · obtain ⟨t1, t2, t3, t4, t5, t6, t7, t8⟩ := id t
      have k0 : k = 0 := by
        rcases Nat.eq_zero_or_pos k with w | w
        · exact w
        · have := t6 (by omega); omega
      dsimp only
      unfold f_X5_readText_h61 f_X10_readNetwork_h62 f_X5_readText_b102 f_X10_readNetwork_b109
      rw [if_pos i32_rf, if_pos rfl, if_pos ((rk_0 t4).mpr k0)]
      exact ⟨_, _, rfl, rfl, .inl ⟨tk, st, nI e, nI s, nI e', rk k, v, eo, ws, cs, fs, ln, cn, tn, wn, cf, fn, gv, xca, xcp, mM, mP, xta, xtp, ca, cp, dr, lf, lm, lq, lt, ta, tp, rfl, rfl, hD, hFr⟩⟩
    · obtain ⟨f1, f2, f3⟩ := fin_f (d := d) (s1 := s1) h1 d1 d2 d3
      dsimp only
      unfold f_X5_readText_h61 f_X10_readNetwork_h62 f_X5_readText_b102 f_X10_readNetwork_b109
      rw [if_pos i32_rf, if_neg f3]
      exact ⟨_, _, rfl, rfl, .inr ⟨d, s1, tk, st, en, gn, ts, te, tk2, v2, ws, cs, fs, ln, cn, tn, wn, cf, fn, gv, xca, xcp, mM, mP, xta, xtp, ca, cp, dr, lf, lm, lq, lt, ta, tp, rfl, rfl, d1, d2, d3, hFr⟩⟩
end
