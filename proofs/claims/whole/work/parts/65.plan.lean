/-! the plan of a billing, on both sides -/
theorem Ok2.of1 {ρ ρ' : Type} {x : Option ρ} {y : Option ρ'} {Q : ρ → ρ' → Prop} (h : Ok x (fun r => ∃ r', y = some r' ∧ Q r r')) : Ok2 x y Q := by
  obtain ⟨r, e, r', e', q⟩ := h
  exact ⟨r, r', e, e', q⟩
theorem Ok2.of2 {ρ ρ' : Type} {x : Option ρ} {y : Option ρ'} {Q : ρ → ρ' → Prop} (h : Ok y (fun r' => ∃ r, x = some r ∧ Q r r')) : Ok2 x y Q := by
  obtain ⟨r', e', r, e, q⟩ := h
  exact ⟨r, r', e, e', q⟩
theorem Ok2.to1 {ρ ρ' : Type} {x : Option ρ} {y : Option ρ'} {Q : ρ → ρ' → Prop} (h : Ok2 x y Q) : Ok x (fun r => ∃ r', y = some r' ∧ Q r r') := by
  obtain ⟨r, r', e, e', q⟩ := h
  exact ⟨r, e, r', e', q⟩
theorem Ok2.to2 {ρ ρ' : Type} {x : Option ρ} {y : Option ρ'} {Q : ρ → ρ' → Prop} (h : Ok2 x y Q) : Ok y (fun r' => ∃ r, x = some r ∧ Q r r') := by
  obtain ⟨r, r', e, e', q⟩ := h
  exact ⟨r', e', r, e, q⟩
section
variable {n G L C T c c5 F : Nat} {M P : Nat → Nat → Nat} {bs lf lt lm lq mM mP ca ta tp ca' ta' tp' cp cp' ax ga hx hp la ps rp st tg ti tq S : Nat → Int32} {cut : Int32}
theorem plan_two (E : BEnv n G L C T c c5 M P bs lf lt lm lq mM mP ca ta tp ca' ta' tp' ax ga hx hp la ps rp st tg ti tq S) (hF : 100 ≤ F) (hcp : ∀ k, k < C → cp' k = cp k) (t0 i0 : Int32) (ip lp tr tA ce cn tI tl v : Nat → Int32) (lk pr : Int32) (s : Nat → Int32) (rm rc n0 m0 : Int32) (nA nC ni np nv route tried tf : Nat → Int32) :
    Ok2 (f_X0_make F cut t0 i0 ip lp tr tA ce cn tI tl v (nI G) (nI C) (nI T) (nI c5) ca' cp' mM mP ta' tp' (nI c) ax ga hx hp ps rp st tg ti lk pr s) (f_X10_layBilling F cut rm rc n0 m0 bs ca cp lf lm lq lt nA nC ni np nv route S ta tp tried tf)
      (fun r r' => ∃ (tN iN : Nat) (ip lp tr tA ce cn tI tl v : Nat → Int32) (lk pr : Int32) (s : Nat → Int32) (rm rc : Int32) (nA nC ni np nv route tried tf : Nat → Int32) (rt : Nat → Nat → Int32), r = (nI tN, nI iN, ip, lp, tr, tA, ce, cn, tI, tl, v, lk, pr, s) ∧ r' = (rm, rc, nI tN, nI iN, nA, nC, ni, np, nv, route, tried, tf) ∧
        JB c v rt (avI S) T tp tN iN ip lp tr tA tI tl ni np nv tf ∧ iN ≤ tN ∧ (∀ t, t < tN → ce t = nA t ∧ cn t = nC t) ∧ ∀ p, p < c → tr p ≠ -1 → S (4 + 25 * p + 3) = 0) := by
  obtain ⟨rt, hrt⟩ := rt_fun E hF
  obtain ⟨low, hlow⟩ := low_fun E hF
  obtain ⟨e1, e2, e3, e4, e5, e6, e7, e8, e9⟩ := id E
  have q4 := e8.2.2.2.1
  have htp : ∀ k, k < T → tp' k = tp k := fun k hk => (e8.2.2.2.2.2.1 k hk).1
  refine .of1 ?_
  unfold f_X0_make f_X0_make_L13
  refine lp_inv (fun p z => ∃ tr v, z = (cut, nI p, 0, 0, ip, lp, tr, tA, ce, cn, tI, tl, v, lk, pr, s) ∧ ∀ q, q < p → tr q = -1 ∧ v q = cvI cut (nI c5) tp S q) c ?_ ?_ (by omega) ⟨tr, v, rfl, fun q hq => by omega⟩
  · rintro p z k hp ⟨tr, v, rfl, hz⟩ hk
    obtain ⟨hw, a1, a2, a3, a4, -⟩ := e9 p hp
    have hV := vh6_v (F := F) (tp' := tp') (show p < 80 by omega) e1 (e9 p hp) q4 htp (nI c5) hF
    have hq := hk (cut, nI (p + 1), 0, 0, ip, lp, upd tr p (-1), tA, ce, cn, tI, tl, upd v p (cvI cut (nI c5) tp S p), lk, pr, s) ⟨_, _, rfl, fun q hq => by
      by_cases e : q = p
      · subst e; rw [upd_at, upd_at, if_pos rfl, if_pos rfl]; exact ⟨rfl, rfl⟩
      · rw [upd_at, upd_at, if_neg e, if_neg e]; exact hz q (by omega)⟩
    by_cases c1 : S (4 + 25 * p + 3) = 0
    · by_cases c2 : cut < S (4 + 25 * p + 2)
      · have ecv : cvI cut (nI c5) tp S p = -1 := if_neg (fun w => w.2 c2)
        rw [ecv] at hq
        simp (disch := omega) only [f_X0_make_h13, f_X0_make_b47, f_X0_make_b48, f_X0_make_b72, a3, a4, c1, c2, ll_le, ll_lt, ll_eq, lr_le, lr_lt, lr_eq, ll_add, lr_add, ll_mul, lr_mul, nI_add, pk_mul, nI_leI, nI_ltI, nI_eq, ll_sub, pk_sub, lm_add, rd_n, rd_l, wr_n, wr_l, lm_ne, lm_ne', lm_lt, lm_le, m1_lt, m1_le, m1_le0, m1_lt0, m1_0, m1_0', l1_0, gd_0, gd_1, gd_T, or_true, true_or, false_or, or_false, nle_T, nle_F, nlt_T, nlt_F, neq_T, neq_F, ↓reduceIte, ne_eq, not_true_eq_false, not_false_eq_true, bd1_s, bd2_s, bd3_s, bd4_s, bd5_s, bd6_s, bd7_s, bd8_s, bd9_s, bd10_s, bd11_s, bd12_s, bd13_s, bd14_s, bd15_s, bd16_s, bd17_s, bd18_s, bd19_s, bd20_s, bd21_s, bd22_s, bd23_s, bd24_s, bd25_s]
        exact hq
      · have ecv : cvI cut (nI c5) tp S p = vhI (nI c5) tp S p := if_pos ⟨c1, c2⟩
        rw [ecv] at hq
        simp (disch := omega) only [f_X0_make_h13, f_X0_make_b47, f_X0_make_b48, f_X0_make_b72, a3, a4, c1, c2, hV, ll_le, ll_lt, ll_eq, lr_le, lr_lt, lr_eq, ll_add, lr_add, ll_mul, lr_mul, nI_add, pk_mul, nI_leI, nI_ltI, nI_eq, ll_sub, pk_sub, lm_add, rd_n, rd_l, wr_n, wr_l, lm_ne, lm_ne', lm_lt, lm_le, m1_lt, m1_le, m1_le0, m1_lt0, m1_0, m1_0', l1_0, gd_0, gd_1, gd_T, or_true, true_or, false_or, or_false, nle_T, nle_F, nlt_T, nlt_F, neq_T, neq_F, ↓reduceIte, ne_eq, not_true_eq_false, not_false_eq_true, bd1_s, bd2_s, bd3_s, bd4_s, bd5_s, bd6_s, bd7_s, bd8_s, bd9_s, bd10_s, bd11_s, bd12_s, bd13_s, bd14_s, bd15_s, bd16_s, bd17_s, bd18_s, bd19_s, bd20_s, bd21_s, bd22_s, bd23_s, bd24_s, bd25_s]
        exact hq
    · have ecv : cvI cut (nI c5) tp S p = -1 := if_neg (fun w => c1 w.1)
      rw [ecv] at hq
      simp (disch := omega) only [f_X0_make_h13, f_X0_make_b47, f_X0_make_b48, f_X0_make_b72, a3, a4, c1, ll_le, ll_lt, ll_eq, lr_le, lr_lt, lr_eq, ll_add, lr_add, ll_mul, lr_mul, nI_add, pk_mul, nI_leI, nI_ltI, nI_eq, ll_sub, pk_sub, lm_add, rd_n, rd_l, wr_n, wr_l, lm_ne, lm_ne', lm_lt, lm_le, m1_lt, m1_le, m1_le0, m1_lt0, m1_0, m1_0', l1_0, gd_0, gd_1, gd_T, or_true, true_or, false_or, or_false, nle_T, nle_F, nlt_T, nlt_F, neq_T, neq_F, ↓reduceIte, ne_eq, not_true_eq_false, not_false_eq_true, bd1_s, bd2_s, bd3_s, bd4_s, bd5_s, bd6_s, bd7_s, bd8_s, bd9_s, bd10_s, bd11_s, bd12_s, bd13_s, bd14_s, bd15_s, bd16_s, bd17_s, bd18_s, bd19_s, bd20_s, bd21_s, bd22_s, bd23_s, bd24_s, bd25_s]
      exact hq
  · rintro z k ⟨tr, v, rfl, hz⟩
    simp (disch := omega) only [f_X0_make_h13, ll_le, ll_lt, ll_eq, lr_le, lr_lt, lr_eq, ll_add, lr_add, ll_mul, lr_mul, nI_add, pk_mul, nI_leI, nI_ltI, nI_eq, ll_sub, pk_sub, lm_add, rd_n, rd_l, wr_n, wr_l, lm_ne, lm_ne', lm_lt, lm_le, m1_lt, m1_le, m1_le0, m1_lt0, m1_0, m1_0', l1_0, gd_0, gd_1, gd_T, or_true, true_or, false_or, or_false, nle_T, nle_F, nlt_T, nlt_F, neq_T, neq_F, ↓reduceIte, ne_eq, not_true_eq_false, not_false_eq_true, bd1_s, bd2_s, bd3_s, bd4_s, bd5_s, bd6_s, bd7_s, bd8_s, bd9_s, bd10_s, bd11_s, bd12_s, bd13_s, bd14_s, bd15_s, bd16_s, bd17_s, bd18_s, bd19_s, bd20_s, bd21_s, bd22_s, bd23_s, bd24_s, bd25_s]
    refine Ok2.to1 ?_
    refine .of2 ?_
    unfold f_X10_layBilling f_X10_layBilling_L12
    refine lp_inv (fun p z => ∃ tf, z = (cut, nI p, rm, rc, 0, 0, nA, nC, ni, np, nv, route, tried, tf) ∧ ∀ q, q < p → tf q = -1) 80 ?_ ?_ (by omega) ⟨tf, rfl, fun q hq => by omega⟩
    · rintro p z k hp ⟨tf, rfl, hz'⟩ hk
      have hq := hk (cut, nI (p + 1), rm, rc, 0, 0, nA, nC, ni, np, nv, route, tried, upd tf p (-1)) ⟨_, rfl, fun q hq => by
        by_cases e : q = p
        · rw [upd_at, if_pos e]
        · rw [upd_at, if_neg e]; exact hz' q (by omega)⟩
      simp (disch := omega) only [f_X10_layBilling_h12, ll_le, ll_lt, ll_eq, lr_le, lr_lt, lr_eq, ll_add, lr_add, ll_mul, lr_mul, nI_add, pk_mul, nI_leI, nI_ltI, nI_eq, ll_sub, pk_sub, lm_add, rd_n, rd_l, wr_n, wr_l, lm_ne, lm_ne', lm_lt, lm_le, m1_lt, m1_le, m1_le0, m1_lt0, m1_0, m1_0', l1_0, gd_0, gd_1, gd_T, or_true, true_or, false_or, or_false, nle_T, nle_F, nlt_T, nlt_F, neq_T, neq_F, ↓reduceIte, ne_eq, not_true_eq_false, not_false_eq_true, bd1_s, bd2_s, bd3_s, bd4_s, bd5_s, bd6_s, bd7_s, bd8_s, bd9_s, bd10_s, bd11_s, bd12_s, bd13_s, bd14_s, bd15_s, bd16_s, bd17_s, bd18_s, bd19_s, bd20_s, bd21_s, bd22_s, bd23_s, bd24_s, bd25_s]
      exact hq
    · rintro z k ⟨tf, rfl, hz'⟩
      simp (disch := omega) only [f_X10_layBilling_h12, ll_le, ll_lt, ll_eq, lr_le, lr_lt, lr_eq, ll_add, lr_add, ll_mul, lr_mul, nI_add, pk_mul, nI_leI, nI_ltI, nI_eq, ll_sub, pk_sub, lm_add, rd_n, rd_l, wr_n, wr_l, lm_ne, lm_ne', lm_lt, lm_le, m1_lt, m1_le, m1_le0, m1_lt0, m1_0, m1_0', l1_0, gd_0, gd_1, gd_T, or_true, true_or, false_or, or_false, nle_T, nle_F, nlt_T, nlt_F, neq_T, neq_F, ↓reduceIte, ne_eq, not_true_eq_false, not_false_eq_true, bd1_s, bd2_s, bd3_s, bd4_s, bd5_s, bd6_s, bd7_s, bd8_s, bd9_s, bd10_s, bd11_s, bd12_s, bd13_s, bd14_s, bd15_s, bd16_s, bd17_s, bd18_s, bd19_s, bd20_s, bd21_s, bd22_s, bd23_s, bd24_s, bd25_s]
      refine Ok2.to2 ?_
      unfold f_X0_make_L90 f_X10_layBilling_L33
      refine lp_two (fun p z z' => ∃ (tN iN : Nat) (ip lp tr tA tI tl : Nat → Int32) (lk pr : Int32) (s : Nat → Int32) (rm rc : Int32) (ni np nv route tried tf : Nat → Int32), z = (nI p, nI tN, nI iN, ip, lp, tr, tA, ce, cn, tI, tl, v, lk, pr, s) ∧ z' = (cut, nI p, rm, rc, nI tN, nI iN, nA, nC, ni, np, nv, route, tried, tf) ∧ JB c v rt (avI S) T tp tN iN ip lp tr tA tI tl ni np nv tf ∧ iN ≤ tN ∧ (∀ q, q < c → q < p → v q ≠ -1 → tr q ≠ -1) ∧ (∀ q q', q < c → q' < c → v q ≠ -1 → v q = v q' → tr q = -1 → tr q' = -1)) c ?_ ?_ (i := 0) (Nat.zero_le _) (by omega) (by omega)
        ⟨0, 0, ip, lp, tr, tA, tI, tl, lk, pr, s, rm, rc, ni, np, nv, route, tried, tf, rfl, rfl, ⟨Nat.zero_le _, fun p hp => ⟨by rw [(hz p hp).1, hz' p (by omega)], .inl (hz p hp).1⟩, fun t ht => by omega, fun i hi => by omega⟩, Nat.le_refl _, fun q _ h => by omega, fun q q' _ h2 _ _ _ => (hz q' h2).1⟩
      · rintro p z z' k k' hp ⟨tN, iN, ip, lp, tr, tA, tI, tl, lk, pr, s, rm, rc, ni, np, nv, route, tried, tf, rfl, rfl, hJ, hi, h1, h2⟩ hk
        have hvp := (hz p hp).2
        have htc := hJ.lec
        have ccon := con_v (cut := cut) (F := F) E hF hp
        rw [← hvp] at ccon
        have htf := (hJ.2.1 p hp).1
        by_cases c1 : v p = -1
        · rw [if_pos c1] at ccon
          have hq := hk (nI (p + 1), nI tN, nI iN, ip, lp, tr, tA, ce, cn, tI, tl, v, lk, pr, s) (cut, nI (p + 1), rm, rc, nI tN, nI iN, nA, nC, ni, np, nv, route, tried, tf) ⟨tN, iN, ip, lp, tr, tA, tI, tl, lk, pr, s, rm, rc, ni, np, nv, route, tried, tf, rfl, rfl, hJ, hi, fun q g1 g2 g3 => h1 q g1 (by
            rcases Nat.lt_or_ge q p with w | w
            · exact w
            · have : q = p := by omega
              subst this; exact absurd c1 g3) g3, h2⟩
          simp (disch := omega) only [f_X0_make_h90, f_X0_make_b131, c1, f_X10_layBilling_h33, f_X10_layBilling_b67, e3, ccon, ll_le, ll_lt, ll_eq, lr_le, lr_lt, lr_eq, ll_add, lr_add, ll_mul, lr_mul, nI_add, pk_mul, nI_leI, nI_ltI, nI_eq, ll_sub, pk_sub, lm_add, rd_n, rd_l, wr_n, wr_l, lm_ne, lm_ne', lm_lt, lm_le, m1_lt, m1_le, m1_le0, m1_lt0, m1_0, m1_0', l1_0, gd_0, gd_1, gd_T, or_true, true_or, false_or, or_false, nle_T, nle_F, nlt_T, nlt_F, neq_T, neq_F, ↓reduceIte, ne_eq, not_true_eq_false, not_false_eq_true, bd1_s, bd2_s, bd3_s, bd4_s, bd5_s, bd6_s, bd7_s, bd8_s, bd9_s, bd10_s, bd11_s, bd12_s, bd13_s, bd14_s, bd15_s, bd16_s, bd17_s, bd18_s, bd19_s, bd20_s, bd21_s, bd22_s, bd23_s, bd24_s, bd25_s]
          exact hq
        · rw [if_neg c1] at ccon
          by_cases c2 : tr p = -1
          · obtain ⟨r, r', w1, w2, tN', ip', lp', tr', tA', tI', tl', lk', pr', s', rm', rc', ni', np', nv', route', tried', tf', rfl, rfl, hJ', hi', g1, g2⟩ := veh_two (cut := cut) (lk := lk) (pr := pr) (s := s) (rm := rm) (rc := rc) (route := route) (tried := tried) E hF hrt (fun q hq => (hz q hq).2) hp c1 c2 (fun q hq w => h2 p q hp hq c1 w.symm c2) (fun q hq w => h1 q (by omega) hq (by rw [w]; exact c1) (h2 p q hp (by omega) c1 w.symm c2)) hJ hi
            have htf1 : tf p = -1 := htf.trans c2
            have hq := hk (nI (p + 1), nI tN', nI (iN + 1), ip', lp', tr', tA', ce, cn, tI', tl', v, lk', pr', s') (cut, nI (p + 1), rm', rc', nI tN', nI (iN + 1), nA, nC, ni', np', nv', route', tried', tf') ⟨tN', iN + 1, ip', lp', tr', tA', tI', tl', lk', pr', s', rm', rc', ni', np', nv', route', tried', tf', rfl, rfl, hJ', hi', fun q g3 g4 g5 => by
              by_cases e : v q = v p
              · exact g1 q g3 e
              · rw [g2 q g3 e]
                exact h1 q g3 (by
                  rcases Nat.lt_or_ge q p with w | w
                  · exact w
                  · have : q = p := by omega
                    subst this; exact absurd rfl e) g5, fun q q' g3 g4 g5 g6 g7 => by
              by_cases e : v q = v p
              · exact absurd g7 (g1 q g3 e)
              · rw [g2 q g3 e] at g7
                rw [g2 q' g4 (fun w => e (g6.trans w))]
                exact h2 q q' g3 g4 g5 g6 g7⟩
            simp (disch := omega) only [f_X0_make_h90, f_X0_make_b131, c1, c2, w1, f_X10_layBilling_h33, f_X10_layBilling_b67, e3, ccon, htf1, w2, ll_le, ll_lt, ll_eq, lr_le, lr_lt, lr_eq, ll_add, lr_add, ll_mul, lr_mul, nI_add, pk_mul, nI_leI, nI_ltI, nI_eq, ll_sub, pk_sub, lm_add, rd_n, rd_l, wr_n, wr_l, lm_ne, lm_ne', lm_lt, lm_le, m1_lt, m1_le, m1_le0, m1_lt0, m1_0, m1_0', l1_0, gd_0, gd_1, gd_T, or_true, true_or, false_or, or_false, nle_T, nle_F, nlt_T, nlt_F, neq_T, neq_F, ↓reduceIte, ne_eq, not_true_eq_false, not_false_eq_true, bd1_s, bd2_s, bd3_s, bd4_s, bd5_s, bd6_s, bd7_s, bd8_s, bd9_s, bd10_s, bd11_s, bd12_s, bd13_s, bd14_s, bd15_s, bd16_s, bd17_s, bd18_s, bd19_s, bd20_s, bd21_s, bd22_s, bd23_s, bd24_s, bd25_s]
            exact hq
          · obtain ⟨t, t1, t2⟩ : ∃ t, t < tN ∧ tr p = nI t := by
              rcases (hJ.2.1 p hp).2 with w | ⟨-, t, t1, t2, -⟩
              · exact absurd w c2
              · exact ⟨t, t1, t2⟩
            have htf1 : tf p = nI t := htf.trans t2
            have hq := hk (nI (p + 1), nI tN, nI iN, ip, lp, tr, tA, ce, cn, tI, tl, v, lk, pr, s) (cut, nI (p + 1), rm, rc, nI tN, nI iN, nA, nC, ni, np, nv, route, tried, tf) ⟨tN, iN, ip, lp, tr, tA, tI, tl, lk, pr, s, rm, rc, ni, np, nv, route, tried, tf, rfl, rfl, hJ, hi, fun q g1 g2 g3 => by
              rcases Nat.lt_or_ge q p with w | w
              · exact h1 q g1 w g3
              · have : q = p := by omega
                subst this; exact c2, h2⟩
            simp (disch := omega) only [f_X0_make_h90, f_X0_make_b131, c1, c2, f_X10_layBilling_h33, f_X10_layBilling_b67, e3, ccon, htf1, ll_le, ll_lt, ll_eq, lr_le, lr_lt, lr_eq, ll_add, lr_add, ll_mul, lr_mul, nI_add, pk_mul, nI_leI, nI_ltI, nI_eq, ll_sub, pk_sub, lm_add, rd_n, rd_l, wr_n, wr_l, lm_ne, lm_ne', lm_lt, lm_le, m1_lt, m1_le, m1_le0, m1_lt0, m1_0, m1_0', l1_0, gd_0, gd_1, gd_T, or_true, true_or, false_or, or_false, nle_T, nle_F, nlt_T, nlt_F, neq_T, neq_F, ↓reduceIte, ne_eq, not_true_eq_false, not_false_eq_true, bd1_s, bd2_s, bd3_s, bd4_s, bd5_s, bd6_s, bd7_s, bd8_s, bd9_s, bd10_s, bd11_s, bd12_s, bd13_s, bd14_s, bd15_s, bd16_s, bd17_s, bd18_s, bd19_s, bd20_s, bd21_s, bd22_s, bd23_s, bd24_s, bd25_s]
            exact hq
      · rintro z z' k k' ⟨tN, iN, ip, lp, tr, tA, tI, tl, lk, pr, s, rm, rc, ni, np, nv, route, tried, tf, rfl, rfl, hJ, hi, h1, h2⟩
        have htc := hJ.lec
        obtain ⟨⟨ce', cn'⟩, w1, w2⟩ := price4_v E hF hcp hlow hJ hi ce cn
        dsimp only at w2
        simp (disch := omega) only [f_X0_make_h90, w1, f_X10_layBilling_h33, e3, ll_le, ll_lt, ll_eq, lr_le, lr_lt, lr_eq, ll_add, lr_add, ll_mul, lr_mul, nI_add, pk_mul, nI_leI, nI_ltI, nI_eq, ll_sub, pk_sub, lm_add, rd_n, rd_l, wr_n, wr_l, lm_ne, lm_ne', lm_lt, lm_le, m1_lt, m1_le, m1_le0, m1_lt0, m1_0, m1_0', l1_0, gd_0, gd_1, gd_T, or_true, true_or, false_or, or_false, nle_T, nle_F, nlt_T, nlt_F, neq_T, neq_F, ↓reduceIte, ne_eq, not_true_eq_false, not_false_eq_true, bd1_s, bd2_s, bd3_s, bd4_s, bd5_s, bd6_s, bd7_s, bd8_s, bd9_s, bd10_s, bd11_s, bd12_s, bd13_s, bd14_s, bd15_s, bd16_s, bd17_s, bd18_s, bd19_s, bd20_s, bd21_s, bd22_s, bd23_s, bd24_s, bd25_s]
        refine .of2 ?_
        unfold f_X10_layBilling_L75
        refine lp_inv (fun t z => ∃ (rm rc : Int32) (nA nC route tried : Nat → Int32), z = (nI t, rm, rc, nI tN, nI iN, nA, nC, ni, np, nv, route, tried, tf) ∧ ∀ u, u < t → nA u = smI cp (cfr ca (axT T ta tp ip tA tI u) C) low lp tl tr u c ∧ nC u = oI (cfr ca (axT T ta tp ip tA tI u) C)) tN ?_ ?_ (by omega) ⟨rm, rc, nA, nC, route, tried, rfl, fun u hu => by omega⟩
        · rintro t z k ht ⟨rm, rc, nA, nC, route, tried, rfl, hz3⟩ hk
          obtain ⟨_, w3, rm', rc', route', tried', rfl⟩ := amt_v (cp := cp) E hF hlow hrt hJ hi ht rm rc nA nC route tried
          have hq := hk (nI (t + 1), rm', rc', nI tN, nI iN, upd nA t (smI cp (cfr ca (axT T ta tp ip tA tI t) C) low lp tl tr t c), upd nC t (oI (cfr ca (axT T ta tp ip tA tI t) C)), ni, np, nv, route', tried', tf) ⟨_, _, _, _, _, _, rfl, fun u hu => by
            by_cases e : u = t
            · subst e; rw [upd_at, upd_at, if_pos rfl, if_pos rfl]; exact ⟨rfl, rfl⟩
            · rw [upd_at, upd_at, if_neg e, if_neg e]; exact hz3 u (by omega)⟩
          simp (disch := omega) only [f_X10_layBilling_h75, w3, ll_le, ll_lt, ll_eq, lr_le, lr_lt, lr_eq, ll_add, lr_add, ll_mul, lr_mul, nI_add, pk_mul, nI_leI, nI_ltI, nI_eq, ll_sub, pk_sub, lm_add, rd_n, rd_l, wr_n, wr_l, lm_ne, lm_ne', lm_lt, lm_le, m1_lt, m1_le, m1_le0, m1_lt0, m1_0, m1_0', l1_0, gd_0, gd_1, gd_T, or_true, true_or, false_or, or_false, nle_T, nle_F, nlt_T, nlt_F, neq_T, neq_F, ↓reduceIte, ne_eq, not_true_eq_false, not_false_eq_true, bd1_s, bd2_s, bd3_s, bd4_s, bd5_s, bd6_s, bd7_s, bd8_s, bd9_s, bd10_s, bd11_s, bd12_s, bd13_s, bd14_s, bd15_s, bd16_s, bd17_s, bd18_s, bd19_s, bd20_s, bd21_s, bd22_s, bd23_s, bd24_s, bd25_s]
          exact hq
        · rintro z k ⟨rm, rc, nA, nC, route, tried, rfl, hz3⟩
          refine ⟨_, ?_, _, rfl, tN, iN, ip, lp, tr, tA, ce', cn', tI, tl, v, lk, pr, s, rm, rc, nA, nC, ni, np, nv, route, tried, tf, rt, rfl, rfl, hJ, hi, fun t ht => ⟨(w2 t ht).1.trans (hz3 t ht).1.symm, (w2 t ht).2.trans (hz3 t ht).2.symm⟩, fun p hp w => ?_⟩
          · simp (disch := omega) only [f_X10_layBilling_h75, ll_le, ll_lt, ll_eq, lr_le, lr_lt, lr_eq, ll_add, lr_add, ll_mul, lr_mul, nI_add, pk_mul, nI_leI, nI_ltI, nI_eq, ll_sub, pk_sub, lm_add, rd_n, rd_l, wr_n, wr_l, lm_ne, lm_ne', lm_lt, lm_le, m1_lt, m1_le, m1_le0, m1_lt0, m1_0, m1_0', l1_0, gd_0, gd_1, gd_T, or_true, true_or, false_or, or_false, nle_T, nle_F, nlt_T, nlt_F, neq_T, neq_F, ↓reduceIte, ne_eq, not_true_eq_false, not_false_eq_true, bd1_s, bd2_s, bd3_s, bd4_s, bd5_s, bd6_s, bd7_s, bd8_s, bd9_s, bd10_s, bd11_s, bd12_s, bd13_s, bd14_s, bd15_s, bd16_s, bd17_s, bd18_s, bd19_s, bd20_s, bd21_s, bd22_s, bd23_s, bd24_s, bd25_s]
          · rcases (hJ.2.1 p hp).2 with w' | ⟨hv, -⟩
            · exact absurd w' w
            · by_cases c1 : S (4 + 25 * p + 3) = 0
              · exact c1
              · exact absurd ((hz p hp).2.trans (if_neg (fun w => c1 w.1))) hv
/-- sums -/
def sm0 (f : Nat → Int32) : Nat → Int32
  | 0 => 0
  | k + 1 => sm0 f k + f k
theorem sm0_congr {f g : Nat → Int32} : ∀ {k : Nat}, (∀ i, i < k → f i = g i) → sm0 f k = sm0 g k
  | 0, _ => rfl
  | k + 1, h => by
    show sm0 f k + f k = sm0 g k + g k
    rw [sm0_congr (k := k) (fun i hi => h i (by omega)), h k (by omega)]
theorem pt0_v {tN iN : Nat} {ip ce : Nat → Int32} {fe : Int32} (hT : T ≤ 12) (ht : tN ≤ 80) (hi : iN ≤ 80) (htp : ∀ k, k < T → tp' k = tp k) (hF : 100 ≤ F) : f_X0_total F (nI tN) (nI iN) ip ce (nI T) fe tp' = some (sm0 (fun i => feI T tp fe (ip i)) iN + sm0 ce tN) := by
  unfold f_X0_total f_X0_total_L4
  refine lp_at (fun i => (sm0 (fun i => feI T tp fe (ip i)) i, nI i)) iN (by omega) rfl (fun i hi' k => ?_) (fun k => ?_)
  · have hfe : f_X4_feeFor F (ip i) (nI T) fe tp' = some (feI T tp fe (ip i)) := by rw [fee_v _ fe tp' hT hF, tw_congr _ htp]; rfl
    simp (disch := omega) only [f_X0_total_h4, hfe, sm0, ll_le, ll_lt, ll_eq, lr_le, lr_lt, lr_eq, ll_add, lr_add, ll_mul, lr_mul, nI_add, pk_mul, nI_leI, nI_ltI, nI_eq, ll_sub, pk_sub, lm_add, rd_n, rd_l, wr_n, wr_l, lm_ne, lm_ne', lm_lt, lm_le, m1_lt, m1_le, m1_le0, m1_lt0, m1_0, m1_0', l1_0, gd_0, gd_1, gd_T, or_true, true_or, false_or, or_false, nle_T, nle_F, nlt_T, nlt_F, neq_T, neq_F, ↓reduceIte, ne_eq, not_true_eq_false, not_false_eq_true, bd1_s, bd2_s, bd3_s, bd4_s, bd5_s, bd6_s, bd7_s, bd8_s, bd9_s, bd10_s, bd11_s, bd12_s, bd13_s, bd14_s, bd15_s, bd16_s, bd17_s, bd18_s, bd19_s, bd20_s, bd21_s, bd22_s, bd23_s, bd24_s, bd25_s]
  · simp (disch := omega) only [f_X0_total_h4, ll_le, ll_lt, ll_eq, lr_le, lr_lt, lr_eq, ll_add, lr_add, ll_mul, lr_mul, nI_add, pk_mul, nI_leI, nI_ltI, nI_eq, ll_sub, pk_sub, lm_add, rd_n, rd_l, wr_n, wr_l, lm_ne, lm_ne', lm_lt, lm_le, m1_lt, m1_le, m1_le0, m1_lt0, m1_0, m1_0', l1_0, gd_0, gd_1, gd_T, or_true, true_or, false_or, or_false, nle_T, nle_F, nlt_T, nlt_F, neq_T, neq_F, ↓reduceIte, ne_eq, not_true_eq_false, not_false_eq_true, bd1_s, bd2_s, bd3_s, bd4_s, bd5_s, bd6_s, bd7_s, bd8_s, bd9_s, bd10_s, bd11_s, bd12_s, bd13_s, bd14_s, bd15_s, bd16_s, bd17_s, bd18_s, bd19_s, bd20_s, bd21_s, bd22_s, bd23_s, bd24_s, bd25_s]
    unfold f_X0_total_L33
    refine lp_at (fun t => (sm0 (fun i => feI T tp fe (ip i)) iN + sm0 ce t, nI t)) tN (by omega) (by simp only [sm0, Int32.add_zero]; rfl) (fun t ht' k => ?_) (fun k => ?_)
    · simp (disch := omega) only [f_X0_total_h33, sm0, Int32.add_assoc, ll_le, ll_lt, ll_eq, lr_le, lr_lt, lr_eq, ll_add, lr_add, ll_mul, lr_mul, nI_add, pk_mul, nI_leI, nI_ltI, nI_eq, ll_sub, pk_sub, lm_add, rd_n, rd_l, wr_n, wr_l, lm_ne, lm_ne', lm_lt, lm_le, m1_lt, m1_le, m1_le0, m1_lt0, m1_0, m1_0', l1_0, gd_0, gd_1, gd_T, or_true, true_or, false_or, or_false, nle_T, nle_F, nlt_T, nlt_F, neq_T, neq_F, ↓reduceIte, ne_eq, not_true_eq_false, not_false_eq_true, bd1_s, bd2_s, bd3_s, bd4_s, bd5_s, bd6_s, bd7_s, bd8_s, bd9_s, bd10_s, bd11_s, bd12_s, bd13_s, bd14_s, bd15_s, bd16_s, bd17_s, bd18_s, bd19_s, bd20_s, bd21_s, bd22_s, bd23_s, bd24_s, bd25_s]
    · simp (disch := omega) only [f_X0_total_h33, ll_le, ll_lt, ll_eq, lr_le, lr_lt, lr_eq, ll_add, lr_add, ll_mul, lr_mul, nI_add, pk_mul, nI_leI, nI_ltI, nI_eq, ll_sub, pk_sub, lm_add, rd_n, rd_l, wr_n, wr_l, lm_ne, lm_ne', lm_lt, lm_le, m1_lt, m1_le, m1_le0, m1_lt0, m1_0, m1_0', l1_0, gd_0, gd_1, gd_T, or_true, true_or, false_or, or_false, nle_T, nle_F, nlt_T, nlt_F, neq_T, neq_F, ↓reduceIte, ne_eq, not_true_eq_false, not_false_eq_true, bd1_s, bd2_s, bd3_s, bd4_s, bd5_s, bd6_s, bd7_s, bd8_s, bd9_s, bd10_s, bd11_s, bd12_s, bd13_s, bd14_s, bd15_s, bd16_s, bd17_s, bd18_s, bd19_s, bd20_s, bd21_s, bd22_s, bd23_s, bd24_s, bd25_s]
theorem pt10_v {tN iN : Nat} {ip nA nC ni np nv route tried tf : Nat → Int32} {rm rc fe : Int32} (hT : TW T tp) (ht : tN ≤ 80) (hi : iN ≤ 80) (hJ : ∀ i, i < iN → JI T tp ip nv i) (hb : bs 6 = fe) (hF : 100 ≤ F) :
    f_X10_previewTotal_L32 F bs ca cp lf lm lq lt S ta tp (0, 0, 0, rm, rc, nI tN, nI iN, nA, nC, ni, np, nv, route, tried, tf) = some (sm0 nA tN + sm0 (fun i => feI T tp fe (ip i)) iN, 0, rm, rc, nI tN, nI iN, nA, nC, ni, np, nv, route, tried, tf) := by
  have hT1 := hT.1
  unfold f_X10_previewTotal_L32
  refine lp_at (fun t => (sm0 nA t, nI t, 0, rm, rc, nI tN, nI iN, nA, nC, ni, np, nv, route, tried, tf)) tN (by omega) rfl (fun t ht' k => ?_) (fun k => ?_)
  · simp (disch := omega) only [f_X10_previewTotal_h32, sm0, ll_le, ll_lt, ll_eq, lr_le, lr_lt, lr_eq, ll_add, lr_add, ll_mul, lr_mul, nI_add, pk_mul, nI_leI, nI_ltI, nI_eq, ll_sub, pk_sub, lm_add, rd_n, rd_l, wr_n, wr_l, lm_ne, lm_ne', lm_lt, lm_le, m1_lt, m1_le, m1_le0, m1_lt0, m1_0, m1_0', l1_0, gd_0, gd_1, gd_T, or_true, true_or, false_or, or_false, nle_T, nle_F, nlt_T, nlt_F, neq_T, neq_F, ↓reduceIte, ne_eq, not_true_eq_false, not_false_eq_true, bd1_s, bd2_s, bd3_s, bd4_s, bd5_s, bd6_s, bd7_s, bd8_s, bd9_s, bd10_s, bd11_s, bd12_s, bd13_s, bd14_s, bd15_s, bd16_s, bd17_s, bd18_s, bd19_s, bd20_s, bd21_s, bd22_s, bd23_s, bd24_s, bd25_s]
  · simp (disch := omega) only [f_X10_previewTotal_h32, ll_le, ll_lt, ll_eq, lr_le, lr_lt, lr_eq, ll_add, lr_add, ll_mul, lr_mul, nI_add, pk_mul, nI_leI, nI_ltI, nI_eq, ll_sub, pk_sub, lm_add, rd_n, rd_l, wr_n, wr_l, lm_ne, lm_ne', lm_lt, lm_le, m1_lt, m1_le, m1_le0, m1_lt0, m1_0, m1_0', l1_0, gd_0, gd_1, gd_T, or_true, true_or, false_or, or_false, nle_T, nle_F, nlt_T, nlt_F, neq_T, neq_F, ↓reduceIte, ne_eq, not_true_eq_false, not_false_eq_true, bd1_s, bd2_s, bd3_s, bd4_s, bd5_s, bd6_s, bd7_s, bd8_s, bd9_s, bd10_s, bd11_s, bd12_s, bd13_s, bd14_s, bd15_s, bd16_s, bd17_s, bd18_s, bd19_s, bd20_s, bd21_s, bd22_s, bd23_s, bd24_s, bd25_s]
    unfold f_X10_previewTotal_L57
    refine lp_at (fun i => (sm0 nA tN + sm0 (fun i => feI T tp fe (ip i)) i, nI i, 0, rm, rc, nI tN, nI iN, nA, nC, ni, np, nv, route, tried, tf)) iN (by omega) (by simp only [sm0, Int32.add_zero]; rfl) (fun i hi' k => ?_) (fun k => ?_)
    · obtain ⟨⟨a, a1, a2, a3⟩, a4⟩ := hJ i hi'
      rcases phi_cases hT a1 a2 with ⟨j, k1, k2, k3, k4⟩ | ⟨k3, k4⟩
      · have hnv : nv i = nI j := by rw [a4, a3, k3]
        have hit : f_X10_isTag F (nI j) = some 1 := by rw [isTag_v (by omega), if_pos (by omega)]
        have hfe : feI T tp fe (ip i) = 0 := by unfold feI; rw [a3, k4]
        simp (disch := omega) only [f_X10_previewTotal_h57, f_X10_previewTotal_b89, hnv, hit, sm0, hfe, Int32.add_assoc, ll_le, ll_lt, ll_eq, lr_le, lr_lt, lr_eq, ll_add, lr_add, ll_mul, lr_mul, nI_add, pk_mul, nI_leI, nI_ltI, nI_eq, ll_sub, pk_sub, lm_add, rd_n, rd_l, wr_n, wr_l, lm_ne, lm_ne', lm_lt, lm_le, m1_lt, m1_le, m1_le0, m1_lt0, m1_0, m1_0', l1_0, gd_0, gd_1, gd_T, or_true, true_or, false_or, or_false, nle_T, nle_F, nlt_T, nlt_F, neq_T, neq_F, ↓reduceIte, ne_eq, not_true_eq_false, not_false_eq_true, bd1_s, bd2_s, bd3_s, bd4_s, bd5_s, bd6_s, bd7_s, bd8_s, bd9_s, bd10_s, bd11_s, bd12_s, bd13_s, bd14_s, bd15_s, bd16_s, bd17_s, bd18_s, bd19_s, bd20_s, bd21_s, bd22_s, bd23_s, bd24_s, bd25_s]
      · have hnv : nv i = nI (100 + a) := by rw [a4, a3, k3]
        have hit : f_X10_isTag F (nI (100 + a)) = some 0 := by rw [isTag_v (by omega), if_neg (by omega)]
        have hfe : feI T tp fe (ip i) = fe := by unfold feI; rw [a3, k4]
        simp (disch := omega) only [f_X10_previewTotal_h57, f_X10_previewTotal_b89, hnv, hit, sm0, hfe, hb, Int32.add_assoc, ll_le, ll_lt, ll_eq, lr_le, lr_lt, lr_eq, ll_add, lr_add, ll_mul, lr_mul, nI_add, pk_mul, nI_leI, nI_ltI, nI_eq, ll_sub, pk_sub, lm_add, rd_n, rd_l, wr_n, wr_l, lm_ne, lm_ne', lm_lt, lm_le, m1_lt, m1_le, m1_le0, m1_lt0, m1_0, m1_0', l1_0, gd_0, gd_1, gd_T, or_true, true_or, false_or, or_false, nle_T, nle_F, nlt_T, nlt_F, neq_T, neq_F, ↓reduceIte, ne_eq, not_true_eq_false, not_false_eq_true, bd1_s, bd2_s, bd3_s, bd4_s, bd5_s, bd6_s, bd7_s, bd8_s, bd9_s, bd10_s, bd11_s, bd12_s, bd13_s, bd14_s, bd15_s, bd16_s, bd17_s, bd18_s, bd19_s, bd20_s, bd21_s, bd22_s, bd23_s, bd24_s, bd25_s]
    · simp (disch := omega) only [f_X10_previewTotal_h57, ll_le, ll_lt, ll_eq, lr_le, lr_lt, lr_eq, ll_add, lr_add, ll_mul, lr_mul, nI_add, pk_mul, nI_leI, nI_ltI, nI_eq, ll_sub, pk_sub, lm_add, rd_n, rd_l, wr_n, wr_l, lm_ne, lm_ne', lm_lt, lm_le, m1_lt, m1_le, m1_le0, m1_lt0, m1_0, m1_0', l1_0, gd_0, gd_1, gd_T, or_true, true_or, false_or, or_false, nle_T, nle_F, nlt_T, nlt_F, neq_T, neq_F, ↓reduceIte, ne_eq, not_true_eq_false, not_false_eq_true, bd1_s, bd2_s, bd3_s, bd4_s, bd5_s, bd6_s, bd7_s, bd8_s, bd9_s, bd10_s, bd11_s, bd12_s, bd13_s, bd14_s, bd15_s, bd16_s, bd17_s, bd18_s, bd19_s, bd20_s, bd21_s, bd22_s, bd23_s, bd24_s, bd25_s]
end
