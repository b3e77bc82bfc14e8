/-! a vehicle's trips: the two loops in step -/
section
variable {n G L C T c c5 F : Nat} {M P : Nat → Nat → Nat} {bs lf lt lm lq mM mP ca ta tp ca' ta' tp' ax ga hx hp la ps rp st tg ti tq S v : Nat → Int32} {cut : Int32} {rt : Nat → Nat → Int32}
/-- the place in the loop: nothing of the vehicle yet, or b its last passage, in the last trip -/
def BF (c p tN iN : Nat) (tr : Nat → Int32) (bq : Int32) : Prop := (bq = -1 ∧ iN ≤ tN) ∨ ∃ b t, bq = nI b ∧ b < p ∧ b < c ∧ tN = t + 1 ∧ tr b = nI t ∧ (∀ q, q < c → tr q = nI t → q ≤ b) ∧ iN + 1 ≤ tN
theorem veh_two (E : BEnv n G L C T c c5 M P bs lf lt lm lq mM mP ca ta tp ca' ta' tp' ax ga hx hp la ps rp st tg ti tq S) (hF : 100 ≤ F) (hrt : ∀ a b, a < c → b < c → RTE F G mM mP ga ti bs lf lm lq lt S a b (rt a b))
    (hv : ∀ p, p < c → v p = cvI cut (nI c5) tp S p) {tN iN first : Nat} {ip lp tr tA tI tl ni np nv tf : Nat → Int32} {lk pr rm rc : Int32} {s route tried : Nat → Int32} (hf : first < c) (hvf : v first ≠ -1) (htf : tr first = -1)
    (hall : ∀ q, q < c → v q = v first → tr q = -1) (hlow : ∀ q, q < first → v q ≠ v first)
    (hJ : JB c v rt (avI S) T tp tN iN ip lp tr tA tI tl ni np nv tf) (hi : iN ≤ tN) :
    Ok2 (f_X0_addVehicle F (nI first) (nI tN) (nI iN) ip lp tr tA tI tl v (nI G) mM mP (nI c) ax ga hx ti lk pr s) (f_X10_layVehicle F (nI first) cut rm rc (nI tN) (nI iN) bs lf lm lq lt ni np nv route S tp tried tf)
      (fun r r' => ∃ tN' ip' lp' tr' tA' tI' tl' lk' pr' s' rm' rc' ni' np' nv' route' tried' tf', r = (nI tN', nI (iN + 1), ip', lp', tr', tA', tI', tl', lk', pr', s') ∧ r' = (rm', rc', nI tN', nI (iN + 1), ni', np', nv', route', tried', tf') ∧
        JB c v rt (avI S) T tp tN' (iN + 1) ip' lp' tr' tA' tI' tl' ni' np' nv' tf' ∧ iN + 1 ≤ tN' ∧ (∀ q, q < c → v q = v first → tr' q ≠ -1) ∧ (∀ q, q < c → v q ≠ v first → tr' q = tr q)) := by
  have htc := hJ.lt hf htf
  obtain ⟨e1, e2, e3, e4, e5, e6, e7, e8, e9⟩ := id E
  have q4 := e8.2.2.2.1
  have cvf := hv first hf
  obtain ⟨x, x1, x2, hxe⟩ : ∃ a, 1 ≤ a ∧ a ≤ 9999 ∧ v first = nI a := by
    rcases cv_cases (cut := cut) E hf with w | ⟨a, w1, w2, w3⟩
    · exact absurd (cvf.trans w) hvf
    · exact ⟨a, w1, w2, cvf.trans w3⟩
  have hvehf := cv_vh (cut := cut) (F := F) E hF hf (by rw [← cvf]; exact hvf)
  rw [← cvf, hxe] at hvehf
  unfold f_X0_addVehicle f_X10_layVehicle
  rw [if_pos (show nI iN < (80 : Int32) from (nI_ltI (b := 80) (by omega) (by omega)).mpr (by omega)), rd_n (show first < 80 by omega) (by decide), wr_n (show iN < 80 by omega) (by decide), hvehf, bd1_s, wr_n (show iN < 80 by omega) (by decide), hxe]
  unfold f_X0_addVehicle_L41 f_X10_layVehicle_L22
  have hJ0 : JB c v rt (avI S) T tp tN (iN + 1) (upd ip iN (nI x)) lp tr tA tI tl ni np (upd nv iN (phi T tp (nI x))) tf := by
    obtain ⟨j1, j2, j3, j4⟩ := hJ
    refine ⟨j1, j2, fun t ht => ?_, fun i hi' => ?_⟩
    · obtain ⟨g1, ⟨a, ga1, ga2⟩, g3⟩ := j3 t ht
      exact ⟨g1, ⟨a, by omega, ga2⟩, g3⟩
    · unfold JI
      by_cases e : i = iN
      · subst e
        rw [upd_at, upd_at, if_pos rfl, if_pos rfl]
        exact ⟨⟨x, x1, x2, rfl⟩, rfl⟩
      · rw [upd_at, upd_at, if_neg e, if_neg e]
        exact j4 i (by omega)
  refine lp_two (fun p z z' => ∃ tN' lp' tr' tA' tI' tl' lk' pr' s' rm' rc' ni' np' route' tried' tf' bq, z = (nI first, bq, nI p, nI tN', nI (iN + 1), upd ip iN (nI x), lp', tr', tA', tI', tl', lk', pr', s') ∧ z' = (cut, phi T tp (nI x), bq, nI p, rm', rc', nI tN', nI iN, ni', np', upd nv iN (phi T tp (nI x)), route', tried', tf') ∧
    JB c v rt (avI S) T tp tN' (iN + 1) (upd ip iN (nI x)) lp' tr' tA' tI' tl' ni' np' (upd nv iN (phi T tp (nI x))) tf' ∧ BF c p tN' iN tr' bq ∧ first ≤ p ∧ (first < p → bq ≠ -1) ∧ (∀ q, q < c → v q = v first → (q < p → tr' q ≠ -1) ∧ (p ≤ q → tr' q = -1)) ∧ (∀ q, q < c → v q ≠ v first → tr' q = tr q)) c ?_ ?_ (i := first) (Nat.le_of_lt hf) (by omega) (by omega)
    ⟨tN, lp, tr, tA, tI, tl, lk, pr, s, rm, rc, ni, np, route, tried, tf, -1, by rw [← nI_add iN 1]; rfl, rfl, hJ0, .inl ⟨rfl, hi⟩, Nat.le_refl _, fun w => by omega, fun q hq w => ⟨fun w2 => absurd w (hlow q w2), fun _ => hall q hq w⟩, fun q hq w => rfl⟩
  · rintro p z z' k k' hp ⟨tN', lp', tr', tA', tI', tl', lk', pr', s', rm', rc', ni', np', route', tried', tf', bq, rfl, rfl, hJ, hB, hfp, hbq, hA1, hA2⟩ hk
    have hpv := hv p hp
    have ccon := con_v (cut := cut) (F := F) E hF hp
    rw [← hpv] at ccon
    have cfirst : v first = nI x := hxe
    by_cases hvp : v p = v first
    · -- a passage of this vehicle
      have htp : tr' p = -1 := (hA1 p hp hvp).2 (Nat.le_refl _)
      have hvp1 : v p ≠ -1 := by rw [hvp]; exact hvf
      have ccon1 : f_X10_isConsidered F (nI p) cut bs S tp = some 1 := by rw [ccon, if_neg hvp1]
      have cveh := cv_vh (cut := cut) (F := F) E hF hp (by rw [← hpv]; exact hvp1)
      rw [← hpv, hvp, hxe] at cveh
      have hav := av6_v (F := F) (show p < 80 by omega) e1 (e9 p hp) hF
      have hav0 : -1 ≤ avI S p := by
        rcases av_cases (e9 p hp).1 with w | ⟨a, a1, a2, w⟩
        · rw [w]; exact i32_rf
        · rw [w]; exact i32_tr (show (-1 : Int32) ≤ 0 by decide) (nI_pos' (by omega))
      have htc' := hJ.lt hp htp
      have hnx : v p = nI x := hvp.trans hxe
      rcases hB with ⟨rfl, hB⟩ | ⟨b, t, rfl, hb1, hb2, rfl, hb3, hb4, hb5⟩
      · -- its first
        have hq := hk (nI first, nI p, nI (p + 1), nI (tN' + 1), nI (iN + 1), upd ip iN (nI x), upd lp' p (-1), upd tr' p (nI tN'), upd tA' tN' (if -1 < avI S p then avI S p else -1), upd tI' tN' (nI iN), upd tl' tN' 1, lk', pr', s')
          (cut, phi T tp (nI x), nI p, nI (p + 1), rm', rc', nI (tN' + 1), nI iN, upd ni' tN' (nI iN), upd np' tN' 1, upd nv iN (phi T tp (nI x)), route', tried', upd tf' p (nI tN'))
          ⟨_, _, _, _, _, _, _, _, _, _, _, _, _, _, _, _, _, rfl, rfl, jb_new hJ e2 hp htp hvp1 hav0, .inr ⟨p, tN', rfl, by omega, hp, rfl, by rw [upd_at, if_pos rfl], fun q hq w => ?_, by omega⟩, by omega, fun _ => nI_nm (by omega), fun q hq w => ?_, fun q hq w => ?_⟩
        · have an := ap_new (F := F) (iN := iN) (x := avI S p) (lp := upd lp' p (-1)) (tr := tr') (tA := tA') (tI := tI') (tl := tl') (show p < 80 by omega) (show tN' < 80 by omega) (by rw [upd_at, if_pos rfl])
          simp (disch := omega) only [f_X0_addVehicle_h41, f_X0_addVehicle_b131, f_X0_addVehicle_b147, hnx, cfirst, hav, an, f_X10_layVehicle_h22, f_X10_layVehicle_b72, f_X10_layVehicle_b105, f_X10_layVehicle_b137, e3, ccon1, cveh, pk_us, upd_upd, Nat.add_sub_cancel, ll_le, ll_lt, ll_eq, lr_le, lr_lt, lr_eq, ll_add, lr_add, ll_mul, lr_mul, nI_add, pk_mul, nI_leI, nI_ltI, nI_eq, ll_sub, pk_sub, lm_add, rd_n, rd_l, wr_n, wr_l, lm_ne, lm_ne', lm_lt, lm_le, m1_lt, m1_le, m1_le0, m1_lt0, m1_0, m1_0', l1_0, gd_0, gd_1, gd_T, or_true, true_or, false_or, or_false, nle_T, nle_F, nlt_T, nlt_F, neq_T, neq_F, ↓reduceIte, ne_eq, not_true_eq_false, not_false_eq_true, bd1_s, bd2_s, bd3_s, bd4_s, bd5_s, bd6_s, bd7_s, bd8_s, bd9_s, bd10_s, bd11_s, bd12_s, bd13_s, bd14_s, bd15_s, bd16_s, bd17_s, bd18_s, bd19_s, bd20_s, bd21_s, bd22_s, bd23_s, bd24_s, bd25_s]
          exact hq
        · by_cases e : q = p
          · omega
          · rw [upd_at, if_neg e] at w
            rcases (hJ.2.1 q hq).2 with w2 | ⟨-, t, ht, w2, -⟩
            · exact absurd (w.symm.trans w2) (nI_nm (by omega))
            · have := (nI_eq (by omega) (by omega)).mp (w.symm.trans w2); omega
        · refine ⟨fun w2 => ?_, fun w2 => ?_⟩
          · by_cases e : q = p
            · rw [upd_at, if_pos e]; exact nI_nm (by omega)
            · rw [upd_at, if_neg e]; exact (hA1 q hq w).1 (by omega)
          · rw [upd_at, if_neg (by omega)]; exact (hA1 q hq w).2 (by omega)
        · rw [upd_at, if_neg (fun e => w (by rw [e]; exact hvp))]; exact hA2 q hq w
      · -- another
        obtain ⟨r1, r2, r3⟩ := hrt b p hb2 hp
        obtain ⟨lk2, s2, r4⟩ := r2 lk' pr' s'
        obtain ⟨rm2, rc2, ro2, tr2, r5, r6⟩ := r3 rm' rc' route' tried'
        have gb : ∀ q, q < c → q < 80 := fun q hq => by omega
        rcases r6 with ⟨r6, rfl⟩ | ⟨r6, rfl, l, l1, l2, rfl⟩
        · have hq := hk (nI first, nI p, nI (p + 1), nI (t + 1 + 1), nI (iN + 1), upd ip iN (nI x), upd lp' p (-1), upd tr' p (nI (t + 1)), upd tA' (t + 1) (if -1 < avI S p then avI S p else -1), upd tI' (t + 1) (nI iN), upd tl' (t + 1) 1, lk2, -1, s2)
            (cut, phi T tp (nI x), nI p, nI (p + 1), 0, rc2, nI (t + 1 + 1), nI iN, upd ni' (t + 1) (nI iN), upd np' (t + 1) 1, upd nv iN (phi T tp (nI x)), ro2, tr2, upd tf' p (nI (t + 1)))
            ⟨_, _, _, _, _, _, _, _, _, _, _, _, _, _, _, _, _, rfl, rfl, jb_new hJ e2 hp htp hvp1 hav0, .inr ⟨p, t + 1, rfl, by omega, hp, rfl, by rw [upd_at, if_pos rfl], fun q hq w => ?_, by omega⟩, by omega, fun _ => nI_nm (by omega), fun q hq w => ?_, fun q hq w => ?_⟩
          · have an := ap_new (F := F) (iN := iN) (x := avI S p) (lp := upd lp' p (-1)) (tr := tr') (tA := tA') (tI := tI') (tl := tl') (show p < 80 by omega) (show t + 1 < 80 by omega) (by rw [upd_at, if_pos rfl])
            rw [r6] at r4
            simp (disch := omega) only [f_X0_addVehicle_h41, f_X0_addVehicle_b131, f_X0_addVehicle_b147, hnx, cfirst, hav, an, r4, f_X10_layVehicle_h22, f_X10_layVehicle_b72, f_X10_layVehicle_b105, f_X10_layVehicle_b137, e3, ccon1, cveh, r5, pk_us, upd_upd, Nat.add_sub_cancel, ll_le, ll_lt, ll_eq, lr_le, lr_lt, lr_eq, ll_add, lr_add, ll_mul, lr_mul, nI_add, pk_mul, nI_leI, nI_ltI, nI_eq, ll_sub, pk_sub, lm_add, rd_n, rd_l, wr_n, wr_l, lm_ne, lm_ne', lm_lt, lm_le, m1_lt, m1_le, m1_le0, m1_lt0, m1_0, m1_0', l1_0, gd_0, gd_1, gd_T, or_true, true_or, false_or, or_false, nle_T, nle_F, nlt_T, nlt_F, neq_T, neq_F, ↓reduceIte, ne_eq, not_true_eq_false, not_false_eq_true, bd1_s, bd2_s, bd3_s, bd4_s, bd5_s, bd6_s, bd7_s, bd8_s, bd9_s, bd10_s, bd11_s, bd12_s, bd13_s, bd14_s, bd15_s, bd16_s, bd17_s, bd18_s, bd19_s, bd20_s, bd21_s, bd22_s, bd23_s, bd24_s, bd25_s]
            exact hq
          · by_cases e : q = p
            · omega
            · rw [upd_at, if_neg e] at w
              rcases (hJ.2.1 q hq).2 with w2 | ⟨-, t', ht, w2, -⟩
              · exact absurd (w.symm.trans w2) (nI_nm (by omega))
              · have := (nI_eq (by omega) (by omega)).mp (w.symm.trans w2); omega
          · refine ⟨fun w2 => ?_, fun w2 => ?_⟩
            · by_cases e : q = p
              · rw [upd_at, if_pos e]; exact nI_nm (by omega)
              · rw [upd_at, if_neg e]; exact (hA1 q hq w).1 (by omega)
            · rw [upd_at, if_neg (by omega)]; exact (hA1 q hq w).2 (by omega)
          · rw [upd_at, if_neg (fun e => w (by rw [e]; exact hvp))]; exact hA2 q hq w
        · have hq := hk (nI first, nI p, nI (p + 1), nI (t + 1), nI (iN + 1), upd ip iN (nI x), upd lp' p (rt b p), upd tr' p (nI t), upd tA' t (if tA' t < avI S p then avI S p else tA' t), tI', upd tl' t (tl' t + 1), lk2, rt b p, s2)
            (cut, phi T tp (nI x), nI p, nI (p + 1), nI l, rt b p, nI (t + 1), nI iN, ni', upd np' t (np' t + 1), upd nv iN (phi T tp (nI x)), ro2, tr2, upd tf' p (nI t))
            ⟨_, _, _, _, _, _, _, _, _, _, _, _, _, _, _, _, _, rfl, rfl, jb_old hJ e2 hp htp hvp1 hb1 hb3 hb4 r6, .inr ⟨p, t, rfl, by omega, hp, rfl, by rw [upd_at, if_pos rfl], fun q hq w => ?_, by omega⟩, by omega, fun _ => nI_nm (by omega), fun q hq w => ?_, fun q hq w => ?_⟩
          · have ao := ap_old (F := F) (iN := iN + 1) (x := avI S p) (lp := upd lp' p (rt b p)) (tr := tr') (tA := tA') (tI := tI') (tl := tl') (show p < 80 by omega) (show t < 80 by omega) (by rw [upd_at, if_pos rfl]; exact r6)
            simp (disch := omega) only [f_X0_addVehicle_h41, f_X0_addVehicle_b131, f_X0_addVehicle_b147, hnx, cfirst, hav, ao, r4, f_X10_layVehicle_h22, f_X10_layVehicle_b72, f_X10_layVehicle_b105, f_X10_layVehicle_b137, e3, ccon1, cveh, r5, pk_us, upd_upd, Nat.add_sub_cancel, ll_le, ll_lt, ll_eq, lr_le, lr_lt, lr_eq, ll_add, lr_add, ll_mul, lr_mul, nI_add, pk_mul, nI_leI, nI_ltI, nI_eq, ll_sub, pk_sub, lm_add, rd_n, rd_l, wr_n, wr_l, lm_ne, lm_ne', lm_lt, lm_le, m1_lt, m1_le, m1_le0, m1_lt0, m1_0, m1_0', l1_0, gd_0, gd_1, gd_T, or_true, true_or, false_or, or_false, nle_T, nle_F, nlt_T, nlt_F, neq_T, neq_F, ↓reduceIte, ne_eq, not_true_eq_false, not_false_eq_true, bd1_s, bd2_s, bd3_s, bd4_s, bd5_s, bd6_s, bd7_s, bd8_s, bd9_s, bd10_s, bd11_s, bd12_s, bd13_s, bd14_s, bd15_s, bd16_s, bd17_s, bd18_s, bd19_s, bd20_s, bd21_s, bd22_s, bd23_s, bd24_s, bd25_s]
            exact hq
          · by_cases e : q = p
            · omega
            · rw [upd_at, if_neg e] at w
              have := hb4 q hq w
              omega
          · refine ⟨fun w2 => ?_, fun w2 => ?_⟩
            · by_cases e : q = p
              · rw [upd_at, if_pos e]; exact nI_nm (by omega)
              · rw [upd_at, if_neg e]; exact (hA1 q hq w).1 (by omega)
            · rw [upd_at, if_neg (by omega)]; exact (hA1 q hq w).2 (by omega)
          · rw [upd_at, if_neg (fun e => w (by rw [e]; exact hvp))]; exact hA2 q hq w
    · -- not of this vehicle
      have hvx : ¬ v p = nI x := by rw [← hxe]; exact hvp
      have hne : first ≠ p := fun e => hvp (by rw [e])
      have hq := hk (nI first, bq, nI (p + 1), nI tN', nI (iN + 1), upd ip iN (nI x), lp', tr', tA', tI', tl', lk', pr', s')
        (cut, phi T tp (nI x), bq, nI (p + 1), rm', rc', nI tN', nI iN, ni', np', upd nv iN (phi T tp (nI x)), route', tried', tf')
        ⟨_, _, _, _, _, _, _, _, _, _, _, _, _, _, _, _, _, rfl, rfl, hJ, hB.elim .inl (fun ⟨b, t, w1, w2, w3⟩ => .inr ⟨b, t, w1, by omega, w3⟩), by omega, fun _ => hbq (by omega), fun q hq w => ⟨fun w2 => (hA1 q hq w).1 (by
          rcases Nat.lt_or_ge q p with w3 | w3
          · exact w3
          · have : q = p := by omega
            subst this; exact absurd w hvp), fun w2 => (hA1 q hq w).2 (by omega)⟩, hA2⟩
      by_cases h1 : v p = -1
      · have ccon0 : f_X10_isConsidered F (nI p) cut bs S tp = some 0 := by rw [ccon, if_pos h1]
        simp (disch := omega) only [f_X0_addVehicle_h41, f_X0_addVehicle_b147, cfirst, hvx, f_X10_layVehicle_h22, f_X10_layVehicle_b137, e3, ccon0, ll_le, ll_lt, ll_eq, lr_le, lr_lt, lr_eq, ll_add, lr_add, ll_mul, lr_mul, nI_add, pk_mul, nI_leI, nI_ltI, nI_eq, ll_sub, pk_sub, lm_add, rd_n, rd_l, wr_n, wr_l, lm_ne, lm_ne', lm_lt, lm_le, m1_lt, m1_le, m1_le0, m1_lt0, m1_0, m1_0', l1_0, gd_0, gd_1, gd_T, or_true, true_or, false_or, or_false, nle_T, nle_F, nlt_T, nlt_F, neq_T, neq_F, ↓reduceIte, ne_eq, not_true_eq_false, not_false_eq_true, bd1_s, bd2_s, bd3_s, bd4_s, bd5_s, bd6_s, bd7_s, bd8_s, bd9_s, bd10_s, bd11_s, bd12_s, bd13_s, bd14_s, bd15_s, bd16_s, bd17_s, bd18_s, bd19_s, bd20_s, bd21_s, bd22_s, bd23_s, bd24_s, bd25_s]
        exact hq
      · have ccon1 : f_X10_isConsidered F (nI p) cut bs S tp = some 1 := by rw [ccon, if_neg h1]
        have cveh := cv_vh (cut := cut) (F := F) E hF hp (by rw [← hpv]; exact h1)
        rw [← hpv] at cveh
        have hphi : ¬ phi T tp (v p) = phi T tp (nI x) := by
          intro w
          obtain ⟨y, y1, y2, y3⟩ : ∃ a, 1 ≤ a ∧ a ≤ 9999 ∧ v p = nI a := by
            rcases cv_cases (cut := cut) E hp with w | ⟨a, w1, w2, w3⟩
            · exact absurd (hpv.trans w) h1
            · exact ⟨a, w1, w2, hpv.trans w3⟩
          rw [y3] at w
          have := phi_inj q4 y1 y2 x1 x2 w
          subst this
          exact hvx y3
        simp (disch := omega) only [f_X0_addVehicle_h41, f_X0_addVehicle_b147, cfirst, hvx, f_X10_layVehicle_h22, f_X10_layVehicle_b137, e3, ccon1, cveh, hphi, ll_le, ll_lt, ll_eq, lr_le, lr_lt, lr_eq, ll_add, lr_add, ll_mul, lr_mul, nI_add, pk_mul, nI_leI, nI_ltI, nI_eq, ll_sub, pk_sub, lm_add, rd_n, rd_l, wr_n, wr_l, lm_ne, lm_ne', lm_lt, lm_le, m1_lt, m1_le, m1_le0, m1_lt0, m1_0, m1_0', l1_0, gd_0, gd_1, gd_T, or_true, true_or, false_or, or_false, nle_T, nle_F, nlt_T, nlt_F, neq_T, neq_F, ↓reduceIte, ne_eq, not_true_eq_false, not_false_eq_true, bd1_s, bd2_s, bd3_s, bd4_s, bd5_s, bd6_s, bd7_s, bd8_s, bd9_s, bd10_s, bd11_s, bd12_s, bd13_s, bd14_s, bd15_s, bd16_s, bd17_s, bd18_s, bd19_s, bd20_s, bd21_s, bd22_s, bd23_s, bd24_s, bd25_s]
        exact hq
  · rintro z z' k k' ⟨tN', lp', tr', tA', tI', tl', lk', pr', s', rm', rc', ni', np', route', tried', tf', bq, rfl, rfl, hJ, hB, hfp, hbq, hA1, hA2⟩
    refine ⟨_, _, ?_, ?_, tN', _, lp', tr', tA', tI', tl', lk', pr', s', rm', rc', ni', np', _, route', tried', tf', rfl, rfl, hJ, ?_, fun q hq w => (hA1 q hq (w.trans hxe.symm)).1 hq, fun q hq w => hA2 q hq (fun e => w (e.trans hxe))⟩
    · simp (disch := omega) only [f_X0_addVehicle_h41, ll_le, ll_lt, ll_eq, lr_le, lr_lt, lr_eq, ll_add, lr_add, ll_mul, lr_mul, nI_add, pk_mul, nI_leI, nI_ltI, nI_eq, ll_sub, pk_sub, lm_add, rd_n, rd_l, wr_n, wr_l, lm_ne, lm_ne', lm_lt, lm_le, m1_lt, m1_le, m1_le0, m1_lt0, m1_0, m1_0', l1_0, gd_0, gd_1, gd_T, or_true, true_or, false_or, or_false, nle_T, nle_F, nlt_T, nlt_F, neq_T, neq_F, ↓reduceIte, ne_eq, not_true_eq_false, not_false_eq_true, bd1_s, bd2_s, bd3_s, bd4_s, bd5_s, bd6_s, bd7_s, bd8_s, bd9_s, bd10_s, bd11_s, bd12_s, bd13_s, bd14_s, bd15_s, bd16_s, bd17_s, bd18_s, bd19_s, bd20_s, bd21_s, bd22_s, bd23_s, bd24_s, bd25_s]
    · simp (disch := omega) only [f_X10_layVehicle_h22, e3, ll_le, ll_lt, ll_eq, lr_le, lr_lt, lr_eq, ll_add, lr_add, ll_mul, lr_mul, nI_add, pk_mul, nI_leI, nI_ltI, nI_eq, ll_sub, pk_sub, lm_add, rd_n, rd_l, wr_n, wr_l, lm_ne, lm_ne', lm_lt, lm_le, m1_lt, m1_le, m1_le0, m1_lt0, m1_0, m1_0', l1_0, gd_0, gd_1, gd_T, or_true, true_or, false_or, or_false, nle_T, nle_F, nlt_T, nlt_F, neq_T, neq_F, ↓reduceIte, ne_eq, not_true_eq_false, not_false_eq_true, bd1_s, bd2_s, bd3_s, bd4_s, bd5_s, bd6_s, bd7_s, bd8_s, bd9_s, bd10_s, bd11_s, bd12_s, bd13_s, bd14_s, bd15_s, bd16_s, bd17_s, bd18_s, bd19_s, bd20_s, bd21_s, bd22_s, bd23_s, bd24_s, bd25_s]
    · rcases hB with ⟨w, -⟩ | ⟨b, t, -, -, -, -, -, -, w⟩
      · exact absurd w (hbq hf)
      · exact w
end
