/-! class and amount of the trips -/
def pcI (cp : Nat → Int32) (o : Option Nat) (x : Int32) : Int32 := match o with
  | some k => (x * cp k) / 100
  | none => x
def axT (T : Nat) (ta tp ip tA tI : Nat → Int32) (t : Nat) : Int32 := if tA t = -1 then (match tw T tp (ip (tI t).toNatClampNeg) with
  | some k => ta k
  | none => 2) else tA t
def ctr (cp : Nat → Int32) (o : Option Nat) (low lp tl : Nat → Int32) (t p : Nat) : Int32 := pcI cp o (if lp p = -1 then (if tl t = 1 then low p else 0) else lp p)
def smI (cp : Nat → Int32) (o : Option Nat) (low lp tl tr : Nat → Int32) (t : Nat) : Nat → Int32
  | 0 => 0
  | p + 1 => if tr p = nI t then smI cp o low lp tl tr t p + ctr cp o low lp tl t p else smI cp o low lp tl tr t p
theorem smI_z {cp low lp tl tr : Nat → Int32} {o : Option Nat} {t : Nat} : ∀ {p : Nat}, (∀ q, q < p → tr q ≠ nI t) → smI cp o low lp tl tr t p = 0
  | 0, _ => rfl
  | p + 1, h => by
    show (if tr p = nI t then _ else smI cp o low lp tl tr t p) = 0
    rw [if_neg (h p (by omega))]
    exact smI_z (fun q hq => h q (by omega))
theorem pcI_0 {cp : Nat → Int32} {o : Option Nat} : pcI cp o 0 = 0 := by
  cases o with
  | none => rfl
  | some k =>
    show (0 * cp k) / 100 = 0
    rw [Int32.zero_mul]; decide
theorem pr4_p {F C : Nat} (x : Int32) (o : Option Nat) (cp : Nat → Int32) (hC : C ≤ 4) (ho : ∀ k, o = some k → k < C) : f_X4_priceForClass F x (oI o) (nI C) cp = some (pcI cp o x) := by
  cases o with
  | none => exact pr4_v x none cp hC ho
  | some k => exact pr4_v x (some k) cp hC ho
section
variable {n G L C T c c5 F : Nat} {M P : Nat → Nat → Nat} {bs lf lt lm lq mM mP ca ta tp ca' ta' tp' cp cp' ax ga hx hp la ps rp st tg ti tq S v low : Nat → Int32} {cut : Int32} {rt : Nat → Nat → Int32} {tN iN : Nat} {ip lp tr tA tI tl ni np nv tf : Nat → Int32}
theorem low_fun (E : BEnv n G L C T c c5 M P bs lf lt lm lq mM mP ca ta tp ca' ta' tp' ax ga hx hp la ps rp st tg ti tq S) (hF : 100 ≤ F) : ∃ low : Nat → Int32, ∀ p, p < c → f_X4_lowestPriceAt F (ga p) (nI G) mP = some (low p) ∧ f_X10_lowestAt F (S (4 + 25 * p + 0)) bs lf lq lt = some (low p) := by
  obtain ⟨e1, e2, e3, e4, e5, e6, e7, e8, e9⟩ := E
  have h : ∀ p, ∃ x, p < c → f_X4_lowestPriceAt F (ga p) (nI G) mP = some x ∧ f_X10_lowestAt F (S (4 + 25 * p + 0)) bs lf lq lt = some x := fun p => by
    by_cases hp : p < c
    · obtain ⟨⟨⟨f, f1, f2⟩, -⟩, a1, -⟩ := e9 p hp
      dsimp only at f2
      obtain ⟨q, -, w1, w2⟩ := same_low (F := F) e7 e6 e5 e4 f1 hF
      exact ⟨nI q, fun _ => ⟨by rw [a1, f2]; exact w1, by rw [f2]; exact w2⟩⟩
    · exact ⟨0, fun w => absurd w hp⟩
  exact ⟨fun p => Classical.choose (h p), fun p => Classical.choose_spec (h p)⟩
theorem price4_v (E : BEnv n G L C T c c5 M P bs lf lt lm lq mM mP ca ta tp ca' ta' tp' ax ga hx hp la ps rp st tg ti tq S) (hF : 100 ≤ F) (hcp : ∀ k, k < C → cp' k = cp k) (hlow : ∀ p, p < c → f_X4_lowestPriceAt F (ga p) (nI G) mP = some (low p) ∧ f_X10_lowestAt F (S (4 + 25 * p + 0)) bs lf lq lt = some (low p))
    (hJ : JB c v rt (avI S) T tp tN iN ip lp tr tA tI tl ni np nv tf) (hi : iN ≤ tN) (ce cn : Nat → Int32) :
    Ok (f_X0_priceTrips F (nI tN) ip lp tr tA ce cn tI tl (nI G) (nI C) (nI T) ca' cp' mP ta' tp' (nI c) ga) (fun r => ∀ t, t < tN → r.1 t = smI cp (cfr ca (axT T ta tp ip tA tI t) C) low lp tl tr t c ∧ r.2 t = oI (cfr ca (axT T ta tp ip tA tI t) C)) := by
  have htc := hJ.lec
  obtain ⟨e1, e2, e3, e4, e5, e6, e7, ⟨q1, q2, q3, q4, q5, q6, q7, q8, q9⟩, e9⟩ := id E
  obtain ⟨j1, j2, j3, j4⟩ := hJ
  have hT := q4.1
  unfold f_X0_priceTrips f_X0_priceTrips_L2
  refine lp_inv (fun t z => ∃ ce cn, z = (nI t, ce, cn) ∧ ∀ u, u < t → ce u = 0 ∧ cn u = oI (cfr ca (axT T ta tp ip tA tI u) C)) tN ?_ ?_ (by omega) ⟨ce, cn, rfl, fun u hu => by omega⟩
  · rintro t z k ht ⟨ce, cn, rfl, hz⟩ hk
    obtain ⟨-, ⟨a, a1, a2⟩, -⟩ := j3 t ht
    have hq := hk (nI (t + 1), upd ce t 0, upd cn t (oI (cfr ca (axT T ta tp ip tA tI t) C))) ⟨_, _, rfl, fun u hu => by
      by_cases e : u = t
      · subst e; rw [upd_at, upd_at, if_pos rfl, if_pos rfl]; exact ⟨rfl, rfl⟩
      · rw [upd_at, upd_at, if_neg e, if_neg e]; exact hz u (by omega)⟩
    have hcf : ∀ x, f_X4_classFor F x (nI C) ca' = some (oI (cfr ca x C)) := fun x => by rw [cf4_v x ca' q1 hF, cfr_congr q3]
    by_cases h1 : tA t = -1
    · have hax : f_X4_axlesOfVehicle F (ip a) (nI T) ta' tp' = some (axT T ta tp ip tA tI t) := by
        rw [aov_v (ip a) ta' tp' hT hF, tw_congr _ (fun k hk => (q6 k hk).1)]
        unfold axT
        rw [if_pos h1, a2, nI_clamp (by omega)]
        cases e : tw T tp (ip a) with
        | none => rfl
        | some k => exact congrArg some (q6 k (tw_some e).1).2
      simp (disch := omega) only [f_X0_priceTrips_h2, f_X0_priceTrips_b41, h1, a2, hax, hcf, ll_le, ll_lt, ll_eq, lr_le, lr_lt, lr_eq, ll_add, lr_add, ll_mul, lr_mul, nI_add, pk_mul, nI_leI, nI_ltI, nI_eq, ll_sub, pk_sub, lm_add, rd_n, rd_l, wr_n, wr_l, lm_ne, lm_ne', lm_lt, lm_le, m1_lt, m1_le, m1_le0, m1_lt0, m1_0, m1_0', l1_0, gd_0, gd_1, gd_T, or_true, true_or, false_or, or_false, nle_T, nle_F, nlt_T, nlt_F, neq_T, neq_F, ↓reduceIte, ne_eq, not_true_eq_false, not_false_eq_true, bd1_s, bd2_s, bd3_s, bd4_s, bd5_s, bd6_s, bd7_s, bd8_s, bd9_s, bd10_s, bd11_s, bd12_s, bd13_s, bd14_s, bd15_s, bd16_s, bd17_s, bd18_s, bd19_s, bd20_s, bd21_s, bd22_s, bd23_s, bd24_s, bd25_s]
      exact hq
    · have hax : axT T ta tp ip tA tI t = tA t := if_neg h1
      rw [hax] at hq
      simp (disch := omega) only [f_X0_priceTrips_h2, f_X0_priceTrips_b41, h1, hcf, ll_le, ll_lt, ll_eq, lr_le, lr_lt, lr_eq, ll_add, lr_add, ll_mul, lr_mul, nI_add, pk_mul, nI_leI, nI_ltI, nI_eq, ll_sub, pk_sub, lm_add, rd_n, rd_l, wr_n, wr_l, lm_ne, lm_ne', lm_lt, lm_le, m1_lt, m1_le, m1_le0, m1_lt0, m1_0, m1_0', l1_0, gd_0, gd_1, gd_T, or_true, true_or, false_or, or_false, nle_T, nle_F, nlt_T, nlt_F, neq_T, neq_F, ↓reduceIte, ne_eq, not_true_eq_false, not_false_eq_true, bd1_s, bd2_s, bd3_s, bd4_s, bd5_s, bd6_s, bd7_s, bd8_s, bd9_s, bd10_s, bd11_s, bd12_s, bd13_s, bd14_s, bd15_s, bd16_s, bd17_s, bd18_s, bd19_s, bd20_s, bd21_s, bd22_s, bd23_s, bd24_s, bd25_s]
      exact hq
  · rintro z k ⟨ce, cn, rfl, hz⟩
    simp (disch := omega) only [f_X0_priceTrips_h2, ll_le, ll_lt, ll_eq, lr_le, lr_lt, lr_eq, ll_add, lr_add, ll_mul, lr_mul, nI_add, pk_mul, nI_leI, nI_ltI, nI_eq, ll_sub, pk_sub, lm_add, rd_n, rd_l, wr_n, wr_l, lm_ne, lm_ne', lm_lt, lm_le, m1_lt, m1_le, m1_le0, m1_lt0, m1_0, m1_0', l1_0, gd_0, gd_1, gd_T, or_true, true_or, false_or, or_false, nle_T, nle_F, nlt_T, nlt_F, neq_T, neq_F, ↓reduceIte, ne_eq, not_true_eq_false, not_false_eq_true, bd1_s, bd2_s, bd3_s, bd4_s, bd5_s, bd6_s, bd7_s, bd8_s, bd9_s, bd10_s, bd11_s, bd12_s, bd13_s, bd14_s, bd15_s, bd16_s, bd17_s, bd18_s, bd19_s, bd20_s, bd21_s, bd22_s, bd23_s, bd24_s, bd25_s]
    unfold f_X0_priceTrips_L68
    refine lp_inv (fun p z => ∃ ce, z = (nI p, ce, cn) ∧ ∀ t, t < tN → ce t = smI cp (cfr ca (axT T ta tp ip tA tI t) C) low lp tl tr t p) c ?_ ?_ (by omega) ⟨ce, rfl, fun t ht => (hz t ht).1⟩
    · rintro p z k hp ⟨ce, rfl, hc⟩ hk
      rcases (j2 p hp).2 with w | ⟨-, t, t1, t2, -⟩
      · have hq := hk (nI (p + 1), ce, cn) ⟨_, rfl, fun t ht => by
          show ce t = (if tr p = nI t then _ else _)
          rw [if_neg (by rw [w]; exact fun e => nI_nm (a := t) (by omega) e.symm)]
          exact hc t ht⟩
        simp (disch := omega) only [f_X0_priceTrips_h68, f_X0_priceTrips_b154, w, ll_le, ll_lt, ll_eq, lr_le, lr_lt, lr_eq, ll_add, lr_add, ll_mul, lr_mul, nI_add, pk_mul, nI_leI, nI_ltI, nI_eq, ll_sub, pk_sub, lm_add, rd_n, rd_l, wr_n, wr_l, lm_ne, lm_ne', lm_lt, lm_le, m1_lt, m1_le, m1_le0, m1_lt0, m1_0, m1_0', l1_0, gd_0, gd_1, gd_T, or_true, true_or, false_or, or_false, nle_T, nle_F, nlt_T, nlt_F, neq_T, neq_F, ↓reduceIte, ne_eq, not_true_eq_false, not_false_eq_true, bd1_s, bd2_s, bd3_s, bd4_s, bd5_s, bd6_s, bd7_s, bd8_s, bd9_s, bd10_s, bd11_s, bd12_s, bd13_s, bd14_s, bd15_s, bd16_s, bd17_s, bd18_s, bd19_s, bd20_s, bd21_s, bd22_s, bd23_s, bd24_s, bd25_s]
        exact hq
      · have hn1 : ¬ nI t = -1 := nI_nm (by omega)
        have hpr : ∀ x, f_X4_priceForClass F x (cn t) (nI C) cp' = some (pcI cp (cfr ca (axT T ta tp ip tA tI t) C) x) := fun x => by
          rw [(hz t t1).2, pr4_p x _ cp' q1 (fun k hk => cfr_lt hk)]
          cases e : cfr ca (axT T ta tp ip tA tI t) C with
          | none => rfl
          | some k => show some ((x * cp' k) / 100) = some ((x * cp k) / 100); rw [hcp k (cfr_lt e)]
        have hq := hk (nI (p + 1), upd ce t (ce t + ctr cp (cfr ca (axT T ta tp ip tA tI t) C) low lp tl t p), cn) ⟨_, rfl, fun u hu => by
          show _ = (if tr p = nI u then _ else _)
          by_cases e : u = t
          · subst e
            rw [upd_at, if_pos rfl, if_pos t2, hc u hu]
          · rw [upd_at, if_neg e, if_neg (by rw [t2]; exact fun w => e ((nI_eq (by omega) (by omega)).mp w).symm)]
            exact hc u hu⟩
        unfold ctr at hq
        by_cases h1 : lp p = -1
        · by_cases h2 : tl t = 1
          · rw [if_pos h1, if_pos h2] at hq
            simp (disch := omega) only [f_X0_priceTrips_h68, f_X0_priceTrips_b154, f_X0_priceTrips_b129, f_X0_priceTrips_b131, t2, h1, h2, hn1, (hlow p hp).1, hpr, ll_le, ll_lt, ll_eq, lr_le, lr_lt, lr_eq, ll_add, lr_add, ll_mul, lr_mul, nI_add, pk_mul, nI_leI, nI_ltI, nI_eq, ll_sub, pk_sub, lm_add, rd_n, rd_l, wr_n, wr_l, lm_ne, lm_ne', lm_lt, lm_le, m1_lt, m1_le, m1_le0, m1_lt0, m1_0, m1_0', l1_0, gd_0, gd_1, gd_T, or_true, true_or, false_or, or_false, nle_T, nle_F, nlt_T, nlt_F, neq_T, neq_F, ↓reduceIte, ne_eq, not_true_eq_false, not_false_eq_true, bd1_s, bd2_s, bd3_s, bd4_s, bd5_s, bd6_s, bd7_s, bd8_s, bd9_s, bd10_s, bd11_s, bd12_s, bd13_s, bd14_s, bd15_s, bd16_s, bd17_s, bd18_s, bd19_s, bd20_s, bd21_s, bd22_s, bd23_s, bd24_s, bd25_s]
            exact hq
          · rw [if_pos h1, if_neg h2] at hq
            simp (disch := omega) only [f_X0_priceTrips_h68, f_X0_priceTrips_b154, f_X0_priceTrips_b129, f_X0_priceTrips_b131, t2, h1, h2, hn1, hpr, ll_le, ll_lt, ll_eq, lr_le, lr_lt, lr_eq, ll_add, lr_add, ll_mul, lr_mul, nI_add, pk_mul, nI_leI, nI_ltI, nI_eq, ll_sub, pk_sub, lm_add, rd_n, rd_l, wr_n, wr_l, lm_ne, lm_ne', lm_lt, lm_le, m1_lt, m1_le, m1_le0, m1_lt0, m1_0, m1_0', l1_0, gd_0, gd_1, gd_T, or_true, true_or, false_or, or_false, nle_T, nle_F, nlt_T, nlt_F, neq_T, neq_F, ↓reduceIte, ne_eq, not_true_eq_false, not_false_eq_true, bd1_s, bd2_s, bd3_s, bd4_s, bd5_s, bd6_s, bd7_s, bd8_s, bd9_s, bd10_s, bd11_s, bd12_s, bd13_s, bd14_s, bd15_s, bd16_s, bd17_s, bd18_s, bd19_s, bd20_s, bd21_s, bd22_s, bd23_s, bd24_s, bd25_s]
            exact hq
        · rw [if_neg h1] at hq
          simp (disch := omega) only [f_X0_priceTrips_h68, f_X0_priceTrips_b154, f_X0_priceTrips_b129, f_X0_priceTrips_b131, t2, h1, hn1, hpr, ll_le, ll_lt, ll_eq, lr_le, lr_lt, lr_eq, ll_add, lr_add, ll_mul, lr_mul, nI_add, pk_mul, nI_leI, nI_ltI, nI_eq, ll_sub, pk_sub, lm_add, rd_n, rd_l, wr_n, wr_l, lm_ne, lm_ne', lm_lt, lm_le, m1_lt, m1_le, m1_le0, m1_lt0, m1_0, m1_0', l1_0, gd_0, gd_1, gd_T, or_true, true_or, false_or, or_false, nle_T, nle_F, nlt_T, nlt_F, neq_T, neq_F, ↓reduceIte, ne_eq, not_true_eq_false, not_false_eq_true, bd1_s, bd2_s, bd3_s, bd4_s, bd5_s, bd6_s, bd7_s, bd8_s, bd9_s, bd10_s, bd11_s, bd12_s, bd13_s, bd14_s, bd15_s, bd16_s, bd17_s, bd18_s, bd19_s, bd20_s, bd21_s, bd22_s, bd23_s, bd24_s, bd25_s]
          exact hq
    · rintro z k ⟨ce, rfl, hc⟩
      refine ⟨(ce, cn), ?_, fun t ht => ⟨hc t ht, (hz t ht).2⟩⟩
      simp (disch := omega) only [f_X0_priceTrips_h68, ll_le, ll_lt, ll_eq, lr_le, lr_lt, lr_eq, ll_add, lr_add, ll_mul, lr_mul, nI_add, pk_mul, nI_leI, nI_ltI, nI_eq, ll_sub, pk_sub, lm_add, rd_n, rd_l, wr_n, wr_l, lm_ne, lm_ne', lm_lt, lm_le, m1_lt, m1_le, m1_le0, m1_lt0, m1_0, m1_0', l1_0, gd_0, gd_1, gd_T, or_true, true_or, false_or, or_false, nle_T, nle_F, nlt_T, nlt_F, neq_T, neq_F, ↓reduceIte, ne_eq, not_true_eq_false, not_false_eq_true, bd1_s, bd2_s, bd3_s, bd4_s, bd5_s, bd6_s, bd7_s, bd8_s, bd9_s, bd10_s, bd11_s, bd12_s, bd13_s, bd14_s, bd15_s, bd16_s, bd17_s, bd18_s, bd19_s, bd20_s, bd21_s, bd22_s, bd23_s, bd24_s, bd25_s]
theorem amt_v (E : BEnv n G L C T c c5 M P bs lf lt lm lq mM mP ca ta tp ca' ta' tp' ax ga hx hp la ps rp st tg ti tq S) (hF : 100 ≤ F) (hlow : ∀ p, p < c → f_X4_lowestPriceAt F (ga p) (nI G) mP = some (low p) ∧ f_X10_lowestAt F (S (4 + 25 * p + 0)) bs lf lq lt = some (low p))
    (hrt : ∀ a b, a < c → b < c → RTE F G mM mP ga ti bs lf lm lq lt S a b (rt a b))
    (hJ : JB c v rt (avI S) T tp tN iN ip lp tr tA tI tl ni np nv tf) (hi : iN ≤ tN) {t : Nat} (ht : t < tN) (rm rc : Int32) (nA nC route tried : Nat → Int32) :
    Ok (f_X10_layAmount F (nI t) rm rc bs ca cp lf lm lq lt nA nC ni np nv route S ta tried tf) (fun r => ∃ rm' rc' route' tried', r = (rm', rc', upd nA t (smI cp (cfr ca (axT T ta tp ip tA tI t) C) low lp tl tr t c), upd nC t (oI (cfr ca (axT T ta tp ip tA tI t) C)), route', tried')) := by
  have htc := hJ.lec
  obtain ⟨e1, e2, e3, e4, e5, e6, e7, ⟨q1, q2, q3, q4, q5, q6, q7, q8, q9⟩, e9⟩ := id E
  obtain ⟨j1, j2, j3, j4⟩ := hJ
  have hT := q4.1
  obtain ⟨g1, ⟨a, a1, a2⟩, g3, g4, g5, g6, g7⟩ := j3 t ht
  obtain ⟨⟨x, x1, x2, x3⟩, x4⟩ := j4 a a1
  unfold f_X10_layAmount f_X10_layAmount_L4
  refine lp_inv (fun p z => ∃ mx, z = (nI t, mx, nI p, rm, rc, nA, nC, route, tried) ∧ (∀ q, q < p → tr q = nI t → avI S q ≤ mx) ∧ -1 ≤ mx ∧ (mx = -1 ∨ ∃ q, q < p ∧ tr q = nI t ∧ avI S q = mx)) c ?_ ?_ (by omega) ⟨-1, rfl, fun q hq => by omega, i32_rf, .inl rfl⟩
  · rintro p z k hp ⟨mx, rfl, h1, h2, h3⟩ hk
    have htf := (j2 p hp).1
    have hav := av10_v (F := F) (show p < 80 by omega) e1 (e9 p hp).1 hF
    by_cases hc : tr p = nI t
    · have hq := hk (nI t, (if mx < avI S p then avI S p else mx), nI (p + 1), rm, rc, nA, nC, route, tried) ⟨_, rfl, fun q hq w => by
        by_cases e : q = p
        · subst e; exact mx_2
        · exact i32_tr (h1 q (by omega) w) mx_1, i32_tr h2 mx_1, by
        by_cases hx : mx < avI S p
        · rw [if_pos hx]; exact .inr ⟨p, by omega, hc, rfl⟩
        · rw [if_neg hx]; exact h3.elim .inl (fun ⟨q, w1, w2⟩ => .inr ⟨q, by omega, w2⟩)⟩
      simp (disch := omega) only [f_X10_layAmount_h4, f_X10_layAmount_b34, e3, htf, hc, hav, ll_le, ll_lt, ll_eq, lr_le, lr_lt, lr_eq, ll_add, lr_add, ll_mul, lr_mul, nI_add, pk_mul, nI_leI, nI_ltI, nI_eq, ll_sub, pk_sub, lm_add, rd_n, rd_l, wr_n, wr_l, lm_ne, lm_ne', lm_lt, lm_le, m1_lt, m1_le, m1_le0, m1_lt0, m1_0, m1_0', l1_0, gd_0, gd_1, gd_T, or_true, true_or, false_or, or_false, nle_T, nle_F, nlt_T, nlt_F, neq_T, neq_F, ↓reduceIte, ne_eq, not_true_eq_false, not_false_eq_true, bd1_s, bd2_s, bd3_s, bd4_s, bd5_s, bd6_s, bd7_s, bd8_s, bd9_s, bd10_s, bd11_s, bd12_s, bd13_s, bd14_s, bd15_s, bd16_s, bd17_s, bd18_s, bd19_s, bd20_s, bd21_s, bd22_s, bd23_s, bd24_s, bd25_s]
      exact hq
    · have hq := hk (nI t, mx, nI (p + 1), rm, rc, nA, nC, route, tried) ⟨_, rfl, fun q hq w => h1 q (by
        rcases Nat.lt_or_ge q p with w3 | w3
        · exact w3
        · have : q = p := by omega
          subst this; exact absurd w hc) w, h2, h3.elim .inl (fun ⟨q, w1, w2⟩ => .inr ⟨q, by omega, w2⟩)⟩
      simp (disch := omega) only [f_X10_layAmount_h4, f_X10_layAmount_b34, e3, htf, hc, ll_le, ll_lt, ll_eq, lr_le, lr_lt, lr_eq, ll_add, lr_add, ll_mul, lr_mul, nI_add, pk_mul, nI_leI, nI_ltI, nI_eq, ll_sub, pk_sub, lm_add, rd_n, rd_l, wr_n, wr_l, lm_ne, lm_ne', lm_lt, lm_le, m1_lt, m1_le, m1_le0, m1_lt0, m1_0, m1_0', l1_0, gd_0, gd_1, gd_T, or_true, true_or, false_or, or_false, nle_T, nle_F, nlt_T, nlt_F, neq_T, neq_F, ↓reduceIte, ne_eq, not_true_eq_false, not_false_eq_true, bd1_s, bd2_s, bd3_s, bd4_s, bd5_s, bd6_s, bd7_s, bd8_s, bd9_s, bd10_s, bd11_s, bd12_s, bd13_s, bd14_s, bd15_s, bd16_s, bd17_s, bd18_s, bd19_s, bd20_s, bd21_s, bd22_s, bd23_s, bd24_s, bd25_s]
      exact hq
  · rintro z k ⟨mx, rfl, h1, h2, h3⟩
    have hmx : mx = tA t := by
      refine i32_as ?_ ?_
      · rcases h3 with w | ⟨q, w1, w2, w3⟩
        · rw [w]; exact g6
        · rw [← w3]; exact g5 q w1 w2
      · rcases g7 with w | ⟨q, w1, w2, w3⟩
        · rw [w]; exact h2
        · rw [← w3]; exact h1 q w1 w2
    subst hmx
    have key : Ok (f_X10_layAmount_b74 F bs ca cp lf lm lq lt ni np nv S ta tf (nI t) (axT T ta tp ip tA tI t) rm rc nA nC route tried) (fun r => ∃ rm' rc' route' tried', r = (rm', rc', upd nA t (smI cp (cfr ca (axT T ta tp ip tA tI t) C) low lp tl tr t c), upd nC t (oI (cfr ca (axT T ta tp ip tA tI t) C)), route', tried')) := by
      unfold f_X10_layAmount_b74
      rw [cf_v _ bs ca q2 q1 hF, bd1_s, wr_n (show t < 80 by omega) (by decide)]
      generalize ho : cfr ca (axT T ta tp ip tA tI t) C = o
      have hoC : ∀ k, o = some k → k < C := fun k hk => cfr_lt (ho.trans hk)
      have hpr : ∀ x, f_X10_priceFor F x (oI o) cp = some (pcI cp o x) := fun x => by
        rw [pr_v x o cp (fun k hk => by have := hoC k hk; omega)]
        cases o <;> rfl
      unfold f_X10_layAmount_L94
      refine lp_inv (fun p z => ∃ bq rm rc route tried, z = (nI t, smI cp o low lp tl tr t p, bq, nI p, rm, rc, nA, upd nC t (oI o), route, tried) ∧ ((bq = -1 ∧ ∀ q, q < p → tr q ≠ nI t) ∨ ∃ b, bq = nI b ∧ b < p ∧ tr b = nI t ∧ ∀ q, b < q → q < p → tr q ≠ nI t)) c ?_ ?_ (by omega) ⟨-1, rm, rc, route, tried, rfl, .inl ⟨rfl, fun q hq => by omega⟩⟩
      · rintro p z k hp ⟨bq, rm, rc, route, tried, rfl, hb⟩ hk
        have htf := (j2 p hp).1
        by_cases hc : tr p = nI t
        · have hsm : smI cp o low lp tl tr t (p + 1) = smI cp o low lp tl tr t p + ctr cp o low lp tl t p := if_pos hc
          have hq : ∀ rm rc route tried, Ok (k (nI t, smI cp o low lp tl tr t p + ctr cp o low lp tl t p, nI p, nI (p + 1), rm, rc, nA, upd nC t (oI o), route, tried)) (fun r => ∃ rm' rc' route' tried', r = (rm', rc', upd nA t (smI cp o low lp tl tr t c), upd nC t (oI o), route', tried')) := fun rm rc route tried => by
            rw [← hsm]
            exact hk _ ⟨nI p, rm, rc, route, tried, rfl, .inr ⟨p, rfl, by omega, hc, fun q w1 w2 => by omega⟩⟩
          have hlw := (hlow p hp).2
          have ho0 : f_X10_ofPassage F (nI p) 0 S = some (S (4 + 25 * p + 0)) := ofp_l (k := 0) (by omega) (by decide)
          rcases (j2 p hp).2 with w | ⟨-, t', t1, t2, t3⟩
          · exact absurd (hc.symm.trans w) (nI_nm (by omega))
          · have ett : t' = t := (nI_eq (by omega) (by omega)).mp (t2.symm.trans hc)
            subst ett
            rcases hb with ⟨rfl, hb⟩ | ⟨b, rfl, b1, b2, b3⟩
            · have hlp : lp p = -1 := by
                rcases t3 with ⟨w, -⟩ | ⟨b, w1, w2, -⟩
                · exact w
                · exact absurd w2 (hb b w1)
              unfold ctr at hq
              rw [if_pos hlp, smI_z hb, Int32.zero_add] at hq
              by_cases h1 : tl t' = 1
              · rw [if_pos h1] at hq
                have hnp : np t' = 1 := g3.trans h1
                simp (disch := omega) only [f_X10_layAmount_h94, f_X10_layAmount_b152, f_X10_layAmount_b187, f_X10_layAmount_b191, e3, htf, hc, hnp, ho0, hlw, pk_us, hpr, ll_le, ll_lt, ll_eq, lr_le, lr_lt, lr_eq, ll_add, lr_add, ll_mul, lr_mul, nI_add, pk_mul, nI_leI, nI_ltI, nI_eq, ll_sub, pk_sub, lm_add, rd_n, rd_l, wr_n, wr_l, lm_ne, lm_ne', lm_lt, lm_le, m1_lt, m1_le, m1_le0, m1_lt0, m1_0, m1_0', l1_0, gd_0, gd_1, gd_T, or_true, true_or, false_or, or_false, nle_T, nle_F, nlt_T, nlt_F, neq_T, neq_F, ↓reduceIte, ne_eq, not_true_eq_false, not_false_eq_true, bd1_s, bd2_s, bd3_s, bd4_s, bd5_s, bd6_s, bd7_s, bd8_s, bd9_s, bd10_s, bd11_s, bd12_s, bd13_s, bd14_s, bd15_s, bd16_s, bd17_s, bd18_s, bd19_s, bd20_s, bd21_s, bd22_s, bd23_s, bd24_s, bd25_s]
                exact hq _ _ _ _
              · rw [if_neg h1, pcI_0] at hq
                have hnp : ¬ np t' = 1 := by rw [g3]; exact h1
                rw [smI_z hb]
                simp (disch := omega) only [f_X10_layAmount_h94, f_X10_layAmount_b152, f_X10_layAmount_b187, f_X10_layAmount_b191, e3, htf, hc, hnp, ll_le, ll_lt, ll_eq, lr_le, lr_lt, lr_eq, ll_add, lr_add, ll_mul, lr_mul, nI_add, pk_mul, nI_leI, nI_ltI, nI_eq, ll_sub, pk_sub, lm_add, rd_n, rd_l, wr_n, wr_l, lm_ne, lm_ne', lm_lt, lm_le, m1_lt, m1_le, m1_le0, m1_lt0, m1_0, m1_0', l1_0, gd_0, gd_1, gd_T, or_true, true_or, false_or, or_false, nle_T, nle_F, nlt_T, nlt_F, neq_T, neq_F, ↓reduceIte, ne_eq, not_true_eq_false, not_false_eq_true, bd1_s, bd2_s, bd3_s, bd4_s, bd5_s, bd6_s, bd7_s, bd8_s, bd9_s, bd10_s, bd11_s, bd12_s, bd13_s, bd14_s, bd15_s, bd16_s, bd17_s, bd18_s, bd19_s, bd20_s, bd21_s, bd22_s, bd23_s, bd24_s, bd25_s]
                exact hq _ _ _ _
            · obtain ⟨r1, r2, r3⟩ := hrt b p (by omega) hp
              obtain ⟨rm2, rc2, ro2, tr2, r5, r6⟩ := r3 rm rc route tried
              obtain ⟨hlp, hlp1⟩ : lp p = rt b p ∧ rt b p ≠ -1 := by
                rcases t3 with ⟨-, w⟩ | ⟨b', w1, w2, w3, w4, w5⟩
                · exact absurd b2 (w b b1)
                · have : b' = b := by
                    rcases Nat.lt_trichotomy b b' with w | w | w
                    · exact absurd w2 (b3 b' w w1)
                    · exact w.symm
                    · exact absurd b2 (w3 b w b1)
                  subst this; exact ⟨w5, w4⟩
              have h1 : ¬ np t' = 1 := by
                rw [g3, g4]
                intro w
                have hb2 : cnI tr t' c = 1 := (nI_eq (b := 1) (by have := cnt1_le (Q := fun p => tr p = nI t') (d := fun _ => inferInstance) c; unfold cnI; omega) (by omega)).mp w
                have hge : 2 ≤ cnI tr t' c := by
                  have h0 : cnt1 (fun q => q = b ∨ q = p) (fun _ => inferInstance) c ≤ cnI tr t' c := cnt1_mono (fun q hq w => by rcases w with rfl | rfl; exact b2; exact hc)
                  have h2 : cnt1 (fun q => q = b ∨ q = p) (fun _ => inferInstance) c = cnt1 (fun q => q = b) (fun _ => inferInstance) c + 1 := cnt1_upd (p := p) (by omega) (.inr rfl) (fun q hq => ⟨fun w => w.resolve_right hq, .inl⟩) hp
                  have h3 : cnt1 (fun q => q = b) (fun _ => inferInstance) c = cnt1 (fun _ => False) (fun _ => inferInstance) c + 1 := cnt1_upd (Q := fun _ => False) (Q' := fun q => q = b) (d := fun _ => inferInstance) (d' := fun _ => inferInstance) (p := b) (fun w => w) rfl (fun q hq => ⟨fun w => hq w, False.elim⟩) (by omega)
                  omega
                omega
              rcases r6 with ⟨r6, -⟩ | ⟨-, rfl, l, l1, l2, rfl⟩
              · exact absurd r6 hlp1
              · unfold ctr at hq
                rw [if_neg (by rw [hlp]; exact hlp1), hlp] at hq
                simp (disch := omega) only [f_X10_layAmount_h94, f_X10_layAmount_b152, f_X10_layAmount_b187, f_X10_layAmount_b191, e3, htf, hc, h1, r5, pk_us, hpr, ll_le, ll_lt, ll_eq, lr_le, lr_lt, lr_eq, ll_add, lr_add, ll_mul, lr_mul, nI_add, pk_mul, nI_leI, nI_ltI, nI_eq, ll_sub, pk_sub, lm_add, rd_n, rd_l, wr_n, wr_l, lm_ne, lm_ne', lm_lt, lm_le, m1_lt, m1_le, m1_le0, m1_lt0, m1_0, m1_0', l1_0, gd_0, gd_1, gd_T, or_true, true_or, false_or, or_false, nle_T, nle_F, nlt_T, nlt_F, neq_T, neq_F, ↓reduceIte, ne_eq, not_true_eq_false, not_false_eq_true, bd1_s, bd2_s, bd3_s, bd4_s, bd5_s, bd6_s, bd7_s, bd8_s, bd9_s, bd10_s, bd11_s, bd12_s, bd13_s, bd14_s, bd15_s, bd16_s, bd17_s, bd18_s, bd19_s, bd20_s, bd21_s, bd22_s, bd23_s, bd24_s, bd25_s]
                exact hq _ _ _ _
        · have hsm : smI cp o low lp tl tr t (p + 1) = smI cp o low lp tl tr t p := if_neg hc
          have hq := hk (nI t, smI cp o low lp tl tr t p, bq, nI (p + 1), rm, rc, nA, upd nC t (oI o), route, tried) ⟨bq, rm, rc, route, tried, by rw [hsm], by
            rcases hb with ⟨w1, w2⟩ | ⟨b, w1, w2, w3, w4⟩
            · exact .inl ⟨w1, fun q hq => by
                by_cases e : q = p
                · subst e; exact hc
                · exact w2 q (by omega)⟩
            · exact .inr ⟨b, w1, by omega, w3, fun q h1 h2 => by
                by_cases e : q = p
                · subst e; exact hc
                · exact w4 q h1 (by omega)⟩⟩
          simp (disch := omega) only [f_X10_layAmount_h94, f_X10_layAmount_b191, e3, htf, hc, ll_le, ll_lt, ll_eq, lr_le, lr_lt, lr_eq, ll_add, lr_add, ll_mul, lr_mul, nI_add, pk_mul, nI_leI, nI_ltI, nI_eq, ll_sub, pk_sub, lm_add, rd_n, rd_l, wr_n, wr_l, lm_ne, lm_ne', lm_lt, lm_le, m1_lt, m1_le, m1_le0, m1_lt0, m1_0, m1_0', l1_0, gd_0, gd_1, gd_T, or_true, true_or, false_or, or_false, nle_T, nle_F, nlt_T, nlt_F, neq_T, neq_F, ↓reduceIte, ne_eq, not_true_eq_false, not_false_eq_true, bd1_s, bd2_s, bd3_s, bd4_s, bd5_s, bd6_s, bd7_s, bd8_s, bd9_s, bd10_s, bd11_s, bd12_s, bd13_s, bd14_s, bd15_s, bd16_s, bd17_s, bd18_s, bd19_s, bd20_s, bd21_s, bd22_s, bd23_s, bd24_s, bd25_s]
          exact hq
      · rintro z k ⟨bq, rm, rc, route, tried, rfl, hb⟩
        refine ⟨_, ?_, rm, rc, route, tried, rfl⟩
        simp (disch := omega) only [f_X10_layAmount_h94, e3, ll_le, ll_lt, ll_eq, lr_le, lr_lt, lr_eq, ll_add, lr_add, ll_mul, lr_mul, nI_add, pk_mul, nI_leI, nI_ltI, nI_eq, ll_sub, pk_sub, lm_add, rd_n, rd_l, wr_n, wr_l, lm_ne, lm_ne', lm_lt, lm_le, m1_lt, m1_le, m1_le0, m1_lt0, m1_0, m1_0', l1_0, gd_0, gd_1, gd_T, or_true, true_or, false_or, or_false, nle_T, nle_F, nlt_T, nlt_F, neq_T, neq_F, ↓reduceIte, ne_eq, not_true_eq_false, not_false_eq_true, bd1_s, bd2_s, bd3_s, bd4_s, bd5_s, bd6_s, bd7_s, bd8_s, bd9_s, bd10_s, bd11_s, bd12_s, bd13_s, bd14_s, bd15_s, bd16_s, bd17_s, bd18_s, bd19_s, bd20_s, bd21_s, bd22_s, bd23_s, bd24_s, bd25_s]
    by_cases h1 : tA t = -1
    · have hax : axT T ta tp ip tA tI t = (match tw T tp (nI x) with | some k => ta k | none => 2) := by
        unfold axT; rw [if_pos h1, a2, nI_clamp (by omega), x3]
      rw [hax] at key
      rcases phi_cases q4 x1 x2 with ⟨k', k1, k2, k3, k4⟩ | ⟨k3, k4⟩
      · rw [k4] at key
        have hnv : nv a = nI k' := by rw [x4, x3, k3]
        have hit : f_X10_isTag F (nI k') = some 1 := by rw [isTag_v (by omega), if_pos (by omega)]
        simp (disch := omega) only [f_X10_layAmount_h4, f_X10_layAmount_b73, e3, g1, a2, hnv, h1, hit, ll_le, ll_lt, ll_eq, lr_le, lr_lt, lr_eq, ll_add, lr_add, ll_mul, lr_mul, nI_add, pk_mul, nI_leI, nI_ltI, nI_eq, ll_sub, pk_sub, lm_add, rd_n, rd_l, wr_n, wr_l, lm_ne, lm_ne', lm_lt, lm_le, m1_lt, m1_le, m1_le0, m1_lt0, m1_0, m1_0', l1_0, gd_0, gd_1, gd_T, or_true, true_or, false_or, or_false, nle_T, nle_F, nlt_T, nlt_F, neq_T, neq_F, ↓reduceIte, ne_eq, not_true_eq_false, not_false_eq_true, bd1_s, bd2_s, bd3_s, bd4_s, bd5_s, bd6_s, bd7_s, bd8_s, bd9_s, bd10_s, bd11_s, bd12_s, bd13_s, bd14_s, bd15_s, bd16_s, bd17_s, bd18_s, bd19_s, bd20_s, bd21_s, bd22_s, bd23_s, bd24_s, bd25_s]
        simp only [hax, k4] 
        exact key
      · rw [k4] at key
        have hnv : nv a = nI (100 + x) := by rw [x4, x3, k3]
        have hit : f_X10_isTag F (nI (100 + x)) = some 0 := by rw [isTag_v (by omega), if_neg (by omega)]
        simp (disch := omega) only [f_X10_layAmount_h4, f_X10_layAmount_b73, e3, g1, a2, hnv, h1, hit, ll_le, ll_lt, ll_eq, lr_le, lr_lt, lr_eq, ll_add, lr_add, ll_mul, lr_mul, nI_add, pk_mul, nI_leI, nI_ltI, nI_eq, ll_sub, pk_sub, lm_add, rd_n, rd_l, wr_n, wr_l, lm_ne, lm_ne', lm_lt, lm_le, m1_lt, m1_le, m1_le0, m1_lt0, m1_0, m1_0', l1_0, gd_0, gd_1, gd_T, or_true, true_or, false_or, or_false, nle_T, nle_F, nlt_T, nlt_F, neq_T, neq_F, ↓reduceIte, ne_eq, not_true_eq_false, not_false_eq_true, bd1_s, bd2_s, bd3_s, bd4_s, bd5_s, bd6_s, bd7_s, bd8_s, bd9_s, bd10_s, bd11_s, bd12_s, bd13_s, bd14_s, bd15_s, bd16_s, bd17_s, bd18_s, bd19_s, bd20_s, bd21_s, bd22_s, bd23_s, bd24_s, bd25_s]
        simp only [hax, k4]
        exact key
    · have hax : axT T ta tp ip tA tI t = tA t := if_neg h1
      rw [hax] at key
      have h0 : 0 ≤ tA t := by
        rcases g7 with w | ⟨q, w1, w2, w3⟩
        · exact absurd w h1
        · rcases av_cases (e9 q w1).1 with w4 | ⟨b, b1, b2, w4⟩
          · exact absurd (w3.symm.trans w4) h1
          · rw [← w3, w4]; exact nI_pos' (by omega)
      simp (disch := omega) only [f_X10_layAmount_h4, e3, g1, a2, h0, ll_le, ll_lt, ll_eq, lr_le, lr_lt, lr_eq, ll_add, lr_add, ll_mul, lr_mul, nI_add, pk_mul, nI_leI, nI_ltI, nI_eq, ll_sub, pk_sub, lm_add, rd_n, rd_l, wr_n, wr_l, lm_ne, lm_ne', lm_lt, lm_le, m1_lt, m1_le, m1_le0, m1_lt0, m1_0, m1_0', l1_0, gd_0, gd_1, gd_T, or_true, true_or, false_or, or_false, nle_T, nle_F, nlt_T, nlt_F, neq_T, neq_F, ↓reduceIte, ne_eq, not_true_eq_false, not_false_eq_true, bd1_s, bd2_s, bd3_s, bd4_s, bd5_s, bd6_s, bd7_s, bd8_s, bd9_s, bd10_s, bd11_s, bd12_s, bd13_s, bd14_s, bd15_s, bd16_s, bd17_s, bd18_s, bd19_s, bd20_s, bd21_s, bd22_s, bd23_s, bd24_s, bd25_s]
      simp only [hax]
      exact key
end
