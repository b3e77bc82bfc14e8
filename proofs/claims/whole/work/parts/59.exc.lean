/-! exceptions, counts, votes -/
theorem oI_inj {a b : Option Nat} (ha : ∀ k, a = some k → k < 100) (hb : ∀ k, b = some k → k < 100) : oI a = oI b ↔ a = b := by
  constructor
  · intro h
    cases a with
    | none => cases b with
      | none => rfl
      | some k =>
        have := hb k rfl
        exact absurd h.symm (nI_nm (a := k) (by omega))
    | some k =>
      have h1 := ha k rfl
      cases b with
      | none => exact absurd h (nI_nm (a := k) (by omega))
      | some j =>
        have h2 := hb j rfl
        exact congrArg some ((nI_eq (by omega) (by omega)).mp h)
  · intro h; rw [h]
/-- the network as both sides have it: classes, tags, settings (what passages ask of it) -/
def NQ (C T c5 : Nat) (bs ca ta tp ca' ta' tp' : Nat → Int32) : Prop :=
  C ≤ 4 ∧ bs 2 = nI C ∧ (∀ k, k < C → ca' k = ca k) ∧ TW T tp ∧ bs 3 = nI T ∧ (∀ k, k < T → tp' k = tp k ∧ ta' k = ta k) ∧ bs 5 = nI c5 ∧ 1 ≤ c5 ∧ c5 ≤ 300
def exI (C T : Nat) (cf : Int32) (ca ta tp S : Nat → Int32) (p : Nat) : Int32 :=
  if vhI cf tp S p = -1 then 1 else (if plI cf S p = -1 ∨ plI cf S p = vhI cf tp S p then 0 else 2) + (if avI S p = -1 then 0 else match tw T tp (vhI cf tp S p) with
    | none => 0
    | some k => if cfr ca (avI S p) C = cfr ca (ta k) C then 0 else 4)
section
variable {n G C T p c5 F : Nat} {ax ga hx hp la ps rp st tg ti tr S bs ca ta tp ca' ta' tp' : Nat → Int32}
theorem ex6_v (hp8 : p < 80) (hn : n ≤ 600) (h : PRow n G T p ax ga hx hp la ps rp st tg ti tr S) (q : NQ C T c5 bs ca ta tp ca' ta' tp') (hF : 100 ≤ F) : f_X6_exceptionsOf F (nI p) ax hx hp ps rp tg (nI C) (nI T) (nI c5) ca' ta' tp' = some (exI C T (nI c5) ca ta tp S p) := by
  obtain ⟨q1, q2, q3, q4, q5, q6, q7, q8, q9⟩ := q
  have hT := q4.1
  have hV := vh6_v (F := F) (tp' := tp') hp8 hn h q4 (fun k hk => (q6 k hk).1) (nI c5) hF
  have hP := pl6_v (F := F) hp8 h (nI c5) hF
  have hA := av6_v (F := F) hp8 hn h hF
  have vc := vh_cases hn h.1 q8 q9 q4
  have ac := av_cases h.1
  unfold f_X6_exceptionsOf exI
  rw [hV, bd1_s]
  rcases vc with e | ⟨v, v1, v2, e⟩
  · rw [e, if_pos rfl, if_pos rfl]
  · have hne : ¬ nI v = -1 := nI_nm (a := v) (by omega)
    rw [e, if_neg hne, if_neg hne, hP, bd1_s]
    have key : ∀ x : Int32, f_X6_exceptionsOf_b40 F ax hx hp ps rp tg (nI C) (nI T) (nI c5) ca' ta' tp' (nI p) (nI v) x = some (x + (if avI S p = -1 then 0 else match tw T tp (nI v) with
      | none => 0
      | some k => if cfr ca (avI S p) C = cfr ca (ta k) C then 0 else 4)) := by
      intro x
      unfold f_X6_exceptionsOf_b40 f_X6_exceptionsOf_b83
      rw [hA, bd1_s]
      rcases ac with e2 | ⟨a, a1, a2, e2⟩
      · rw [e2, if_pos rfl, if_pos rfl, Int32.add_zero]
      · have hne2 : ¬ nI a = -1 := nI_nm (a := a) (by omega)
        rw [e2, if_neg hne2, if_neg hne2, twp_v (nI v) tp' hT hF, bd1_s, tw_congr (nI v) (fun k hk => (q6 k hk).1)]
        cases e3 : tw T tp (nI v) with
        | none => rw [if_pos (show oI none = -1 from rfl), Int32.add_zero]
        | some k =>
          have k1 := (tw_some e3).1
          have hne3 : ¬ oI (some k) = -1 := nI_nm (a := k) (by omega)
          rw [if_neg hne3, cf4_v (nI a) ca' q1 hF, bd1_s, aov_v (nI v) ta' tp' hT hF, tw_congr (nI v) (fun k hk => (q6 k hk).1), e3, bd1_s]
          dsimp only
          rw [(q6 k k1).2, cf4_v (ta k) ca' q1 hF, bd1_s, cfr_congr q3, cfr_congr (x := ta k) q3]
          by_cases e4 : cfr ca (nI a) C = cfr ca (ta k) C
          · rw [if_pos (by rw [e4]), if_pos e4, Int32.add_zero]
          · rw [if_neg (fun w => e4 ((oI_inj (fun j hj => by have := cfr_lt hj; omega) (fun j hj => by have := cfr_lt hj; omega)).mp w)), if_neg e4]
    by_cases c1 : plI (nI c5) S p = -1
    · rw [if_pos c1, if_pos (.inl c1)]; exact key 0
    · by_cases c2 : plI (nI c5) S p = nI v
      · rw [if_neg c1, if_pos c2, if_pos (.inr c2)]; exact key 0
      · rw [if_neg c1, if_neg c2, if_neg (by simp only [not_or]; exact ⟨c1, c2⟩)]; exact key 2
theorem ex10_v (hp8 : p < 80) (hn : n ≤ 600) (h : PWF n G T (fun k => S (4 + 25 * p + k))) (q : NQ C T c5 bs ca ta tp ca' ta' tp') (hF : 100 ≤ F) : f_X10_exceptionsOf F (nI p) bs ca S ta tp = some (exI C T (nI c5) ca ta tp S p) := by
  obtain ⟨q1, q2, q3, q4, q5, q6, q7, q8, q9⟩ := q
  have hT := q4.1
  have hV := vh10_v (F := F) hp8 hn h q7 q8 q9 q4 q5 hF
  have hP := pl10_v (F := F) hp8 hn h q7 q8 q9 hF
  have hA := av10_v (F := F) hp8 hn h hF
  have vc := vh_cases hn h q8 q9 q4
  have ac := av_cases h
  have pc := pl_cases hn h q8 q9
  have tc := tg_cases h hT
  unfold f_X10_exceptionsOf exI
  rw [hV, bd1_s, hP, bd1_s, hA, bd1_s]
  have key59 : ∀ (v : Nat), 1 ≤ v → v ≤ 9999 → ∀ x : Int32, f_X10_exceptionsOf_b59 F bs ca S ta tp (phi T tp (nI v)) (avI S p) x = some (x + (if avI S p = -1 then 0 else match tw T tp (nI v) with
      | none => 0
      | some k => if cfr ca (avI S p) C = cfr ca (ta k) C then 0 else 4)) := by
    intro v v1 v2 x
    unfold f_X10_exceptionsOf_b59 f_X10_exceptionsOf_b93
    rcases phi_cases q4 v1 v2 with ⟨k, k1, k2, k3, k4⟩ | ⟨k3, k4⟩
    · rw [k3, isTag_v (by omega), if_pos (by omega), bd1_s, if_neg (by decide), k4]
      rcases ac with e2 | ⟨a, a1, a2, e2⟩
      · rw [e2, if_pos (by decide), if_pos rfl, Int32.add_zero]
      · have hne2 : ¬ nI a = -1 := nI_nm (a := a) (by omega)
        rw [e2, if_neg (nI_nl0 (a := a) (by omega) (by omega)), if_neg hne2, cf_v (nI a) bs ca q2 q1 hF, bd1_s, rd_n (by omega) (by decide), cf_v (ta k) bs ca q2 q1 hF, bd1_s]
        dsimp only
        by_cases e4 : cfr ca (nI a) C = cfr ca (ta k) C
        · rw [if_pos (by rw [e4]), if_pos e4, Int32.add_zero]
        · rw [if_neg (fun w => e4 ((oI_inj (fun j hj => by have := cfr_lt hj; omega) (fun j hj => by have := cfr_lt hj; omega)).mp w)), if_neg e4]
    · rw [k3, isTag_v (by omega), if_neg (by omega), bd1_s, if_pos rfl, k4]
      split <;> rw [Int32.add_zero]
  rcases tc with e | ⟨t, t1, e⟩
  · have ev : vhI (nI c5) tp S p = plI (nI c5) S p := by unfold vhI; rw [if_pos e]
    rw [ev]
    rcases pc with e2 | ⟨v, v1, v2, e2⟩
    · rw [e2, phi_n1, if_neg (by decide), if_pos rfl]
      unfold f_X10_exceptionsOf_b28 f_X10_exceptionsOf_b59 f_X10_exceptionsOf_b93
      rw [to_v hp8, bd1_s, e, if_pos (by decide), isTag_n, bd1_s, if_pos rfl]
    · have hne : ¬ nI v = -1 := nI_nm (a := v) (by omega)
      have h0 : 0 ≤ phi T tp (nI v) := by
        rcases phi_cases q4 v1 v2 with ⟨k, k1, k2, k3, k4⟩ | ⟨k3, k4⟩ <;> rw [k3] <;> exact nI_pos' (by omega)
      rw [e2, if_pos h0, if_neg hne, if_pos (.inr rfl)]
      unfold f_X10_exceptionsOf_b28
      rw [to_v hp8, bd1_s, e, if_pos (by decide)]
      exact key59 v v1 v2 0
  · have hne : ¬ nI t = -1 := nI_nm (a := t) (by omega)
    have ev : vhI (nI c5) tp S p = tp t := by unfold vhI; rw [if_neg (by rw [e]; exact hne), e, nI_clamp (by omega)]
    obtain ⟨v, v1, v2, v3⟩ := q4.2.1 t t1
    have hne2 : ¬ nI v = -1 := nI_nm (a := v) (by omega)
    have h0 : 0 ≤ phi T tp (nI v) := by
      rcases phi_cases q4 v1 v2 with ⟨k, k1, k2, k3, k4⟩ | ⟨k3, k4⟩ <;> rw [k3] <;> exact nI_pos' (by omega)
    rw [ev, v3, if_pos h0, if_neg hne2]
    unfold f_X10_exceptionsOf_b28
    rw [to_v hp8, bd1_s, e, if_neg (nI_pos (by omega))]
    rcases pc with e2 | ⟨w, w1, w2, e2⟩
    · rw [e2, if_pos (by decide), if_pos (.inl rfl)]
      exact key59 v v1 v2 0
    · have hne3 : ¬ nI w = -1 := nI_nm (a := w) (by omega)
      rw [e2, if_neg (nI_nl0 (a := w) (by omega) (by omega)), bd1_s, rd_n (by omega) (by decide), v3]
      by_cases c2 : nI w = nI v
      · rw [if_pos c2, if_pos (.inr c2)]; exact key59 v v1 v2 0
      · rw [if_neg c2, if_neg (by simp only [not_or]; exact ⟨hne3, c2⟩)]; exact key59 v v1 v2 2
/-- how many of the first n rows -/
def cnt1 (Q : Nat → Prop) (d : ∀ k, Decidable (Q k)) : Nat → Nat
  | 0 => 0
  | n + 1 => cnt1 Q d n + (if Q n then 1 else 0)
theorem cnt1_le {Q : Nat → Prop} {d : ∀ k, Decidable (Q k)} : ∀ n, cnt1 Q d n ≤ n
  | 0 => Nat.le_refl 0
  | n + 1 => by
    have := cnt1_le (Q := Q) (d := d) n
    unfold cnt1
    split <;> omega
theorem oc6_v {c : Nat} (hc : c ≤ 80) (hF : 100 ≤ F) (hst : ∀ p, p < c → st p = S (4 + 25 * p + 3)) : f_X6_openCount F (nI c) st = some (nI (cnt1 (fun p => S (4 + 25 * p + 3) = 0) (fun _ => inferInstance) c)) := by
  unfold f_X6_openCount f_X6_openCount_L4
  refine lp_at (fun i => (nI (cnt1 (fun p => S (4 + 25 * p + 3) = 0) (fun _ => inferInstance) i), nI i)) c (by omega) rfl (fun i hi q => ?_) (fun q => ?_)
  · by_cases h0 : S (4 + 25 * i + 3) = 0
    · simp (disch := omega) only [f_X6_openCount_h4, f_X6_openCount_b24, hst i hi, h0, cnt1, ll_le, ll_lt, ll_eq, lr_le, lr_lt, lr_eq, ll_add, lr_add, ll_mul, lr_mul, nI_add, pk_mul, nI_leI, nI_ltI, nI_eq, ll_sub, pk_sub, lm_add, rd_n, rd_l, wr_n, wr_l, lm_ne, lm_ne', lm_lt, lm_le, m1_lt, m1_le, m1_le0, m1_lt0, m1_0, m1_0', l1_0, gd_0, gd_1, gd_T, or_true, true_or, false_or, or_false, nle_T, nle_F, nlt_T, nlt_F, neq_T, neq_F, ↓reduceIte, ne_eq, not_true_eq_false, not_false_eq_true, bd1_s, bd2_s, bd3_s, bd4_s, bd5_s, bd6_s, bd7_s, bd8_s, bd9_s, bd10_s, bd11_s, bd12_s, bd13_s, bd14_s, bd15_s, bd16_s, bd17_s, bd18_s, bd19_s, bd20_s, bd21_s, bd22_s, bd23_s, bd24_s, bd25_s]
    · simp (disch := omega) only [f_X6_openCount_h4, f_X6_openCount_b24, hst i hi, h0, cnt1, Nat.add_zero, ll_le, ll_lt, ll_eq, lr_le, lr_lt, lr_eq, ll_add, lr_add, ll_mul, lr_mul, nI_add, pk_mul, nI_leI, nI_ltI, nI_eq, ll_sub, pk_sub, lm_add, rd_n, rd_l, wr_n, wr_l, lm_ne, lm_ne', lm_lt, lm_le, m1_lt, m1_le, m1_le0, m1_lt0, m1_0, m1_0', l1_0, gd_0, gd_1, gd_T, or_true, true_or, false_or, or_false, nle_T, nle_F, nlt_T, nlt_F, neq_T, neq_F, ↓reduceIte, ne_eq, not_true_eq_false, not_false_eq_true, bd1_s, bd2_s, bd3_s, bd4_s, bd5_s, bd6_s, bd7_s, bd8_s, bd9_s, bd10_s, bd11_s, bd12_s, bd13_s, bd14_s, bd15_s, bd16_s, bd17_s, bd18_s, bd19_s, bd20_s, bd21_s, bd22_s, bd23_s, bd24_s, bd25_s]
  · simp (disch := omega) only [f_X6_openCount_h4, ll_le, ll_lt, ll_eq, lr_le, lr_lt, lr_eq, ll_add, lr_add, ll_mul, lr_mul, nI_add, pk_mul, nI_leI, nI_ltI, nI_eq, ll_sub, pk_sub, lm_add, rd_n, rd_l, wr_n, wr_l, lm_ne, lm_ne', lm_lt, lm_le, m1_lt, m1_le, m1_le0, m1_lt0, m1_0, m1_0', l1_0, gd_0, gd_1, gd_T, or_true, true_or, false_or, or_false, nle_T, nle_F, nlt_T, nlt_F, neq_T, neq_F, ↓reduceIte, ne_eq, not_true_eq_false, not_false_eq_true, bd1_s, bd2_s, bd3_s, bd4_s, bd5_s, bd6_s, bd7_s, bd8_s, bd9_s, bd10_s, bd11_s, bd12_s, bd13_s, bd14_s, bd15_s, bd16_s, bd17_s, bd18_s, bd19_s, bd20_s, bd21_s, bd22_s, bd23_s, bd24_s, bd25_s]
theorem oc10_v {c : Nat} (hc : c ≤ 80) (hF : 100 ≤ F) (h0 : S 0 = nI c) : f_X10_openMany F S = some (nI (cnt1 (fun p => S (4 + 25 * p + 3) = 0) (fun _ => inferInstance) c)) := by
  unfold f_X10_openMany f_X10_openMany_L4
  refine lp_at (fun i => (nI (cnt1 (fun p => S (4 + 25 * p + 3) = 0) (fun _ => inferInstance) i), nI i)) c (by omega) rfl (fun i hi q => ?_) (fun q => ?_)
  · by_cases h1 : S (4 + 25 * i + 3) = 0
    · simp (disch := omega) only [f_X10_openMany_h4, f_X10_openMany_b29, ofp_l, h0, h1, cnt1, ll_le, ll_lt, ll_eq, lr_le, lr_lt, lr_eq, ll_add, lr_add, ll_mul, lr_mul, nI_add, pk_mul, nI_leI, nI_ltI, nI_eq, ll_sub, pk_sub, lm_add, rd_n, rd_l, wr_n, wr_l, lm_ne, lm_ne', lm_lt, lm_le, m1_lt, m1_le, m1_le0, m1_lt0, m1_0, m1_0', l1_0, gd_0, gd_1, gd_T, or_true, true_or, false_or, or_false, nle_T, nle_F, nlt_T, nlt_F, neq_T, neq_F, ↓reduceIte, ne_eq, not_true_eq_false, not_false_eq_true, bd1_s, bd2_s, bd3_s, bd4_s, bd5_s, bd6_s, bd7_s, bd8_s, bd9_s, bd10_s, bd11_s, bd12_s, bd13_s, bd14_s, bd15_s, bd16_s, bd17_s, bd18_s, bd19_s, bd20_s, bd21_s, bd22_s, bd23_s, bd24_s, bd25_s]
    · simp (disch := omega) only [f_X10_openMany_h4, f_X10_openMany_b29, ofp_l, h0, h1, cnt1, Int32.add_zero, Nat.add_zero, ll_le, ll_lt, ll_eq, lr_le, lr_lt, lr_eq, ll_add, lr_add, ll_mul, lr_mul, nI_add, pk_mul, nI_leI, nI_ltI, nI_eq, ll_sub, pk_sub, lm_add, rd_n, rd_l, wr_n, wr_l, lm_ne, lm_ne', lm_lt, lm_le, m1_lt, m1_le, m1_le0, m1_lt0, m1_0, m1_0', l1_0, gd_0, gd_1, gd_T, or_true, true_or, false_or, or_false, nle_T, nle_F, nlt_T, nlt_F, neq_T, neq_F, ↓reduceIte, ne_eq, not_true_eq_false, not_false_eq_true, bd1_s, bd2_s, bd3_s, bd4_s, bd5_s, bd6_s, bd7_s, bd8_s, bd9_s, bd10_s, bd11_s, bd12_s, bd13_s, bd14_s, bd15_s, bd16_s, bd17_s, bd18_s, bd19_s, bd20_s, bd21_s, bd22_s, bd23_s, bd24_s, bd25_s]
  · simp (disch := omega) only [f_X10_openMany_h4, h0, ll_le, ll_lt, ll_eq, lr_le, lr_lt, lr_eq, ll_add, lr_add, ll_mul, lr_mul, nI_add, pk_mul, nI_leI, nI_ltI, nI_eq, ll_sub, pk_sub, lm_add, rd_n, rd_l, wr_n, wr_l, lm_ne, lm_ne', lm_lt, lm_le, m1_lt, m1_le, m1_le0, m1_lt0, m1_0, m1_0', l1_0, gd_0, gd_1, gd_T, or_true, true_or, false_or, or_false, nle_T, nle_F, nlt_T, nlt_F, neq_T, neq_F, ↓reduceIte, ne_eq, not_true_eq_false, not_false_eq_true, bd1_s, bd2_s, bd3_s, bd4_s, bd5_s, bd6_s, bd7_s, bd8_s, bd9_s, bd10_s, bd11_s, bd12_s, bd13_s, bd14_s, bd15_s, bd16_s, bd17_s, bd18_s, bd19_s, bd20_s, bd21_s, bd22_s, bd23_s, bd24_s, bd25_s]
theorem rc6_v {c : Nat} (hc : c ≤ 80) (hn : n ≤ 600) (hR : ∀ p, p < c → PRow n G T p ax ga hx hp la ps rp st tg ti tr S) (q : NQ C T c5 bs ca ta tp ca' ta' tp') (hF : 100 ≤ F) : f_X6_reviewCount F (nI c) ax hx hp ps rp st tg (nI C) (nI T) (nI c5) ca' ta' tp' = some (nI (cnt1 (fun p => S (4 + 25 * p + 3) = 0 ∧ exI C T (nI c5) ca ta tp S p ≠ 0) (fun _ => inferInstance) c)) := by
  unfold f_X6_reviewCount f_X6_reviewCount_L4
  refine lp_at (fun i => (nI (cnt1 (fun p => S (4 + 25 * p + 3) = 0 ∧ exI C T (nI c5) ca ta tp S p ≠ 0) (fun _ => inferInstance) i), nI i)) c (by omega) rfl (fun i hi k => ?_) (fun k => ?_)
  · have hs := (hR i hi).2.2.2.2.1
    have he := ex6_v (F := F) (by omega) hn (hR i hi) q hF
    by_cases h0 : S (4 + 25 * i + 3) = 0
    · by_cases h1 : exI C T (nI c5) ca ta tp S i = 0
      · simp (disch := omega) only [f_X6_reviewCount_h4, f_X6_reviewCount_b33, hs, h0, he, h1, cnt1, and_false, Nat.add_zero, ll_le, ll_lt, ll_eq, lr_le, lr_lt, lr_eq, ll_add, lr_add, ll_mul, lr_mul, nI_add, pk_mul, nI_leI, nI_ltI, nI_eq, ll_sub, pk_sub, lm_add, rd_n, rd_l, wr_n, wr_l, lm_ne, lm_ne', lm_lt, lm_le, m1_lt, m1_le, m1_le0, m1_lt0, m1_0, m1_0', l1_0, gd_0, gd_1, gd_T, or_true, true_or, false_or, or_false, nle_T, nle_F, nlt_T, nlt_F, neq_T, neq_F, ↓reduceIte, ne_eq, not_true_eq_false, not_false_eq_true, bd1_s, bd2_s, bd3_s, bd4_s, bd5_s, bd6_s, bd7_s, bd8_s, bd9_s, bd10_s, bd11_s, bd12_s, bd13_s, bd14_s, bd15_s, bd16_s, bd17_s, bd18_s, bd19_s, bd20_s, bd21_s, bd22_s, bd23_s, bd24_s, bd25_s]
      · simp (disch := omega) only [f_X6_reviewCount_h4, f_X6_reviewCount_b33, hs, h0, he, h1, cnt1, and_true, ll_le, ll_lt, ll_eq, lr_le, lr_lt, lr_eq, ll_add, lr_add, ll_mul, lr_mul, nI_add, pk_mul, nI_leI, nI_ltI, nI_eq, ll_sub, pk_sub, lm_add, rd_n, rd_l, wr_n, wr_l, lm_ne, lm_ne', lm_lt, lm_le, m1_lt, m1_le, m1_le0, m1_lt0, m1_0, m1_0', l1_0, gd_0, gd_1, gd_T, or_true, true_or, false_or, or_false, nle_T, nle_F, nlt_T, nlt_F, neq_T, neq_F, ↓reduceIte, ne_eq, not_true_eq_false, not_false_eq_true, bd1_s, bd2_s, bd3_s, bd4_s, bd5_s, bd6_s, bd7_s, bd8_s, bd9_s, bd10_s, bd11_s, bd12_s, bd13_s, bd14_s, bd15_s, bd16_s, bd17_s, bd18_s, bd19_s, bd20_s, bd21_s, bd22_s, bd23_s, bd24_s, bd25_s]
    · simp (disch := omega) only [f_X6_reviewCount_h4, f_X6_reviewCount_b33, hs, h0, cnt1, false_and, Nat.add_zero, ll_le, ll_lt, ll_eq, lr_le, lr_lt, lr_eq, ll_add, lr_add, ll_mul, lr_mul, nI_add, pk_mul, nI_leI, nI_ltI, nI_eq, ll_sub, pk_sub, lm_add, rd_n, rd_l, wr_n, wr_l, lm_ne, lm_ne', lm_lt, lm_le, m1_lt, m1_le, m1_le0, m1_lt0, m1_0, m1_0', l1_0, gd_0, gd_1, gd_T, or_true, true_or, false_or, or_false, nle_T, nle_F, nlt_T, nlt_F, neq_T, neq_F, ↓reduceIte, ne_eq, not_true_eq_false, not_false_eq_true, bd1_s, bd2_s, bd3_s, bd4_s, bd5_s, bd6_s, bd7_s, bd8_s, bd9_s, bd10_s, bd11_s, bd12_s, bd13_s, bd14_s, bd15_s, bd16_s, bd17_s, bd18_s, bd19_s, bd20_s, bd21_s, bd22_s, bd23_s, bd24_s, bd25_s]
  · simp (disch := omega) only [f_X6_reviewCount_h4, ll_le, ll_lt, ll_eq, lr_le, lr_lt, lr_eq, ll_add, lr_add, ll_mul, lr_mul, nI_add, pk_mul, nI_leI, nI_ltI, nI_eq, ll_sub, pk_sub, lm_add, rd_n, rd_l, wr_n, wr_l, lm_ne, lm_ne', lm_lt, lm_le, m1_lt, m1_le, m1_le0, m1_lt0, m1_0, m1_0', l1_0, gd_0, gd_1, gd_T, or_true, true_or, false_or, or_false, nle_T, nle_F, nlt_T, nlt_F, neq_T, neq_F, ↓reduceIte, ne_eq, not_true_eq_false, not_false_eq_true, bd1_s, bd2_s, bd3_s, bd4_s, bd5_s, bd6_s, bd7_s, bd8_s, bd9_s, bd10_s, bd11_s, bd12_s, bd13_s, bd14_s, bd15_s, bd16_s, bd17_s, bd18_s, bd19_s, bd20_s, bd21_s, bd22_s, bd23_s, bd24_s, bd25_s]
theorem rc10_v {c : Nat} {th : Int32} (hc : c ≤ 80) (h0 : S 0 = nI c) (hn : n ≤ 600) (hR : ∀ p, p < c → PWF n G T (fun k => S (4 + 25 * p + k))) (q : NQ C T c5 bs ca ta tp ca' ta' tp') (hF : 100 ≤ F) : f_X10_passagesToReview F th bs ca S ta tp = some (nI (cnt1 (fun p => S (4 + 25 * p + 3) = 0 ∧ exI C T (nI c5) ca ta tp S p ≠ 0) (fun _ => inferInstance) c), 0) := by
  unfold f_X10_passagesToReview f_X10_passagesToReview_L4
  refine lp_at (fun i => (nI (cnt1 (fun p => S (4 + 25 * p + 3) = 0 ∧ exI C T (nI c5) ca ta tp S p ≠ 0) (fun _ => inferInstance) i), nI i, th)) c (by omega) rfl (fun i hi k => ?_) (fun k => ?_)
  · have he := ex10_v (F := F) (by omega) hn (hR i hi) q hF
    by_cases h2 : S (4 + 25 * i + 3) = 0
    · by_cases h1 : exI C T (nI c5) ca ta tp S i = 0
      · simp (disch := omega) only [f_X10_passagesToReview_h4, f_X10_passagesToReview_b36, f_X10_passagesToReview_b37, ofp_l, h0, h2, he, h1, cnt1, and_false, Int32.add_zero, Nat.add_zero, ll_le, ll_lt, ll_eq, lr_le, lr_lt, lr_eq, ll_add, lr_add, ll_mul, lr_mul, nI_add, pk_mul, nI_leI, nI_ltI, nI_eq, ll_sub, pk_sub, lm_add, rd_n, rd_l, wr_n, wr_l, lm_ne, lm_ne', lm_lt, lm_le, m1_lt, m1_le, m1_le0, m1_lt0, m1_0, m1_0', l1_0, gd_0, gd_1, gd_T, or_true, true_or, false_or, or_false, nle_T, nle_F, nlt_T, nlt_F, neq_T, neq_F, ↓reduceIte, ne_eq, not_true_eq_false, not_false_eq_true, bd1_s, bd2_s, bd3_s, bd4_s, bd5_s, bd6_s, bd7_s, bd8_s, bd9_s, bd10_s, bd11_s, bd12_s, bd13_s, bd14_s, bd15_s, bd16_s, bd17_s, bd18_s, bd19_s, bd20_s, bd21_s, bd22_s, bd23_s, bd24_s, bd25_s]
      · simp (disch := omega) only [f_X10_passagesToReview_h4, f_X10_passagesToReview_b36, f_X10_passagesToReview_b37, ofp_l, h0, h2, he, h1, cnt1, and_true, ll_le, ll_lt, ll_eq, lr_le, lr_lt, lr_eq, ll_add, lr_add, ll_mul, lr_mul, nI_add, pk_mul, nI_leI, nI_ltI, nI_eq, ll_sub, pk_sub, lm_add, rd_n, rd_l, wr_n, wr_l, lm_ne, lm_ne', lm_lt, lm_le, m1_lt, m1_le, m1_le0, m1_lt0, m1_0, m1_0', l1_0, gd_0, gd_1, gd_T, or_true, true_or, false_or, or_false, nle_T, nle_F, nlt_T, nlt_F, neq_T, neq_F, ↓reduceIte, ne_eq, not_true_eq_false, not_false_eq_true, bd1_s, bd2_s, bd3_s, bd4_s, bd5_s, bd6_s, bd7_s, bd8_s, bd9_s, bd10_s, bd11_s, bd12_s, bd13_s, bd14_s, bd15_s, bd16_s, bd17_s, bd18_s, bd19_s, bd20_s, bd21_s, bd22_s, bd23_s, bd24_s, bd25_s]
    · simp (disch := omega) only [f_X10_passagesToReview_h4, f_X10_passagesToReview_b36, f_X10_passagesToReview_b37, ofp_l, h0, h2, cnt1, false_and, Int32.add_zero, Nat.add_zero, ll_le, ll_lt, ll_eq, lr_le, lr_lt, lr_eq, ll_add, lr_add, ll_mul, lr_mul, nI_add, pk_mul, nI_leI, nI_ltI, nI_eq, ll_sub, pk_sub, lm_add, rd_n, rd_l, wr_n, wr_l, lm_ne, lm_ne', lm_lt, lm_le, m1_lt, m1_le, m1_le0, m1_lt0, m1_0, m1_0', l1_0, gd_0, gd_1, gd_T, or_true, true_or, false_or, or_false, nle_T, nle_F, nlt_T, nlt_F, neq_T, neq_F, ↓reduceIte, ne_eq, not_true_eq_false, not_false_eq_true, bd1_s, bd2_s, bd3_s, bd4_s, bd5_s, bd6_s, bd7_s, bd8_s, bd9_s, bd10_s, bd11_s, bd12_s, bd13_s, bd14_s, bd15_s, bd16_s, bd17_s, bd18_s, bd19_s, bd20_s, bd21_s, bd22_s, bd23_s, bd24_s, bd25_s]
  · simp (disch := omega) only [f_X10_passagesToReview_h4, f_X10_told, h0, ll_le, ll_lt, ll_eq, lr_le, lr_lt, lr_eq, ll_add, lr_add, ll_mul, lr_mul, nI_add, pk_mul, nI_leI, nI_ltI, nI_eq, ll_sub, pk_sub, lm_add, rd_n, rd_l, wr_n, wr_l, lm_ne, lm_ne', lm_lt, lm_le, m1_lt, m1_le, m1_le0, m1_lt0, m1_0, m1_0', l1_0, gd_0, gd_1, gd_T, or_true, true_or, false_or, or_false, nle_T, nle_F, nlt_T, nlt_F, neq_T, neq_F, ↓reduceIte, ne_eq, not_true_eq_false, not_false_eq_true, bd1_s, bd2_s, bd3_s, bd4_s, bd5_s, bd6_s, bd7_s, bd8_s, bd9_s, bd10_s, bd11_s, bd12_s, bd13_s, bd14_s, bd15_s, bd16_s, bd17_s, bd18_s, bd19_s, bd20_s, bd21_s, bd22_s, bd23_s, bd24_s, bd25_s]
/-- votes -/
theorem vo_both (hp8 : p < 80) (h : PRow n G T p ax ga hx hp la ps rp st tg ti tr S) (x : Int32) (hF : 100 ≤ F) : ∃ r, f_X6_sumFor F (nI p) x ps rp = some r ∧ f_X10_votes_L21 F S (nI p, x, 0, 0) = some (r, 0) := by
  obtain ⟨⟨-, -, -, -, -, ⟨m, hm, h1, h2, h3⟩, -⟩, -, -, -, -, -, h6, -⟩ := h
  dsimp only at h1 h2 h3
  unfold f_X6_sumFor f_X6_sumFor_L4 f_X10_votes_L21
  by_cases hex : ∃ k, k < m ∧ S (4 + 25 * p + (6 + k)) = x
  · obtain ⟨j, j1, j2, j3⟩ : ∃ j, j < m ∧ S (4 + 25 * p + (6 + j)) = x ∧ ∀ i, i < j → S (4 + 25 * p + (6 + i)) ≠ x := by
      obtain ⟨k, k1, k2⟩ := hex
      induction k using Nat.strongRecOn with
      | ind k ih =>
        by_cases hq : ∃ i, i < k ∧ S (4 + 25 * p + (6 + i)) = x
        · obtain ⟨i, i1, i2⟩ := hq
          exact ih i i1 (by omega) i2
        · exact ⟨k, k1, k2, fun i hi e => hq ⟨i, hi, e⟩⟩
    refine ⟨S (4 + 25 * p + (10 + j)), ?_, ?_⟩
    · refine lp_at (fun i => (nI p, x, nI (4 * p + i))) j (by omega) ?_ (fun i hi k => ?_) (fun k => ?_)
      · have : p * 4 = 4 * p + 0 := by omega
        simp (disch := omega) only [this, ll_le, ll_lt, ll_eq, lr_le, lr_lt, lr_eq, ll_add, lr_add, ll_mul, lr_mul, nI_add, pk_mul, nI_leI, nI_ltI, nI_eq, ll_sub, pk_sub, lm_add, rd_n, rd_l, wr_n, wr_l, lm_ne, lm_ne', lm_lt, lm_le, m1_lt, m1_le, m1_le0, m1_lt0, m1_0, m1_0', l1_0, gd_0, gd_1, gd_T, or_true, true_or, false_or, or_false, nle_T, nle_F, nlt_T, nlt_F, neq_T, neq_F, ↓reduceIte, ne_eq, not_true_eq_false, not_false_eq_true, bd1_s, bd2_s, bd3_s, bd4_s, bd5_s, bd6_s, bd7_s, bd8_s, bd9_s, bd10_s, bd11_s, bd12_s, bd13_s, bd14_s, bd15_s, bd16_s, bd17_s, bd18_s, bd19_s, bd20_s, bd21_s, bd22_s, bd23_s, bd24_s, bd25_s]
      · have e1 := (h6 i (by omega)).1
        have e2 := j3 i hi
        simp (disch := omega) only [f_X6_sumFor_h4, e1, e2, Nat.add_assoc (4 * p) i 1, ll_le, ll_lt, ll_eq, lr_le, lr_lt, lr_eq, ll_add, lr_add, ll_mul, lr_mul, nI_add, pk_mul, nI_leI, nI_ltI, nI_eq, ll_sub, pk_sub, lm_add, rd_n, rd_l, wr_n, wr_l, lm_ne, lm_ne', lm_lt, lm_le, m1_lt, m1_le, m1_le0, m1_lt0, m1_0, m1_0', l1_0, gd_0, gd_1, gd_T, or_true, true_or, false_or, or_false, nle_T, nle_F, nlt_T, nlt_F, neq_T, neq_F, ↓reduceIte, ne_eq, not_true_eq_false, not_false_eq_true, bd1_s, bd2_s, bd3_s, bd4_s, bd5_s, bd6_s, bd7_s, bd8_s, bd9_s, bd10_s, bd11_s, bd12_s, bd13_s, bd14_s, bd15_s, bd16_s, bd17_s, bd18_s, bd19_s, bd20_s, bd21_s, bd22_s, bd23_s, bd24_s, bd25_s]
      · have e1 := h6 j (by omega)
        simp (disch := omega) only [f_X6_sumFor_h4, e1.1, e1.2, j2, ll_le, ll_lt, ll_eq, lr_le, lr_lt, lr_eq, ll_add, lr_add, ll_mul, lr_mul, nI_add, pk_mul, nI_leI, nI_ltI, nI_eq, ll_sub, pk_sub, lm_add, rd_n, rd_l, wr_n, wr_l, lm_ne, lm_ne', lm_lt, lm_le, m1_lt, m1_le, m1_le0, m1_lt0, m1_0, m1_0', l1_0, gd_0, gd_1, gd_T, or_true, true_or, false_or, or_false, nle_T, nle_F, nlt_T, nlt_F, neq_T, neq_F, ↓reduceIte, ne_eq, not_true_eq_false, not_false_eq_true, bd1_s, bd2_s, bd3_s, bd4_s, bd5_s, bd6_s, bd7_s, bd8_s, bd9_s, bd10_s, bd11_s, bd12_s, bd13_s, bd14_s, bd15_s, bd16_s, bd17_s, bd18_s, bd19_s, bd20_s, bd21_s, bd22_s, bd23_s, bd24_s, bd25_s]
    · refine lp_at (fun i => (nI p, x, nI i, 0)) j (by omega) rfl (fun i hi k => ?_) (fun k => ?_)
      · have e2 := j3 i hi
        simp (disch := omega) only [f_X10_votes_h21, ofp_l, ofp_v, h1, e2, ll_le, ll_lt, ll_eq, lr_le, lr_lt, lr_eq, ll_add, lr_add, ll_mul, lr_mul, nI_add, pk_mul, nI_leI, nI_ltI, nI_eq, ll_sub, pk_sub, lm_add, rd_n, rd_l, wr_n, wr_l, lm_ne, lm_ne', lm_lt, lm_le, m1_lt, m1_le, m1_le0, m1_lt0, m1_0, m1_0', l1_0, gd_0, gd_1, gd_T, or_true, true_or, false_or, or_false, nle_T, nle_F, nlt_T, nlt_F, neq_T, neq_F, ↓reduceIte, ne_eq, not_true_eq_false, not_false_eq_true, bd1_s, bd2_s, bd3_s, bd4_s, bd5_s, bd6_s, bd7_s, bd8_s, bd9_s, bd10_s, bd11_s, bd12_s, bd13_s, bd14_s, bd15_s, bd16_s, bd17_s, bd18_s, bd19_s, bd20_s, bd21_s, bd22_s, bd23_s, bd24_s, bd25_s]
      · simp (disch := omega) only [f_X10_votes_h21, ofp_l, ofp_v, h1, j2, ll_le, ll_lt, ll_eq, lr_le, lr_lt, lr_eq, ll_add, lr_add, ll_mul, lr_mul, nI_add, pk_mul, nI_leI, nI_ltI, nI_eq, ll_sub, pk_sub, lm_add, rd_n, rd_l, wr_n, wr_l, lm_ne, lm_ne', lm_lt, lm_le, m1_lt, m1_le, m1_le0, m1_lt0, m1_0, m1_0', l1_0, gd_0, gd_1, gd_T, or_true, true_or, false_or, or_false, nle_T, nle_F, nlt_T, nlt_F, neq_T, neq_F, ↓reduceIte, ne_eq, not_true_eq_false, not_false_eq_true, bd1_s, bd2_s, bd3_s, bd4_s, bd5_s, bd6_s, bd7_s, bd8_s, bd9_s, bd10_s, bd11_s, bd12_s, bd13_s, bd14_s, bd15_s, bd16_s, bd17_s, bd18_s, bd19_s, bd20_s, bd21_s, bd22_s, bd23_s, bd24_s, bd25_s]
  · have hno : ∀ i, i < m → S (4 + 25 * p + (6 + i)) ≠ x := fun i hi e => hex ⟨i, hi, e⟩
    refine ⟨0, ?_, ?_⟩
    · by_cases hx0 : x = 0 ∧ m < 4
      · obtain ⟨rfl, hm4⟩ := hx0
        refine lp_at (fun i => (nI p, 0, nI (4 * p + i))) m (by omega) ?_ (fun i hi k => ?_) (fun k => ?_)
        · have : p * 4 = 4 * p + 0 := by omega
          simp (disch := omega) only [this, ll_le, ll_lt, ll_eq, lr_le, lr_lt, lr_eq, ll_add, lr_add, ll_mul, lr_mul, nI_add, pk_mul, nI_leI, nI_ltI, nI_eq, ll_sub, pk_sub, lm_add, rd_n, rd_l, wr_n, wr_l, lm_ne, lm_ne', lm_lt, lm_le, m1_lt, m1_le, m1_le0, m1_lt0, m1_0, m1_0', l1_0, gd_0, gd_1, gd_T, or_true, true_or, false_or, or_false, nle_T, nle_F, nlt_T, nlt_F, neq_T, neq_F, ↓reduceIte, ne_eq, not_true_eq_false, not_false_eq_true, bd1_s, bd2_s, bd3_s, bd4_s, bd5_s, bd6_s, bd7_s, bd8_s, bd9_s, bd10_s, bd11_s, bd12_s, bd13_s, bd14_s, bd15_s, bd16_s, bd17_s, bd18_s, bd19_s, bd20_s, bd21_s, bd22_s, bd23_s, bd24_s, bd25_s]
        · have e1 := (h6 i (by omega)).1
          have e2 := hno i hi
          simp (disch := omega) only [f_X6_sumFor_h4, e1, e2, Nat.add_assoc (4 * p) i 1, ll_le, ll_lt, ll_eq, lr_le, lr_lt, lr_eq, ll_add, lr_add, ll_mul, lr_mul, nI_add, pk_mul, nI_leI, nI_ltI, nI_eq, ll_sub, pk_sub, lm_add, rd_n, rd_l, wr_n, wr_l, lm_ne, lm_ne', lm_lt, lm_le, m1_lt, m1_le, m1_le0, m1_lt0, m1_0, m1_0', l1_0, gd_0, gd_1, gd_T, or_true, true_or, false_or, or_false, nle_T, nle_F, nlt_T, nlt_F, neq_T, neq_F, ↓reduceIte, ne_eq, not_true_eq_false, not_false_eq_true, bd1_s, bd2_s, bd3_s, bd4_s, bd5_s, bd6_s, bd7_s, bd8_s, bd9_s, bd10_s, bd11_s, bd12_s, bd13_s, bd14_s, bd15_s, bd16_s, bd17_s, bd18_s, bd19_s, bd20_s, bd21_s, bd22_s, bd23_s, bd24_s, bd25_s]
        · have e1 := h6 m (by omega)
          have e3 := h3 m (by omega) hm4
          simp (disch := omega) only [f_X6_sumFor_h4, e1.1, e1.2, e3.1, e3.2, ll_le, ll_lt, ll_eq, lr_le, lr_lt, lr_eq, ll_add, lr_add, ll_mul, lr_mul, nI_add, pk_mul, nI_leI, nI_ltI, nI_eq, ll_sub, pk_sub, lm_add, rd_n, rd_l, wr_n, wr_l, lm_ne, lm_ne', lm_lt, lm_le, m1_lt, m1_le, m1_le0, m1_lt0, m1_0, m1_0', l1_0, gd_0, gd_1, gd_T, or_true, true_or, false_or, or_false, nle_T, nle_F, nlt_T, nlt_F, neq_T, neq_F, ↓reduceIte, ne_eq, not_true_eq_false, not_false_eq_true, bd1_s, bd2_s, bd3_s, bd4_s, bd5_s, bd6_s, bd7_s, bd8_s, bd9_s, bd10_s, bd11_s, bd12_s, bd13_s, bd14_s, bd15_s, bd16_s, bd17_s, bd18_s, bd19_s, bd20_s, bd21_s, bd22_s, bd23_s, bd24_s, bd25_s]
      · refine lp_at (fun i => (nI p, x, nI (4 * p + i))) 4 (by omega) ?_ (fun i hi k => ?_) (fun k => ?_)
        · have : p * 4 = 4 * p + 0 := by omega
          simp (disch := omega) only [this, ll_le, ll_lt, ll_eq, lr_le, lr_lt, lr_eq, ll_add, lr_add, ll_mul, lr_mul, nI_add, pk_mul, nI_leI, nI_ltI, nI_eq, ll_sub, pk_sub, lm_add, rd_n, rd_l, wr_n, wr_l, lm_ne, lm_ne', lm_lt, lm_le, m1_lt, m1_le, m1_le0, m1_lt0, m1_0, m1_0', l1_0, gd_0, gd_1, gd_T, or_true, true_or, false_or, or_false, nle_T, nle_F, nlt_T, nlt_F, neq_T, neq_F, ↓reduceIte, ne_eq, not_true_eq_false, not_false_eq_true, bd1_s, bd2_s, bd3_s, bd4_s, bd5_s, bd6_s, bd7_s, bd8_s, bd9_s, bd10_s, bd11_s, bd12_s, bd13_s, bd14_s, bd15_s, bd16_s, bd17_s, bd18_s, bd19_s, bd20_s, bd21_s, bd22_s, bd23_s, bd24_s, bd25_s]
        · have e1 := (h6 i (by omega)).1
          have e2 : S (4 + 25 * p + (6 + i)) ≠ x := by
            by_cases him : i < m
            · exact hno i him
            · rw [(h3 i (by omega) hi).1]
              intro e
              exact hx0 ⟨e.symm, by omega⟩
          simp (disch := omega) only [f_X6_sumFor_h4, e1, e2, Nat.add_assoc (4 * p) i 1, ll_le, ll_lt, ll_eq, lr_le, lr_lt, lr_eq, ll_add, lr_add, ll_mul, lr_mul, nI_add, pk_mul, nI_leI, nI_ltI, nI_eq, ll_sub, pk_sub, lm_add, rd_n, rd_l, wr_n, wr_l, lm_ne, lm_ne', lm_lt, lm_le, m1_lt, m1_le, m1_le0, m1_lt0, m1_0, m1_0', l1_0, gd_0, gd_1, gd_T, or_true, true_or, false_or, or_false, nle_T, nle_F, nlt_T, nlt_F, neq_T, neq_F, ↓reduceIte, ne_eq, not_true_eq_false, not_false_eq_true, bd1_s, bd2_s, bd3_s, bd4_s, bd5_s, bd6_s, bd7_s, bd8_s, bd9_s, bd10_s, bd11_s, bd12_s, bd13_s, bd14_s, bd15_s, bd16_s, bd17_s, bd18_s, bd19_s, bd20_s, bd21_s, bd22_s, bd23_s, bd24_s, bd25_s]
        · simp (disch := omega) only [f_X6_sumFor_h4, ll_le, ll_lt, ll_eq, lr_le, lr_lt, lr_eq, ll_add, lr_add, ll_mul, lr_mul, nI_add, pk_mul, nI_leI, nI_ltI, nI_eq, ll_sub, pk_sub, lm_add, rd_n, rd_l, wr_n, wr_l, lm_ne, lm_ne', lm_lt, lm_le, m1_lt, m1_le, m1_le0, m1_lt0, m1_0, m1_0', l1_0, gd_0, gd_1, gd_T, or_true, true_or, false_or, or_false, nle_T, nle_F, nlt_T, nlt_F, neq_T, neq_F, ↓reduceIte, ne_eq, not_true_eq_false, not_false_eq_true, bd1_s, bd2_s, bd3_s, bd4_s, bd5_s, bd6_s, bd7_s, bd8_s, bd9_s, bd10_s, bd11_s, bd12_s, bd13_s, bd14_s, bd15_s, bd16_s, bd17_s, bd18_s, bd19_s, bd20_s, bd21_s, bd22_s, bd23_s, bd24_s, bd25_s]
    · refine lp_at (fun i => (nI p, x, nI i, 0)) m (by omega) rfl (fun i hi k => ?_) (fun k => ?_)
      · have e2 := hno i hi
        simp (disch := omega) only [f_X10_votes_h21, ofp_l, ofp_v, h1, e2, ll_le, ll_lt, ll_eq, lr_le, lr_lt, lr_eq, ll_add, lr_add, ll_mul, lr_mul, nI_add, pk_mul, nI_leI, nI_ltI, nI_eq, ll_sub, pk_sub, lm_add, rd_n, rd_l, wr_n, wr_l, lm_ne, lm_ne', lm_lt, lm_le, m1_lt, m1_le, m1_le0, m1_lt0, m1_0, m1_0', l1_0, gd_0, gd_1, gd_T, or_true, true_or, false_or, or_false, nle_T, nle_F, nlt_T, nlt_F, neq_T, neq_F, ↓reduceIte, ne_eq, not_true_eq_false, not_false_eq_true, bd1_s, bd2_s, bd3_s, bd4_s, bd5_s, bd6_s, bd7_s, bd8_s, bd9_s, bd10_s, bd11_s, bd12_s, bd13_s, bd14_s, bd15_s, bd16_s, bd17_s, bd18_s, bd19_s, bd20_s, bd21_s, bd22_s, bd23_s, bd24_s, bd25_s]
      · simp (disch := omega) only [f_X10_votes_h21, ofp_l, ofp_v, h1, ll_le, ll_lt, ll_eq, lr_le, lr_lt, lr_eq, ll_add, lr_add, ll_mul, lr_mul, nI_add, pk_mul, nI_leI, nI_ltI, nI_eq, ll_sub, pk_sub, lm_add, rd_n, rd_l, wr_n, wr_l, lm_ne, lm_ne', lm_lt, lm_le, m1_lt, m1_le, m1_le0, m1_lt0, m1_0, m1_0', l1_0, gd_0, gd_1, gd_T, or_true, true_or, false_or, or_false, nle_T, nle_F, nlt_T, nlt_F, neq_T, neq_F, ↓reduceIte, ne_eq, not_true_eq_false, not_false_eq_true, bd1_s, bd2_s, bd3_s, bd4_s, bd5_s, bd6_s, bd7_s, bd8_s, bd9_s, bd10_s, bd11_s, bd12_s, bd13_s, bd14_s, bd15_s, bd16_s, bd17_s, bd18_s, bd19_s, bd20_s, bd21_s, bd22_s, bd23_s, bd24_s, bd25_s]
end
