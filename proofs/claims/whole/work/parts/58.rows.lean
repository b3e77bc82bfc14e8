/-! a passage's row: both sides see the same -/
theorem nI_nz {a : Nat} (h : a ≠ 0) (h2 : a < 2 ^ 31) : ¬ nI a = (0 : Int32) := fun q => h ((nI_eq (b := 0) h2 (by omega)).mp q)
theorem nI_nm {a : Nat} (h2 : a < 2 ^ 31) : ¬ nI a = (-1 : Int32) := fun q => (lm_ne h2).mp q
theorem nI_nl0 {a : Nat} (h : a ≠ 0) (h2 : a < 2 ^ 31) : ¬ nI a ≤ (0 : Int32) := fun q => h (by have := (nI_leI (b := 0) h2 (by omega)).mp q; omega)
theorem nI_0lt {a : Nat} (h : a ≠ 0) (h2 : a < 2 ^ 31) : (0 : Int32) < nI a := (nI_ltI (a := 0) (by omega) h2).mpr (by omega)
def PRow (n G T p : Nat) (ax ga hx hp la ps rp st tg ti tr S : Nat → Int32) : Prop :=
  PWF n G T (fun k => S (4 + 25 * p + k)) ∧ ga p = S (4 + 25 * p + 0) ∧ la p = S (4 + 25 * p + 1) ∧ ti p = S (4 + 25 * p + 2) ∧ st p = S (4 + 25 * p + 3) ∧ tg p = S (4 + 25 * p + 4) - 1 ∧
  (∀ k, k < 4 → rp (4 * p + k) = S (4 + 25 * p + (6 + k)) ∧ ps (4 * p + k) = S (4 + 25 * p + (10 + k))) ∧ (∀ k, k < 8 → ax (8 * p + k) = S (4 + 25 * p + (14 + k))) ∧
  hp p = hnd (S (4 + 25 * p + 22)) ∧ hx p = hnd (S (4 + 25 * p + 23)) ∧ tr p = S (4 + 25 * p + 24) - 1
theorem bst_congr {s s' : Nat → Int32} : ∀ {n : Nat}, (∀ k, k ≤ n → s k = s' k) → bst s n = bst s' n
  | 0, _ => rfl
  | n + 1, h => by
    have e := bst_congr (n := n) (fun k hk => h k (by omega))
    have hb := bst_le (s := s') n
    show (if s (n + 1) ≤ s (bst s n) then bst s n else n + 1) = (if s' (n + 1) ≤ s' (bst s' n) then bst s' n else n + 1)
    rw [e, h (n + 1) (by omega), h (bst s' n) (by omega)]
theorem plS_congr {ha cf : Int32} {pl sm pl' sm' : Nat → Int32} (h : ∀ k, k < 4 → pl k = pl' k ∧ sm k = sm' k) : plS ha cf pl sm = plS ha cf pl' sm' := by
  have e : bst sm 3 = bst sm' 3 := bst_congr (fun k hk => (h k (by omega)).2)
  have hb := bst_le (s := sm') 3
  unfold plS
  rw [e, (h (bst sm' 3) (by omega)).1, (h (bst sm' 3) (by omega)).2]
theorem bst_z {s : Nat → Int32} {m : Nat} (hm : 1 ≤ m) (hz : ∀ k, m ≤ k → k < 4 → s k = 0) (hp : ∀ k, k < 4 → 0 ≤ s k) : ∀ n, m ≤ n + 1 → n < 4 → bst s n = bst s (m - 1)
  | 0, h, _ => by have : m = 1 := by omega
                  subst this; rfl
  | n + 1, h, h4 => by
    by_cases e : m = n + 2
    · subst e; rfl
    · have ih := bst_z hm hz hp n (by omega) (by omega)
      have hb := bst_le (s := s) n
      show (if s (n + 1) ≤ s (bst s n) then bst s n else n + 1) = _
      rw [if_pos, ih]
      rw [hz (n + 1) (by omega) (by omega)]
      exact hp _ (by omega)
theorem bst_in {s : Nat → Int32} {m : Nat} (hm : 1 ≤ m) (hz : ∀ k, m ≤ k → k < 4 → s k = 0) (hp : ∀ k, k < 4 → 0 ≤ s k) (h4 : m ≤ 4) : bst s 3 < m := by
  rw [bst_z hm hz hp 3 (by omega) (by omega)]
  have := bst_le (s := s) (m - 1)
  omega
/-- the plate of a passage -/
def plI (cf : Int32) (S : Nat → Int32) (p : Nat) : Int32 := plS (hnd (S (4 + 25 * p + 22))) cf (fun k => S (4 + 25 * p + (6 + k))) (fun k => S (4 + 25 * p + (10 + k)))
section
variable {n G T p c5 F : Nat} {ax ga hx hp la ps rp st tg ti tr S bs : Nat → Int32}
theorem sums_pos {r : Nat → Int32} (hn : n ≤ 600) (h : PWF n G T r) : ∀ k, k < 4 → ∃ a, a ≤ 60000 ∧ r (10 + k) = nI a := by
  intro k hk
  obtain ⟨-, -, -, -, -, ⟨m, hm, h1, h2, h3⟩, -⟩ := h
  by_cases hkm : k < m
  · obtain ⟨a, s, -, -, -, -, h4, h5⟩ := h2 k hkm
    exact ⟨s, by omega, h5⟩
  · exact ⟨0, by omega, (h3 k (by omega) hk).2⟩
theorem pl6_v (hp8 : p < 80) (h : PRow n G T p ax ga hx hp la ps rp st tg ti tr S) (cf : Int32) (hF : 100 ≤ F) : f_X6_plateOf F (nI p) hp ps rp cf = some (plI cf S p) := by
  obtain ⟨-, -, -, -, -, -, h6, -, h7, -⟩ := h
  rw [plate6_v hp8 hp ps rp cf hF, h7]
  exact congrArg some (plS_congr (fun k hk => h6 k hk))
theorem pl_cases (hn : n ≤ 600) (h : PWF n G T (fun k => S (4 + 25 * p + k))) (hc : 1 ≤ c5) (hc2 : c5 ≤ 300) : plI (nI c5) S p = -1 ∨ ∃ a, 1 ≤ a ∧ a ≤ 9999 ∧ plI (nI c5) S p = nI a := by
  have hs := sums_pos hn h
  obtain ⟨-, -, -, -, -, ⟨m, hm, h1, h2, h3⟩, -, ⟨a, ha, h22⟩, -⟩ := h
  unfold plI plS hnd
  dsimp only at h22
  rw [h22]
  by_cases a0 : a = 0
  · subst a0
    rw [if_pos (show nI 0 = 0 from rfl), if_pos rfl]
    have hb := bst_le (s := fun k => S (4 + 25 * p + (10 + k))) 3
    by_cases hx : S (4 + 25 * p + (10 + bst (fun k => S (4 + 25 * p + (10 + k))) 3)) < nI c5
    · rw [if_pos hx]; exact .inl rfl
    · rw [if_neg hx]
      refine .inr ?_
      by_cases hkm : bst (fun k => S (4 + 25 * p + (10 + k))) 3 < m
      · obtain ⟨a, s, g1, g2, g3, -⟩ := h2 _ hkm
        exact ⟨a, g1, g2, g3⟩
      · exfalso
        apply hx
        have := (h3 _ (by omega) (show bst (fun k => S (4 + 25 * p + (10 + k))) 3 < 4 by omega)).2
        dsimp only at this
        rw [this]
        exact nI_0lt (by omega) (by omega)
  · rw [if_neg (nI_nz a0 (by omega)), if_neg (nI_nm (by omega))]
    exact .inr ⟨a, by omega, ha, rfl⟩
theorem pl10_v (hp8 : p < 80) (hn : n ≤ 600) (h : PWF n G T (fun k => S (4 + 25 * p + k))) (hb5 : bs 5 = nI c5) (hc : 1 ≤ c5) (hc2 : c5 ≤ 300) (hF : 100 ≤ F) : f_X10_plateOf F (nI p) bs S = some (plI (nI c5) S p) := by
  have hs := sums_pos hn h
  obtain ⟨-, -, -, -, -, ⟨m, hm, h1, h2, h3⟩, -, ⟨a, ha, h22⟩, -⟩ := h
  dsimp only at h22 h1 h2 h3 hs
  rw [plate_v (n := n) hp8 bs S hm h1 hF, hb5, h22]
  unfold plI plS hnd
  rw [h22]
  by_cases a0 : a = 0
  · subst a0
    rw [if_pos (show nI 0 ≤ 0 by decide), if_pos (show nI 0 = 0 from rfl), if_pos rfl]
    by_cases m0 : m = 0
    · subst m0
      rw [if_pos rfl]
      have hb := bst_le (s := fun k => S (4 + 25 * p + (10 + k))) 3
      have := (h3 _ (Nat.zero_le _) (show bst (fun k => S (4 + 25 * p + (10 + k))) 3 < 4 by omega)).2
      rw [if_pos (show S (4 + 25 * p + (10 + bst (fun k => S (4 + 25 * p + (10 + k))) 3)) < nI c5 by rw [this]; exact nI_0lt (by omega) (by omega))]
    · have e := bst_z (s := fun k => S (4 + 25 * p + (10 + k))) (m := m) (by omega) (fun k g1 g2 => (h3 k g1 g2).2) (fun k hk => by
        obtain ⟨a, g1, g2⟩ := hs k hk
        rw [g2]; exact nI_pos' (by omega)) 3 (by omega) (by omega)
      rw [if_neg m0, e]
  · rw [if_neg (nI_nl0 a0 (by omega)), if_neg (nI_nz a0 (by omega)), if_neg (nI_nm (by omega))]
/-- the axles of a passage -/
def aw (r : Nat → Int32) : Nat → Int32 × Int32
  | 0 => (0, -1)
  | k + 1 => if r k ≤ 0 ∨ r k < (aw r k).1 then aw r k else (r k, nI (2 + k))
theorem aw_congr {r r' : Nat → Int32} : ∀ {k : Nat}, (∀ i, i < k → r i = r' i) → aw r k = aw r' k
  | 0, _ => rfl
  | k + 1, h => by
    show (if r k ≤ 0 ∨ r k < (aw r k).1 then aw r k else (r k, nI (2 + k))) = (if r' k ≤ 0 ∨ r' k < (aw r' k).1 then aw r' k else (r' k, nI (2 + k)))
    rw [aw_congr (k := k) (fun i hi => h i (by omega)), h k (by omega)]
theorem aw_in {r : Nat → Int32} : ∀ {k : Nat}, (aw r k).2 = -1 ∨ ∃ a, 2 ≤ a ∧ a < 2 + k ∧ (aw r k).2 = nI a
  | 0 => .inl rfl
  | k + 1 => by
    unfold aw
    split
    · rcases aw_in (r := r) (k := k) with h | ⟨a, h1, h2, h3⟩
      · exact .inl h
      · exact .inr ⟨a, h1, by omega, h3⟩
    · exact .inr ⟨2 + k, by omega, by omega, rfl⟩
def avI (S : Nat → Int32) (p : Nat) : Int32 := if S (4 + 25 * p + 23) = 0 then (aw (fun k => S (4 + 25 * p + (14 + k))) 8).2 else S (4 + 25 * p + 23)
theorem av_cases (h : PWF n G T (fun k => S (4 + 25 * p + k))) : avI S p = -1 ∨ ∃ a, 2 ≤ a ∧ a ≤ 9 ∧ avI S p = nI a := by
  obtain ⟨-, -, -, -, -, -, -, -, ⟨a, h1, h2, h3⟩, -⟩ := h
  dsimp only at h3
  unfold avI
  split
  · rcases aw_in (r := fun k => S (4 + 25 * p + (14 + k))) (k := 8) with h | ⟨a, h1, h2, h3⟩
    · exact .inl h
    · exact .inr ⟨a, h1, by omega, h3⟩
  · rename_i h0
    rcases h1 with rfl | h1
    · exact absurd h3 h0
    · exact .inr ⟨a, h1, h2, h3⟩
theorem av6_v (hp8 : p < 80) (hn : n ≤ 600) (h : PRow n G T p ax ga hx hp la ps rp st tg ti tr S) (hF : 100 ≤ F) : f_X6_axlesOf F (nI p) ax hx = some (avI S p) := by
  obtain ⟨⟨-, -, -, -, -, -, h14, -, ⟨a, g1, g2, g3⟩, -⟩, -, -, -, -, -, -, hax, -, hhx, -⟩ := h
  dsimp only at g3
  unfold f_X6_axlesOf avI
  rw [rd_n hp8 (by decide), hhx, g3]
  unfold hnd
  by_cases a0 : a = 0
  · subst a0
    rw [if_pos (show nI 0 = 0 from rfl), if_pos rfl, if_pos (show nI 0 = 0 from rfl)]
    have ec : aw (fun k => S (4 + 25 * p + (14 + k))) 8 = aw (fun k => ax (8 * p + k)) 8 := aw_congr (fun k hk => (hax k hk).symm)
    rw [ec]
    unfold f_X6_axlesOf_L24
    refine lp_at (fun i => (nI p, (aw (fun k => ax (8 * p + k)) i).1, (aw (fun k => ax (8 * p + k)) i).2, nI i)) 8 (by omega) rfl (fun i hi q => ?_) (fun q => ?_)
    · have e8 : p * 8 + i = 8 * p + i := by omega
      by_cases c1 : ax (8 * p + i) ≤ 0
      · have : aw (fun k => ax (8 * p + k)) (i + 1) = aw (fun k => ax (8 * p + k)) i := if_pos (.inl c1)
        simp (disch := omega) only [f_X6_axlesOf_h24, f_X6_axlesOf_b64, e8, c1, this, ll_le, ll_lt, ll_eq, lr_le, lr_lt, lr_eq, ll_add, lr_add, ll_mul, lr_mul, nI_add, pk_mul, nI_leI, nI_ltI, nI_eq, ll_sub, pk_sub, lm_add, rd_n, rd_l, wr_n, wr_l, lm_ne, lm_ne', lm_lt, lm_le, m1_lt, m1_le, m1_le0, m1_lt0, m1_0, m1_0', l1_0, gd_0, gd_1, gd_T, or_true, true_or, false_or, or_false, nle_T, nle_F, nlt_T, nlt_F, neq_T, neq_F, ↓reduceIte, ne_eq, not_true_eq_false, not_false_eq_true, bd1_s, bd2_s, bd3_s, bd4_s, bd5_s, bd6_s, bd7_s, bd8_s, bd9_s, bd10_s, bd11_s, bd12_s, bd13_s, bd14_s, bd15_s, bd16_s, bd17_s, bd18_s, bd19_s, bd20_s, bd21_s, bd22_s, bd23_s, bd24_s, bd25_s]
      · by_cases c2 : ax (8 * p + i) < (aw (fun k => ax (8 * p + k)) i).1
        · have : aw (fun k => ax (8 * p + k)) (i + 1) = aw (fun k => ax (8 * p + k)) i := if_pos (.inr c2)
          simp (disch := omega) only [f_X6_axlesOf_h24, f_X6_axlesOf_b64, e8, c1, c2, this, ll_le, ll_lt, ll_eq, lr_le, lr_lt, lr_eq, ll_add, lr_add, ll_mul, lr_mul, nI_add, pk_mul, nI_leI, nI_ltI, nI_eq, ll_sub, pk_sub, lm_add, rd_n, rd_l, wr_n, wr_l, lm_ne, lm_ne', lm_lt, lm_le, m1_lt, m1_le, m1_le0, m1_lt0, m1_0, m1_0', l1_0, gd_0, gd_1, gd_T, or_true, true_or, false_or, or_false, nle_T, nle_F, nlt_T, nlt_F, neq_T, neq_F, ↓reduceIte, ne_eq, not_true_eq_false, not_false_eq_true, bd1_s, bd2_s, bd3_s, bd4_s, bd5_s, bd6_s, bd7_s, bd8_s, bd9_s, bd10_s, bd11_s, bd12_s, bd13_s, bd14_s, bd15_s, bd16_s, bd17_s, bd18_s, bd19_s, bd20_s, bd21_s, bd22_s, bd23_s, bd24_s, bd25_s]
        · have : aw (fun k => ax (8 * p + k)) (i + 1) = (ax (8 * p + i), nI (2 + i)) := if_neg (by simp only [not_or]; exact ⟨c1, c2⟩)
          simp (disch := omega) only [f_X6_axlesOf_h24, f_X6_axlesOf_b64, e8, c1, c2, this, ll_le, ll_lt, ll_eq, lr_le, lr_lt, lr_eq, ll_add, lr_add, ll_mul, lr_mul, nI_add, pk_mul, nI_leI, nI_ltI, nI_eq, ll_sub, pk_sub, lm_add, rd_n, rd_l, wr_n, wr_l, lm_ne, lm_ne', lm_lt, lm_le, m1_lt, m1_le, m1_le0, m1_lt0, m1_0, m1_0', l1_0, gd_0, gd_1, gd_T, or_true, true_or, false_or, or_false, nle_T, nle_F, nlt_T, nlt_F, neq_T, neq_F, ↓reduceIte, ne_eq, not_true_eq_false, not_false_eq_true, bd1_s, bd2_s, bd3_s, bd4_s, bd5_s, bd6_s, bd7_s, bd8_s, bd9_s, bd10_s, bd11_s, bd12_s, bd13_s, bd14_s, bd15_s, bd16_s, bd17_s, bd18_s, bd19_s, bd20_s, bd21_s, bd22_s, bd23_s, bd24_s, bd25_s]
    · simp (disch := omega) only [f_X6_axlesOf_h24, ll_le, ll_lt, ll_eq, lr_le, lr_lt, lr_eq, ll_add, lr_add, ll_mul, lr_mul, nI_add, pk_mul, nI_leI, nI_ltI, nI_eq, ll_sub, pk_sub, lm_add, rd_n, rd_l, wr_n, wr_l, lm_ne, lm_ne', lm_lt, lm_le, m1_lt, m1_le, m1_le0, m1_lt0, m1_0, m1_0', l1_0, gd_0, gd_1, gd_T, or_true, true_or, false_or, or_false, nle_T, nle_F, nlt_T, nlt_F, neq_T, neq_F, ↓reduceIte, ne_eq, not_true_eq_false, not_false_eq_true, bd1_s, bd2_s, bd3_s, bd4_s, bd5_s, bd6_s, bd7_s, bd8_s, bd9_s, bd10_s, bd11_s, bd12_s, bd13_s, bd14_s, bd15_s, bd16_s, bd17_s, bd18_s, bd19_s, bd20_s, bd21_s, bd22_s, bd23_s, bd24_s, bd25_s]
  · rw [if_neg (nI_nz a0 (by omega)), if_neg (nI_nm (by omega))]
    rw [rd_n hp8 (by decide), hhx, g3]
    unfold hnd
    rw [if_neg (nI_nz a0 (by omega)), if_neg (nI_nz a0 (by omega))]
theorem av10_v (hp8 : p < 80) (hn : n ≤ 600) (h : PWF n G T (fun k => S (4 + 25 * p + k))) (hF : 100 ≤ F) : f_X10_axlesOf F (nI p) S = some (avI S p) := by
  obtain ⟨-, -, -, -, -, -, h14, -, ⟨a, g1, g2, g3⟩, -⟩ := h
  dsimp only at g3 h14
  unfold f_X10_axlesOf avI
  rw [ofp_l hp8 (by decide), bd1_s, show 4 + 25 * p + OfNat.ofNat 23 = 4 + 25 * p + 23 from rfl, g3]
  by_cases a0 : a = 0
  · subst a0
    rw [if_pos (show nI 0 ≤ 0 by decide), if_pos (show nI 0 = 0 from rfl)]
    unfold f_X10_axlesOf_L25
    refine lp_at (fun i => (nI p, (aw (fun k => S (4 + 25 * p + (14 + k))) i).2, (aw (fun k => S (4 + 25 * p + (14 + k))) i).1, nI (2 + i))) 8 (by omega) rfl (fun i hi q => ?_) (fun q => ?_)
    · obtain ⟨b, hb1, hb2⟩ := h14 i hi
      have e8 : 14 + (2 + i) - 2 = 14 + i := by omega
      have e9 : 2 + i + 1 = 2 + (i + 1) := by omega
      by_cases c1 : b = 0
      · have c0 : S (4 + 25 * p + (14 + i)) = 0 := by rw [hb2, c1]; rfl
        have : aw (fun k => S (4 + 25 * p + (14 + k))) (i + 1) = aw (fun k => S (4 + 25 * p + (14 + k))) i := if_pos (.inl (by dsimp only; rw [c0]; decide))
        simp (disch := omega) only [f_X10_axlesOf_h25, f_X10_axlesOf_b66, ofp_v, e8, e9, c0, this, ll_le, ll_lt, ll_eq, lr_le, lr_lt, lr_eq, ll_add, lr_add, ll_mul, lr_mul, nI_add, pk_mul, nI_leI, nI_ltI, nI_eq, ll_sub, pk_sub, lm_add, rd_n, rd_l, wr_n, wr_l, lm_ne, lm_ne', lm_lt, lm_le, m1_lt, m1_le, m1_le0, m1_lt0, m1_0, m1_0', l1_0, gd_0, gd_1, gd_T, or_true, true_or, false_or, or_false, nle_T, nle_F, nlt_T, nlt_F, neq_T, neq_F, ↓reduceIte, ne_eq, not_true_eq_false, not_false_eq_true, bd1_s, bd2_s, bd3_s, bd4_s, bd5_s, bd6_s, bd7_s, bd8_s, bd9_s, bd10_s, bd11_s, bd12_s, bd13_s, bd14_s, bd15_s, bd16_s, bd17_s, bd18_s, bd19_s, bd20_s, bd21_s, bd22_s, bd23_s, bd24_s, bd25_s]
      · have c0 : ¬ S (4 + 25 * p + (14 + i)) = 0 := by rw [hb2]; exact nI_nz c1 (by omega)
        by_cases c2 : S (4 + 25 * p + (14 + i)) < (aw (fun k => S (4 + 25 * p + (14 + k))) i).1
        · have : aw (fun k => S (4 + 25 * p + (14 + k))) (i + 1) = aw (fun k => S (4 + 25 * p + (14 + k))) i := if_pos (.inr c2)
          have c3 : ¬ (aw (fun k => S (4 + 25 * p + (14 + k))) i).1 ≤ S (4 + 25 * p + (14 + i)) := i32_nle.mpr c2
          simp (disch := omega) only [f_X10_axlesOf_h25, f_X10_axlesOf_b66, ofp_v, e8, e9, c0, c3, this, ll_le, ll_lt, ll_eq, lr_le, lr_lt, lr_eq, ll_add, lr_add, ll_mul, lr_mul, nI_add, pk_mul, nI_leI, nI_ltI, nI_eq, ll_sub, pk_sub, lm_add, rd_n, rd_l, wr_n, wr_l, lm_ne, lm_ne', lm_lt, lm_le, m1_lt, m1_le, m1_le0, m1_lt0, m1_0, m1_0', l1_0, gd_0, gd_1, gd_T, or_true, true_or, false_or, or_false, nle_T, nle_F, nlt_T, nlt_F, neq_T, neq_F, ↓reduceIte, ne_eq, not_true_eq_false, not_false_eq_true, bd1_s, bd2_s, bd3_s, bd4_s, bd5_s, bd6_s, bd7_s, bd8_s, bd9_s, bd10_s, bd11_s, bd12_s, bd13_s, bd14_s, bd15_s, bd16_s, bd17_s, bd18_s, bd19_s, bd20_s, bd21_s, bd22_s, bd23_s, bd24_s, bd25_s]
        · have : aw (fun k => S (4 + 25 * p + (14 + k))) (i + 1) = (S (4 + 25 * p + (14 + i)), nI (2 + i)) := if_neg (by
            simp only [not_or]
            refine ⟨?_, c2⟩
            rw [hb2]
            exact fun q => c1 (by have := (nI_leI (b := 0) (by omega) (by omega)).mp q; omega))
          have c3 : (aw (fun k => S (4 + 25 * p + (14 + k))) i).1 ≤ S (4 + 25 * p + (14 + i)) := i32_nlt.mp c2
          simp (disch := omega) only [f_X10_axlesOf_h25, f_X10_axlesOf_b66, ofp_v, e8, e9, c0, c3, this, ll_le, ll_lt, ll_eq, lr_le, lr_lt, lr_eq, ll_add, lr_add, ll_mul, lr_mul, nI_add, pk_mul, nI_leI, nI_ltI, nI_eq, ll_sub, pk_sub, lm_add, rd_n, rd_l, wr_n, wr_l, lm_ne, lm_ne', lm_lt, lm_le, m1_lt, m1_le, m1_le0, m1_lt0, m1_0, m1_0', l1_0, gd_0, gd_1, gd_T, or_true, true_or, false_or, or_false, nle_T, nle_F, nlt_T, nlt_F, neq_T, neq_F, ↓reduceIte, ne_eq, not_true_eq_false, not_false_eq_true, bd1_s, bd2_s, bd3_s, bd4_s, bd5_s, bd6_s, bd7_s, bd8_s, bd9_s, bd10_s, bd11_s, bd12_s, bd13_s, bd14_s, bd15_s, bd16_s, bd17_s, bd18_s, bd19_s, bd20_s, bd21_s, bd22_s, bd23_s, bd24_s, bd25_s]
    · simp (disch := omega) only [f_X10_axlesOf_h25, ll_le, ll_lt, ll_eq, lr_le, lr_lt, lr_eq, ll_add, lr_add, ll_mul, lr_mul, nI_add, pk_mul, nI_leI, nI_ltI, nI_eq, ll_sub, pk_sub, lm_add, rd_n, rd_l, wr_n, wr_l, lm_ne, lm_ne', lm_lt, lm_le, m1_lt, m1_le, m1_le0, m1_lt0, m1_0, m1_0', l1_0, gd_0, gd_1, gd_T, or_true, true_or, false_or, or_false, nle_T, nle_F, nlt_T, nlt_F, neq_T, neq_F, ↓reduceIte, ne_eq, not_true_eq_false, not_false_eq_true, bd1_s, bd2_s, bd3_s, bd4_s, bd5_s, bd6_s, bd7_s, bd8_s, bd9_s, bd10_s, bd11_s, bd12_s, bd13_s, bd14_s, bd15_s, bd16_s, bd17_s, bd18_s, bd19_s, bd20_s, bd21_s, bd22_s, bd23_s, bd24_s, bd25_s]
  · rw [if_neg (nI_nl0 a0 (by omega)), bd1_s, if_neg (nI_nz a0 (by omega))]
/-- the tag of a passage -/
theorem tg_cases (h : PWF n G T (fun k => S (4 + 25 * p + k))) (hT : T ≤ 12) : S (4 + 25 * p + 4) - 1 = -1 ∨ ∃ a, a < T ∧ S (4 + 25 * p + 4) - 1 = nI a := by
  obtain ⟨-, -, -, -, ⟨a, h1, h2⟩, -⟩ := h
  dsimp only at h2
  rw [h2]
  cases a with
  | zero => exact .inl (by decide)
  | succ a => exact .inr ⟨a, by omega, nI_pred a⟩
theorem to_v (hp8 : p < 80) : f_X10_tagOf F (nI p) S = some (S (4 + 25 * p + 4) - 1) := by
  simp (disch := omega) only [f_X10_tagOf, ofp_l, ll_le, ll_lt, ll_eq, lr_le, lr_lt, lr_eq, ll_add, lr_add, ll_mul, lr_mul, nI_add, pk_mul, nI_leI, nI_ltI, nI_eq, ll_sub, pk_sub, lm_add, rd_n, rd_l, wr_n, wr_l, lm_ne, lm_ne', lm_lt, lm_le, m1_lt, m1_le, m1_le0, m1_lt0, m1_0, m1_0', l1_0, gd_0, gd_1, gd_T, or_true, true_or, false_or, or_false, nle_T, nle_F, nlt_T, nlt_F, neq_T, neq_F, ↓reduceIte, ne_eq, not_true_eq_false, not_false_eq_true, bd1_s, bd2_s, bd3_s, bd4_s, bd5_s, bd6_s, bd7_s, bd8_s, bd9_s, bd10_s, bd11_s, bd12_s, bd13_s, bd14_s, bd15_s, bd16_s, bd17_s, bd18_s, bd19_s, bd20_s, bd21_s, bd22_s, bd23_s, bd24_s, bd25_s]
/-- the vehicle: its plate -/
def vhI (cf : Int32) (tp S : Nat → Int32) (p : Nat) : Int32 := if S (4 + 25 * p + 4) - 1 = -1 then plI cf S p else tp (S (4 + 25 * p + 4) - 1).toNatClampNeg
def phi (T : Nat) (tp : Nat → Int32) (x : Int32) : Int32 := if x = -1 then -1 else match tw T tp x with
  | some k => nI k
  | none => 100 + x
def TW (T : Nat) (tp : Nat → Int32) : Prop := T ≤ 12 ∧ (∀ k, k < T → ∃ a, 1 ≤ a ∧ a ≤ 9999 ∧ tp k = nI a) ∧ ∀ i j, i < j → j < T → tp i ≠ tp j
theorem vh_cases {tp : Nat → Int32} (hn : n ≤ 600) (h : PWF n G T (fun k => S (4 + 25 * p + k))) (hc : 1 ≤ c5) (hc2 : c5 ≤ 300) (hT : TW T tp) : vhI (nI c5) tp S p = -1 ∨ ∃ a, 1 ≤ a ∧ a ≤ 9999 ∧ vhI (nI c5) tp S p = nI a := by
  unfold vhI
  rcases tg_cases h hT.1 with e | ⟨a, h1, e⟩
  · rw [if_pos e]; exact pl_cases hn h hc hc2
  · rw [if_neg (by rw [e]; exact fun q => (lm_ne (show a < 2 ^ 31 by have := hT.1; omega)).mp q), e, nI_clamp (by have := hT.1; omega)]
    exact .inr (hT.2.1 a h1)
theorem vh6_v {tp tp' : Nat → Int32} (hp8 : p < 80) (hn : n ≤ 600) (h : PRow n G T p ax ga hx hp la ps rp st tg ti tr S) (hT : TW T tp) (htp : ∀ k, k < T → tp' k = tp k) (cf : Int32) (hF : 100 ≤ F) : f_X6_vehicleOf F (nI p) hp ps rp tg (nI T) cf tp' = some (vhI cf tp S p) := by
  have hP := pl6_v (F := F) hp8 h cf hF
  obtain ⟨hw, -, -, -, -, htg, -⟩ := h
  have hT1 := hT.1
  unfold f_X6_vehicleOf vhI
  rw [rd_n hp8 (by decide), htg]
  rcases tg_cases hw hT.1 with e | ⟨a, h1, e⟩
  · rw [e, if_pos rfl, if_pos rfl, hP]; rfl
  · have hne : ¬ nI a = -1 := fun q => (lm_ne (show a < 2 ^ 31 by omega)).mp q
    rw [e, if_neg hne, if_neg hne, rd_n hp8 (by decide), htg, e, pot_v tp' hT.1 h1, nI_clamp (by omega), htp a h1]; rfl
theorem vh10_v {tp : Nat → Int32} (hp8 : p < 80) (hn : n ≤ 600) (h : PWF n G T (fun k => S (4 + 25 * p + k))) (hb5 : bs 5 = nI c5) (hc : 1 ≤ c5) (hc2 : c5 ≤ 300) (hT : TW T tp) (hb3 : bs 3 = nI T) (hF : 100 ≤ F) : f_X10_vehicleOf F (nI p) bs S tp = some (phi T tp (vhI (nI c5) tp S p)) := by
  have hP := pl10_v (F := F) hp8 hn h hb5 hc hc2 hF
  have hT1 := hT.1
  unfold f_X10_vehicleOf vhI
  rw [to_v hp8, bd1_s]
  rcases tg_cases h hT.1 with e | ⟨a, h1, e⟩
  · rw [e, if_pos (by decide), if_pos rfl, hP, bd1_s]
    unfold phi
    rcases pl_cases hn h hc hc2 with e2 | ⟨x, hx1, hx2, e2⟩
    · rw [e2, if_neg (by decide), if_pos rfl]
    · have hne : ¬ nI x = -1 := fun q => (lm_ne (show x < 2 ^ 31 by omega)).mp q
      rw [e2, if_pos (nI_pos' (by omega)), if_neg hne, tw_v (nI x) bs tp hb3 hT1 hF, bd1_s]
      cases e3 : tw T tp (nI x) with
      | some k =>
        have := (tw_some e3).1
        rw [if_neg (show ¬ oI (some k) < 0 from nI_pos (by omega))]; rfl
      | none => rw [if_pos (show oI none < 0 by decide)]; rfl
  · have hne : ¬ nI a = -1 := fun q => (lm_ne (show a < 2 ^ 31 by omega)).mp q
    obtain ⟨x, hx1, hx2, hx3⟩ := hT.2.1 a h1
    have hne2 : ¬ tp a = -1 := by rw [hx3]; exact fun q => (lm_ne (show x < 2 ^ 31 by omega)).mp q
    rw [e, if_neg (nI_pos (by omega)), if_neg hne, nI_clamp (by omega)]
    unfold phi
    rw [if_neg hne2, tw_of h1 hT.2.2, bd1_s]
/-- the two names of a vehicle -/
theorem phi_cases {tp : Nat → Int32} {a : Nat} (hT : TW T tp) (h1 : 1 ≤ a) (h2 : a ≤ 9999) : (∃ k, k < T ∧ tp k = nI a ∧ phi T tp (nI a) = nI k ∧ tw T tp (nI a) = some k) ∨ (phi T tp (nI a) = nI (100 + a) ∧ tw T tp (nI a) = none) := by
  unfold phi
  rw [if_neg (nI_nm (by omega))]
  cases e : tw T tp (nI a) with
  | some k => exact .inl ⟨k, (tw_some e).1, (tw_some e).2.1, rfl, rfl⟩
  | none => exact .inr ⟨nI_add 100 a, rfl⟩
theorem phi_inj {tp : Nat → Int32} {a b : Nat} (hT : TW T tp) (h1 : 1 ≤ a) (h2 : a ≤ 9999) (h3 : 1 ≤ b) (h4 : b ≤ 9999) (h : phi T tp (nI a) = phi T tp (nI b)) : a = b := by
  have := hT.1
  rcases phi_cases hT h1 h2 with ⟨k, k1, k2, k3, -⟩ | ⟨k3, -⟩ <;> rcases phi_cases hT h3 h4 with ⟨j, j1, j2, j3, -⟩ | ⟨j3, -⟩ <;> (rw [k3, j3, nI_eq (by omega) (by omega)] at h)
  · subst h
    exact (nI_eq (by omega) (by omega)).mp (k2.symm.trans j2)
  · omega
  · omega
  · omega
theorem phi_n1 {tp : Nat → Int32} : phi T tp (-1) = -1 := if_pos rfl
theorem isTag_v {x : Nat} (h : x ≤ 20000) : f_X10_isTag F (nI x) = some (if x < 100 then 1 else 0) := by
  by_cases hx : x < 100
  · rw [if_pos hx]; simp (disch := omega) only [f_X10_isTag, f_X10_isTag_b15, ll_le, ll_lt, ll_eq, lr_le, lr_lt, lr_eq, ll_add, lr_add, ll_mul, lr_mul, nI_add, pk_mul, nI_leI, nI_ltI, nI_eq, ll_sub, pk_sub, lm_add, rd_n, rd_l, wr_n, wr_l, lm_ne, lm_ne', lm_lt, lm_le, m1_lt, m1_le, m1_le0, m1_lt0, m1_0, m1_0', l1_0, gd_0, gd_1, gd_T, or_true, true_or, false_or, or_false, nle_T, nle_F, nlt_T, nlt_F, neq_T, neq_F, ↓reduceIte, ne_eq, not_true_eq_false, not_false_eq_true, bd1_s, bd2_s, bd3_s, bd4_s, bd5_s, bd6_s, bd7_s, bd8_s, bd9_s, bd10_s, bd11_s, bd12_s, bd13_s, bd14_s, bd15_s, bd16_s, bd17_s, bd18_s, bd19_s, bd20_s, bd21_s, bd22_s, bd23_s, bd24_s, bd25_s]
  · rw [if_neg hx]; simp (disch := omega) only [f_X10_isTag, f_X10_isTag_b14, f_X10_isTag_b15, ll_le, ll_lt, ll_eq, lr_le, lr_lt, lr_eq, ll_add, lr_add, ll_mul, lr_mul, nI_add, pk_mul, nI_leI, nI_ltI, nI_eq, ll_sub, pk_sub, lm_add, rd_n, rd_l, wr_n, wr_l, lm_ne, lm_ne', lm_lt, lm_le, m1_lt, m1_le, m1_le0, m1_lt0, m1_0, m1_0', l1_0, gd_0, gd_1, gd_T, or_true, true_or, false_or, or_false, nle_T, nle_F, nlt_T, nlt_F, neq_T, neq_F, ↓reduceIte, ne_eq, not_true_eq_false, not_false_eq_true, bd1_s, bd2_s, bd3_s, bd4_s, bd5_s, bd6_s, bd7_s, bd8_s, bd9_s, bd10_s, bd11_s, bd12_s, bd13_s, bd14_s, bd15_s, bd16_s, bd17_s, bd18_s, bd19_s, bd20_s, bd21_s, bd22_s, bd23_s, bd24_s, bd25_s]
theorem isTag_n : f_X10_isTag F (-1) = some 0 := by
  simp (disch := omega) only [f_X10_isTag, f_X10_isTag_b14, f_X10_isTag_b15, ll_le, ll_lt, ll_eq, lr_le, lr_lt, lr_eq, ll_add, lr_add, ll_mul, lr_mul, nI_add, pk_mul, nI_leI, nI_ltI, nI_eq, ll_sub, pk_sub, lm_add, rd_n, rd_l, wr_n, wr_l, lm_ne, lm_ne', lm_lt, lm_le, m1_lt, m1_le, m1_le0, m1_lt0, m1_0, m1_0', l1_0, gd_0, gd_1, gd_T, or_true, true_or, false_or, or_false, nle_T, nle_F, nlt_T, nlt_F, neq_T, neq_F, ↓reduceIte, ne_eq, not_true_eq_false, not_false_eq_true, bd1_s, bd2_s, bd3_s, bd4_s, bd5_s, bd6_s, bd7_s, bd8_s, bd9_s, bd10_s, bd11_s, bd12_s, bd13_s, bd14_s, bd15_s, bd16_s, bd17_s, bd18_s, bd19_s, bd20_s, bd21_s, bd22_s, bd23_s, bd24_s, bd25_s]
end
