/-! the statement link -/
theorem upd_off {f : Nat → Int32} {a L k : Nat} {x : Int32} : upd f (a + L) x (a + k) = if k = L then x else f (a + k) := by
  rw [upd_at]
  by_cases e : k = L
  · rw [if_pos e, if_pos (by omega)]
  · rw [if_neg e, if_neg (by omega)]
section
variable {F n e s e' k G L : Nat} {b : Nat → Nat} {tx bf mM mP lf lt lm lq : Nat → Int32} {v eo : Int32} {M P : Nat → Nat → Nat}
theorem beg_1 {c m : Nat} {m' tk : Int32} (h : TXT n b tx bf) (he : e ≤ n) (hm : m' = nI m) (hc : c < m) (hm2 : m ≤ 100) (hF : 2000 ≤ F) : ∃ s1 e1 k1 v1, (∀ eo, f_X10_begins F (nI c) m' (nI n) (nI s) (nI e) tk v 0 eo bf = some (1, nI s1, nI e1, rk k1, v1, 0, eo)) ∧ TOK F n tx e s1 e1 k1 v1 := by
  obtain ⟨s1, e1, k1, v1, w1, w2⟩ := tok h he hF (nI s) tk v
  refine ⟨s1, e1, k1, v1, fun eo => ?_, w2⟩
  unfold f_X10_begins f_X10_begins_b11
  rw [hm, if_neg (fun w => by have := (nI_leI (by omega) (by omega)).mp w; omega), mu_1, bd3_s, if_neg (show ¬ (1 : Int32) = 0 by decide), w1, bd4_s]
  exact gd_1
theorem beg_0 {c m : Nat} {m' tk : Int32} (hm : m' = nI m) (hc : m ≤ c) (hc2 : c ≤ 100) : f_X10_begins F (nI c) m' (nI n) (nI s) (nI e) tk v 0 eo bf = some (0, nI s, nI e, tk, v, 4, nI s) := by
  unfold f_X10_begins f_X10_begins_b11
  rw [hm, if_pos ((nI_leI (by omega) (by omega)).mpr hc), mu_0 (by decide), bd3_s, if_pos rfl]
  exact gd_0
theorem mo_tot (p q : Int32) (hG : G ≤ 10) : ∃ r, f_X4_minutesOf F p q (nI G) mM = some r := by
  have out : (p < 0 ∨ nI G ≤ p) ∨ (q < 0 ∨ nI G ≤ q) → f_X4_minutesOf F p q (nI G) mM = some 0 := by
    intro w
    unfold f_X4_minutesOf f_X4_minutesOf_b28 f_X4_minutesOf_b29 f_X4_minutesOf_b49
    by_cases h1 : p < 0
    · rw [if_pos h1]; rfl
    · rw [if_neg h1]
      by_cases h2 : p < nI G
      · by_cases h3 : q < 0
        · first
            | rw [if_pos h2, if_pos h3]; rfl
            | rw [if_neg (i32_nle.mpr h2), if_pos h3]; rfl
        · have h4 : nI G ≤ q := by
            rcases w with w | w
            · rcases w with w | w
              · exact absurd w h1
              · exact absurd h2 (i32_nlt.mpr w)
            · exact w.resolve_left h3
          first
            | rw [if_pos h2, if_neg h3, if_neg (i32_nlt.mpr h4)]; rfl
            | rw [if_neg (i32_nle.mpr h2), if_neg h3, if_pos h4]; rfl
      · first
          | rw [if_neg h2]; rfl
          | rw [if_pos (i32_nlt.mp h2)]; rfl
  rcases idx_cases p (show G < 2 ^ 31 by omega) with ⟨a, a1, rfl⟩ | h
  · rcases idx_cases q (show G < 2 ^ 31 by omega) with ⟨c, c1, rfl⟩ | h
    · exact ⟨_, mo_v mM hG a1 c1⟩
    · exact ⟨0, out (.inr h)⟩
  · exact ⟨0, out (.inl h)⟩
section
variable {f : Nat} {tk st : Int32}
theorem lk_n4_f (h : TXT n b tx bf) (he : e ≤ n) (hf : f ≠ 0) (hf2 : f < 2 ^ 31) (hF : 2000 ≤ F) (x1 x2 r1 : Int32) : ∃ a c e', e' ≤ n ∧ (bd5 (f_X5_readNumber F 1 5000 (nI n) (nI f) tk st (nI e) tx) fun r7 o8 o9 o10 o11 => if o8 = 0 then bd3 (f_X4_addLink F x1 x2 r1 r7 (nI G) (nI L) mM mP) fun o14 o15 o16 => f_X5_readLink_b106 F (nI n) (nI G) tx o8 o9 o10 o11 o14 o15 o16 else f_X5_readLink_b106 F (nI n) (nI G) tx o8 o9 o10 o11 (nI L) mM mP) = some (nI f, a, c, nI e', nI L, mM, mP) := by
  obtain ⟨r, k, s, e', e1, w⟩ := num_f h he hf hf2 1 5000 hF
  refine ⟨nI k, nI s, e', e1, ?_⟩
  rw [w, bd5_s, if_neg (nI_nz hf hf2)]
  rfl
theorem lk69_f (h : TXT n b tx bf) (he : e ≤ n) (hf : f ≠ 0) (hf2 : f < 2 ^ 31) (hF : 2000 ≤ F) (x1 x2 : Int32) : ∃ a c e', e' ≤ n ∧ f_X5_readLink_b69 F (nI n) (nI G) tx x1 x2 (nI f) tk st (nI e) (nI L) mM mP = some (nI f, a, c, nI e', nI L, mM, mP) := by
  obtain ⟨r, k, s, e', e1, w⟩ := num_f h he hf hf2 1 120 hF
  unfold f_X5_readLink_b69
  rw [w, bd5_s]
  exact lk_n4_f h e1 hf hf2 hF x1 x2 r
theorem lk_cmp_f (h : TXT n b tx bf) (he : e ≤ n) (hf : f ≠ 0) (hf2 : f < 2 ^ 31) (hG : G ≤ 10) (hF : 2000 ≤ F) (x1 x2 : Int32) : ∃ a c e', e' ≤ n ∧ (if x1 = x2 then f_X5_readLink_b64 F (nI n) (nI G) tx x1 x2 (nI f) tk st (nI e) (nI L) mM mP else bd1 (f_X4_minutesOf F x1 x2 (nI G) mM) fun r33 => if r33 ≤ 0 then f_X5_readLink_b69 F (nI n) (nI G) tx x1 x2 (nI f) tk st (nI e) (nI L) mM mP else f_X5_readLink_b64 F (nI n) (nI G) tx x1 x2 (nI f) tk st (nI e) (nI L) mM mP) = some (nI f, a, c, nI e', nI L, mM, mP) := by
  obtain ⟨a, c, e', e1, w⟩ := lk69_f (F := F) (G := G) (L := L) (mM := mM) (mP := mP) (tk := tk) (st := st) h he hf hf2 hF x1 x2
  refine ⟨a, c, e', e1, ?_⟩
  obtain ⟨r, hr⟩ := mo_tot (F := F) (mM := mM) x1 x2 hG
  have w64 : f_X5_readLink_b64 F (nI n) (nI G) tx x1 x2 (nI f) tk st (nI e) (nI L) mM mP = some (nI f, a, c, nI e', nI L, mM, mP) := by
    unfold f_X5_readLink_b64
    rw [fl_f hf hf2, bd1_s]
    exact w
  rw [hr, bd1_s, w, w64]
  split
  · rfl
  · split <;> rfl
theorem lk_n2_f (h : TXT n b tx bf) (he : e ≤ n) (hf : f ≠ 0) (hf2 : f < 2 ^ 31) (hG : G ≤ 10) (hF : 2000 ≤ F) (x1 : Int32) : ∃ a c e', e' ≤ n ∧ (bd5 (f_X5_readNumber F 0 (nI G - 1) (nI n) (nI f) tk st (nI e) tx) fun r26 o27 o28 o29 o30 => if x1 = r26 then f_X5_readLink_b64 F (nI n) (nI G) tx x1 r26 o27 o28 o29 o30 (nI L) mM mP else bd1 (f_X4_minutesOf F x1 r26 (nI G) mM) fun r33 => if r33 ≤ 0 then f_X5_readLink_b69 F (nI n) (nI G) tx x1 r26 o27 o28 o29 o30 (nI L) mM mP else f_X5_readLink_b64 F (nI n) (nI G) tx x1 r26 o27 o28 o29 o30 (nI L) mM mP) = some (nI f, a, c, nI e', nI L, mM, mP) := by
  obtain ⟨r, k, s, e', e1, w⟩ := num_f h he hf hf2 0 (nI G - 1) hF
  rw [w, bd5_s]
  exact lk_cmp_f h e1 hf hf2 hG hF x1 r
theorem lk17_f (h : TXT n b tx bf) (he : e ≤ n) (hf : f ≠ 0) (hf2 : f < 2 ^ 31) (hG : G ≤ 10) (hF : 2000 ≤ F) : ∃ a c e', e' ≤ n ∧ f_X5_readLink_b17 F (nI n) (nI G) tx (nI f) tk st (nI e) (nI L) mM mP = some (nI f, a, c, nI e', nI L, mM, mP) := by
  obtain ⟨r, k, s, e', e1, w⟩ := num_f h he hf hf2 0 (nI G - 1) hF
  unfold f_X5_readLink_b17
  rw [w, bd5_s]
  exact lk_n2_f h e1 hf hf2 hG hF r
end
/-- the links of the network that is being read: the reference has them in the second halves -/
def LK (G L : Nat) (M P : Nat → Nat → Nat) (lf lt lm lq mM mP : Nat → Int32) : Prop := L ≤ 24 ∧ NM G L M P (fun k => lf (24 + k)) (fun k => lt (24 + k)) (fun k => lm (24 + k)) (fun k => lq (24 + k)) mM mP
theorem LK.add {a c m p : Nat} (h : LK G L M P lf lt lm lq mM mP) (hG : G ≤ 10) (hL : L < 24) (ha : a < G) (hc : c < G) (h0 : M a c = 0) (m1 : 1 ≤ m) (m2 : m ≤ 120) (p1 : 1 ≤ p) (p2 : p ≤ 5000) :
    LK G (L + 1) (fun x y => if x = a ∧ y = c then m else M x y) (fun x y => if x = a ∧ y = c then p else P x y) (upd lf (24 + L) (nI a)) (upd lt (24 + L) (nI c)) (upd lm (24 + L) (nI m)) (upd lq (24 + L) (nI p)) (upd mM (a * 10 + c) (nI m)) (upd mP (a * 10 + c) (nI p)) := by
  obtain ⟨-, h1, h2, h3⟩ := h
  refine ⟨by omega, fun x y hx hy => ?_, fun k hk => ?_, fun x y hx hy hxy => ?_⟩
  · obtain ⟨g1, g2, g3, g4, g5⟩ := h1 x y hx hy
    dsimp only
    by_cases e : x = a ∧ y = c
    · obtain ⟨rfl, rfl⟩ := e
      rw [if_pos ⟨rfl, rfl⟩, if_pos ⟨rfl, rfl⟩, upd_at, upd_at, if_pos rfl, if_pos rfl]
      exact ⟨rfl, rfl, m2, p2, by omega⟩
    · rw [if_neg e, if_neg e, upd_at, upd_at, if_neg (by omega), if_neg (by omega)]
      exact ⟨g1, g2, g3, g4, g5⟩
  · dsimp only
    rw [upd_off, upd_off, upd_off, upd_off]
    by_cases e : k = L
    · rw [if_pos e, if_pos e, if_pos e, if_pos e]
      refine ⟨a, c, ha, hc, ?_⟩
      rw [if_pos ⟨rfl, rfl⟩, if_pos ⟨rfl, rfl⟩]
      exact ⟨by omega, rfl, rfl, rfl, rfl⟩
    · rw [if_neg e, if_neg e, if_neg e, if_neg e]
      obtain ⟨x, y, g1, g2, g3, g4, g5, g6, g7⟩ := h2 k (by omega)
      have ne : ¬ (x = a ∧ y = c) := fun w => by rw [w.1, w.2, h0] at g3; omega
      refine ⟨x, y, g1, g2, ?_⟩
      rw [if_neg ne, if_neg ne]
      exact ⟨g3, g4, g5, g6, g7⟩
  · dsimp only at hxy ⊢
    by_cases e : x = a ∧ y = c
    · obtain ⟨rfl, rfl⟩ := e
      exact ⟨L, by omega, by rw [upd_off, if_pos rfl], by rw [upd_off, if_pos rfl]⟩
    · rw [if_neg e] at hxy
      obtain ⟨k, k1, k2, k3⟩ := h3 x y hx hy hxy
      exact ⟨k, by omega, by rw [upd_off, if_neg (by omega)]; exact k2, by rw [upd_off, if_neg (by omega)]; exact k3⟩
theorem isl_v {a c : Nat} {dr : Nat → Int32} (h : LK G L M P lf lt lm lq mM mP) (hd : dr 1 = nI L) (hG : G ≤ 10) (ha : a < G) (hc : c < G) (hF : 2000 ≤ F) : f_X10_isLinked F (nI a) (nI c) dr lf lt = some (if 0 < M a c then 1 else 0) := by
  obtain ⟨h0, h1, h2, h3⟩ := h
  unfold f_X10_isLinked f_X10_isLinked_L2
  obtain ⟨q, q1, q2, q3, q4⟩ := run_ex (n := L) (e := 0) (fun k => ¬ (lf (24 + k) = nI a ∧ lt (24 + k) = nI c)) (Nat.zero_le _)
  have step : ∀ i, i < q → ∀ kk, f_X10_isLinked_h2 F dr lf lt kk (nI a) (nI c) (nI i) = kk (nI a, nI c, nI (i + 1)) := fun i hi kk => by
    have w := q3 i (Nat.zero_le _) hi
    by_cases c1 : lf (24 + i) = nI a
    · have c2 : ¬ lt (24 + i) = nI c := fun u => w ⟨c1, u⟩
      simp (disch := omega) only [f_X10_isLinked_h2, f_X10_isLinked_b40, hd, c1, c2, ll_le, ll_lt, ll_eq, lr_le, lr_lt, lr_eq, ll_add, lr_add, ll_mul, lr_mul, nI_add, pk_mul, nI_leI, nI_ltI, nI_eq, ll_sub, pk_sub, lm_add, rd_n, rd_l, wr_n, wr_l, lm_ne, lm_ne', lm_lt, lm_le, m1_lt, m1_le, m1_le0, m1_lt0, m1_0, m1_0', l1_0, gd_0, gd_1, gd_T, or_true, true_or, false_or, or_false, nle_T, nle_F, nlt_T, nlt_F, neq_T, neq_F, ↓reduceIte, ne_eq, not_true_eq_false, not_false_eq_true, bd1_s, bd2_s, bd3_s, bd4_s, bd5_s, bd6_s, bd7_s, bd8_s, bd9_s, bd10_s, bd11_s, bd12_s, bd13_s, bd14_s, bd15_s, bd16_s, bd17_s, bd18_s, bd19_s, bd20_s, bd21_s, bd22_s, bd23_s, bd24_s, bd25_s]
    · simp (disch := omega) only [f_X10_isLinked_h2, f_X10_isLinked_b40, hd, c1, ll_le, ll_lt, ll_eq, lr_le, lr_lt, lr_eq, ll_add, lr_add, ll_mul, lr_mul, nI_add, pk_mul, nI_leI, nI_ltI, nI_eq, ll_sub, pk_sub, lm_add, rd_n, rd_l, wr_n, wr_l, lm_ne, lm_ne', lm_lt, lm_le, m1_lt, m1_le, m1_le0, m1_lt0, m1_0, m1_0', l1_0, gd_0, gd_1, gd_T, or_true, true_or, false_or, or_false, nle_T, nle_F, nlt_T, nlt_F, neq_T, neq_F, ↓reduceIte, ne_eq, not_true_eq_false, not_false_eq_true, bd1_s, bd2_s, bd3_s, bd4_s, bd5_s, bd6_s, bd7_s, bd8_s, bd9_s, bd10_s, bd11_s, bd12_s, bd13_s, bd14_s, bd15_s, bd16_s, bd17_s, bd18_s, bd19_s, bd20_s, bd21_s, bd22_s, bd23_s, bd24_s, bd25_s]
  refine lp_at (fun i => (nI a, nI c, nI i)) q (by omega) rfl (fun i hi kk => step i hi kk) (fun kk => ?_)
  rcases q4 with rfl | ⟨w1, w2⟩
  · have hm : ¬ 0 < M a c := fun w => by
      obtain ⟨k, k1, k2, k3⟩ := h3 a c ha hc w
      exact q3 k (Nat.zero_le _) k1 ⟨k2, k3⟩
    rw [if_neg hm]
    simp (disch := omega) only [f_X10_isLinked_h2, hd, ll_le, ll_lt, ll_eq, lr_le, lr_lt, lr_eq, ll_add, lr_add, ll_mul, lr_mul, nI_add, pk_mul, nI_leI, nI_ltI, nI_eq, ll_sub, pk_sub, lm_add, rd_n, rd_l, wr_n, wr_l, lm_ne, lm_ne', lm_lt, lm_le, m1_lt, m1_le, m1_le0, m1_lt0, m1_0, m1_0', l1_0, gd_0, gd_1, gd_T, or_true, true_or, false_or, or_false, nle_T, nle_F, nlt_T, nlt_F, neq_T, neq_F, ↓reduceIte, ne_eq, not_true_eq_false, not_false_eq_true, bd1_s, bd2_s, bd3_s, bd4_s, bd5_s, bd6_s, bd7_s, bd8_s, bd9_s, bd10_s, bd11_s, bd12_s, bd13_s, bd14_s, bd15_s, bd16_s, bd17_s, bd18_s, bd19_s, bd20_s, bd21_s, bd22_s, bd23_s, bd24_s, bd25_s]
  · have w2 := Classical.not_not.mp w2
    have hm : 0 < M a c := by
      obtain ⟨x, y, g1, g2, g3, g4, g5, -⟩ := h2 q w1
      dsimp only at g4 g5
      have e1 : x = a := (nI_eq (by omega) (by omega)).mp (g4.symm.trans w2.1)
      have e2 : y = c := (nI_eq (by omega) (by omega)).mp (g5.symm.trans w2.2)
      rw [← e1, ← e2]; exact g3
    rw [if_pos hm]
    simp (disch := omega) only [f_X10_isLinked_h2, hd, w2.1, w2.2, ll_le, ll_lt, ll_eq, lr_le, lr_lt, lr_eq, ll_add, lr_add, ll_mul, lr_mul, nI_add, pk_mul, nI_leI, nI_ltI, nI_eq, ll_sub, pk_sub, lm_add, rd_n, rd_l, wr_n, wr_l, lm_ne, lm_ne', lm_lt, lm_le, m1_lt, m1_le, m1_le0, m1_lt0, m1_0, m1_0', l1_0, gd_0, gd_1, gd_T, or_true, true_or, false_or, or_false, nle_T, nle_F, nlt_T, nlt_F, neq_T, neq_F, ↓reduceIte, ne_eq, not_true_eq_false, not_false_eq_true, bd1_s, bd2_s, bd3_s, bd4_s, bd5_s, bd6_s, bd7_s, bd8_s, bd9_s, bd10_s, bd11_s, bd12_s, bd13_s, bd14_s, bd15_s, bd16_s, bd17_s, bd18_s, bd19_s, bd20_s, bd21_s, bd22_s, bd23_s, bd24_s, bd25_s]
theorem st_link {dr : Nat → Int32} {tk : Int32} (h : TXT n b tx bf) (he : e ≤ n) (hs : s ≤ n) (hG1 : 2 ≤ G) (hG : G ≤ 10) (hd0 : dr 0 = nI G) (hd1 : dr 1 = nI L) (hK : LK G L M P lf lt lm lq mM mP) (hF : 2000 ≤ F) (tk5 : Int32) :
    (∃ (L' : Nat) (M' P' : Nat → Nat → Nat) (tk' st' : Int32) (e2 s2 e3 k2 : Nat) (v2 : Int32) (mM' mP' lf' lm' lq' lt' : Nat → Int32), f_X5_readLink F (nI n) 0 tk5 (nI s) (nI e) (nI G) (nI L) mM mP tx = some (0, tk', st', nI e2, nI L', mM', mP') ∧ (∀ eo, f_X10_readLink F (nI n) (nI s) (nI e) tk v 0 eo bf dr lf lm lq lt = some (nI s2, nI e3, rk k2, v2, 0, eo, upd dr 1 (nI L'), lf', lm', lq', lt')) ∧ TOK F n tx e2 s2 e3 k2 v2 ∧ e ≤ e2 ∧ LK G L' M' P' lf' lt' lm' lq' mM' mP' ∧ ∀ k, k < 24 → lf' k = lf k ∧ lt' k = lt k ∧ lm' k = lm k ∧ lq' k = lq k) ∨
    (∃ (d s1 e2 : Nat) (tk' st' ts te tk2 v2 : Int32), 1 ≤ d ∧ d ≤ 4 ∧ s1 ≤ n ∧ e2 ≤ n ∧ f_X5_readLink F (nI n) 0 tk5 (nI s) (nI e) (nI G) (nI L) mM mP tx = some (nI (8 * s1 + d), tk', st', nI e2, nI L, mM, mP) ∧ ∀ eo, f_X10_readLink F (nI n) (nI s) (nI e) tk v 0 eo bf dr lf lm lq lt = some (ts, te, tk2, v2, nI d, nI s1, dr, lf, lm, lq, lt)) := by
  have h1 := h.1
  have hL := hK.1
  have d0 : ∀ {β : Type} (k : Int32 → Option β), rd dr 7 0 k = k (nI G) := fun k => by rw [show (0 : Int32) = nI 0 from rfl, rd_n (by decide) (by decide), hd0]
  have d1 : ∀ {β : Type} (k : Int32 → Option β), rd dr 7 1 k = k (nI L) := fun k => by rw [show (1 : Int32) = nI 1 from rfl, rd_n (by decide) (by decide), hd1]
  have n10 : ¬ (1 : Int32) = 0 := by decide
  have hG1' : nI G - 1 = nI (G - 1) := show nI G - nI 1 = nI (G - 1) from pk_sub (show 1 ≤ G by omega)
  have fin : ∀ (d s1 : Nat), 1 ≤ d → d ≤ 4 → s1 ≤ n → (8 * s1 + d ≠ 0 ∧ 8 * s1 + d < 2 ^ 31 ∧ ¬ nI d = (0 : Int32)) := fun d s1 g1 g2 g3 => ⟨by omega, by omega, nI_nz (by omega) (by omega)⟩
  -- the reference, once there is an error
  have r164 : ∀ (d : Nat) (x1 x2 x3 x4 s0 ts te tk2 v2 : Int32) (s1 : Nat), ¬ nI d = (0 : Int32) → f_X10_readLink_b164 F (nI n) bf x1 x2 x3 x4 s0 ts te tk2 v2 (nI d) (nI s1) dr lf lm lq lt = some (ts, te, tk2, v2, nI d, nI s1, dr, lf, lm, lq, lt) := fun d x1 x2 x3 x4 s0 ts te tk2 v2 s1 w => by
    unfold f_X10_readLink_b164; rw [if_neg w]
  have r143 : ∀ (d : Nat) (x1 x2 x3 s0 ts te tk2 v2 : Int32) (s1 : Nat), ¬ nI d = (0 : Int32) → f_X10_readLink_b143 F (nI n) bf x1 x2 x3 s0 ts te tk2 v2 (nI d) (nI s1) dr lf lm lq lt = some (ts, te, tk2, v2, nI d, nI s1, dr, lf, lm, lq, lt) := fun d x1 x2 x3 s0 ts te tk2 v2 s1 w => by
    unfold f_X10_readLink_b143; rw [if_neg w]; exact r164 _ _ _ _ _ _ _ _ _ _ _ w
  have r124 : ∀ (d : Nat) (x1 x2 s0 ts te tk2 v2 : Int32) (s1 : Nat), ¬ nI d = (0 : Int32) → f_X10_readLink_b124 F (nI n) bf x1 x2 s0 ts te tk2 v2 (nI d) (nI s1) dr lf lm lq lt = some (ts, te, tk2, v2, nI d, nI s1, dr, lf, lm, lq, lt) := fun d x1 x2 s0 ts te tk2 v2 s1 w => by
    unfold f_X10_readLink_b124; rw [if_neg w]; exact r143 _ _ _ _ _ _ _ _ _ _ w
  have r100 : ∀ (d : Nat) (x1 x2 ts te tk2 v2 : Int32) (s1 : Nat), ¬ nI d = (0 : Int32) → f_X10_readLink_b100 F (nI n) bf x1 x2 ts te tk2 v2 (nI d) (nI s1) dr lf lm lq lt = some (ts, te, tk2, v2, nI d, nI s1, dr, lf, lm, lq, lt) := fun d x1 x2 ts te tk2 v2 s1 w => by
    unfold f_X10_readLink_b100; rw [if_neg w]; exact r124 _ _ _ _ _ _ _ _ _ w
  by_cases hL24 : L < 24
  · obtain ⟨s1, e1, k1, v1, b1, t1⟩ := beg_1 (s := s) (v := v) (m' := 24) (m := 24) (tk := tk) (c := L) h he rfl hL24 (by omega) hF
    have hhead : ∀ eo, f_X10_readLink F (nI n) (nI s) (nI e) tk v 0 eo bf dr lf lm lq lt = bd7 (f_X10_number F 0 (nI G - 1) (nI n) (nI s1) (nI e1) (rk k1) v1 0 eo bf) fun r52 o53 o54 o55 o56 o57 o58 => if o57 = 0 then (if o55 = 2 then (if nI G ≤ o56 then f_X10_readLink_b100 F (nI n) bf (24 + nI L) r52 o53 o54 o55 o56 o57 o58 dr lf lm lq lt else if o56 = r52 then f_X10_readLink_b94 F (nI n) bf (24 + nI L) r52 o53 o54 o55 o56 o57 o58 dr lf lm lq lt else bd1 (f_X10_isLinked F r52 o56 dr lf lt) fun r65 => if r65 = 0 then f_X10_readLink_b95 F (nI n) bf (24 + nI L) r52 1 o53 o54 o55 o56 o57 o58 dr lf lm lq lt else f_X10_readLink_b94 F (nI n) bf (24 + nI L) r52 o53 o54 o55 o56 o57 o58 dr lf lm lq lt) else f_X10_readLink_b100 F (nI n) bf (24 + nI L) r52 o53 o54 o55 o56 o57 o58 dr lf lm lq lt) else some (o53, o54, o55, o56, o57, o58, dr, lf, lm, lq, lt) := fun eo => by
      unfold f_X10_readLink
      rw [d1, b1, bd7_s, if_neg n10, d1, d0]
      simp only [d0]
    have chead : f_X5_readLink F (nI n) 0 tk5 (nI s) (nI e) (nI G) (nI L) mM mP tx = f_X5_readLink_b17 F (nI n) (nI G) tx 0 tk5 (nI s) (nI e) (nI L) mM mP := by
      unfold f_X5_readLink
      rw [if_pos (show nI L < (24 : Int32) from (nI_ltI (b := 24) (by omega) (by omega)).mpr hL24)]
    rw [chead]
    unfold f_X5_readLink_b17
    rcases num_both (L := 0) (H := nI G - 1) (lo := 0) (hi := G - 1) h t1 rfl hG1' (by omega) (by omega) hF with ⟨a, s2, e2, k2, v2, -, a2, c1, q1, t2, -, -⟩ | ⟨r, d, hd, c1, q1, -, -⟩
    · have haG : a < G := by omega
      rw [c1, bd5_s]
      have hh2 : ∀ eo, f_X10_readLink F (nI n) (nI s) (nI e) tk v 0 eo bf dr lf lm lq lt = if rk k2 = 2 then (if nI G ≤ v2 then f_X10_readLink_b100 F (nI n) bf (24 + nI L) (nI a) (nI s2) (nI e2) (rk k2) v2 0 eo dr lf lm lq lt else if v2 = nI a then f_X10_readLink_b94 F (nI n) bf (24 + nI L) (nI a) (nI s2) (nI e2) (rk k2) v2 0 eo dr lf lm lq lt else bd1 (f_X10_isLinked F (nI a) v2 dr lf lt) fun r65 => if r65 = 0 then f_X10_readLink_b95 F (nI n) bf (24 + nI L) (nI a) 1 (nI s2) (nI e2) (rk k2) v2 0 eo dr lf lm lq lt else f_X10_readLink_b94 F (nI n) bf (24 + nI L) (nI a) (nI s2) (nI e2) (rk k2) v2 0 eo dr lf lm lq lt) else f_X10_readLink_b100 F (nI n) bf (24 + nI L) (nI a) (nI s2) (nI e2) (rk k2) v2 0 eo dr lf lm lq lt := fun eo => by
        rw [hhead, q1, bd7_s, if_pos rfl]
      have g1 := t1.2.2.1
      have s2n : s2 ≤ n := Nat.le_trans t2.2.1 t2.2.2.1
      rcases num_both (L := 0) (H := nI G - 1) (lo := 0) (hi := G - 1) h t2 rfl hG1' (by omega) (by omega) hF with ⟨c, s3, e3, k3, v3, -, a3, c2, q2, t3, kk2, vv2⟩ | ⟨r, d, hd, c2, q2, kk1, kk2⟩
      · subst kk2 vv2
        have hcG : c < G := by omega
        rw [c2, bd5_s]
        have ers : rk 2 = 2 := by decide
        have vG : ¬ nI G ≤ nI c := fun w => by have := (nI_leI (by omega) (by omega)).mp w; omega
        have g2 := t2.2.2.1
        -- repeated
        have rep : (a = c ∨ 0 < M a c) → (∃ (d s9 e9 : Nat) (tk' st' ts te tk2 v9 : Int32), 1 ≤ d ∧ d ≤ 4 ∧ s9 ≤ n ∧ e9 ≤ n ∧ (if nI a = nI c then f_X5_readLink_b64 F (nI n) (nI G) tx (nI a) (nI c) 0 (nI 2) (nI s2) (nI e2) (nI L) mM mP else bd1 (f_X4_minutesOf F (nI a) (nI c) (nI G) mM) fun r33 => if r33 ≤ 0 then f_X5_readLink_b69 F (nI n) (nI G) tx (nI a) (nI c) 0 (nI 2) (nI s2) (nI e2) (nI L) mM mP else f_X5_readLink_b64 F (nI n) (nI G) tx (nI a) (nI c) 0 (nI 2) (nI s2) (nI e2) (nI L) mM mP) = some (nI (8 * s9 + d), tk', st', nI e9, nI L, mM, mP) ∧ ∀ eo, f_X10_readLink F (nI n) (nI s) (nI e) tk v 0 eo bf dr lf lm lq lt = some (ts, te, tk2, v9, nI d, nI s9, dr, lf, lm, lq, lt)) := by
          intro w
          obtain ⟨w1, w2, w3⟩ := fin 3 s2 (by omega) (by omega) s2n
          obtain ⟨a', c', e9, e91, w69⟩ := lk69_f (F := F) (G := G) (L := L) (mM := mM) (mP := mP) (tk := nI 2) (st := nI s2) h g2 w1 w2 hF (nI a) (nI c)
          have w64 : f_X5_readLink_b64 F (nI n) (nI G) tx (nI a) (nI c) 0 (nI 2) (nI s2) (nI e2) (nI L) mM mP = some (nI (8 * s2 + 3), a', c', nI e9, nI L, mM, mP) := by
            unfold f_X5_readLink_b64
            rw [show f_X5_fail F 3 0 (nI s2) = some (nI (8 * s2 + 3)) from fl_0 (d := 3), bd1_s]
            exact w69
          have w94 : ∀ eo, f_X10_readLink_b94 F (nI n) bf (24 + nI L) (nI a) (nI s2) (nI e2) 2 (nI c) 0 eo dr lf lm lq lt = some (nI s2, nI e2, 2, nI c, nI 3, nI s2, dr, lf, lm, lq, lt) := fun eo => by
            unfold f_X10_readLink_b94 f_X10_readLink_b95
            rw [mu_0 (by decide), bd3_s]
            exact r100 3 _ _ _ _ _ _ _ w3
          refine ⟨3, s2, e9, a', c', nI s2, nI e2, 2, nI c, by omega, by omega, s2n, e91, ?_, fun eo => ?_⟩
          · by_cases hac : a = c
            · rw [if_pos (by rw [hac])]; exact w64
            · have hm := w.resolve_left hac
              have hmb := (NM.b hK.2 haG hcG).1
              rw [if_neg (fun u => hac ((nI_eq (by omega) (by omega)).mp u)), mo_M hK.2 hG haG hcG, bd1_s, if_neg (nI_nl0 (by omega) (by omega))]
              exact w64
          · rw [hh2, ers, if_pos rfl, if_neg vG]
            by_cases hac : a = c
            · rw [if_pos (by rw [hac])]; exact w94 eo
            · have hm := w.resolve_left hac
              rw [if_neg (fun u => hac ((nI_eq (by omega) (by omega)).mp u).symm), isl_v hK hd1 hG haG hcG hF, if_pos hm, bd1_s, if_neg n10]
              exact w94 eo
        by_cases hrep : a = c ∨ 0 < M a c
        · obtain ⟨d, s9, e9, z1, z2, z3, z4, z5, z6, y1, y2, y3, y4, y5, y6⟩ := rep hrep
          exact .inr ⟨d, s9, e9, z1, z2, z3, z4, z5, z6, y1, y2, y3, y4, y5, y6⟩
        · have hac : ¬ a = c := fun u => hrep (.inl u)
          have hm0 : M a c = 0 := by
            rcases Nat.eq_zero_or_pos (M a c) with u | u
            · exact u
            · exact absurd (.inr u) hrep
          rw [if_neg (fun u => hac ((nI_eq (by omega) (by omega)).mp u)), mo_M hK.2 hG haG hcG, bd1_s, hm0, if_pos (show nI 0 ≤ (0 : Int32) by decide)]
          have hh3 : ∀ eo, f_X10_readLink F (nI n) (nI s) (nI e) tk v 0 eo bf dr lf lm lq lt = bd7 (f_X10_number F 1 120 (nI n) (nI s3) (nI e3) (rk k3) v3 0 eo bf) fun r18 o19 o20 o21 o22 o23 o24 => f_X10_readLink_b143 F (nI n) bf (24 + nI L) (nI a) (nI c) r18 o19 o20 o21 o22 o23 o24 dr lf lm lq lt := fun eo => by
            rw [hh2, ers, if_pos rfl, if_neg vG, if_neg (fun u => hac ((nI_eq (by omega) (by omega)).mp u).symm), isl_v hK hd1 hG haG hcG hF, if_neg (by omega), bd1_s, if_pos rfl]
            unfold f_X10_readLink_b95
            rw [mu_1, bd3_s]
            unfold f_X10_readLink_b100
            rw [if_pos rfl, d0]
            have q2' := q2 eo
            rw [ers] at q2'
            rw [q2', bd7_s]
            unfold f_X10_readLink_b124
            rw [if_pos rfl]
          unfold f_X5_readLink_b69
          have s3n : s3 ≤ n := Nat.le_trans t3.2.1 t3.2.2.1
          rcases num_both (L := 1) (H := 120) (lo := 1) (hi := 120) h t3 rfl rfl (by omega) (by omega) hF with ⟨m, s4, e4, k4, v4, m1, m2, c3, q3, t4, -, -⟩ | ⟨r, d, hd, c3, q3, -, -⟩
          · rw [c3, bd5_s]
            have hh4 : ∀ eo, f_X10_readLink F (nI n) (nI s) (nI e) tk v 0 eo bf dr lf lm lq lt = bd7 (f_X10_number F 1 5000 (nI n) (nI s4) (nI e4) (rk k4) v4 0 eo bf) fun r9 o10 o11 o12 o13 o14 o15 => f_X10_readLink_b164 F (nI n) bf (24 + nI L) (nI a) (nI c) (nI m) r9 o10 o11 o12 o13 o14 o15 dr lf lm lq lt := fun eo => by
              rw [hh3, q3, bd7_s]
              unfold f_X10_readLink_b143
              rw [if_pos rfl]
            have s4n : s4 ≤ n := Nat.le_trans t4.2.1 t4.2.2.1
            rcases num_both (L := 1) (H := 5000) (lo := 1) (hi := 5000) h t4 rfl rfl (by omega) (by omega) hF with ⟨p, s5, e5, k5, v5, p1, p2, c4, q4, t5, -, -⟩ | ⟨r, d, hd, c4, q4, -, -⟩
            · rw [c4, bd5_s]
              have hal : f_X4_addLink F (nI a) (nI c) (nI m) (nI p) (nI G) (nI L) mM mP = some (nI (L + 1), upd mM (a * 10 + c) (nI m), upd mP (a * 10 + c) (nI p)) := by
                simp (disch := omega) only [f_X4_addLink, f_X4_addLink_b51, hg_1 hG haG, hg_1 hG hcG, ll_le, ll_lt, ll_eq, lr_le, lr_lt, lr_eq, ll_add, lr_add, ll_mul, lr_mul, nI_add, pk_mul, nI_leI, nI_ltI, nI_eq, ll_sub, pk_sub, lm_add, rd_n, rd_l, wr_n, wr_l, lm_ne, lm_ne', lm_lt, lm_le, m1_lt, m1_le, m1_le0, m1_lt0, m1_0, m1_0', l1_0, gd_0, gd_1, gd_T, or_true, true_or, false_or, or_false, nle_T, nle_F, nlt_T, nlt_F, neq_T, neq_F, ↓reduceIte, ne_eq, not_true_eq_false, not_false_eq_true, bd1_s, bd2_s, bd3_s, bd4_s, bd5_s, bd6_s, bd7_s, bd8_s, bd9_s, bd10_s, bd11_s, bd12_s, bd13_s, bd14_s, bd15_s, bd16_s, bd17_s, bd18_s, bd19_s, bd20_s, bd21_s, bd22_s, bd23_s, bd24_s, bd25_s]
              refine .inl ⟨L + 1, _, _, nI 2, nI s4, e4, s5, e5, k5, v5, _, _, _, _, _, _, ?_, fun eo => ?_, t5, ?_, LK.add hK hG hL24 haG hcG hm0 m1 m2 p1 p2, fun k hk => by
                rw [upd_at, upd_at, upd_at, upd_at, if_neg (by omega), if_neg (by omega), if_neg (by omega), if_neg (by omega)]; exact ⟨rfl, rfl, rfl, rfl⟩⟩
              · rw [if_pos rfl, hal, bd3_s]
                rfl
              · rw [hh4, q4, bd7_s]
                unfold f_X10_readLink_b164
                rw [if_pos rfl, lr_add, wr_n (by omega) (by decide), wr_n (by omega) (by decide), wr_n (by omega) (by decide), wr_n (by omega) (by decide), d1, show (1 : Int32) = nI 1 from rfl, wr_n (by decide) (by decide), nI_add]
              · have := t1.1; have := t1.2.1; have := t2.1; have := t2.2.1; have := t3.1; have := t3.2.1; have := t4.1; have := t4.2.1
                omega
            · rw [c4, bd5_s]
              obtain ⟨w1, w2, w3⟩ := fin d s4 (by omega) (by omega) s4n
              refine .inr ⟨d, s4, e4, nI k4, nI s4, nI s4, nI e4, rk k4, v4, by omega, by omega, s4n, t4.2.2.1, ?_, fun eo => ?_⟩
              · rw [if_neg (nI_nz w1 w2)]
                rfl
              · rw [hh4, q4, bd7_s]
                exact r164 _ _ _ _ _ _ _ _ _ _ _ w3
          · rw [c3, bd5_s]
            obtain ⟨w1, w2, w3⟩ := fin d s3 (by omega) (by omega) s3n
            obtain ⟨a', c', e9, e91, w4⟩ := lk_n4_f (F := F) (G := G) (L := L) (mM := mM) (mP := mP) (tk := nI k3) (st := nI s3) h t3.2.2.1 w1 w2 hF (nI a) (nI c) r
            refine .inr ⟨d, s3, e9, a', c', nI s3, nI e3, rk k3, v3, by omega, by omega, s3n, e91, w4, fun eo => ?_⟩
            rw [hh3, q3, bd7_s]
            exact r143 _ _ _ _ _ _ _ _ _ _ w3
      · rw [c2, bd5_s]
        obtain ⟨w1, w2, w3⟩ := fin d s2 (by omega) (by omega) s2n
        obtain ⟨a', c', e9, e91, w4⟩ := lk_cmp_f (F := F) (G := G) (L := L) (mM := mM) (mP := mP) (tk := nI k2) (st := nI s2) h t2.2.2.1 w1 w2 hG hF (nI a) r
        refine .inr ⟨d, s2, e9, a', c', nI s2, nI e2, rk k2, v2, by omega, by omega, s2n, e91, w4, fun eo => ?_⟩
        have w100 : f_X10_readLink_b100 F (nI n) bf (24 + nI L) (nI a) (nI s2) (nI e2) (rk k2) v2 0 eo dr lf lm lq lt = some (nI s2, nI e2, rk k2, v2, nI d, nI s2, dr, lf, lm, lq, lt) := by
          unfold f_X10_readLink_b100
          rw [if_pos rfl, d0, q2, bd7_s]
          exact r124 _ _ _ _ _ _ _ _ _ w3
        rw [hh2]
        rcases hd with rfl | rfl
        · rw [if_neg (fun u => kk1 rfl ((rk_2 t2.2.2.2.1).mp u))]; exact w100
        · obtain ⟨u1, x, u2, u3, u4⟩ := kk2 rfl
          rw [if_pos ((rk_2 t2.2.2.2.1).mpr u1), if_pos (by rw [u2]; exact (nI_leI (by omega) (by omega)).mpr (by omega))]
          exact w100
    · rw [c1, bd5_s]
      have s1n : s1 ≤ n := Nat.le_trans t1.2.1 t1.2.2.1
      obtain ⟨w1, w2, w3⟩ := fin d s1 (by omega) (by omega) s1n
      obtain ⟨a', c', e9, e91, w4⟩ := lk_n2_f (F := F) (G := G) (L := L) (mM := mM) (mP := mP) (tk := nI k1) (st := nI s1) h t1.2.2.1 w1 w2 hG hF r
      refine .inr ⟨d, s1, e9, a', c', nI s1, nI e1, rk k1, v1, by omega, by omega, s1n, e91, w4, fun eo => ?_⟩
      rw [hhead, q1, bd7_s, if_neg w3]
  · obtain ⟨w1, w2, w3⟩ := fin 4 s (by omega) (by omega) hs
    obtain ⟨a', c', e9, e91, w4⟩ := lk17_f (F := F) (G := G) (L := L) (mM := mM) (mP := mP) (tk := tk5) (st := nI s) h he w1 w2 hG hF
    refine .inr ⟨4, s, e9, a', c', nI s, nI e, tk, v, by omega, by omega, hs, e91, ?_, fun eo => ?_⟩
    · unfold f_X5_readLink
      rw [if_neg (show ¬ nI L < (24 : Int32) from fun u => hL24 ((nI_ltI (b := 24) (by omega) (by omega)).mp u)), show f_X5_fail F 4 0 (nI s) = some (nI (8 * s + 4)) from fl_0 (d := 4), bd1_s]
      exact w4
    · unfold f_X10_readLink
      rw [d1, beg_0 (m' := 24) (m := 24) rfl (by omega) (by omega), bd7_s, if_pos rfl]
      rfl
end
