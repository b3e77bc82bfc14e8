/-! the statements class, tag, window, confidence, fee -/
section
variable {F n e s e' k C T' : Nat} {b : Nat → Nat} {tx bf dr : Nat → Int32} {v eo tk : Int32}
theorem fin_f {d s1 : Nat} (h : n ≤ 900) (g1 : 1 ≤ d) (g2 : d ≤ 4) (g3 : s1 ≤ n) : 8 * s1 + d ≠ 0 ∧ 8 * s1 + d < 2 ^ 31 ∧ ¬ nI d = (0 : Int32) := ⟨by omega, by omega, nI_nz (by omega) (by omega)⟩
/-- the classes of the network that is being read -/
def CLR (C : Nat) (ca' cp' ca cp : Nat → Int32) : Prop := C ≤ 4 ∧ ∀ k, k < C → ca' k = ca (4 + k) ∧ cp' k = cp (4 + k) ∧ ∃ a, 2 ≤ a ∧ a ≤ 9 ∧ ca' k = nI a
theorem CLR.add {ca' cp' ca cp : Nat → Int32} {a p : Nat} (h : CLR C ca' cp' ca cp) (hC : C < 4) (a1 : 2 ≤ a) (a2 : a ≤ 9) : CLR (C + 1) (upd ca' C (nI a)) (upd cp' C (nI p)) (upd ca (4 + C) (nI a)) (upd cp (4 + C) (nI p)) := by
  refine ⟨by omega, fun k hk => ?_⟩
  rw [upd_off, upd_off, upd_at, upd_at]
  by_cases e : k = C
  · rw [if_pos e, if_pos e, if_pos e, if_pos e]; exact ⟨rfl, rfl, a, a1, a2, rfl⟩
  · rw [if_neg e, if_neg e, if_neg e, if_neg e]; exact h.2 k (by omega)
theorem cl_n2_f {f : Nat} {ca' cp' : Nat → Int32} {tk st : Int32} (h : TXT n b tx bf) (he : e ≤ n) (hf : f ≠ 0) (hf2 : f < 2 ^ 31) (hF : 2000 ≤ F) (r3 : Int32) : ∃ a c e', e' ≤ n ∧ (bd5 (f_X5_readNumber F 1 900 (nI n) (nI f) tk st (nI e) tx) fun r9 o10 o11 o12 o13 => if o10 = 0 then bd3 (f_X4_addClass F r3 r9 (nI C) ca' cp') fun o16 o17 o18 => f_X5_readClass_b61 F (nI n) tx o10 o11 o12 o13 o16 o17 o18 else f_X5_readClass_b61 F (nI n) tx o10 o11 o12 o13 (nI C) ca' cp') = some (nI f, a, c, nI e', nI C, ca', cp') := by
  obtain ⟨r, k, s, e', e1, w⟩ := num_f h he hf hf2 1 900 hF
  refine ⟨nI k, nI s, e', e1, ?_⟩
  rw [w, bd5_s, if_neg (nI_nz hf hf2)]
  rfl
theorem lca_v {ca' cp' ca cp : Nat → Int32} (h : CLR C ca' cp' ca cp) : ∃ r, f_X4_lastClassAxles F (nI C) ca' = some r ∧ ((C = 0 ∧ r = 0) ∨ (∃ a, C ≠ 0 ∧ 2 ≤ a ∧ a ≤ 9 ∧ r = nI a ∧ ca (4 + (C - 1)) = nI a)) := by
  by_cases c0 : C = 0
  · subst c0
    exact ⟨0, by simp (disch := omega) only [f_X4_lastClassAxles, f_X4_lastClassAxles_b22, ll_le, ll_lt, ll_eq, lr_le, lr_lt, lr_eq, ll_add, lr_add, ll_mul, lr_mul, nI_add, pk_mul, nI_leI, nI_ltI, nI_eq, ll_sub, pk_sub, lm_add, rd_n, rd_l, wr_n, wr_l, lm_ne, lm_ne', lm_lt, lm_le, m1_lt, m1_le, m1_le0, m1_lt0, m1_0, m1_0', l1_0, gd_0, gd_1, gd_T, or_true, true_or, false_or, or_false, nle_T, nle_F, nlt_T, nlt_F, neq_T, neq_F, ↓reduceIte, ne_eq, not_true_eq_false, not_false_eq_true, bd1_s, bd2_s, bd3_s, bd4_s, bd5_s, bd6_s, bd7_s, bd8_s, bd9_s, bd10_s, bd11_s, bd12_s, bd13_s, bd14_s, bd15_s, bd16_s, bd17_s, bd18_s, bd19_s, bd20_s, bd21_s, bd22_s, bd23_s, bd24_s, bd25_s], .inl ⟨rfl, rfl⟩⟩
  · obtain ⟨g1, g2, a, a1, a2, a3⟩ := h.2 (C - 1) (by omega)
    have hC := h.1
    refine ⟨nI a, ?_, .inr ⟨a, c0, a1, a2, rfl, g1.symm.trans a3⟩⟩
    simp (disch := omega) only [f_X4_lastClassAxles, f_X4_lastClassAxles_b22, a3, ll_le, ll_lt, ll_eq, lr_le, lr_lt, lr_eq, ll_add, lr_add, ll_mul, lr_mul, nI_add, pk_mul, nI_leI, nI_ltI, nI_eq, ll_sub, pk_sub, lm_add, rd_n, rd_l, wr_n, wr_l, lm_ne, lm_ne', lm_lt, lm_le, m1_lt, m1_le, m1_le0, m1_lt0, m1_0, m1_0', l1_0, gd_0, gd_1, gd_T, or_true, true_or, false_or, or_false, nle_T, nle_F, nlt_T, nlt_F, neq_T, neq_F, ↓reduceIte, ne_eq, not_true_eq_false, not_false_eq_true, bd1_s, bd2_s, bd3_s, bd4_s, bd5_s, bd6_s, bd7_s, bd8_s, bd9_s, bd10_s, bd11_s, bd12_s, bd13_s, bd14_s, bd15_s, bd16_s, bd17_s, bd18_s, bd19_s, bd20_s, bd21_s, bd22_s, bd23_s, bd24_s, bd25_s]
theorem st_class {ca' cp' ca cp : Nat → Int32} (h : TXT n b tx bf) (he : e ≤ n) (hs : s ≤ n) (hd : dr 2 = nI C) (hK : CLR C ca' cp' ca cp) (hF : 2000 ≤ F) (tk5 : Int32) :
    (∃ (C' : Nat) (tk' st' : Int32) (e2 s2 e3 k2 : Nat) (v2 : Int32) (xa' xp' xa xp : Nat → Int32), f_X5_readClass F (nI n) 0 tk5 (nI s) (nI e) (nI C) ca' cp' tx = some (0, tk', st', nI e2, nI C', xa', xp') ∧ (∀ eo, f_X10_readClass F (nI n) (nI s) (nI e) tk v 0 eo bf ca cp dr = some (nI s2, nI e3, rk k2, v2, 0, eo, xa, xp, upd dr 2 (nI C'))) ∧ TOK F n tx e2 s2 e3 k2 v2 ∧ e ≤ e2 ∧ CLR C' xa' xp' xa xp ∧ ∀ k, k < 4 → xa k = ca k ∧ xp k = cp k) ∨
    (∃ (d s1 e2 : Nat) (tk' st' ts te tk2 v2 : Int32), 1 ≤ d ∧ d ≤ 4 ∧ s1 ≤ n ∧ e2 ≤ n ∧ f_X5_readClass F (nI n) 0 tk5 (nI s) (nI e) (nI C) ca' cp' tx = some (nI (8 * s1 + d), tk', st', nI e2, nI C, ca', cp') ∧ ∀ eo, f_X10_readClass F (nI n) (nI s) (nI e) tk v 0 eo bf ca cp dr = some (ts, te, tk2, v2, nI d, nI s1, ca, cp, dr)) := by
  have h1 := h.1
  have hC := hK.1
  have d2 : ∀ {β : Type} (k : Int32 → Option β), rd dr 7 2 k = k (nI C) := fun k => by rw [show (2 : Int32) = nI 2 from rfl, rd_n (by decide) (by decide), hd]
  have n10 : ¬ (1 : Int32) = 0 := by decide
  have r73 : ∀ (d : Nat) (x1 x2 s0 ts te tk2 v2 : Int32) (s1 : Nat), ¬ nI d = (0 : Int32) → f_X10_readClass_b73 F (nI n) bf x1 x2 s0 ts te tk2 v2 (nI d) (nI s1) ca cp dr = some (ts, te, tk2, v2, nI d, nI s1, ca, cp, dr) := fun d x1 x2 s0 ts te tk2 v2 s1 w => by
    unfold f_X10_readClass_b73; rw [if_neg w]
  obtain ⟨rl, l1, l2⟩ := lca_v (F := F) hK
  -- the lower bound
  obtain ⟨lo, lo1, lo2, hlo⟩ : ∃ lo, 2 ≤ lo ∧ lo ≤ 10 ∧ (if (2 : Int32) < (rl + 1) then (rl + 1) else (2 : Int32)) = nI lo ∧ ((C = 0 ∧ lo = 2) ∨ (C ≠ 0 ∧ ca (4 + (C - 1)) + 1 = nI lo)) := by
    rcases l2 with ⟨c0, rfl⟩ | ⟨a, c0, a1, a2, rfl, a4⟩
    · exact ⟨2, by omega, by omega, by decide, .inl ⟨c0, rfl⟩⟩
    · refine ⟨a + 1, by omega, by omega, ?_, .inr ⟨c0, by rw [a4]; exact nI_add a 1⟩⟩
      have : nI a + 1 = nI (a + 1) := nI_add a 1
      rw [this, if_pos (show (2 : Int32) < nI (a + 1) from (nI_ltI (a := 2) (by omega) (by omega)).mpr (by omega))]
  obtain ⟨hlo, hlo2⟩ := hlo
  by_cases hL : C < 4
  · obtain ⟨s1, e1, k1, v1, b1, t1⟩ := beg_1 (s := s) (v := v) (m' := 4) (m := 4) (tk := tk) (c := C) h he rfl hL (by omega) hF
    have hhead : ∀ eo, f_X10_readClass F (nI n) (nI s) (nI e) tk v 0 eo bf ca cp dr = f_X10_readClass_b48 F (nI n) bf (4 + nI C) (nI lo) (nI s1) (nI e1) (rk k1) v1 0 eo ca cp dr := fun eo => by
      unfold f_X10_readClass
      rw [d2, b1, bd7_s, if_neg n10, d2, d2]
      rcases hlo2 with ⟨c0, rfl⟩ | ⟨c0, c1⟩
      · subst c0
        rw [if_pos (show nI 0 = (0 : Int32) from rfl)]
        rfl
      · rw [if_neg (nI_nz c0 (by omega))]
        have e4 : (4 : Int32) + nI C - 1 = nI (4 + (C - 1)) := by
          rw [lr_add, show 4 + (C - 1) = 4 + C - 1 by omega]
          exact pk_sub (show 1 ≤ 4 + C by omega)
        rw [e4, rd_n (by omega) (by decide), c1]
    have chead : f_X5_readClass F (nI n) 0 tk5 (nI s) (nI e) (nI C) ca' cp' tx = bd5 (f_X5_readNumber F (nI lo) 9 (nI n) 0 tk5 (nI s) (nI e) tx) fun r3 o4 o5 o6 o7 => bd5 (f_X5_readNumber F 1 900 (nI n) o4 o5 o6 o7 tx) fun r9 o10 o11 o12 o13 => if o10 = 0 then bd3 (f_X4_addClass F r3 r9 (nI C) ca' cp') fun o16 o17 o18 => f_X5_readClass_b61 F (nI n) tx o10 o11 o12 o13 o16 o17 o18 else f_X5_readClass_b61 F (nI n) tx o10 o11 o12 o13 (nI C) ca' cp' := by
      unfold f_X5_readClass f_X5_readClass_b16
      rw [if_pos (show nI C < (4 : Int32) from (nI_ltI (b := 4) (by omega) (by omega)).mpr hL), l1, bd1_s, hlo]
    rw [chead]
    have s1n : s1 ≤ n := Nat.le_trans t1.2.1 t1.2.2.1
    rcases num_both (L := nI lo) (H := 9) (lo := lo) (hi := 9) h t1 rfl rfl (by omega) (by omega) hF with ⟨a, s2, e2, k2, v2, a1, a2, c1, q1, t2, -, -⟩ | ⟨r, d, hd', c1, q1, -, -⟩
    · rw [c1, bd5_s]
      have hh2 : ∀ eo, f_X10_readClass F (nI n) (nI s) (nI e) tk v 0 eo bf ca cp dr = bd7 (f_X10_number F 1 900 (nI n) (nI s2) (nI e2) (rk k2) v2 0 eo bf) fun r15 o16 o17 o18 o19 o20 o21 => f_X10_readClass_b73 F (nI n) bf (4 + nI C) (nI a) r15 o16 o17 o18 o19 o20 o21 ca cp dr := fun eo => by
        rw [hhead]
        unfold f_X10_readClass_b48
        rw [q1, bd7_s, if_pos rfl]
      have s2n : s2 ≤ n := Nat.le_trans t2.2.1 t2.2.2.1
      rcases num_both (L := 1) (H := 900) (lo := 1) (hi := 900) h t2 rfl rfl (by omega) (by omega) hF with ⟨p, s3, e3, k3, v3, p1, p2, c2, q2, t3, -, -⟩ | ⟨r, d, hd', c2, q2, -, -⟩
      · rw [c2, bd5_s]
        have hal : f_X4_addClass F (nI a) (nI p) (nI C) ca' cp' = some (nI (C + 1), upd ca' C (nI a), upd cp' C (nI p)) := by
          simp (disch := omega) only [f_X4_addClass, f_X4_addClass_b38, ll_le, ll_lt, ll_eq, lr_le, lr_lt, lr_eq, ll_add, lr_add, ll_mul, lr_mul, nI_add, pk_mul, nI_leI, nI_ltI, nI_eq, ll_sub, pk_sub, lm_add, rd_n, rd_l, wr_n, wr_l, lm_ne, lm_ne', lm_lt, lm_le, m1_lt, m1_le, m1_le0, m1_lt0, m1_0, m1_0', l1_0, gd_0, gd_1, gd_T, or_true, true_or, false_or, or_false, nle_T, nle_F, nlt_T, nlt_F, neq_T, neq_F, ↓reduceIte, ne_eq, not_true_eq_false, not_false_eq_true, bd1_s, bd2_s, bd3_s, bd4_s, bd5_s, bd6_s, bd7_s, bd8_s, bd9_s, bd10_s, bd11_s, bd12_s, bd13_s, bd14_s, bd15_s, bd16_s, bd17_s, bd18_s, bd19_s, bd20_s, bd21_s, bd22_s, bd23_s, bd24_s, bd25_s]
        refine .inl ⟨C + 1, nI 2, nI s2, e2, s3, e3, k3, v3, _, _, _, _, ?_, fun eo => ?_, t3, ?_, CLR.add (p := p) hK hL (by omega) a2, fun k hk => by rw [upd_at, upd_at, if_neg (by omega), if_neg (by omega)]; exact ⟨rfl, rfl⟩⟩
        · rw [if_pos rfl, hal, bd3_s]
          rfl
        · rw [hh2, q2, bd7_s]
          unfold f_X10_readClass_b73
          rw [if_pos rfl, lr_add, wr_n (by omega) (by decide), wr_n (by omega) (by decide), d2, show (2 : Int32) = nI 2 from rfl, wr_n (by decide) (by decide), show nI C + 1 = nI (C + 1) from nI_add C 1]
        · have := t1.1; have := t1.2.1; have := t2.1; have := t2.2.1
          omega
      · rw [c2, bd5_s]
        obtain ⟨w1, w2, w3⟩ := fin_f (d := d) (s1 := s2) h1 (by omega) (by omega) s2n
        refine .inr ⟨d, s2, e2, nI k2, nI s2, nI s2, nI e2, rk k2, v2, by omega, by omega, s2n, t2.2.2.1, ?_, fun eo => ?_⟩
        · rw [if_neg (nI_nz w1 w2)]
          rfl
        · rw [hh2, q2, bd7_s]
          exact r73 _ _ _ _ _ _ _ _ _ w3
    · rw [c1, bd5_s]
      obtain ⟨w1, w2, w3⟩ := fin_f (d := d) (s1 := s1) h1 (by omega) (by omega) s1n
      obtain ⟨a', c', e9, e91, w4⟩ := cl_n2_f (F := F) (C := C) (ca' := ca') (cp' := cp') (tk := nI k1) (st := nI s1) h t1.2.2.1 w1 w2 hF r
      refine .inr ⟨d, s1, e9, a', c', nI s1, nI e1, rk k1, v1, by omega, by omega, s1n, e91, w4, fun eo => ?_⟩
      rw [hhead]
      unfold f_X10_readClass_b48
      rw [q1, bd7_s, if_neg w3]
      exact r73 _ _ _ _ _ _ _ _ _ w3
  · obtain ⟨w1, w2, w3⟩ := fin_f (d := 4) (s1 := s) h1 (by omega) (by omega) hs
    obtain ⟨r, k, s9, e9, e91, w⟩ := num_f h he w1 w2 (nI lo) 9 hF
    obtain ⟨a', c', e8, e81, w4⟩ := cl_n2_f (F := F) (C := C) (ca' := ca') (cp' := cp') (tk := nI k) (st := nI s9) h e91 w1 w2 hF r
    refine .inr ⟨4, s, e8, a', c', nI s, nI e, tk, v, by omega, by omega, hs, e81, ?_, fun eo => ?_⟩
    · unfold f_X5_readClass f_X5_readClass_b16
      rw [if_neg (show ¬ nI C < (4 : Int32) from fun u => hL ((nI_ltI (b := 4) (by omega) (by omega)).mp u)), show f_X5_fail F 4 0 (nI s) = some (nI (8 * s + 4)) from fl_0 (d := 4), bd1_s, l1, bd1_s, hlo, w, bd5_s]
      exact w4
    · unfold f_X10_readClass
      rw [d2, beg_0 (m' := 4) (m := 4) rfl (by omega) (by omega), bd7_s, if_pos rfl]
      rfl
/-- the tags of the network that is being read -/
def TGR (T : Nat) (tp' ta' tp ta : Nat → Int32) : Prop := TW T (fun k => tp (12 + k)) ∧ ∀ k, k < T → tp' k = tp (12 + k) ∧ ta' k = ta (12 + k)
theorem TGR.add {T a p : Nat} {tp' ta' tp ta : Nat → Int32} (h : TGR T tp' ta' tp ta) (hT : T < 12) (p1 : 1 ≤ p) (p2 : p ≤ 9999) (hn : tw T (fun k => tp (12 + k)) (nI p) = none) : TGR (T + 1) (upd tp' T (nI p)) (upd ta' T (nI a)) (upd tp (12 + T) (nI p)) (upd ta (12 + T) (nI a)) := by
  obtain ⟨⟨h0, h1, h2⟩, h3⟩ := h
  have hn' := tw_none hn
  refine ⟨⟨by omega, fun k hk => ?_, fun i j hij hj => ?_⟩, fun k hk => ?_⟩
  · dsimp only
    rw [upd_off]
    by_cases e : k = T
    · rw [if_pos e]; exact ⟨p, p1, p2, rfl⟩
    · rw [if_neg e]; exact h1 k (by omega)
  · dsimp only
    rw [upd_off, upd_off, if_neg (by omega)]
    by_cases e : j = T
    · rw [if_pos e]; exact hn' i (by omega)
    · rw [if_neg e]; exact h2 i j hij (by omega)
  · rw [upd_off, upd_off, upd_at, upd_at]
    by_cases e : k = T
    · rw [if_pos e, if_pos e, if_pos e, if_pos e]; exact ⟨rfl, rfl⟩
    · rw [if_neg e, if_neg e, if_neg e, if_neg e]; exact h3 k (by omega)
theorem ipl_v {T : Nat} {tp : Nat → Int32} (x : Int32) (hd : dr 3 = nI T) (hT : T ≤ 12) (hF : 2000 ≤ F) : f_X10_isPlated F x dr tp = some (match tw T (fun k => tp (12 + k)) x with | some _ => 1 | none => 0) := by
  unfold f_X10_isPlated f_X10_isPlated_L2
  cases e : tw T (fun k => tp (12 + k)) x with
  | some k =>
    obtain ⟨k1, k2, k3⟩ := tw_some e
    refine lp_at (fun i => (x, nI i)) k (by omega) rfl (fun i hi q => ?_) (fun q => ?_)
    · have := k3 i hi
      simp (disch := omega) only [f_X10_isPlated_h2, hd, this, ll_le, ll_lt, ll_eq, lr_le, lr_lt, lr_eq, ll_add, lr_add, ll_mul, lr_mul, nI_add, pk_mul, nI_leI, nI_ltI, nI_eq, ll_sub, pk_sub, lm_add, rd_n, rd_l, wr_n, wr_l, lm_ne, lm_ne', lm_lt, lm_le, m1_lt, m1_le, m1_le0, m1_lt0, m1_0, m1_0', l1_0, gd_0, gd_1, gd_T, or_true, true_or, false_or, or_false, nle_T, nle_F, nlt_T, nlt_F, neq_T, neq_F, ↓reduceIte, ne_eq, not_true_eq_false, not_false_eq_true, bd1_s, bd2_s, bd3_s, bd4_s, bd5_s, bd6_s, bd7_s, bd8_s, bd9_s, bd10_s, bd11_s, bd12_s, bd13_s, bd14_s, bd15_s, bd16_s, bd17_s, bd18_s, bd19_s, bd20_s, bd21_s, bd22_s, bd23_s, bd24_s, bd25_s]
    · simp (disch := omega) only [f_X10_isPlated_h2, hd, k2, ll_le, ll_lt, ll_eq, lr_le, lr_lt, lr_eq, ll_add, lr_add, ll_mul, lr_mul, nI_add, pk_mul, nI_leI, nI_ltI, nI_eq, ll_sub, pk_sub, lm_add, rd_n, rd_l, wr_n, wr_l, lm_ne, lm_ne', lm_lt, lm_le, m1_lt, m1_le, m1_le0, m1_lt0, m1_0, m1_0', l1_0, gd_0, gd_1, gd_T, or_true, true_or, false_or, or_false, nle_T, nle_F, nlt_T, nlt_F, neq_T, neq_F, ↓reduceIte, ne_eq, not_true_eq_false, not_false_eq_true, bd1_s, bd2_s, bd3_s, bd4_s, bd5_s, bd6_s, bd7_s, bd8_s, bd9_s, bd10_s, bd11_s, bd12_s, bd13_s, bd14_s, bd15_s, bd16_s, bd17_s, bd18_s, bd19_s, bd20_s, bd21_s, bd22_s, bd23_s, bd24_s, bd25_s]
  | none =>
    have k3 := tw_none e
    refine lp_at (fun i => (x, nI i)) T (by omega) rfl (fun i hi q => ?_) (fun q => ?_)
    · have := k3 i hi
      simp (disch := omega) only [f_X10_isPlated_h2, hd, this, ll_le, ll_lt, ll_eq, lr_le, lr_lt, lr_eq, ll_add, lr_add, ll_mul, lr_mul, nI_add, pk_mul, nI_leI, nI_ltI, nI_eq, ll_sub, pk_sub, lm_add, rd_n, rd_l, wr_n, wr_l, lm_ne, lm_ne', lm_lt, lm_le, m1_lt, m1_le, m1_le0, m1_lt0, m1_0, m1_0', l1_0, gd_0, gd_1, gd_T, or_true, true_or, false_or, or_false, nle_T, nle_F, nlt_T, nlt_F, neq_T, neq_F, ↓reduceIte, ne_eq, not_true_eq_false, not_false_eq_true, bd1_s, bd2_s, bd3_s, bd4_s, bd5_s, bd6_s, bd7_s, bd8_s, bd9_s, bd10_s, bd11_s, bd12_s, bd13_s, bd14_s, bd15_s, bd16_s, bd17_s, bd18_s, bd19_s, bd20_s, bd21_s, bd22_s, bd23_s, bd24_s, bd25_s]
    · simp (disch := omega) only [f_X10_isPlated_h2, hd, ll_le, ll_lt, ll_eq, lr_le, lr_lt, lr_eq, ll_add, lr_add, ll_mul, lr_mul, nI_add, pk_mul, nI_leI, nI_ltI, nI_eq, ll_sub, pk_sub, lm_add, rd_n, rd_l, wr_n, wr_l, lm_ne, lm_ne', lm_lt, lm_le, m1_lt, m1_le, m1_le0, m1_lt0, m1_0, m1_0', l1_0, gd_0, gd_1, gd_T, or_true, true_or, false_or, or_false, nle_T, nle_F, nlt_T, nlt_F, neq_T, neq_F, ↓reduceIte, ne_eq, not_true_eq_false, not_false_eq_true, bd1_s, bd2_s, bd3_s, bd4_s, bd5_s, bd6_s, bd7_s, bd8_s, bd9_s, bd10_s, bd11_s, bd12_s, bd13_s, bd14_s, bd15_s, bd16_s, bd17_s, bd18_s, bd19_s, bd20_s, bd21_s, bd22_s, bd23_s, bd24_s, bd25_s]
theorem tg43_f {T f : Nat} {ta' tp' : Nat → Int32} {tk st : Int32} (h : TXT n b tx bf) (he : e ≤ n) (hf : f ≠ 0) (hf2 : f < 2 ^ 31) (hF : 2000 ≤ F) (x1 : Int32) : ∃ a c e', e' ≤ n ∧ f_X5_readTagStatement_b43 F (nI n) tx x1 (nI f) tk st (nI e) (nI T) ta' tp' = some (nI f, a, c, nI e', nI T, ta', tp') := by
  obtain ⟨r, k, s, e', e1, w⟩ := num_f h he hf hf2 2 9 hF
  refine ⟨nI k, nI s, e', e1, ?_⟩
  unfold f_X5_readTagStatement_b43
  rw [w, bd5_s, if_neg (nI_nz hf hf2)]
  rfl
theorem tgc_f {T f : Nat} {ta' tp' : Nat → Int32} {tk st : Int32} (h : TXT n b tx bf) (he : e ≤ n) (hf : f ≠ 0) (hf2 : f < 2 ^ 31) (hT : T ≤ 12) (hF : 2000 ≤ F) (r12 : Int32) : ∃ a c e', e' ≤ n ∧ (bd1 (f_X4_tagWithPlate F r12 (nI T) tp') fun r18 => if r18 = (-1) then f_X5_readTagStatement_b43 F (nI n) tx r12 (nI f) tk st (nI e) (nI T) ta' tp' else bd1 (f_X5_fail F 3 (nI f) st) fun o21 => f_X5_readTagStatement_b43 F (nI n) tx r12 o21 tk st (nI e) (nI T) ta' tp') = some (nI f, a, c, nI e', nI T, ta', tp') := by
  obtain ⟨a, c, e', e1, w⟩ := tg43_f (F := F) (T := T) (ta' := ta') (tp' := tp') (tk := tk) (st := st) h he hf hf2 hF r12
  refine ⟨a, c, e', e1, ?_⟩
  rw [twp_v r12 tp' hT (by omega), bd1_s, fl_f hf hf2, bd1_s, w]
  split <;> rfl
theorem st_tag {T : Nat} {ta' tp' ta tp : Nat → Int32} (h : TXT n b tx bf) (he : e ≤ n) (hs : s ≤ n) (hd : dr 3 = nI T) (hK : TGR T tp' ta' tp ta) (hF : 2000 ≤ F) (tk5 : Int32) :
    (∃ (T2 : Nat) (tk' st' : Int32) (e2 s2 e3 k2 : Nat) (v2 : Int32) (xa' xp' xa xp : Nat → Int32), f_X5_readTagStatement F (nI n) 0 tk5 (nI s) (nI e) (nI T) ta' tp' tx = some (0, tk', st', nI e2, nI T2, xa', xp') ∧ (∀ eo, f_X10_readTagLine F (nI n) (nI s) (nI e) tk v 0 eo bf dr ta tp = some (nI s2, nI e3, rk k2, v2, 0, eo, upd dr 3 (nI T2), xa, xp)) ∧ TOK F n tx e2 s2 e3 k2 v2 ∧ e ≤ e2 ∧ TGR T2 xp' xa' xp xa ∧ ∀ k, k < 12 → xp k = tp k ∧ xa k = ta k) ∨
    (∃ (d s1 e2 : Nat) (tk' st' ts te tk2 v2 : Int32), 1 ≤ d ∧ d ≤ 4 ∧ s1 ≤ n ∧ e2 ≤ n ∧ f_X5_readTagStatement F (nI n) 0 tk5 (nI s) (nI e) (nI T) ta' tp' tx = some (nI (8 * s1 + d), tk', st', nI e2, nI T, ta', tp') ∧ ∀ eo, f_X10_readTagLine F (nI n) (nI s) (nI e) tk v 0 eo bf dr ta tp = some (ts, te, tk2, v2, nI d, nI s1, dr, ta, tp)) := by
  have h1 := h.1
  have hT := hK.1.1
  have hF1 : 100 ≤ F := by omega
  have d3 : ∀ {β : Type} (k : Int32 → Option β), rd dr 7 3 k = k (nI T) := fun k => by rw [show (3 : Int32) = nI 3 from rfl, rd_n (by decide) (by decide), hd]
  have n10 : ¬ (1 : Int32) = 0 := by decide
  have r109 : ∀ (d : Nat) (x1 x2 s0 ts te tk2 v2 : Int32) (s1 : Nat), ¬ nI d = (0 : Int32) → f_X10_readTagLine_b109 F (nI n) bf x1 x2 s0 ts te tk2 v2 (nI d) (nI s1) dr ta tp = some (ts, te, tk2, v2, nI d, nI s1, dr, ta, tp) := fun d x1 x2 s0 ts te tk2 v2 s1 w => by
    unfold f_X10_readTagLine_b109; rw [if_neg w]
  have r90 : ∀ (d : Nat) (x1 s0 ts te tk2 v2 : Int32) (s1 : Nat), ¬ nI d = (0 : Int32) → f_X10_readTagLine_b90 F (nI n) bf x1 s0 ts te tk2 v2 (nI d) (nI s1) dr ta tp = some (ts, te, tk2, v2, nI d, nI s1, dr, ta, tp) := fun d x1 s0 ts te tk2 v2 s1 w => by
    unfold f_X10_readTagLine_b90; rw [if_neg w]; exact r109 _ _ _ _ _ _ _ _ _ w
  have r71 : ∀ (d : Nat) (x1 ts te tk2 v2 : Int32) (s1 : Nat), ¬ nI d = (0 : Int32) → f_X10_readTagLine_b71 F (nI n) bf x1 ts te tk2 v2 (nI d) (nI s1) dr ta tp = some (ts, te, tk2, v2, nI d, nI s1, dr, ta, tp) := fun d x1 ts te tk2 v2 s1 w => by
    unfold f_X10_readTagLine_b71; rw [if_neg w]; exact r90 _ _ _ _ _ _ _ _ w
  by_cases hL : T < 12
  · obtain ⟨s1, e1, k1, v1, b1, t1⟩ := beg_1 (s := s) (v := v) (m' := 12) (m := 12) (tk := tk) (c := T) h he rfl hL (by omega) hF
    have hhead : ∀ eo, f_X10_readTagLine F (nI n) (nI s) (nI e) tk v 0 eo bf dr ta tp = if rk k1 = 2 then (bd1 (f_X10_within F v1.toInt64 1 9999) fun r40 => if r40 = 0 then f_X10_readTagLine_b71 F (nI n) bf (12 + nI T) (nI s1) (nI e1) (rk k1) v1 0 eo dr ta tp else bd1 (f_X10_isPlated F v1 dr tp) fun r43 => if r43 = 0 then f_X10_readTagLine_b66 F (nI n) bf (12 + nI T) 1 (nI s1) (nI e1) (rk k1) v1 0 eo dr ta tp else f_X10_readTagLine_b66 F (nI n) bf (12 + nI T) 0 (nI s1) (nI e1) (rk k1) v1 0 eo dr ta tp) else f_X10_readTagLine_b71 F (nI n) bf (12 + nI T) (nI s1) (nI e1) (rk k1) v1 0 eo dr ta tp := fun eo => by
      unfold f_X10_readTagLine
      rw [d3, b1, bd7_s, if_neg n10, d3]
    have chead : f_X5_readTagStatement F (nI n) 0 tk5 (nI s) (nI e) (nI T) ta' tp' tx = f_X5_readTagStatement_b17 F (nI n) tx 0 tk5 (nI s) (nI e) (nI T) ta' tp' := by
      unfold f_X5_readTagStatement
      rw [if_pos (show nI T < (12 : Int32) from (nI_ltI (b := 12) (by omega) (by omega)).mpr hL)]
    rw [chead]
    unfold f_X5_readTagStatement_b17
    have s1n : s1 ≤ n := Nat.le_trans t1.2.1 t1.2.2.1
    rcases num_both (L := 1) (H := 9999) (lo := 1) (hi := 9999) h t1 rfl rfl (by omega) (by omega) hF with ⟨p, s2, e2, k2, v2, p1, p2, c1, q1, t2, kk1, vv1⟩ | ⟨r, d, hd', c1, q1, kk1, kk2⟩
    · subst kk1 vv1
      rw [c1, bd5_s, twp_v (nI p) tp' hT hF1, bd1_s, tw_congr (nI p) (fun k hk => (hK.2 k hk).1)]
      have wi : f_X10_within F (nI p).toInt64 1 9999 = some 1 := wi_1 (lo := 1) (hi := 9999) p1 p2 (by omega)
      have ers : rk 2 = 2 := by decide
      cases etw : tw T (fun k => tp (12 + k)) (nI p) with
      | some j =>
        have hj := (tw_some etw).1
        obtain ⟨w1, w2, w3⟩ := fin_f (d := 3) (s1 := s1) h1 (by omega) (by omega) s1n
        obtain ⟨a', c', e9, e91, w4⟩ := tg43_f (F := F) (T := T) (ta' := ta') (tp' := tp') (tk := nI 2) (st := nI s1) h t1.2.2.1 w1 w2 hF (nI p)
        refine .inr ⟨3, s1, e9, a', c', nI s1, nI e1, rk 2, nI p, by omega, by omega, s1n, e91, ?_, fun eo => ?_⟩
        · rw [if_neg (show ¬ oI (some j) = -1 from nI_nm (by omega)), show f_X5_fail F 3 0 (nI s1) = some (nI (8 * s1 + 3)) from fl_0 (d := 3), bd1_s]
          exact w4
        · rw [hhead, ers, if_pos rfl, wi, bd1_s, if_neg n10, ipl_v (nI p) hd hT hF, etw]
          dsimp only
          rw [bd1_s, if_neg n10]
          unfold f_X10_readTagLine_b66
          rw [mu_0 (by decide), bd3_s]
          exact r71 3 _ _ _ _ _ _ w3
      | none =>
        rw [if_pos (show oI none = -1 from rfl)]
        have hh2 : ∀ eo, f_X10_readTagLine F (nI n) (nI s) (nI e) tk v 0 eo bf dr ta tp = bd7 (f_X10_number F 2 9 (nI n) (nI s2) (nI e2) (rk k2) v2 0 eo bf) fun r7 o8 o9 o10 o11 o12 o13 => f_X10_readTagLine_b109 F (nI n) bf (12 + nI T) (nI p) r7 o8 o9 o10 o11 o12 o13 dr ta tp := fun eo => by
          rw [hhead, ers, if_pos rfl, wi, bd1_s, if_neg n10, ipl_v (nI p) hd hT hF, etw]
          dsimp only
          rw [bd1_s, if_pos rfl]
          unfold f_X10_readTagLine_b66
          rw [mu_1, bd3_s]
          unfold f_X10_readTagLine_b71
          have q1' := q1 eo
          rw [ers] at q1'
          rw [if_pos rfl, q1', bd7_s]
          unfold f_X10_readTagLine_b90
          rw [if_pos rfl]
        unfold f_X5_readTagStatement_b43
        have s2n : s2 ≤ n := Nat.le_trans t2.2.1 t2.2.2.1
        rcases num_both (L := 2) (H := 9) (lo := 2) (hi := 9) h t2 rfl rfl (by omega) (by omega) hF with ⟨a, s3, e3, k3, v3, a1, a2, c2, q2, t3, -, -⟩ | ⟨r, d, hd', c2, q2, -, -⟩
        · rw [c2, bd5_s]
          have hal : f_X4_addTag F (nI p) (nI a) (nI T) ta' tp' = some (nI (T + 1), upd ta' T (nI a), upd tp' T (nI p)) := by
            simp (disch := omega) only [f_X4_addTag, f_X4_addTag_b39, ll_le, ll_lt, ll_eq, lr_le, lr_lt, lr_eq, ll_add, lr_add, ll_mul, lr_mul, nI_add, pk_mul, nI_leI, nI_ltI, nI_eq, ll_sub, pk_sub, lm_add, rd_n, rd_l, wr_n, wr_l, lm_ne, lm_ne', lm_lt, lm_le, m1_lt, m1_le, m1_le0, m1_lt0, m1_0, m1_0', l1_0, gd_0, gd_1, gd_T, or_true, true_or, false_or, or_false, nle_T, nle_F, nlt_T, nlt_F, neq_T, neq_F, ↓reduceIte, ne_eq, not_true_eq_false, not_false_eq_true, bd1_s, bd2_s, bd3_s, bd4_s, bd5_s, bd6_s, bd7_s, bd8_s, bd9_s, bd10_s, bd11_s, bd12_s, bd13_s, bd14_s, bd15_s, bd16_s, bd17_s, bd18_s, bd19_s, bd20_s, bd21_s, bd22_s, bd23_s, bd24_s, bd25_s]
          refine .inl ⟨T + 1, nI 2, nI s2, e2, s3, e3, k3, v3, _, _, _, _, ?_, fun eo => ?_, t3, ?_, TGR.add (a := a) hK hL p1 p2 etw, fun k hk => by rw [upd_at, upd_at, if_neg (by omega), if_neg (by omega)]; exact ⟨rfl, rfl⟩⟩
          · rw [if_pos rfl, hal, bd3_s]
            rfl
          · rw [hh2, q2, bd7_s]
            unfold f_X10_readTagLine_b109
            rw [if_pos rfl, lr_add, wr_n (by omega) (by decide), wr_n (by omega) (by decide), d3, show (3 : Int32) = nI 3 from rfl, wr_n (by decide) (by decide), show nI T + 1 = nI (T + 1) from nI_add T 1]
          · have := t1.1; have := t1.2.1; have := t2.1; have := t2.2.1
            omega
        · rw [c2, bd5_s]
          obtain ⟨w1, w2, w3⟩ := fin_f (d := d) (s1 := s2) h1 (by omega) (by omega) s2n
          refine .inr ⟨d, s2, e2, nI k2, nI s2, nI s2, nI e2, rk k2, v2, by omega, by omega, s2n, t2.2.2.1, ?_, fun eo => ?_⟩
          · rw [if_neg (nI_nz w1 w2)]
            rfl
          · rw [hh2, q2, bd7_s]
            exact r109 _ _ _ _ _ _ _ _ _ w3
    · rw [c1, bd5_s]
      obtain ⟨w1, w2, w3⟩ := fin_f (d := d) (s1 := s1) h1 (by omega) (by omega) s1n
      obtain ⟨a', c', e9, e91, w4⟩ := tgc_f (F := F) (T := T) (ta' := ta') (tp' := tp') (tk := nI k1) (st := nI s1) h t1.2.2.1 w1 w2 hT hF r
      refine .inr ⟨d, s1, e9, a', c', nI s1, nI e1, rk k1, v1, by omega, by omega, s1n, e91, w4, fun eo => ?_⟩
      have w71 : f_X10_readTagLine_b71 F (nI n) bf (12 + nI T) (nI s1) (nI e1) (rk k1) v1 0 eo dr ta tp = some (nI s1, nI e1, rk k1, v1, nI d, nI s1, dr, ta, tp) := by
        unfold f_X10_readTagLine_b71
        rw [if_pos rfl, q1, bd7_s]
        exact r90 _ _ _ _ _ _ _ _ w3
      rw [hhead]
      rcases hd' with rfl | rfl
      · rw [if_neg (fun u => kk1 rfl ((rk_2 t1.2.2.2.1).mp u))]; exact w71
      · obtain ⟨u1, x, u2, u3, u4⟩ := kk2 rfl
        have wi : f_X10_within F v1.toInt64 1 9999 = some 0 := by rw [u2]; exact wi_0 (lo := 1) (hi := 9999) (by omega) (by omega) (by omega) (by omega)
        rw [if_pos ((rk_2 t1.2.2.2.1).mpr u1), wi, bd1_s, if_pos rfl]
        exact w71
  · obtain ⟨w1, w2, w3⟩ := fin_f (d := 4) (s1 := s) h1 (by omega) (by omega) hs
    obtain ⟨r, k, s9, e9, e91, w⟩ := num_f h he w1 w2 1 9999 hF
    obtain ⟨a', c', e8, e81, w4⟩ := tgc_f (F := F) (T := T) (ta' := ta') (tp' := tp') (tk := nI k) (st := nI s9) h e91 w1 w2 hT hF r
    refine .inr ⟨4, s, e8, a', c', nI s, nI e, tk, v, by omega, by omega, hs, e81, ?_, fun eo => ?_⟩
    · unfold f_X5_readTagStatement f_X5_readTagStatement_b17
      rw [if_neg (show ¬ nI T < (12 : Int32) from fun u => hL ((nI_ltI (b := 12) (by omega) (by omega)).mp u)), show f_X5_fail F 4 0 (nI s) = some (nI (8 * s + 4)) from fl_0 (d := 4), bd1_s, w, bd5_s]
      exact w4
    · unfold f_X10_readTagLine
      rw [d3, beg_0 (m' := 12) (m := 12) rfl (by omega) (by omega), bd7_s, if_pos rfl]
      rfl
/-! settings: given once -/
def GVR (gv ws cs fs : Int32) : Prop := ∃ a b c, a < 2 ∧ b < 2 ∧ c < 2 ∧ gv = nI (a + 2 * b + 4 * c) ∧ ws = nI a ∧ cs = nI b ∧ fs = nI c
theorem gv_t0 : ∀ a, a < 2 → ∀ b, b < 2 → ∀ c, c < 2 → ((nI (a + 2 * b + 4 * c) >>> ((0 : Int32) &&& 31)) &&& 1) = nI a ∧ (nI (a + 2 * b + 4 * c) ||| ((1 : Int32) <<< ((0 : Int32) &&& 31))) = nI (1 + 2 * b + 4 * c) := by decide
theorem gv_t1 : ∀ a, a < 2 → ∀ b, b < 2 → ∀ c, c < 2 → ((nI (a + 2 * b + 4 * c) >>> ((1 : Int32) &&& 31)) &&& 1) = nI b ∧ (nI (a + 2 * b + 4 * c) ||| ((1 : Int32) <<< ((1 : Int32) &&& 31))) = nI (a + 2 * 1 + 4 * c) := by decide
theorem gv_t2 : ∀ a, a < 2 → ∀ b, b < 2 → ∀ c, c < 2 → ((nI (a + 2 * b + 4 * c) >>> ((2 : Int32) &&& 31)) &&& 1) = nI c ∧ (nI (a + 2 * b + 4 * c) ||| ((1 : Int32) <<< ((2 : Int32) &&& 31))) = nI (a + 2 * b + 4 * 1) := by decide
theorem st_Window {q : Nat} {gv sn x0 : Int32} (h : TXT n b tx bf) (he : e ≤ n) (hs : s ≤ n) (hq : q < 2) (hsn : sn = nI q) (hg : ((gv >>> ((0 : Int32) &&& 31)) &&& 1) = nI q) (hF : 2000 ≤ F) (tk5 : Int32) :
    (∃ (x : Nat) (tk' st' : Int32) (e2 s2 e3 k2 : Nat) (v2 : Int32), 0 ≤ x ∧ x ≤ 10 ∧ f_X5_readWindow F (nI n) 0 tk5 (nI s) (nI e) sn x0 tx = some (0, tk', st', nI e2, 1, nI x) ∧ (∀ eo, f_X10_once F 0 0 10 (nI n) (nI s) (nI e) tk v 0 eo gv bf = some (nI x, nI s2, nI e3, rk k2, v2, (0 : Int32), eo, (gv ||| ((1 : Int32) <<< ((0 : Int32) &&& 31)) : Int32))) ∧ TOK F n tx e2 s2 e3 k2 v2 ∧ e ≤ e2) ∨
    (∃ (d s1 e2 : Nat) (tk' st' ts te tk2 v2 x' y' g' : Int32), 1 ≤ d ∧ d ≤ 4 ∧ s1 ≤ n ∧ e2 ≤ n ∧ f_X5_readWindow F (nI n) 0 tk5 (nI s) (nI e) sn x0 tx = some (nI (8 * s1 + d), tk', st', nI e2, 1, x') ∧ ∀ eo, f_X10_once F 0 0 10 (nI n) (nI s) (nI e) tk v 0 eo gv bf = some (y', ts, te, tk2, v2, nI d, nI s1, g')) := by
  have h1 := h.1
  subst hsn
  unfold f_X5_readWindow f_X5_readWindow_b12 f_X10_once f_X10_once_b17
  rw [hg]
  by_cases q0 : q = 0
  · subst q0
    rw [if_pos (show nI 0 = (0 : Int32) from rfl)]
    obtain ⟨s1, e1, k1, v1, w1, t1⟩ := tok h he hF (nI s) tk v
    have s1n : s1 ≤ n := Nat.le_trans t1.2.1 t1.2.2.1
    rcases num_both (L := 0) (H := 10) (lo := 0) (hi := 10) h t1 rfl rfl (by omega) (by omega) hF with ⟨x, s2, e2, k2, v2, x1, x2, c1, q1, t2, -, -⟩ | ⟨r, d, hd', c1, q1, -, -⟩
    · refine .inl ⟨x, nI 2, nI s1, e1, s2, e2, k2, v2, x1, x2, ?_, fun eo => ?_, t2, ?_⟩
      · rw [c1, bd5_s]
      · rw [if_pos (show nI 0 = (0 : Int32) from rfl), mu_1, bd3_s, if_pos rfl, w1, bd4_s, q1, bd7_s]
      · have := t1.1; have := t1.2.1
        omega
    · obtain ⟨y1, y2, y3⟩ := fin_f (d := d) (s1 := s1) h1 (by omega) (by omega) s1n
      refine .inr ⟨d, s1, e1, nI k1, nI s1, nI s1, nI e1, rk k1, v1, r, 0, (gv ||| ((1 : Int32) <<< ((0 : Int32) &&& 31)) : Int32), by omega, by omega, s1n, t1.2.2.1, ?_, fun eo => ?_⟩
      · rw [c1, bd5_s]
      · rw [if_pos (show nI 0 = (0 : Int32) from rfl), mu_1, bd3_s, if_pos rfl, w1, bd4_s, q1, bd7_s]
  · have q1 : ¬ nI q = (0 : Int32) := nI_nz q0 (by omega)
    obtain ⟨y1, y2, y3⟩ := fin_f (d := 3) (s1 := s) h1 (by omega) (by omega) hs
    obtain ⟨r, k, s9, e9, e91, w⟩ := num_f h he y1 y2 0 10 hF
    refine .inr ⟨3, s, e9, nI k, nI s9, nI s, nI e, tk, v, r, 0, (gv ||| ((1 : Int32) <<< ((0 : Int32) &&& 31)) : Int32), by omega, by omega, hs, e91, ?_, fun eo => ?_⟩
    · rw [if_neg q1, show f_X5_fail F 3 0 (nI s) = some (nI (8 * s + 3)) from fl_0 (d := 3), bd1_s, w, bd5_s]
    · rw [if_neg q1, mu_0 (by decide), bd3_s, if_neg (by decide)]
      rfl
theorem st_Confidence {q : Nat} {gv sn x0 : Int32} (h : TXT n b tx bf) (he : e ≤ n) (hs : s ≤ n) (hq : q < 2) (hsn : sn = nI q) (hg : ((gv >>> ((1 : Int32) &&& 31)) &&& 1) = nI q) (hF : 2000 ≤ F) (tk5 : Int32) :
    (∃ (x : Nat) (tk' st' : Int32) (e2 s2 e3 k2 : Nat) (v2 : Int32), 1 ≤ x ∧ x ≤ 300 ∧ f_X5_readConfidence F (nI n) 0 tk5 (nI s) (nI e) sn x0 tx = some (0, tk', st', nI e2, 1, nI x) ∧ (∀ eo, f_X10_once F 1 1 300 (nI n) (nI s) (nI e) tk v 0 eo gv bf = some (nI x, nI s2, nI e3, rk k2, v2, (0 : Int32), eo, (gv ||| ((1 : Int32) <<< ((1 : Int32) &&& 31)) : Int32))) ∧ TOK F n tx e2 s2 e3 k2 v2 ∧ e ≤ e2) ∨
    (∃ (d s1 e2 : Nat) (tk' st' ts te tk2 v2 x' y' g' : Int32), 1 ≤ d ∧ d ≤ 4 ∧ s1 ≤ n ∧ e2 ≤ n ∧ f_X5_readConfidence F (nI n) 0 tk5 (nI s) (nI e) sn x0 tx = some (nI (8 * s1 + d), tk', st', nI e2, 1, x') ∧ ∀ eo, f_X10_once F 1 1 300 (nI n) (nI s) (nI e) tk v 0 eo gv bf = some (y', ts, te, tk2, v2, nI d, nI s1, g')) := by
  have h1 := h.1
  subst hsn
  unfold f_X5_readConfidence f_X5_readConfidence_b12 f_X10_once f_X10_once_b17
  rw [hg]
  by_cases q0 : q = 0
  · subst q0
    rw [if_pos (show nI 0 = (0 : Int32) from rfl)]
    obtain ⟨s1, e1, k1, v1, w1, t1⟩ := tok h he hF (nI s) tk v
    have s1n : s1 ≤ n := Nat.le_trans t1.2.1 t1.2.2.1
    rcases num_both (L := 1) (H := 300) (lo := 1) (hi := 300) h t1 rfl rfl (by omega) (by omega) hF with ⟨x, s2, e2, k2, v2, x1, x2, c1, q1, t2, -, -⟩ | ⟨r, d, hd', c1, q1, -, -⟩
    · refine .inl ⟨x, nI 2, nI s1, e1, s2, e2, k2, v2, x1, x2, ?_, fun eo => ?_, t2, ?_⟩
      · rw [c1, bd5_s]
      · rw [if_pos (show nI 0 = (0 : Int32) from rfl), mu_1, bd3_s, if_pos rfl, w1, bd4_s, q1, bd7_s]
      · have := t1.1; have := t1.2.1
        omega
    · obtain ⟨y1, y2, y3⟩ := fin_f (d := d) (s1 := s1) h1 (by omega) (by omega) s1n
      refine .inr ⟨d, s1, e1, nI k1, nI s1, nI s1, nI e1, rk k1, v1, r, 0, (gv ||| ((1 : Int32) <<< ((1 : Int32) &&& 31)) : Int32), by omega, by omega, s1n, t1.2.2.1, ?_, fun eo => ?_⟩
      · rw [c1, bd5_s]
      · rw [if_pos (show nI 0 = (0 : Int32) from rfl), mu_1, bd3_s, if_pos rfl, w1, bd4_s, q1, bd7_s]
  · have q1 : ¬ nI q = (0 : Int32) := nI_nz q0 (by omega)
    obtain ⟨y1, y2, y3⟩ := fin_f (d := 3) (s1 := s) h1 (by omega) (by omega) hs
    obtain ⟨r, k, s9, e9, e91, w⟩ := num_f h he y1 y2 1 300 hF
    refine .inr ⟨3, s, e9, nI k, nI s9, nI s, nI e, tk, v, r, 0, (gv ||| ((1 : Int32) <<< ((1 : Int32) &&& 31)) : Int32), by omega, by omega, hs, e91, ?_, fun eo => ?_⟩
    · rw [if_neg q1, show f_X5_fail F 3 0 (nI s) = some (nI (8 * s + 3)) from fl_0 (d := 3), bd1_s, w, bd5_s]
    · rw [if_neg q1, mu_0 (by decide), bd3_s, if_neg (by decide)]
      rfl
theorem st_Fee {q : Nat} {gv sn x0 : Int32} (h : TXT n b tx bf) (he : e ≤ n) (hs : s ≤ n) (hq : q < 2) (hsn : sn = nI q) (hg : ((gv >>> ((2 : Int32) &&& 31)) &&& 1) = nI q) (hF : 2000 ≤ F) (tk5 : Int32) :
    (∃ (x : Nat) (tk' st' : Int32) (e2 s2 e3 k2 : Nat) (v2 : Int32), 0 ≤ x ∧ x ≤ 5000 ∧ f_X5_readFee F (nI n) 0 tk5 (nI s) (nI e) sn x0 tx = some (0, tk', st', nI e2, 1, nI x) ∧ (∀ eo, f_X10_once F 2 0 5000 (nI n) (nI s) (nI e) tk v 0 eo gv bf = some (nI x, nI s2, nI e3, rk k2, v2, (0 : Int32), eo, (gv ||| ((1 : Int32) <<< ((2 : Int32) &&& 31)) : Int32))) ∧ TOK F n tx e2 s2 e3 k2 v2 ∧ e ≤ e2) ∨
    (∃ (d s1 e2 : Nat) (tk' st' ts te tk2 v2 x' y' g' : Int32), 1 ≤ d ∧ d ≤ 4 ∧ s1 ≤ n ∧ e2 ≤ n ∧ f_X5_readFee F (nI n) 0 tk5 (nI s) (nI e) sn x0 tx = some (nI (8 * s1 + d), tk', st', nI e2, 1, x') ∧ ∀ eo, f_X10_once F 2 0 5000 (nI n) (nI s) (nI e) tk v 0 eo gv bf = some (y', ts, te, tk2, v2, nI d, nI s1, g')) := by
  have h1 := h.1
  subst hsn
  unfold f_X5_readFee f_X5_readFee_b12 f_X10_once f_X10_once_b17
  rw [hg]
  by_cases q0 : q = 0
  · subst q0
    rw [if_pos (show nI 0 = (0 : Int32) from rfl)]
    obtain ⟨s1, e1, k1, v1, w1, t1⟩ := tok h he hF (nI s) tk v
    have s1n : s1 ≤ n := Nat.le_trans t1.2.1 t1.2.2.1
    rcases num_both (L := 0) (H := 5000) (lo := 0) (hi := 5000) h t1 rfl rfl (by omega) (by omega) hF with ⟨x, s2, e2, k2, v2, x1, x2, c1, q1, t2, -, -⟩ | ⟨r, d, hd', c1, q1, -, -⟩
    · refine .inl ⟨x, nI 2, nI s1, e1, s2, e2, k2, v2, x1, x2, ?_, fun eo => ?_, t2, ?_⟩
      · rw [c1, bd5_s]
      · rw [if_pos (show nI 0 = (0 : Int32) from rfl), mu_1, bd3_s, if_pos rfl, w1, bd4_s, q1, bd7_s]
      · have := t1.1; have := t1.2.1
        omega
    · obtain ⟨y1, y2, y3⟩ := fin_f (d := d) (s1 := s1) h1 (by omega) (by omega) s1n
      refine .inr ⟨d, s1, e1, nI k1, nI s1, nI s1, nI e1, rk k1, v1, r, 0, (gv ||| ((1 : Int32) <<< ((2 : Int32) &&& 31)) : Int32), by omega, by omega, s1n, t1.2.2.1, ?_, fun eo => ?_⟩
      · rw [c1, bd5_s]
      · rw [if_pos (show nI 0 = (0 : Int32) from rfl), mu_1, bd3_s, if_pos rfl, w1, bd4_s, q1, bd7_s]
  · have q1 : ¬ nI q = (0 : Int32) := nI_nz q0 (by omega)
    obtain ⟨y1, y2, y3⟩ := fin_f (d := 3) (s1 := s) h1 (by omega) (by omega) hs
    obtain ⟨r, k, s9, e9, e91, w⟩ := num_f h he y1 y2 0 5000 hF
    refine .inr ⟨3, s, e9, nI k, nI s9, nI s, nI e, tk, v, r, 0, (gv ||| ((1 : Int32) <<< ((2 : Int32) &&& 31)) : Int32), by omega, by omega, hs, e91, ?_, fun eo => ?_⟩
    · rw [if_neg q1, show f_X5_fail F 3 0 (nI s) = some (nI (8 * s + 3)) from fl_0 (d := 3), bd1_s, w, bd5_s]
    · rw [if_neg q1, mu_0 (by decide), bd3_s, if_neg (by decide)]
      rfl
end
