/-! a billing is entered, on both sides -/
def spl (f g : Nat → Int32) (a n k : Nat) : Int32 := if a ≤ k ∧ k < a + n then g (k - a) else f k
theorem spl_s (f g : Nat → Int32) (a i : Nat) : upd (spl f g a i) (a + i) (g i) = spl f g a (i + 1) := by
  funext k
  rw [upd_at]
  unfold spl
  by_cases e : k = a + i
  · rw [if_pos e, if_pos (by omega), e, Nat.add_sub_cancel_left]
  · rw [if_neg e]
    by_cases h : a ≤ k ∧ k < a + i
    · rw [if_pos h, if_pos (by omega)]
    · rw [if_neg h, if_neg (by omega)]
theorem spl_0 (f g : Nat → Int32) (a : Nat) : spl f g a 0 = f := by
  funext k
  unfold spl
  rw [if_neg (by omega)]
theorem spl_lo {f g : Nat → Int32} {a n k : Nat} (h : k < a) : spl f g a n k = f k := if_neg (by omega)
theorem spl_hi {f g : Nat → Int32} {a n i : Nat} (h : i < n) : spl f g a n (a + i) = g i := by
  unfold spl
  rw [if_pos (by omega), Nat.add_sub_cancel_left]
def mk1 (f tr g : Nat → Int32) (i p : Nat) : Int32 := if p < i ∧ tr p ≠ -1 then g p else f p
theorem mk1_0 (f tr g : Nat → Int32) : mk1 f tr g 0 = f := by
  funext k
  unfold mk1
  rw [if_neg (by omega)]
theorem mk1_n {f tr g : Nat → Int32} {i : Nat} (h : tr i = -1) : mk1 f tr g (i + 1) = mk1 f tr g i := by
  funext k
  unfold mk1
  by_cases e : k = i
  · subst e; rw [if_neg (fun w => w.2 h), if_neg (fun w => w.2 h)]
  · by_cases h2 : k < i ∧ tr k ≠ -1
    · rw [if_pos h2, if_pos ⟨by omega, h2.2⟩]
    · rw [if_neg h2, if_neg (fun w => h2 ⟨by omega, w.2⟩)]
theorem mk1_s {f tr g : Nat → Int32} {i : Nat} (h : ¬ tr i = -1) : upd (mk1 f tr g i) i (g i) = mk1 f tr g (i + 1) := by
  funext k
  rw [upd_at]
  unfold mk1
  by_cases e : k = i
  · subst e; rw [if_pos rfl, if_pos ⟨by omega, h⟩]
  · rw [if_neg e]
    by_cases h2 : k < i ∧ tr k ≠ -1
    · rw [if_pos h2, if_pos ⟨by omega, h2.2⟩]
    · rw [if_neg h2, if_neg (fun w => h2 ⟨by omega, w.2⟩)]
theorem ent_v {F tN iN tN0 vN0 c : Nat} {ip tr ce cn tI tl am iv pd pa pl sb vc st tq : Nat → Int32} (ht : tN0 + tN ≤ 80) (hi : vN0 + iN ≤ 40) (hc : c ≤ 80) (hF : 100 ≤ F) :
    f_X0_enter F (nI tN) (nI iN) ip tr ce cn tI tl (nI tN0) (nI vN0) am iv pd pa pl sb vc (nI c) st tq = some (nI (tN0 + tN), nI (vN0 + iN), spl am ce tN0 tN, spl iv (fun t => nI vN0 + tI t) tN0 tN, spl pd (fun _ => 0) vN0 iN, spl pa tl tN0 tN, spl pl ip vN0 iN, spl sb (fun _ => 0) tN0 tN, spl vc cn tN0 tN, mk1 st tr (fun _ => 1) c, mk1 tq tr (fun p => nI tN0 + tr p) c) := by
  unfold f_X0_enter f_X0_enter_L19
  refine lp_at (fun i => (nI vN0, nI tN0, nI i, nI tN0, nI (vN0 + i), am, iv, spl pd (fun _ => 0) vN0 i, pa, spl pl ip vN0 i, sb, vc, st, tq)) iN (by omega) (by rw [spl_0, spl_0]; rfl) (fun i hi' k => ?_) (fun k => ?_)
  · have s1 := spl_s pd (fun _ => 0) vN0 i
    have s2 := spl_s pl ip vN0 i
    try dsimp only at s1
    simp (disch := omega) only [f_X0_enter_h19, f_X1_addInvoice, f_X1_addInvoice_b39, s1, s2, Nat.add_assoc, ll_le, ll_lt, ll_eq, lr_le, lr_lt, lr_eq, ll_add, lr_add, ll_mul, lr_mul, nI_add, pk_mul, nI_leI, nI_ltI, nI_eq, ll_sub, pk_sub, lm_add, rd_n, rd_l, wr_n, wr_l, lm_ne, lm_ne', lm_lt, lm_le, m1_lt, m1_le, m1_le0, m1_lt0, m1_0, m1_0', l1_0, gd_0, gd_1, gd_T, or_true, true_or, false_or, or_false, nle_T, nle_F, nlt_T, nlt_F, neq_T, neq_F, ↓reduceIte, ne_eq, not_true_eq_false, not_false_eq_true, bd1_s, bd2_s, bd3_s, bd4_s, bd5_s, bd6_s, bd7_s, bd8_s, bd9_s, bd10_s, bd11_s, bd12_s, bd13_s, bd14_s, bd15_s, bd16_s, bd17_s, bd18_s, bd19_s, bd20_s, bd21_s, bd22_s, bd23_s, bd24_s, bd25_s]
  · simp (disch := omega) only [f_X0_enter_h19, ll_le, ll_lt, ll_eq, lr_le, lr_lt, lr_eq, ll_add, lr_add, ll_mul, lr_mul, nI_add, pk_mul, nI_leI, nI_ltI, nI_eq, ll_sub, pk_sub, lm_add, rd_n, rd_l, wr_n, wr_l, lm_ne, lm_ne', lm_lt, lm_le, m1_lt, m1_le, m1_le0, m1_lt0, m1_0, m1_0', l1_0, gd_0, gd_1, gd_T, or_true, true_or, false_or, or_false, nle_T, nle_F, nlt_T, nlt_F, neq_T, neq_F, ↓reduceIte, ne_eq, not_true_eq_false, not_false_eq_true, bd1_s, bd2_s, bd3_s, bd4_s, bd5_s, bd6_s, bd7_s, bd8_s, bd9_s, bd10_s, bd11_s, bd12_s, bd13_s, bd14_s, bd15_s, bd16_s, bd17_s, bd18_s, bd19_s, bd20_s, bd21_s, bd22_s, bd23_s, bd24_s, bd25_s]
    unfold f_X0_enter_L51
    refine lp_at (fun t => (nI vN0, nI tN0, nI t, nI (tN0 + t), nI (vN0 + iN), spl am ce tN0 t, spl iv (fun t => nI vN0 + tI t) tN0 t, spl pd (fun _ => 0) vN0 iN, spl pa tl tN0 t, spl pl ip vN0 iN, spl sb (fun _ => 0) tN0 t, spl vc cn tN0 t, st, tq)) tN (by omega) (by rw [spl_0, spl_0, spl_0, spl_0, spl_0]; rfl) (fun t ht' k => ?_) (fun k => ?_)
    · have s1 := spl_s am ce tN0 t
      have s2 := spl_s iv (fun t => nI vN0 + tI t) tN0 t
      have s3 := spl_s pa tl tN0 t
      have s4 := spl_s sb (fun _ => 0) tN0 t
      have s5 := spl_s vc cn tN0 t
      try dsimp only at s2 s4
      simp (disch := omega) only [f_X0_enter_h51, f_X1_addTrip, f_X1_addTrip_b70, s1, s2, s3, s4, s5, Nat.add_assoc, ll_le, ll_lt, ll_eq, lr_le, lr_lt, lr_eq, ll_add, lr_add, ll_mul, lr_mul, nI_add, pk_mul, nI_leI, nI_ltI, nI_eq, ll_sub, pk_sub, lm_add, rd_n, rd_l, wr_n, wr_l, lm_ne, lm_ne', lm_lt, lm_le, m1_lt, m1_le, m1_le0, m1_lt0, m1_0, m1_0', l1_0, gd_0, gd_1, gd_T, or_true, true_or, false_or, or_false, nle_T, nle_F, nlt_T, nlt_F, neq_T, neq_F, ↓reduceIte, ne_eq, not_true_eq_false, not_false_eq_true, bd1_s, bd2_s, bd3_s, bd4_s, bd5_s, bd6_s, bd7_s, bd8_s, bd9_s, bd10_s, bd11_s, bd12_s, bd13_s, bd14_s, bd15_s, bd16_s, bd17_s, bd18_s, bd19_s, bd20_s, bd21_s, bd22_s, bd23_s, bd24_s, bd25_s]
    · simp (disch := omega) only [f_X0_enter_h51, ll_le, ll_lt, ll_eq, lr_le, lr_lt, lr_eq, ll_add, lr_add, ll_mul, lr_mul, nI_add, pk_mul, nI_leI, nI_ltI, nI_eq, ll_sub, pk_sub, lm_add, rd_n, rd_l, wr_n, wr_l, lm_ne, lm_ne', lm_lt, lm_le, m1_lt, m1_le, m1_le0, m1_lt0, m1_0, m1_0', l1_0, gd_0, gd_1, gd_T, or_true, true_or, false_or, or_false, nle_T, nle_F, nlt_T, nlt_F, neq_T, neq_F, ↓reduceIte, ne_eq, not_true_eq_false, not_false_eq_true, bd1_s, bd2_s, bd3_s, bd4_s, bd5_s, bd6_s, bd7_s, bd8_s, bd9_s, bd10_s, bd11_s, bd12_s, bd13_s, bd14_s, bd15_s, bd16_s, bd17_s, bd18_s, bd19_s, bd20_s, bd21_s, bd22_s, bd23_s, bd24_s, bd25_s]
      unfold f_X0_enter_L106
      refine lp_at (fun p => (nI tN0, nI p, nI (tN0 + tN), nI (vN0 + iN), spl am ce tN0 tN, spl iv (fun t => nI vN0 + tI t) tN0 tN, spl pd (fun _ => 0) vN0 iN, spl pa tl tN0 tN, spl pl ip vN0 iN, spl sb (fun _ => 0) tN0 tN, spl vc cn tN0 tN, mk1 st tr (fun _ => 1) p, mk1 tq tr (fun p => nI tN0 + tr p) p)) c (by omega) (by rw [mk1_0, mk1_0]; rfl) (fun p hp' k => ?_) (fun k => ?_)
      · by_cases c1 : tr p = -1
        · have s1 := mk1_n (f := st) (g := fun _ => 1) c1
          have s2 := mk1_n (f := tq) (g := fun p => nI tN0 + tr p) c1
          simp (disch := omega) only [f_X0_enter_h106, f_X0_enter_b159, c1, s1, s2, ll_le, ll_lt, ll_eq, lr_le, lr_lt, lr_eq, ll_add, lr_add, ll_mul, lr_mul, nI_add, pk_mul, nI_leI, nI_ltI, nI_eq, ll_sub, pk_sub, lm_add, rd_n, rd_l, wr_n, wr_l, lm_ne, lm_ne', lm_lt, lm_le, m1_lt, m1_le, m1_le0, m1_lt0, m1_0, m1_0', l1_0, gd_0, gd_1, gd_T, or_true, true_or, false_or, or_false, nle_T, nle_F, nlt_T, nlt_F, neq_T, neq_F, ↓reduceIte, ne_eq, not_true_eq_false, not_false_eq_true, bd1_s, bd2_s, bd3_s, bd4_s, bd5_s, bd6_s, bd7_s, bd8_s, bd9_s, bd10_s, bd11_s, bd12_s, bd13_s, bd14_s, bd15_s, bd16_s, bd17_s, bd18_s, bd19_s, bd20_s, bd21_s, bd22_s, bd23_s, bd24_s, bd25_s]
        · have s1 := mk1_s (f := st) (g := fun _ => 1) c1
          have s2 := mk1_s (f := tq) (g := fun p => nI tN0 + tr p) c1
          try dsimp only at s1 s2
          simp (disch := omega) only [f_X0_enter_h106, f_X0_enter_b159, c1, s1, s2, ll_le, ll_lt, ll_eq, lr_le, lr_lt, lr_eq, ll_add, lr_add, ll_mul, lr_mul, nI_add, pk_mul, nI_leI, nI_ltI, nI_eq, ll_sub, pk_sub, lm_add, rd_n, rd_l, wr_n, wr_l, lm_ne, lm_ne', lm_lt, lm_le, m1_lt, m1_le, m1_le0, m1_lt0, m1_0, m1_0', l1_0, gd_0, gd_1, gd_T, or_true, true_or, false_or, or_false, nle_T, nle_F, nlt_T, nlt_F, neq_T, neq_F, ↓reduceIte, ne_eq, not_true_eq_false, not_false_eq_true, bd1_s, bd2_s, bd3_s, bd4_s, bd5_s, bd6_s, bd7_s, bd8_s, bd9_s, bd10_s, bd11_s, bd12_s, bd13_s, bd14_s, bd15_s, bd16_s, bd17_s, bd18_s, bd19_s, bd20_s, bd21_s, bd22_s, bd23_s, bd24_s, bd25_s]
      · simp (disch := omega) only [f_X0_enter_h106, ll_le, ll_lt, ll_eq, lr_le, lr_lt, lr_eq, ll_add, lr_add, ll_mul, lr_mul, nI_add, pk_mul, nI_leI, nI_ltI, nI_eq, ll_sub, pk_sub, lm_add, rd_n, rd_l, wr_n, wr_l, lm_ne, lm_ne', lm_lt, lm_le, m1_lt, m1_le, m1_le0, m1_lt0, m1_0, m1_0', l1_0, gd_0, gd_1, gd_T, or_true, true_or, false_or, or_false, nle_T, nle_F, nlt_T, nlt_F, neq_T, neq_F, ↓reduceIte, ne_eq, not_true_eq_false, not_false_eq_true, bd1_s, bd2_s, bd3_s, bd4_s, bd5_s, bd6_s, bd7_s, bd8_s, bd9_s, bd10_s, bd11_s, bd12_s, bd13_s, bd14_s, bd15_s, bd16_s, bd17_s, bd18_s, bd19_s, bd20_s, bd21_s, bd22_s, bd23_s, bd24_s, bd25_s]
theorem sp_v {F p k : Nat} {x : Int32} {S : Nat → Int32} (hp : p < 80) (hk : k < 25) : f_X10_setPassage F (nI p) (nI k) x S = some (upd S (4 + 25 * p + k) x) := by simp (disch := omega) only [f_X10_setPassage, ll_le, ll_lt, ll_eq, lr_le, lr_lt, lr_eq, ll_add, lr_add, ll_mul, lr_mul, nI_add, pk_mul, nI_leI, nI_ltI, nI_eq, ll_sub, pk_sub, lm_add, rd_n, rd_l, wr_n, wr_l, lm_ne, lm_ne', lm_lt, lm_le, m1_lt, m1_le, m1_le0, m1_lt0, m1_0, m1_0', l1_0, gd_0, gd_1, gd_T, or_true, true_or, false_or, or_false, nle_T, nle_F, nlt_T, nlt_F, neq_T, neq_F, ↓reduceIte, ne_eq, not_true_eq_false, not_false_eq_true, bd1_s, bd2_s, bd3_s, bd4_s, bd5_s, bd6_s, bd7_s, bd8_s, bd9_s, bd10_s, bd11_s, bd12_s, bd13_s, bd14_s, bd15_s, bd16_s, bd17_s, bd18_s, bd19_s, bd20_s, bd21_s, bd22_s, bd23_s, bd24_s, bd25_s]
theorem sp_l {F p k : Nat} {x : Int32} {S : Nat → Int32} (hp : p < 80) (hk : (OfNat.ofNat k : Nat) < 25) : f_X10_setPassage F (nI p) (no_index (OfNat.ofNat k)) x S = some (upd S (4 + 25 * p + OfNat.ofNat k) x) := sp_v hp hk
/-- the reference's state, step by step -/
def bS1 (S tf : Nat → Int32) (x : Int32) : Nat → Nat → Int32
  | 0 => S
  | p + 1 => if 0 ≤ tf p then upd (upd (bS1 S tf x p) (4 + 25 * p + 3) 1) (4 + 25 * p + 24) ((x + tf p) + 1) else bS1 S tf x p
theorem bS1_o {S tf : Nat → Int32} {x : Int32} {k : Nat} : ∀ {n : Nat}, n ≤ 80 → (k < 4 ∨ 2004 ≤ k) → bS1 S tf x n k = S k
  | 0, _, _ => rfl
  | n + 1, hn, hk => by
    have ih := bS1_o (S := S) (tf := tf) (x := x) (k := k) (n := n) (by omega) hk
    unfold bS1
    split
    · rw [upd_at, upd_at, if_neg (by omega), if_neg (by omega)]; exact ih
    · exact ih
theorem bS1_p {S tf : Nat → Int32} {x : Int32} {p w : Nat} (hw : w < 25) : ∀ {n : Nat}, bS1 S tf x n (4 + 25 * p + w) = if p < n ∧ 0 ≤ tf p ∧ w = 3 then 1 else if p < n ∧ 0 ≤ tf p ∧ w = 24 then (x + tf p) + 1 else S (4 + 25 * p + w)
  | 0 => by
    rw [if_neg (by omega), if_neg (by omega)]; rfl
  | n + 1 => by
    have ih := bS1_p (S := S) (tf := tf) (x := x) (p := p) (w := w) hw (n := n)
    unfold bS1
    by_cases hq : 0 ≤ tf n
    · rw [if_pos hq, upd_at, upd_at]
      by_cases e : p = n
      · subst e
        by_cases w3 : w = 3
        · rw [if_neg (by omega), if_pos (by omega), if_pos ⟨by omega, hq, w3⟩]
        · by_cases w24 : w = 24
          · rw [if_pos (by omega), if_neg (by omega), if_pos ⟨by omega, hq, w24⟩]
          · rw [if_neg (by omega), if_neg (by omega), ih, if_neg (by omega), if_neg (by omega), if_neg (by omega), if_neg (by omega)]
      · rw [if_neg (by omega), if_neg (by omega), ih]
        by_cases hp : p < n
        · have : p < n + 1 := by omega
          simp only [hp, this]
        · have : ¬ p < n + 1 := by omega
          simp only [hp, this]
    · rw [if_neg hq, ih]
      by_cases e : p = n
      · subst e
        rw [if_neg (by omega), if_neg (by omega), if_neg (fun w => hq w.2.1), if_neg (fun w => hq w.2.1)]
      · by_cases hp : p < n
        · have : p < n + 1 := by omega
          simp only [hp, this]
        · have : ¬ p < n + 1 := by omega
          simp only [hp, this]
def bS2 (S ni nA nC np : Nat → Int32) (x : Int32) (a : Nat) : Nat → Nat → Int32
  | 0 => S
  | t + 1 => upd (upd (upd (upd (upd (bS2 S ni nA nC np x a t) (2004 + 5 * (a + t) + 0) (x + ni t)) (2004 + 5 * (a + t) + 1) (nA t)) (2004 + 5 * (a + t) + 2) (nC t)) (2004 + 5 * (a + t) + 3) (np t)) (2004 + 5 * (a + t) + 4) 0
theorem bS2_o {S ni nA nC np : Nat → Int32} {x : Int32} {a k : Nat} : ∀ {n : Nat}, a + n ≤ 80 → (k < 2004 + 5 * a ∨ 2404 ≤ k) → bS2 S ni nA nC np x a n k = S k
  | 0, _, _ => rfl
  | n + 1, hn, hk => by
    have ih := bS2_o (S := S) (ni := ni) (nA := nA) (nC := nC) (np := np) (x := x) (a := a) (k := k) (n := n) (by omega) hk
    unfold bS2
    rw [upd_at, upd_at, upd_at, upd_at, upd_at, if_neg (by omega), if_neg (by omega), if_neg (by omega), if_neg (by omega), if_neg (by omega)]; exact ih
theorem bS2_t {S ni nA nC np : Nat → Int32} {x : Int32} {a t : Nat} : ∀ {n : Nat}, t < n → bS2 S ni nA nC np x a n (2004 + 5 * (a + t) + 0) = x + ni t ∧ bS2 S ni nA nC np x a n (2004 + 5 * (a + t) + 1) = nA t ∧ bS2 S ni nA nC np x a n (2004 + 5 * (a + t) + 2) = nC t ∧ bS2 S ni nA nC np x a n (2004 + 5 * (a + t) + 3) = np t ∧ bS2 S ni nA nC np x a n (2004 + 5 * (a + t) + 4) = 0
  | 0, h => by omega
  | n + 1, h => by
    unfold bS2
    by_cases e : t = n
    · subst e
      refine ⟨?_, ?_, ?_, ?_, ?_⟩ <;> simp (disch := omega) only [upd_at, neq_F, neq_T, ↓reduceIte]
    · obtain ⟨i1, i2, i3, i4, i5⟩ := bS2_t (S := S) (ni := ni) (nA := nA) (nC := nC) (np := np) (x := x) (a := a) (t := t) (n := n) (by omega)
      refine ⟨?_, ?_, ?_, ?_, ?_⟩
      · rw [upd_at, upd_at, upd_at, upd_at, upd_at, if_neg (by omega), if_neg (by omega), if_neg (by omega), if_neg (by omega), if_neg (by omega)]; exact i1
      · rw [upd_at, upd_at, upd_at, upd_at, upd_at, if_neg (by omega), if_neg (by omega), if_neg (by omega), if_neg (by omega), if_neg (by omega)]; exact i2
      · rw [upd_at, upd_at, upd_at, upd_at, upd_at, if_neg (by omega), if_neg (by omega), if_neg (by omega), if_neg (by omega), if_neg (by omega)]; exact i3
      · rw [upd_at, upd_at, upd_at, upd_at, upd_at, if_neg (by omega), if_neg (by omega), if_neg (by omega), if_neg (by omega), if_neg (by omega)]; exact i4
      · rw [upd_at, upd_at, upd_at, upd_at, upd_at, if_neg (by omega), if_neg (by omega), if_neg (by omega), if_neg (by omega), if_neg (by omega)]; exact i5
def bS3 (S : Nat → Int32) (T : Nat) (tp ip : Nat → Int32) (a : Nat) : Nat → Nat → Int32
  | 0 => S
  | i + 1 => upd (upd (upd (bS3 S T tp ip a i) (2404 + 3 * (a + i) + 0) (oI (tw T tp (ip i)))) (2404 + 3 * (a + i) + 1) (ip i)) (2404 + 3 * (a + i) + 2) 0
theorem bS3_o {S : Nat → Int32} {T : Nat} {tp ip : Nat → Int32} {a k : Nat} : ∀ {n : Nat}, k < 2404 + 3 * a → bS3 S T tp ip a n k = S k
  | 0, _ => rfl
  | n + 1, hk => by
    have ih := bS3_o (S := S) (T := T) (tp := tp) (ip := ip) (a := a) (k := k) (n := n) hk
    unfold bS3
    rw [upd_at, upd_at, upd_at, if_neg (by omega), if_neg (by omega), if_neg (by omega)]; exact ih
theorem bS3_i {S : Nat → Int32} {T : Nat} {tp ip : Nat → Int32} {a i : Nat} : ∀ {n : Nat}, i < n → bS3 S T tp ip a n (2404 + 3 * (a + i) + 0) = oI (tw T tp (ip i)) ∧ bS3 S T tp ip a n (2404 + 3 * (a + i) + 1) = ip i ∧ bS3 S T tp ip a n (2404 + 3 * (a + i) + 2) = 0
  | 0, h => by omega
  | n + 1, h => by
    unfold bS3
    by_cases e : i = n
    · subst e
      refine ⟨?_, ?_, ?_⟩ <;> simp (disch := omega) only [upd_at, neq_F, neq_T, ↓reduceIte]
    · obtain ⟨i1, i2, i3⟩ := bS3_i (S := S) (T := T) (tp := tp) (ip := ip) (a := a) (i := i) (n := n) (by omega)
      refine ⟨?_, ?_, ?_⟩
      · rw [upd_at, upd_at, upd_at, if_neg (by omega), if_neg (by omega), if_neg (by omega)]; exact i1
      · rw [upd_at, upd_at, upd_at, if_neg (by omega), if_neg (by omega), if_neg (by omega)]; exact i2
      · rw [upd_at, upd_at, upd_at, if_neg (by omega), if_neg (by omega), if_neg (by omega)]; exact i3
def bS (S ni nA nC np tf : Nat → Int32) (T : Nat) (tp ip : Nat → Int32) (c tN0 vN0 tN iN : Nat) : Nat → Int32 :=
  upd (upd (bS3 (bS2 (bS1 S tf (nI tN0) c) ni nA nC np (nI vN0) tN0 tN) T tp ip vN0 iN) 1 (nI (tN0 + tN))) 2 (nI (vN0 + iN))
section
variable {F T tN iN tN0 vN0 c : Nat} {bs lf lt lm lq ca cp ta tp ip tr nA nC ni np nv route tried tf S hi : Nat → Int32} {rm rc dp : Int32}
theorem bill10_v (hT : TW T tp) (hS0 : S 0 = nI c) (hS1 : S 1 = nI tN0) (hS2 : S 2 = nI vN0) (ht : tN0 + tN ≤ 80) (hi' : vN0 + iN ≤ 40) (hc : c ≤ 80) (htf : ∀ p, p < c → tf p = -1 ∨ ∃ t, t < tN ∧ tf p = nI t) (hJ : ∀ i, i < iN → JI T tp ip nv i) (hF : 100 ≤ F) :
    f_X10_bill_L65 F bs ca cp lf lm lq lt ta tp (0, 0, dp, rm, rc, nI tN, nI iN, hi, nA, nC, ni, np, nv, route, S, tried, tf) = some (nI tN, 0, dp, rm, rc, nI tN, nI iN, hi, nA, nC, ni, np, nv, route, bS S ni nA nC np tf T tp ip c tN0 vN0 tN iN, tried, tf) := by
  have hT1 := hT.1
  unfold f_X10_bill_L65
  refine lp_at (fun p => (nI p, 0, dp, rm, rc, nI tN, nI iN, hi, nA, nC, ni, np, nv, route, bS1 S tf (nI tN0) p, tried, tf)) c (by omega) rfl (fun p hp k => ?_) (fun k => ?_)
  · have o0 : bS1 S tf (nI tN0) p 0 = nI c := (bS1_o (by omega) (by omega)).trans hS0
    have o1 : bS1 S tf (nI tN0) p 1 = nI tN0 := (bS1_o (by omega) (by omega)).trans hS1
    rcases htf p hp with w | ⟨t, t1, t2⟩
    · have : bS1 S tf (nI tN0) (p + 1) = bS1 S tf (nI tN0) p := if_neg (by rw [w]; decide)
      simp (disch := omega) only [f_X10_bill_h65, f_X10_bill_b116, o0, w, this, ll_le, ll_lt, ll_eq, lr_le, lr_lt, lr_eq, ll_add, lr_add, ll_mul, lr_mul, nI_add, pk_mul, nI_leI, nI_ltI, nI_eq, ll_sub, pk_sub, lm_add, rd_n, rd_l, wr_n, wr_l, lm_ne, lm_ne', lm_lt, lm_le, m1_lt, m1_le, m1_le0, m1_lt0, m1_0, m1_0', l1_0, gd_0, gd_1, gd_T, or_true, true_or, false_or, or_false, nle_T, nle_F, nlt_T, nlt_F, neq_T, neq_F, ↓reduceIte, ne_eq, not_true_eq_false, not_false_eq_true, bd1_s, bd2_s, bd3_s, bd4_s, bd5_s, bd6_s, bd7_s, bd8_s, bd9_s, bd10_s, bd11_s, bd12_s, bd13_s, bd14_s, bd15_s, bd16_s, bd17_s, bd18_s, bd19_s, bd20_s, bd21_s, bd22_s, bd23_s, bd24_s, bd25_s]
    · have : bS1 S tf (nI tN0) (p + 1) = upd (upd (bS1 S tf (nI tN0) p) (4 + 25 * p + 3) 1) (4 + 25 * p + 24) ((nI tN0 + tf p) + 1) := if_pos (by rw [t2]; exact nI_pos' (by omega))
      rw [t2] at this
      have u1 : upd (bS1 S tf (nI tN0) p) (4 + 25 * p + 3) 1 1 = nI tN0 := by rw [upd_at, if_neg (by omega)]; exact o1
      simp (disch := omega) only [f_X10_bill_h65, f_X10_bill_b116, o0, t2, sp_l, u1, this, ll_le, ll_lt, ll_eq, lr_le, lr_lt, lr_eq, ll_add, lr_add, ll_mul, lr_mul, nI_add, pk_mul, nI_leI, nI_ltI, nI_eq, ll_sub, pk_sub, lm_add, rd_n, rd_l, wr_n, wr_l, lm_ne, lm_ne', lm_lt, lm_le, m1_lt, m1_le, m1_le0, m1_lt0, m1_0, m1_0', l1_0, gd_0, gd_1, gd_T, or_true, true_or, false_or, or_false, nle_T, nle_F, nlt_T, nlt_F, neq_T, neq_F, ↓reduceIte, ne_eq, not_true_eq_false, not_false_eq_true, bd1_s, bd2_s, bd3_s, bd4_s, bd5_s, bd6_s, bd7_s, bd8_s, bd9_s, bd10_s, bd11_s, bd12_s, bd13_s, bd14_s, bd15_s, bd16_s, bd17_s, bd18_s, bd19_s, bd20_s, bd21_s, bd22_s, bd23_s, bd24_s, bd25_s]
  · have o0 : bS1 S tf (nI tN0) c 0 = nI c := (bS1_o (by omega) (by omega)).trans hS0
    have p1 : bS1 S tf (nI tN0) c 1 = nI tN0 := (bS1_o (by omega) (by omega)).trans hS1
    have p2 : bS1 S tf (nI tN0) c 2 = nI vN0 := (bS1_o (by omega) (by omega)).trans hS2
    simp (disch := omega) only [f_X10_bill_h65, o0, ll_le, ll_lt, ll_eq, lr_le, lr_lt, lr_eq, ll_add, lr_add, ll_mul, lr_mul, nI_add, pk_mul, nI_leI, nI_ltI, nI_eq, ll_sub, pk_sub, lm_add, rd_n, rd_l, wr_n, wr_l, lm_ne, lm_ne', lm_lt, lm_le, m1_lt, m1_le, m1_le0, m1_lt0, m1_0, m1_0', l1_0, gd_0, gd_1, gd_T, or_true, true_or, false_or, or_false, nle_T, nle_F, nlt_T, nlt_F, neq_T, neq_F, ↓reduceIte, ne_eq, not_true_eq_false, not_false_eq_true, bd1_s, bd2_s, bd3_s, bd4_s, bd5_s, bd6_s, bd7_s, bd8_s, bd9_s, bd10_s, bd11_s, bd12_s, bd13_s, bd14_s, bd15_s, bd16_s, bd17_s, bd18_s, bd19_s, bd20_s, bd21_s, bd22_s, bd23_s, bd24_s, bd25_s]
    unfold bS
    generalize bS1 S tf (nI tN0) c = S1 at *
    unfold f_X10_bill_L124
    refine lp_at (fun t => (nI t, 0, dp, rm, rc, nI tN, nI iN, hi, nA, nC, ni, np, nv, route, bS2 S1 ni nA nC np (nI vN0) tN0 t, tried, tf)) tN (by omega) rfl (fun t ht' k => ?_) (fun k => ?_)
    · have o1 : bS2 S1 ni nA nC np (nI vN0) tN0 t 1 = nI tN0 := (bS2_o (by omega) (by omega)).trans p1
      have o2 : bS2 S1 ni nA nC np (nI vN0) tN0 t 2 = nI vN0 := (bS2_o (by omega) (by omega)).trans p2
      simp (disch := omega) only [f_X10_bill_h124, o1, o2, bS2, ll_le, ll_lt, ll_eq, lr_le, lr_lt, lr_eq, ll_add, lr_add, ll_mul, lr_mul, nI_add, pk_mul, nI_leI, nI_ltI, nI_eq, ll_sub, pk_sub, lm_add, rd_n, rd_l, wr_n, wr_l, lm_ne, lm_ne', lm_lt, lm_le, m1_lt, m1_le, m1_le0, m1_lt0, m1_0, m1_0', l1_0, gd_0, gd_1, gd_T, or_true, true_or, false_or, or_false, nle_T, nle_F, nlt_T, nlt_F, neq_T, neq_F, ↓reduceIte, ne_eq, not_true_eq_false, not_false_eq_true, bd1_s, bd2_s, bd3_s, bd4_s, bd5_s, bd6_s, bd7_s, bd8_s, bd9_s, bd10_s, bd11_s, bd12_s, bd13_s, bd14_s, bd15_s, bd16_s, bd17_s, bd18_s, bd19_s, bd20_s, bd21_s, bd22_s, bd23_s, bd24_s, bd25_s]
    · have o1 : bS2 S1 ni nA nC np (nI vN0) tN0 tN 1 = nI tN0 := (bS2_o (by omega) (by omega)).trans p1
      have o2 : bS2 S1 ni nA nC np (nI vN0) tN0 tN 2 = nI vN0 := (bS2_o (by omega) (by omega)).trans p2
      simp (disch := omega) only [f_X10_bill_h124, ll_le, ll_lt, ll_eq, lr_le, lr_lt, lr_eq, ll_add, lr_add, ll_mul, lr_mul, nI_add, pk_mul, nI_leI, nI_ltI, nI_eq, ll_sub, pk_sub, lm_add, rd_n, rd_l, wr_n, wr_l, lm_ne, lm_ne', lm_lt, lm_le, m1_lt, m1_le, m1_le0, m1_lt0, m1_0, m1_0', l1_0, gd_0, gd_1, gd_T, or_true, true_or, false_or, or_false, nle_T, nle_F, nlt_T, nlt_F, neq_T, neq_F, ↓reduceIte, ne_eq, not_true_eq_false, not_false_eq_true, bd1_s, bd2_s, bd3_s, bd4_s, bd5_s, bd6_s, bd7_s, bd8_s, bd9_s, bd10_s, bd11_s, bd12_s, bd13_s, bd14_s, bd15_s, bd16_s, bd17_s, bd18_s, bd19_s, bd20_s, bd21_s, bd22_s, bd23_s, bd24_s, bd25_s]
      generalize bS2 S1 ni nA nC np (nI vN0) tN0 tN = S2 at *
      unfold f_X10_bill_L227
      refine lp_at (fun i => (nI i, 0, dp, rm, rc, nI tN, nI iN, hi, nA, nC, ni, np, nv, route, bS3 S2 T tp ip vN0 i, tried, tf)) iN (by omega) rfl (fun i hi2 k => ?_) (fun k => ?_)
      · have o3 : bS3 S2 T tp ip vN0 i 2 = nI vN0 := (bS3_o (by omega)).trans o2
        obtain ⟨⟨a, a1, a2, a3⟩, a4⟩ := hJ i hi2
        rcases phi_cases hT a1 a2 with ⟨j, k1, k2, k3, k4⟩ | ⟨k3, k4⟩
        · have hnv : nv i = nI j := by rw [a4, a3, k3]
          have hit : f_X10_isTag F (nI j) = some 1 := by rw [isTag_v (by omega), if_pos (by omega)]
          have hb : bS3 S2 T tp ip vN0 (i + 1) = upd (upd (upd (bS3 S2 T tp ip vN0 i) (2404 + 3 * (vN0 + i) + 0) (nI j)) (2404 + 3 * (vN0 + i) + 1) (nI a)) (2404 + 3 * (vN0 + i) + 2) 0 := by
            show upd (upd (upd _ _ (oI (tw T tp (ip i)))) _ (ip i)) _ 0 = _
            rw [a3, k4]; rfl
          simp (disch := omega) only [f_X10_bill_h227, f_X10_bill_b279, f_X10_bill_b322, o3, hnv, hit, k2, hb, ll_le, ll_lt, ll_eq, lr_le, lr_lt, lr_eq, ll_add, lr_add, ll_mul, lr_mul, nI_add, pk_mul, nI_leI, nI_ltI, nI_eq, ll_sub, pk_sub, lm_add, rd_n, rd_l, wr_n, wr_l, lm_ne, lm_ne', lm_lt, lm_le, m1_lt, m1_le, m1_le0, m1_lt0, m1_0, m1_0', l1_0, gd_0, gd_1, gd_T, or_true, true_or, false_or, or_false, nle_T, nle_F, nlt_T, nlt_F, neq_T, neq_F, ↓reduceIte, ne_eq, not_true_eq_false, not_false_eq_true, bd1_s, bd2_s, bd3_s, bd4_s, bd5_s, bd6_s, bd7_s, bd8_s, bd9_s, bd10_s, bd11_s, bd12_s, bd13_s, bd14_s, bd15_s, bd16_s, bd17_s, bd18_s, bd19_s, bd20_s, bd21_s, bd22_s, bd23_s, bd24_s, bd25_s]
        · have hnv : nv i = nI (100 + a) := by rw [a4, a3, k3]
          have hit : f_X10_isTag F (nI (100 + a)) = some 0 := by rw [isTag_v (by omega), if_neg (by omega)]
          have hb : bS3 S2 T tp ip vN0 (i + 1) = upd (upd (upd (bS3 S2 T tp ip vN0 i) (2404 + 3 * (vN0 + i) + 0) (-1)) (2404 + 3 * (vN0 + i) + 1) (nI a)) (2404 + 3 * (vN0 + i) + 2) 0 := by
            show upd (upd (upd _ _ (oI (tw T tp (ip i)))) _ (ip i)) _ 0 = _
            rw [a3, k4]; rfl
          have h100 : 100 + a - 100 = a := by omega
          simp (disch := omega) only [f_X10_bill_h227, f_X10_bill_b279, f_X10_bill_b322, o3, hnv, hit, hb, h100, ll_le, ll_lt, ll_eq, lr_le, lr_lt, lr_eq, ll_add, lr_add, ll_mul, lr_mul, nI_add, pk_mul, nI_leI, nI_ltI, nI_eq, ll_sub, pk_sub, lm_add, rd_n, rd_l, wr_n, wr_l, lm_ne, lm_ne', lm_lt, lm_le, m1_lt, m1_le, m1_le0, m1_lt0, m1_0, m1_0', l1_0, gd_0, gd_1, gd_T, or_true, true_or, false_or, or_false, nle_T, nle_F, nlt_T, nlt_F, neq_T, neq_F, ↓reduceIte, ne_eq, not_true_eq_false, not_false_eq_true, bd1_s, bd2_s, bd3_s, bd4_s, bd5_s, bd6_s, bd7_s, bd8_s, bd9_s, bd10_s, bd11_s, bd12_s, bd13_s, bd14_s, bd15_s, bd16_s, bd17_s, bd18_s, bd19_s, bd20_s, bd21_s, bd22_s, bd23_s, bd24_s, bd25_s]
      · have o3 : bS3 S2 T tp ip vN0 iN 1 = nI tN0 := (bS3_o (by omega)).trans o1
        have o4 : bS3 S2 T tp ip vN0 iN 2 = nI vN0 := (bS3_o (by omega)).trans o2
        have u1 : upd (bS3 S2 T tp ip vN0 iN) 1 (nI (tN0 + tN)) 2 = nI vN0 := by rw [upd_at, if_neg (by omega)]; exact o4
        simp (disch := omega) only [f_X10_bill_h227, o3, u1, ll_le, ll_lt, ll_eq, lr_le, lr_lt, lr_eq, ll_add, lr_add, ll_mul, lr_mul, nI_add, pk_mul, nI_leI, nI_ltI, nI_eq, ll_sub, pk_sub, lm_add, rd_n, rd_l, wr_n, wr_l, lm_ne, lm_ne', lm_lt, lm_le, m1_lt, m1_le, m1_le0, m1_lt0, m1_0, m1_0', l1_0, gd_0, gd_1, gd_T, or_true, true_or, false_or, or_false, nle_T, nle_F, nlt_T, nlt_F, neq_T, neq_F, ↓reduceIte, ne_eq, not_true_eq_false, not_false_eq_true, bd1_s, bd2_s, bd3_s, bd4_s, bd5_s, bd6_s, bd7_s, bd8_s, bd9_s, bd10_s, bd11_s, bd12_s, bd13_s, bd14_s, bd15_s, bd16_s, bd17_s, bd18_s, bd19_s, bd20_s, bd21_s, bd22_s, bd23_s, bd24_s, bd25_s]
end
