/-! the trips of a vehicle, on both sides -/
def BEnv (n G L C T c c5 : Nat) (M P : Nat → Nat → Nat) (bs lf lt lm lq mM mP ca ta tp ca' ta' tp' ax ga hx hp la ps rp st tg ti tq S : Nat → Int32) : Prop :=
  n ≤ 600 ∧ c ≤ 80 ∧ S 0 = nI c ∧ G ≤ 10 ∧ L ≤ 24 ∧ bs 1 = nI L ∧ NM G L M P lf lt lm lq mM mP ∧ NQ C T c5 bs ca ta tp ca' ta' tp' ∧ ∀ p, p < c → PRow n G T p ax ga hx hp la ps rp st tg ti tq S
def RTE (F G : Nat) (mM mP ga ti bs lf lm lq lt S : Nat → Int32) (a b : Nat) (x : Int32) : Prop :=
  (x = -1 ∨ ∃ q, q ≤ 15000 ∧ x = nI q) ∧ (∀ lk pr s, ∃ lk' s', f_X7_find F (ga a) (ga b) (ti b - ti a) lk pr s (nI G) mM mP = some (lk', x, s')) ∧
  (∀ rm rc route tried, ∃ rm' rc' route' tried', f_X10_legLinks F (nI a) (nI b) rm rc bs lf lm lq lt route S tried = some (rm', rm', rc', route', tried') ∧ ((x = -1 ∧ rm' = 0) ∨ (x ≠ -1 ∧ rc' = x ∧ ∃ l, 1 ≤ l ∧ l ≤ 3 ∧ rm' = nI l)))
def cvI (cut cf : Int32) (tp S : Nat → Int32) (p : Nat) : Int32 := if S (4 + 25 * p + 3) = 0 ∧ ¬ cut < S (4 + 25 * p + 2) then vhI cf tp S p else -1
section
variable {n G L C T c c5 F : Nat} {M P : Nat → Nat → Nat} {bs lf lt lm lq mM mP ca ta tp ca' ta' tp' ax ga hx hp la ps rp st tg ti tq S : Nat → Int32} {cut : Int32}
theorem rt_ex (E : BEnv n G L C T c c5 M P bs lf lt lm lq mM mP ca ta tp ca' ta' tp' ax ga hx hp la ps rp st tg ti tq S) (hF : 100 ≤ F) {a b : Nat} (ha : a < c) (hb : b < c) : ∃ x, RTE F G mM mP ga ti bs lf lm lq lt S a b x := by
  obtain ⟨e1, e2, e3, e4, e5, e6, e7, e8, e9⟩ := E
  obtain ⟨⟨⟨f, f1, f2⟩, -⟩, a1, -, a3, -⟩ := e9 a ha
  obtain ⟨⟨⟨t, t1, t2⟩, -⟩, b1, -, b3, -⟩ := e9 b hb
  dsimp only at f2 t2
  have hga : ga a = nI f := a1.trans f2
  have hgb : ga b = nI t := b1.trans t2
  have nf := vd_nf (e := ti b - ti a) e7 e4 f1 t1
  have hlay : ∀ rm rc route tried, f_X10_legLinks F (nI a) (nI b) rm rc bs lf lm lq lt route S tried = bd5 (f_X10_layRoute F (nI f) (nI t) (ti b - ti a) rm rc bs lf lm lq lt route tried) fun r9 o10 o11 o12 o13 => some (r9, o10, o11, o12, o13) := by
    intro rm rc route tried
    have w1 : f_X10_ofPassage F (nI a) 0 S = some (nI f) := (ofp_l (F := F) (S := S) (p := a) (k := 0) (by omega) (by decide)).trans (congrArg some f2)
    have w2 : f_X10_ofPassage F (nI b) 0 S = some (nI t) := (ofp_l (F := F) (S := S) (p := b) (k := 0) (by omega) (by decide)).trans (congrArg some t2)
    have w3 : f_X10_ofPassage F (nI a) 2 S = some (ti a) := (ofp_l (F := F) (S := S) (p := a) (k := 2) (by omega) (by decide)).trans (congrArg some a3.symm)
    have w4 : f_X10_ofPassage F (nI b) 2 S = some (ti b) := (ofp_l (F := F) (S := S) (p := b) (k := 2) (by omega) (by decide)).trans (congrArg some b3.symm)
    unfold f_X10_legLinks
    rw [w1, bd1_s, w2, bd1_s, w4, bd1_s, w3, bd1_s]
  obtain ⟨⟨k1, x, s0⟩, q1, q2⟩ := find_v (F := F) (e := ti b - ti a) e7 e4 f1 t1 hF 0 0 (fun _ => 0)
  dsimp only at q2
  rcases q2 with ⟨n1, n2, n3⟩ | q2
  · refine ⟨-1, .inl rfl, fun lk pr s => ?_, fun rm rc route tried => ?_⟩
    · obtain ⟨⟨k', x', s'⟩, w1, w2⟩ := find_v (F := F) (e := ti b - ti a) e7 e4 f1 t1 hF lk pr s
      dsimp only at w2
      rcases w2 with ⟨m1, m2, m3⟩ | ⟨l, b, c, hv, -⟩
      · rw [hga, hgb, w1, m2]; exact ⟨_, _, rfl⟩
      · exact absurd hv (n3 l b c)
    · obtain ⟨⟨o0, o1, o2, o3, o4⟩, w1, w2, -, w3⟩ := lay_v (F := F) (e := ti b - ti a) e7 e6 e5 e4 f1 t1 hF rm rc route tried
      dsimp only at w2 w3
      subst w2
      rcases w3 with ⟨m1, -⟩ | ⟨l, b, c, hv, -⟩
      · rw [hlay, w1]; exact ⟨_, _, _, _, rfl, .inl ⟨rfl, m1⟩⟩
      · exact absurd hv (n3 l b c)
  · obtain ⟨z1, z2, l, z3, z4, z5, ⟨q, z6⟩, -⟩ := be_uniq nf q2 q2
    have z6 := z6 z3
    refine ⟨x, .inr ⟨q, z6⟩, fun lk pr s => ?_, fun rm rc route tried => ?_⟩
    · obtain ⟨⟨k', x', s'⟩, w1, w2⟩ := find_v (F := F) (e := ti b - ti a) e7 e4 f1 t1 hF lk pr s
      dsimp only at w2
      rcases w2 with ⟨m1, m2, m3⟩ | w2
      · obtain ⟨l, b, c, hv, -⟩ := q2; exact absurd hv (m3 l b c)
      · rw [hga, hgb, w1, (be_uniq nf w2 q2).2.1]; exact ⟨_, _, rfl⟩
    · obtain ⟨⟨o0, o1, o2, o3, o4⟩, w1, w2, -, w3⟩ := lay_v (F := F) (e := ti b - ti a) e7 e6 e5 e4 f1 t1 hF rm rc route tried
      dsimp only at w2 w3
      subst w2
      rcases w3 with ⟨-, m3⟩ | w3
      · obtain ⟨l, b, c, hv, -⟩ := q2; exact absurd hv (m3 l b c)
      · rw [hlay, w1]
        obtain ⟨y1, y2, l', y3, y4, y5, -⟩ := be_uniq nf w3 q2
        exact ⟨_, _, _, _, rfl, .inr ⟨by rw [z6.2]; exact nI_nm (by omega), y2, l', y3, y4, y5⟩⟩
theorem rt_fun (E : BEnv n G L C T c c5 M P bs lf lt lm lq mM mP ca ta tp ca' ta' tp' ax ga hx hp la ps rp st tg ti tq S) (hF : 100 ≤ F) : ∃ rt : Nat → Nat → Int32, ∀ a b, a < c → b < c → RTE F G mM mP ga ti bs lf lm lq lt S a b (rt a b) := by
  have h : ∀ a b, ∃ x, a < c → b < c → RTE F G mM mP ga ti bs lf lm lq lt S a b x := fun a b => by
    by_cases ha : a < c
    · by_cases hb : b < c
      · obtain ⟨x, hx⟩ := rt_ex E hF ha hb; exact ⟨x, fun _ _ => hx⟩
      · exact ⟨0, fun _ w => absurd w hb⟩
    · exact ⟨0, fun w => absurd w ha⟩
  exact ⟨fun a b => Classical.choose (h a b), fun a b => Classical.choose_spec (h a b)⟩
theorem cv_cases (E : BEnv n G L C T c c5 M P bs lf lt lm lq mM mP ca ta tp ca' ta' tp' ax ga hx hp la ps rp st tg ti tq S) {p : Nat} (hp : p < c) : cvI cut (nI c5) tp S p = -1 ∨ ∃ a, 1 ≤ a ∧ a ≤ 9999 ∧ cvI cut (nI c5) tp S p = nI a := by
  obtain ⟨e1, e2, e3, e4, e5, e6, e7, ⟨-, -, -, q4, -, -, -, q8, q9⟩, e9⟩ := E
  unfold cvI
  split
  · exact vh_cases e1 (e9 p hp).1 q8 q9 q4
  · exact .inl rfl
theorem con_v (E : BEnv n G L C T c c5 M P bs lf lt lm lq mM mP ca ta tp ca' ta' tp' ax ga hx hp la ps rp st tg ti tq S) (hF : 100 ≤ F) {p : Nat} (hp8 : p < c) : f_X10_isConsidered F (nI p) cut bs S tp = some (if cvI cut (nI c5) tp S p = -1 then 0 else 1) := by
  obtain ⟨e1, e2, e3, e4, e5, e6, e7, ⟨-, -, -, q4, q5, -, q7, q8, q9⟩, e9⟩ := E
  have hw := (e9 p hp8).1
  have hV := vh10_v (F := F) (show p < 80 by omega) e1 hw q7 q8 q9 q4 q5 hF
  have o3 : f_X10_ofPassage F (nI p) 3 S = some (S (4 + 25 * p + 3)) := ofp_l (k := 3) (by omega) (by decide)
  have o2 : f_X10_ofPassage F (nI p) 2 S = some (S (4 + 25 * p + 2)) := ofp_l (k := 2) (by omega) (by decide)
  unfold f_X10_isConsidered cvI
  rw [o3, bd1_s]
  by_cases c1 : S (4 + 25 * p + 3) = 0
  · rw [if_pos c1, o2, bd1_s]
    by_cases c2 : cut < S (4 + 25 * p + 2)
    · rw [if_pos c2, if_neg (show ¬ (S (4 + 25 * p + 3) = 0 ∧ ¬ cut < S (4 + 25 * p + 2)) from fun w => w.2 c2), if_pos rfl]
      unfold f_X10_isConsidered_b31 f_X10_isConsidered_b32
      exact gd_0
    · rw [if_neg c2, if_pos (show S (4 + 25 * p + 3) = 0 ∧ ¬ cut < S (4 + 25 * p + 2) from ⟨c1, c2⟩), hV, bd1_s]
      rcases vh_cases e1 hw q8 q9 q4 with w | ⟨a, a1, a2, w⟩
      · rw [w, phi_n1, if_pos (by decide), if_pos rfl]
        unfold f_X10_isConsidered_b31 f_X10_isConsidered_b32
        exact gd_0
      · have : ¬ phi T tp (nI a) < 0 := by
          have := q4.1
          rcases phi_cases q4 a1 a2 with ⟨k, k1, k2, k3, k4⟩ | ⟨k3, k4⟩ <;> rw [k3] <;> exact nI_pos (by omega)
        rw [w, if_neg this, if_neg (nI_nm (by omega))]
        unfold f_X10_isConsidered_b32
        exact gd_1
  · rw [if_neg c1, if_neg (show ¬ (S (4 + 25 * p + 3) = 0 ∧ ¬ cut < S (4 + 25 * p + 2)) from fun w => c1 w.1), if_pos rfl]
    unfold f_X10_isConsidered_b31 f_X10_isConsidered_b32
    exact gd_0
theorem cv_vh (E : BEnv n G L C T c c5 M P bs lf lt lm lq mM mP ca ta tp ca' ta' tp' ax ga hx hp la ps rp st tg ti tq S) (hF : 100 ≤ F) {p : Nat} (hp8 : p < c) (h : cvI cut (nI c5) tp S p ≠ -1) : f_X10_vehicleOf F (nI p) bs S tp = some (phi T tp (cvI cut (nI c5) tp S p)) := by
  obtain ⟨e1, e2, e3, e4, e5, e6, e7, ⟨-, -, -, q4, q5, -, q7, q8, q9⟩, e9⟩ := E
  rw [vh10_v (F := F) (show p < 80 by omega) e1 (e9 p hp8).1 q7 q8 q9 q4 q5 hF]
  unfold cvI at h ⊢
  split at h
  · rw [if_pos (by assumption)]
  · exact absurd rfl h
theorem ap_new {p tN iN : Nat} {x : Int32} {lp tr tA tI tl : Nat → Int32} (hp : p < 80) (ht : tN < 80) (hl : lp p = -1) : f_X0_addPassage F (nI p) x (nI tN) (nI (iN + 1)) lp tr tA tI tl = some (nI (tN + 1), upd tr p (nI tN), upd tA tN (if -1 < x then x else -1), upd tI tN (nI iN), upd tl tN 1) := by
  simp (disch := omega) only [f_X0_addPassage, f_X0_addPassage_b64, f_X0_addPassage_b108, hl, Nat.add_sub_cancel, pk_us, upd_upd, ll_le, ll_lt, ll_eq, lr_le, lr_lt, lr_eq, ll_add, lr_add, ll_mul, lr_mul, nI_add, pk_mul, nI_leI, nI_ltI, nI_eq, ll_sub, pk_sub, lm_add, rd_n, rd_l, wr_n, wr_l, lm_ne, lm_ne', lm_lt, lm_le, m1_lt, m1_le, m1_le0, m1_lt0, m1_0, m1_0', l1_0, gd_0, gd_1, gd_T, or_true, true_or, false_or, or_false, nle_T, nle_F, nlt_T, nlt_F, neq_T, neq_F, ↓reduceIte, ne_eq, not_true_eq_false, not_false_eq_true, bd1_s, bd2_s, bd3_s, bd4_s, bd5_s, bd6_s, bd7_s, bd8_s, bd9_s, bd10_s, bd11_s, bd12_s, bd13_s, bd14_s, bd15_s, bd16_s, bd17_s, bd18_s, bd19_s, bd20_s, bd21_s, bd22_s, bd23_s, bd24_s, bd25_s]
  rfl
theorem ap_old {p tN iN : Nat} {x : Int32} {lp tr tA tI tl : Nat → Int32} (hp : p < 80) (ht : tN < 80) (hl : lp p ≠ -1) : f_X0_addPassage F (nI p) x (nI (tN + 1)) (nI iN) lp tr tA tI tl = some (nI (tN + 1), upd tr p (nI tN), upd tA tN (if tA tN < x then x else tA tN), tI, upd tl tN (tl tN + 1)) := by
  simp (disch := omega) only [f_X0_addPassage, f_X0_addPassage_b64, f_X0_addPassage_b108, hl, Nat.add_sub_cancel, ll_le, ll_lt, ll_eq, lr_le, lr_lt, lr_eq, ll_add, lr_add, ll_mul, lr_mul, nI_add, pk_mul, nI_leI, nI_ltI, nI_eq, ll_sub, pk_sub, lm_add, rd_n, rd_l, wr_n, wr_l, lm_ne, lm_ne', lm_lt, lm_le, m1_lt, m1_le, m1_le0, m1_lt0, m1_0, m1_0', l1_0, gd_0, gd_1, gd_T, or_true, true_or, false_or, or_false, nle_T, nle_F, nlt_T, nlt_F, neq_T, neq_F, ↓reduceIte, ne_eq, not_true_eq_false, not_false_eq_true, bd1_s, bd2_s, bd3_s, bd4_s, bd5_s, bd6_s, bd7_s, bd8_s, bd9_s, bd10_s, bd11_s, bd12_s, bd13_s, bd14_s, bd15_s, bd16_s, bd17_s, bd18_s, bd19_s, bd20_s, bd21_s, bd22_s, bd23_s, bd24_s, bd25_s]
end
