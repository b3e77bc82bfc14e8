/-! the ledger as both sides have it; its copies: history and snapshots -/
abbrev AR : Type := Nat → Int32
abbrev LT : Type := Int32 × Int32 × AR × AR × AR × AR × AR × AR × AR × Int32 × Int32 × AR × AR × AR × AR × AR × AR × AR × AR × AR × AR × AR
def bCn (c : Nat) (S : Nat → Int32) : Nat := cnt1 (fun p => S (4 + 25 * p + 3) = 1) (fun _ => inferInstance) c
def LR (n G T : Nat) (tp : Nat → Int32) (tn vn : Int32) (am iv pd pa pl sb vc : Nat → Int32) (cn ln : Int32) (ax ga hx hp la ps rp st tg ti tr : Nat → Int32) (S : Nat → Int32) : Prop :=
  ∃ c tN vN lt, cn = nI c ∧ c ≤ 80 ∧ S 0 = nI c ∧ ln = nI lt ∧ lt ≤ 99999 ∧ S 3 = nI lt ∧ (∀ p, p < c → PRow n G T p ax ga hx hp la ps rp st tg ti tr S) ∧ BR tN vN T tp tn vn am iv pd pa pl sb vc S ∧ tN ≤ bCn c S
def LZ (n G T : Nat) (tp : Nat → Int32) (z : LT) (S : Nat → Int32) : Prop := LR n G T tp z.1 z.2.1 z.2.2.1 z.2.2.2.1 z.2.2.2.2.1 z.2.2.2.2.2.1 z.2.2.2.2.2.2.1 z.2.2.2.2.2.2.2.1 z.2.2.2.2.2.2.2.2.1 z.2.2.2.2.2.2.2.2.2.1 z.2.2.2.2.2.2.2.2.2.2.1 z.2.2.2.2.2.2.2.2.2.2.2.1 z.2.2.2.2.2.2.2.2.2.2.2.2.1 z.2.2.2.2.2.2.2.2.2.2.2.2.2.1 z.2.2.2.2.2.2.2.2.2.2.2.2.2.2.1 z.2.2.2.2.2.2.2.2.2.2.2.2.2.2.2.1 z.2.2.2.2.2.2.2.2.2.2.2.2.2.2.2.2.1 z.2.2.2.2.2.2.2.2.2.2.2.2.2.2.2.2.2.1 z.2.2.2.2.2.2.2.2.2.2.2.2.2.2.2.2.2.2.1 z.2.2.2.2.2.2.2.2.2.2.2.2.2.2.2.2.2.2.2.1 z.2.2.2.2.2.2.2.2.2.2.2.2.2.2.2.2.2.2.2.2.1 z.2.2.2.2.2.2.2.2.2.2.2.2.2.2.2.2.2.2.2.2.2 S
theorem cpy_lt {f g : Nat → Int32} {n k : Nat} (h : k < n) : va_cpy f g 0 0 n k = f k := by
  unfold va_cpy
  rw [if_pos ⟨Nat.zero_le _, by omega⟩, Nat.sub_zero, Nat.zero_add]
theorem PWF.congr {n n' G T : Nat} {r r' : Nat → Int32} (h : PWF n G T r) (hn : n ≤ n') (e : ∀ k, k < 25 → r' k = r k) : PWF n' G T r' := by
  obtain ⟨h0, h1, h2, h3, h4, ⟨m, m1, m2, m3, m4⟩, h6, h7, h8, h9⟩ := h
  refine ⟨by rw [e 0 (by omega)]; exact h0, by rw [e 1 (by omega)]; exact h1, by rw [e 2 (by omega)]; exact h2, by rw [e 3 (by omega)]; exact h3, by rw [e 4 (by omega)]; exact h4, ⟨m, m1, by rw [e 5 (by omega)]; exact m2, fun k hk => ?_, fun k g1 g2 => ?_⟩, fun k hk => ?_, by rw [e 22 (by omega)]; exact h7, by rw [e 23 (by omega)]; exact h8, by rw [e 24 (by omega)]; exact h9⟩
  · obtain ⟨a, s, a1, a2, a3, a4, a5, a6⟩ := m3 k hk
    have := Nat.mul_le_mul_left 100 hn
    exact ⟨a, s, a1, a2, by rw [e (6 + k) (by omega)]; exact a3, a4, by omega, by rw [e (10 + k) (by omega)]; exact a6⟩
  · rw [e (6 + k) (by omega), e (10 + k) (by omega)]; exact m4 k g1 g2
  · obtain ⟨a, a1, a2⟩ := h6 k hk
    exact ⟨a, by omega, by rw [e (14 + k) (by omega)]; exact a2⟩
section
variable {n n' G T : Nat} {tp S S' : Nat → Int32} {tn vn : Int32} {am iv pd pa pl sb vc : Nat → Int32} {cn ln : Int32} {ax ga hx hp la ps rp st tg ti tr : Nat → Int32} {qam qiv qpd qpa qpl qsb qvc : Nat → Int32} {qax qga qhx qhp qla qps qrp qst qtg qti qtr : Nat → Int32}
theorem LR.congr (h : LR n G T tp tn vn am iv pd pa pl sb vc cn ln ax ga hx hp la ps rp st tg ti tr S) (hn : n ≤ n') (hS : ∀ j, j < 2524 → S' j = S j) (ham : ∀ k, k < 80 → qam k = am k) (hiv : ∀ k, k < 80 → qiv k = iv k) (hpd : ∀ k, k < 40 → qpd k = pd k) (hpa : ∀ k, k < 80 → qpa k = pa k) (hpl : ∀ k, k < 40 → qpl k = pl k) (hsb : ∀ k, k < 80 → qsb k = sb k) (hvc : ∀ k, k < 80 → qvc k = vc k) (hax : ∀ k, k < 640 → qax k = ax k) (hga : ∀ k, k < 80 → qga k = ga k) (hhx : ∀ k, k < 80 → qhx k = hx k) (hhp : ∀ k, k < 80 → qhp k = hp k) (hla : ∀ k, k < 80 → qla k = la k) (hps : ∀ k, k < 320 → qps k = ps k) (hrp : ∀ k, k < 320 → qrp k = rp k) (hst : ∀ k, k < 80 → qst k = st k) (htg : ∀ k, k < 80 → qtg k = tg k) (hti : ∀ k, k < 80 → qti k = ti k) (htr : ∀ k, k < 80 → qtr k = tr k) : LR n' G T tp tn vn qam qiv qpd qpa qpl qsb qvc cn ln qax qga qhx qhp qla qps qrp qst qtg qti qtr S' := by
  obtain ⟨c, tN, vN, lt, c1, c2, c3, c4, c5, c6, c7, ⟨b1, b2, b3, b4, b5, b6, b7, b8⟩, c9⟩ := h
  refine ⟨c, tN, vN, lt, c1, c2, by rw [hS 0 (by omega)]; exact c3, c4, c5, by rw [hS 3 (by omega)]; exact c6, fun p hp => ?_, ⟨b1, by rw [hS 1 (by omega)]; exact b2, b3, b4, by rw [hS 2 (by omega)]; exact b5, b6, fun t ht => ?_, fun i hi => ?_⟩, ?_⟩
  · obtain ⟨p0, p1, p2, p3, p4, p5, p6, p7, p8, p9, p10⟩ := c7 p hp
    refine ⟨p0.congr hn (fun k hk => hS _ (by omega)), ?_, ?_, ?_, ?_, ?_, fun k hk => ⟨?_, ?_⟩, fun k hk => ?_, ?_, ?_, ?_⟩
    · rw [hga p (by omega), hS _ (by omega)]; exact p1
    · rw [hla p (by omega), hS _ (by omega)]; exact p2
    · rw [hti p (by omega), hS _ (by omega)]; exact p3
    · rw [hst p (by omega), hS _ (by omega)]; exact p4
    · rw [htg p (by omega), hS _ (by omega)]; exact p5
    · rw [hrp _ (by omega), hS _ (by omega)]; exact (p6 k hk).1
    · rw [hps _ (by omega), hS _ (by omega)]; exact (p6 k hk).2
    · rw [hax _ (by omega), hS _ (by omega)]; exact p7 k hk
    · rw [hhp p (by omega), hS _ (by omega)]; exact p8
    · rw [hhx p (by omega), hS _ (by omega)]; exact p9
    · rw [htr p (by omega), hS _ (by omega)]; exact p10
  · obtain ⟨g1, g2, g3, g4, g5, g6⟩ := b7 t ht
    refine ⟨?_, ?_, ?_, ?_, ?_, ?_⟩
    · rw [hiv t (by omega), hS _ (by omega)]; exact g1
    · rw [hS _ (by omega)]; exact g2
    · rw [ham t (by omega), hS _ (by omega)]; exact g3
    · rw [hvc t (by omega), hS _ (by omega)]; exact g4
    · rw [hpa t (by omega), hS _ (by omega)]; exact g5
    · rw [hsb t (by omega), hS _ (by omega)]; exact g6
  · obtain ⟨g1, g2, g3⟩ := b8 i hi
    refine ⟨?_, ?_, ?_⟩
    · rw [hpl i (by omega), hS _ (by omega)]; exact g1
    · rw [hpd i (by omega), hS _ (by omega)]; exact g2
    · rw [hS _ (by omega), hS _ (by omega)]; exact g3
  · have : bCn c S' = bCn c S := cnt1_congr (fun k hk => by rw [hS _ (by omega)])
    rw [this]; exact c9
theorem LR.cpy (h : LR n G T tp tn vn am iv pd pa pl sb vc cn ln ax ga hx hp la ps rp st tg ti tr S) (hS : ∀ j, j < 2524 → S' j = S j) (ram : Nat → Int32) (riv : Nat → Int32) (rpd : Nat → Int32) (rpa : Nat → Int32) (rpl : Nat → Int32) (rsb : Nat → Int32) (rvc : Nat → Int32) (rax : Nat → Int32) (rga : Nat → Int32) (rhx : Nat → Int32) (rhp : Nat → Int32) (rla : Nat → Int32) (rps : Nat → Int32) (rrp : Nat → Int32) (rst : Nat → Int32) (rtg : Nat → Int32) (rti : Nat → Int32) (rtr : Nat → Int32) : LR n G T tp tn vn (va_cpy am ram 0 0 80) (va_cpy iv riv 0 0 80) (va_cpy pd rpd 0 0 40) (va_cpy pa rpa 0 0 80) (va_cpy pl rpl 0 0 40) (va_cpy sb rsb 0 0 80) (va_cpy vc rvc 0 0 80) cn ln (va_cpy ax rax 0 0 640) (va_cpy ga rga 0 0 80) (va_cpy hx rhx 0 0 80) (va_cpy hp rhp 0 0 80) (va_cpy la rla 0 0 80) (va_cpy ps rps 0 0 320) (va_cpy rp rrp 0 0 320) (va_cpy st rst 0 0 80) (va_cpy tg rtg 0 0 80) (va_cpy ti rti 0 0 80) (va_cpy tr rtr 0 0 80) S' :=
  h.congr (Nat.le_refl _) hS (fun k hk => cpy_lt hk) (fun k hk => cpy_lt hk) (fun k hk => cpy_lt hk) (fun k hk => cpy_lt hk) (fun k hk => cpy_lt hk) (fun k hk => cpy_lt hk) (fun k hk => cpy_lt hk) (fun k hk => cpy_lt hk) (fun k hk => cpy_lt hk) (fun k hk => cpy_lt hk) (fun k hk => cpy_lt hk) (fun k hk => cpy_lt hk) (fun k hk => cpy_lt hk) (fun k hk => cpy_lt hk) (fun k hk => cpy_lt hk) (fun k hk => cpy_lt hk) (fun k hk => cpy_lt hk) (fun k hk => cpy_lt hk)
theorem LR.mono (h : LR n G T tp tn vn am iv pd pa pl sb vc cn ln ax ga hx hp la ps rp st tg ti tr S) (hn : n ≤ n') : LR n' G T tp tn vn am iv pd pa pl sb vc cn ln ax ga hx hp la ps rp st tg ti tr S :=
  h.congr hn (fun _ _ => rfl) (fun _ _ => rfl) (fun _ _ => rfl) (fun _ _ => rfl) (fun _ _ => rfl) (fun _ _ => rfl) (fun _ _ => rfl) (fun _ _ => rfl) (fun _ _ => rfl) (fun _ _ => rfl) (fun _ _ => rfl) (fun _ _ => rfl) (fun _ _ => rfl) (fun _ _ => rfl) (fun _ _ => rfl) (fun _ _ => rfl) (fun _ _ => rfl) (fun _ _ => rfl) (fun _ _ => rfl)
theorem LZ.mono {z : LT} (h : LZ n G T tp z S) (hn : n ≤ n') : LZ n' G T tp z S := LR.mono h hn
end
theorem spl_z (f g : Nat → Int32) (i : Nat) : upd (spl f g 0 i) i (g i) = spl f g 0 (i + 1) := by
  have h := spl_s f g 0 i
  rwa [Nat.zero_add] at h
def nx1 (x : Nat) : Nat := if x = 9 then 0 else x + 1
def dp1 (d : Nat) : Nat := if d < 10 then d + 1 else 10
theorem keepP_v {F x d : Nat} (rtn rvn : Int32) (ram riv rpd rpa rpl rsb rvc : Nat → Int32) (rcn rln : Int32) (rax rga rhx rhp rla rps rrp rst rtg rti rtr : Nat → Int32) (ctn cvn : Int32) (cam civ cpd cpa cpl csb cvc : Nat → Int32) (ccn cln : Int32) (cax cga chx chp cla cps crp cst ctg cti ctr : Nat → Int32) (hx : x < 10) (hd : d ≤ 10) :
    f_X2_keepP F (nI x) (nI d) rtn rvn ram riv rpd rpa rpl rsb rvc rcn rln rax rga rhx rhp rla rps rrp rst rtg rti rtr ctn cvn cam civ cpd cpa cpl csb cvc ccn cln cax cga chx chp cla cps crp cst ctg cti ctr = some (nI (nx1 x), nI (dp1 d), ctn, cvn, va_cpy cam ram 0 0 80, va_cpy civ riv 0 0 80, va_cpy cpd rpd 0 0 40, va_cpy cpa rpa 0 0 80, va_cpy cpl rpl 0 0 40, va_cpy csb rsb 0 0 80, va_cpy cvc rvc 0 0 80, ccn, cln, va_cpy cax rax 0 0 640, va_cpy cga rga 0 0 80, va_cpy chx rhx 0 0 80, va_cpy chp rhp 0 0 80, va_cpy cla rla 0 0 80, va_cpy cps rps 0 0 320, va_cpy crp rrp 0 0 320, va_cpy cst rst 0 0 80, va_cpy ctg rtg 0 0 80, va_cpy cti rti 0 0 80, va_cpy ctr rtr 0 0 80) := by
  unfold nx1 dp1
  by_cases h1 : x = 9
  · subst h1
    by_cases h2 : d < 10
    · simp (disch := omega) only [f_X2_keepP, f_X3_copyFrom, f_X6_copyFrom, f_X1_copyFrom, h2, ll_le, ll_lt, ll_eq, lr_le, lr_lt, lr_eq, ll_add, lr_add, ll_mul, lr_mul, nI_add, pk_mul, nI_leI, nI_ltI, nI_eq, ll_sub, pk_sub, lm_add, rd_n, rd_l, wr_n, wr_l, lm_ne, lm_ne', lm_lt, lm_le, m1_lt, m1_le, m1_le0, m1_lt0, m1_0, m1_0', l1_0, gd_0, gd_1, gd_T, or_true, true_or, false_or, or_false, nle_T, nle_F, nlt_T, nlt_F, neq_T, neq_F, ↓reduceIte, ne_eq, not_true_eq_false, not_false_eq_true, bd1_s, bd2_s, bd3_s, bd4_s, bd5_s, bd6_s, bd7_s, bd8_s, bd9_s, bd10_s, bd11_s, bd12_s, bd13_s, bd14_s, bd15_s, bd16_s, bd17_s, bd18_s, bd19_s, bd20_s, bd21_s, bd22_s, bd23_s, bd24_s, bd25_s]
      rfl
    · have : d = 10 := by omega
      subst this
      simp (disch := omega) only [f_X2_keepP, f_X3_copyFrom, f_X6_copyFrom, f_X1_copyFrom, ll_le, ll_lt, ll_eq, lr_le, lr_lt, lr_eq, ll_add, lr_add, ll_mul, lr_mul, nI_add, pk_mul, nI_leI, nI_ltI, nI_eq, ll_sub, pk_sub, lm_add, rd_n, rd_l, wr_n, wr_l, lm_ne, lm_ne', lm_lt, lm_le, m1_lt, m1_le, m1_le0, m1_lt0, m1_0, m1_0', l1_0, gd_0, gd_1, gd_T, or_true, true_or, false_or, or_false, nle_T, nle_F, nlt_T, nlt_F, neq_T, neq_F, ↓reduceIte, ne_eq, not_true_eq_false, not_false_eq_true, bd1_s, bd2_s, bd3_s, bd4_s, bd5_s, bd6_s, bd7_s, bd8_s, bd9_s, bd10_s, bd11_s, bd12_s, bd13_s, bd14_s, bd15_s, bd16_s, bd17_s, bd18_s, bd19_s, bd20_s, bd21_s, bd22_s, bd23_s, bd24_s, bd25_s]
      rfl
  · by_cases h2 : d < 10
    · simp (disch := omega) only [f_X2_keepP, f_X3_copyFrom, f_X6_copyFrom, f_X1_copyFrom, h1, h2, ll_le, ll_lt, ll_eq, lr_le, lr_lt, lr_eq, ll_add, lr_add, ll_mul, lr_mul, nI_add, pk_mul, nI_leI, nI_ltI, nI_eq, ll_sub, pk_sub, lm_add, rd_n, rd_l, wr_n, wr_l, lm_ne, lm_ne', lm_lt, lm_le, m1_lt, m1_le, m1_le0, m1_lt0, m1_0, m1_0', l1_0, gd_0, gd_1, gd_T, or_true, true_or, false_or, or_false, nle_T, nle_F, nlt_T, nlt_F, neq_T, neq_F, ↓reduceIte, ne_eq, not_true_eq_false, not_false_eq_true, bd1_s, bd2_s, bd3_s, bd4_s, bd5_s, bd6_s, bd7_s, bd8_s, bd9_s, bd10_s, bd11_s, bd12_s, bd13_s, bd14_s, bd15_s, bd16_s, bd17_s, bd18_s, bd19_s, bd20_s, bd21_s, bd22_s, bd23_s, bd24_s, bd25_s]
    · have : d = 10 := by omega
      subst this
      simp (disch := omega) only [f_X2_keepP, f_X3_copyFrom, f_X6_copyFrom, f_X1_copyFrom, h1, ll_le, ll_lt, ll_eq, lr_le, lr_lt, lr_eq, ll_add, lr_add, ll_mul, lr_mul, nI_add, pk_mul, nI_leI, nI_ltI, nI_eq, ll_sub, pk_sub, lm_add, rd_n, rd_l, wr_n, wr_l, lm_ne, lm_ne', lm_lt, lm_le, m1_lt, m1_le, m1_le0, m1_lt0, m1_0, m1_0', l1_0, gd_0, gd_1, gd_T, or_true, true_or, false_or, or_false, nle_T, nle_F, nlt_T, nlt_F, neq_T, neq_F, ↓reduceIte, ne_eq, not_true_eq_false, not_false_eq_true, bd1_s, bd2_s, bd3_s, bd4_s, bd5_s, bd6_s, bd7_s, bd8_s, bd9_s, bd10_s, bd11_s, bd12_s, bd13_s, bd14_s, bd15_s, bd16_s, bd17_s, bd18_s, bd19_s, bd20_s, bd21_s, bd22_s, bd23_s, bd24_s, bd25_s]
      rfl
def shi (h : Nat → Int32) (i j : Nat) : Int32 := if j < i then h (j + 2524) else h j
theorem shi_s (h : Nat → Int32) (i : Nat) : upd (shi h i) i (h (i + 2524)) = shi h (i + 1) := by
  funext k
  rw [upd_at]
  unfold shi
  by_cases e : k = i
  · subst e; rw [if_pos rfl, if_pos (by omega)]
  · rw [if_neg e]
    by_cases w : k < i
    · rw [if_pos w, if_pos (by omega)]
    · rw [if_neg w, if_neg (by omega)]
theorem keepL_v {F d : Nat} (hi S : Nat → Int32) (hd : d < 10) (hF : 30000 ≤ F) : f_X10_keep_b56 F S (nI d) hi = some (nI (d + 1), spl hi S (2524 * d) 2524) := by
  unfold f_X10_keep_b56 f_X10_keep_L58
  refine lp_at (fun i => (nI i, nI d, spl hi S (2524 * d) i)) 2524 (by omega) (by rw [spl_0]; rfl) (fun i hi' k => ?_) (fun k => ?_)
  · have s1 := spl_s hi S (2524 * d) i
    simp (disch := omega) only [f_X10_keep_h58, s1, ll_le, ll_lt, ll_eq, lr_le, lr_lt, lr_eq, ll_add, lr_add, ll_mul, lr_mul, nI_add, pk_mul, nI_leI, nI_ltI, nI_eq, ll_sub, pk_sub, lm_add, rd_n, rd_l, wr_n, wr_l, lm_ne, lm_ne', lm_lt, lm_le, m1_lt, m1_le, m1_le0, m1_lt0, m1_0, m1_0', l1_0, gd_0, gd_1, gd_T, or_true, true_or, false_or, or_false, nle_T, nle_F, nlt_T, nlt_F, neq_T, neq_F, ↓reduceIte, ne_eq, not_true_eq_false, not_false_eq_true, bd1_s, bd2_s, bd3_s, bd4_s, bd5_s, bd6_s, bd7_s, bd8_s, bd9_s, bd10_s, bd11_s, bd12_s, bd13_s, bd14_s, bd15_s, bd16_s, bd17_s, bd18_s, bd19_s, bd20_s, bd21_s, bd22_s, bd23_s, bd24_s, bd25_s]
  · simp (disch := omega) only [f_X10_keep_h58, ll_le, ll_lt, ll_eq, lr_le, lr_lt, lr_eq, ll_add, lr_add, ll_mul, lr_mul, nI_add, pk_mul, nI_leI, nI_ltI, nI_eq, ll_sub, pk_sub, lm_add, rd_n, rd_l, wr_n, wr_l, lm_ne, lm_ne', lm_lt, lm_le, m1_lt, m1_le, m1_le0, m1_lt0, m1_0, m1_0', l1_0, gd_0, gd_1, gd_T, or_true, true_or, false_or, or_false, nle_T, nle_F, nlt_T, nlt_F, neq_T, neq_F, ↓reduceIte, ne_eq, not_true_eq_false, not_false_eq_true, bd1_s, bd2_s, bd3_s, bd4_s, bd5_s, bd6_s, bd7_s, bd8_s, bd9_s, bd10_s, bd11_s, bd12_s, bd13_s, bd14_s, bd15_s, bd16_s, bd17_s, bd18_s, bd19_s, bd20_s, bd21_s, bd22_s, bd23_s, bd24_s, bd25_s]
theorem l22716 : (25240 : Int32) - 2524 = 22716 := by decide
theorem keep10_v {F d : Nat} (hi S : Nat → Int32) (hd : d ≤ 10) (hF : 30000 ≤ F) : f_X10_keep F (nI d) hi S = some (nI (dp1 d), if d < 10 then spl hi S (2524 * d) 2524 else spl (shi hi 22716) S 22716 2524) := by
  unfold f_X10_keep dp1
  by_cases h : d < 10
  · rw [if_neg (show ¬ nI d = (10 : Int32) from fun w => by have := (nI_eq (b := 10) (by omega) (by omega)).mp w; omega), if_pos h, if_pos h]
    exact keepL_v hi S h hF
  · have : d = 10 := by omega
    subst this
    rw [if_pos (show nI 10 = (10 : Int32) from rfl), if_neg h, if_neg h]
    unfold f_X10_keep_L11
    refine lp_at (fun i => (nI i, nI 10, shi hi i)) 22716 (by omega) rfl (fun i hi' k => ?_) (fun k => ?_)
    · have s1 := shi_s hi i
      have s2 : shi hi i (i + 2524) = hi (i + 2524) := if_neg (by omega)
      simp (disch := omega) only [f_X10_keep_h11, l22716, s2, s1, ll_le, ll_lt, ll_eq, lr_le, lr_lt, lr_eq, ll_add, lr_add, ll_mul, lr_mul, nI_add, pk_mul, nI_leI, nI_ltI, nI_eq, ll_sub, pk_sub, lm_add, rd_n, rd_l, wr_n, wr_l, lm_ne, lm_ne', lm_lt, lm_le, m1_lt, m1_le, m1_le0, m1_lt0, m1_0, m1_0', l1_0, gd_0, gd_1, gd_T, or_true, true_or, false_or, or_false, nle_T, nle_F, nlt_T, nlt_F, neq_T, neq_F, ↓reduceIte, ne_eq, not_true_eq_false, not_false_eq_true, bd1_s, bd2_s, bd3_s, bd4_s, bd5_s, bd6_s, bd7_s, bd8_s, bd9_s, bd10_s, bd11_s, bd12_s, bd13_s, bd14_s, bd15_s, bd16_s, bd17_s, bd18_s, bd19_s, bd20_s, bd21_s, bd22_s, bd23_s, bd24_s, bd25_s]
    · have s1 := keepL_v (F := F) (shi hi 22716) S (d := 9) (by omega) hF
      simp (disch := omega) only [f_X10_keep_h11, l22716, ll_le, ll_lt, ll_eq, lr_le, lr_lt, lr_eq, ll_add, lr_add, ll_mul, lr_mul, nI_add, pk_mul, nI_leI, nI_ltI, nI_eq, ll_sub, pk_sub, lm_add, rd_n, rd_l, wr_n, wr_l, lm_ne, lm_ne', lm_lt, lm_le, m1_lt, m1_le, m1_le0, m1_lt0, m1_0, m1_0', l1_0, gd_0, gd_1, gd_T, or_true, true_or, false_or, or_false, nle_T, nle_F, nlt_T, nlt_F, neq_T, neq_F, ↓reduceIte, ne_eq, not_true_eq_false, not_false_eq_true, bd1_s, bd2_s, bd3_s, bd4_s, bd5_s, bd6_s, bd7_s, bd8_s, bd9_s, bd10_s, bd11_s, bd12_s, bd13_s, bd14_s, bd15_s, bd16_s, bd17_s, bd18_s, bd19_s, bd20_s, bd21_s, bd22_s, bd23_s, bd24_s, bd25_s]
      exact s1
def HR (n G T : Nat) (tp : Nat → Int32) (nx dp : Int32) (ring : Nat → Option Nat) (zr : Nat → LT) (dq : Int32) (hi : Nat → Int32) : Prop :=
  ∃ x d, nx = nI x ∧ x < 10 ∧ dp = nI d ∧ dq = nI d ∧ d ≤ 10 ∧ ∀ k, k < d → ring ((x + 9 - k) % 10) ≠ none ∧ LZ n G T tp (zr ((x + 9 - k) % 10)) (fun j => hi (2524 * (d - 1 - k) + j))
theorem HR.mono {n n' G T : Nat} {tp hi : Nat → Int32} {nx dp dq : Int32} {ring : Nat → Option Nat} {zr : Nat → LT} (h : HR n G T tp nx dp ring zr dq hi) (hn : n ≤ n') : HR n' G T tp nx dp ring zr dq hi := by
  obtain ⟨x, d, h1, h2, h3, h4, h5, h6⟩ := h
  exact ⟨x, d, h1, h2, h3, h4, h5, fun k hk => ⟨(h6 k hk).1, (h6 k hk).2.mono hn⟩⟩
theorem LZ.S {n G T : Nat} {tp S S' : Nat → Int32} {z : LT} (h : LZ n G T tp z S) (hS : ∀ j, j < 2524 → S' j = S j) : LZ n G T tp z S' :=
  LR.congr h (Nat.le_refl _) hS (fun _ _ => rfl) (fun _ _ => rfl) (fun _ _ => rfl) (fun _ _ => rfl) (fun _ _ => rfl) (fun _ _ => rfl) (fun _ _ => rfl) (fun _ _ => rfl) (fun _ _ => rfl) (fun _ _ => rfl) (fun _ _ => rfl) (fun _ _ => rfl) (fun _ _ => rfl) (fun _ _ => rfl) (fun _ _ => rfl) (fun _ _ => rfl) (fun _ _ => rfl) (fun _ _ => rfl)
theorem HR.keep {F n G T x d : Nat} {tp hi S : Nat → Int32} {ring ring' : Nat → Option Nat} {zr zr' : Nat → LT} (h : HR n G T tp (nI x) (nI d) ring zr (nI d) hi) (hx : x < 10) (hd : d ≤ 10) (hF : 30000 ≤ F) (r1 : ring' x ≠ none) (r2 : ∀ i, i ≠ x → ring' i = ring i ∧ zr' i = zr i) (r3 : LZ n G T tp (zr' x) S) :
    ∃ hi', f_X10_keep F (nI d) hi S = some (nI (dp1 d), hi') ∧ HR n G T tp (nI (nx1 x)) (nI (dp1 d)) ring' zr' (nI (dp1 d)) hi' := by
  refine ⟨_, keep10_v hi S hd hF, nx1 x, dp1 d, rfl, by unfold nx1; split <;> omega, rfl, rfl, by unfold dp1; split <;> omega, fun k hk => ?_⟩
  obtain ⟨x', d', e1, e2, e3, -, e5, e6⟩ := h
  have ex : x' = x := ((nI_eq (by omega) (by omega)).mp e1).symm
  have ed : d' = d := ((nI_eq (by omega) (by omega)).mp e3).symm
  subst ex ed
  have hidx : (nx1 x' + 9 - k) % 10 = if k = 0 then x' else (x' + 9 - (k - 1)) % 10 := by
    unfold nx1
    have : k < 10 := by unfold dp1 at hk; split at hk <;> omega
    split <;> split <;> omega
  rw [hidx]
  by_cases k0 : k = 0
  · subst k0
    rw [if_pos rfl]
    refine ⟨r1, r3.S (fun j hj => ?_)⟩
    by_cases hd10 : d' < 10
    · have : dp1 d' = d' + 1 := if_pos hd10
      rw [if_pos hd10, this]
      have : 2524 * (d' + 1 - 1 - 0) + j = 2524 * d' + j := by omega
      rw [this]
      exact spl_hi hj
    · have : dp1 d' = 10 := if_neg hd10
      rw [if_neg hd10, this]
      exact spl_hi (a := 22716) hj
  · rw [if_neg k0]
    have hk' : k - 1 < d' := by unfold dp1 at hk; split at hk <;> omega
    have hne : (x' + 9 - (k - 1)) % 10 ≠ x' := by
      have : k < 10 := by unfold dp1 at hk; split at hk <;> omega
      omega
    obtain ⟨g1, g2⟩ := e6 (k - 1) hk'
    rw [(r2 _ hne).1, (r2 _ hne).2]
    refine ⟨g1, g2.S (fun j hj => ?_)⟩
    by_cases hd10 : d' < 10
    · have : dp1 d' = d' + 1 := if_pos hd10
      rw [if_pos hd10, this]
      have e : 2524 * (d' + 1 - 1 - k) + j = 2524 * (d' - 1 - (k - 1)) + j := by
        have : d' + 1 - 1 - k = d' - 1 - (k - 1) := by omega
        rw [this]
      rw [this] at hk
      rw [e]
      exact spl_lo (by
        have : d' - 1 - (k - 1) + 1 ≤ d' := by omega
        have := Nat.mul_le_mul_left 2524 this
        omega)
    · have : dp1 d' = 10 := if_neg hd10
      rw [if_neg hd10, this]
      rw [this] at hk
      have hd' : d' = 10 := by omega
      subst hd'
      have q : 10 - 1 - k + 1 ≤ 9 := by omega
      have := Nat.mul_le_mul_left 2524 q
      rw [spl_lo (by omega)]
      unfold shi
      rw [if_pos (by omega)]
      have : 10 - 1 - (k - 1) = 10 - 1 - k + 1 := by omega
      rw [this]
      have : 2524 * (10 - 1 - k) + j + 2524 = 2524 * (10 - 1 - k + 1) + j := by omega
      rw [this]
theorem undo10_v {F d : Nat} {th : Int32} (hi S : Nat → Int32) (hd : d < 10) (hF : 30000 ≤ F) : f_X10_undo F th (nI (d + 1)) hi S = some (nI d, 0, nI d, spl S (fun j => hi (2524 * d + j)) 0 2524) := by
  unfold f_X10_undo
  rw [if_neg (show ¬ nI (d + 1) = (0 : Int32) from nI_nz (by omega) (by omega))]
  unfold f_X10_undo_L26
  refine lp_at (fun i => (nI i, 0, nI d, spl S (fun j => hi (2524 * d + j)) 0 i)) 2524 (by omega) (by rw [spl_0, nI_pred]; rfl) (fun i hi' k => ?_) (fun k => ?_)
  · have s1 := spl_z S (fun j => hi (2524 * d + j)) i
    try dsimp only at s1
    simp (disch := omega) only [f_X10_undo_h26, s1, ll_le, ll_lt, ll_eq, lr_le, lr_lt, lr_eq, ll_add, lr_add, ll_mul, lr_mul, nI_add, pk_mul, nI_leI, nI_ltI, nI_eq, ll_sub, pk_sub, lm_add, rd_n, rd_l, wr_n, wr_l, lm_ne, lm_ne', lm_lt, lm_le, m1_lt, m1_le, m1_le0, m1_lt0, m1_0, m1_0', l1_0, gd_0, gd_1, gd_T, or_true, true_or, false_or, or_false, nle_T, nle_F, nlt_T, nlt_F, neq_T, neq_F, ↓reduceIte, ne_eq, not_true_eq_false, not_false_eq_true, bd1_s, bd2_s, bd3_s, bd4_s, bd5_s, bd6_s, bd7_s, bd8_s, bd9_s, bd10_s, bd11_s, bd12_s, bd13_s, bd14_s, bd15_s, bd16_s, bd17_s, bd18_s, bd19_s, bd20_s, bd21_s, bd22_s, bd23_s, bd24_s, bd25_s]
  · simp (disch := omega) only [f_X10_undo_h26, ll_le, ll_lt, ll_eq, lr_le, lr_lt, lr_eq, ll_add, lr_add, ll_mul, lr_mul, nI_add, pk_mul, nI_leI, nI_ltI, nI_eq, ll_sub, pk_sub, lm_add, rd_n, rd_l, wr_n, wr_l, lm_ne, lm_ne', lm_lt, lm_le, m1_lt, m1_le, m1_le0, m1_lt0, m1_0, m1_0', l1_0, gd_0, gd_1, gd_T, or_true, true_or, false_or, or_false, nle_T, nle_F, nlt_T, nlt_F, neq_T, neq_F, ↓reduceIte, ne_eq, not_true_eq_false, not_false_eq_true, bd1_s, bd2_s, bd3_s, bd4_s, bd5_s, bd6_s, bd7_s, bd8_s, bd9_s, bd10_s, bd11_s, bd12_s, bd13_s, bd14_s, bd15_s, bd16_s, bd17_s, bd18_s, bd19_s, bd20_s, bd21_s, bd22_s, bd23_s, bd24_s, bd25_s]
def nxp (x : Nat) : Nat := if x = 0 then 9 else x - 1
theorem undoP_v {F x d : Nat} (rtn rvn : Int32) (ram riv rpd rpa rpl rsb rvc : Nat → Int32) (rcn rln : Int32) (rax rga rhx rhp rla rps rrp rst rtg rti rtr : Nat → Int32) (ctn cvn : Int32) (cam civ cpd cpa cpl csb cvc : Nat → Int32) (ccn cln : Int32) (cax cga chx chp cla cps crp cst ctg cti ctr : Nat → Int32) (hx : x < 10) (hd : d < 10) :
    f_X9_undoP F (nI x) (nI (d + 1)) rtn rvn ram riv rpd rpa rpl rsb rvc rcn rln rax rga rhx rhp rla rps rrp rst rtg rti rtr ctn cvn cam civ cpd cpa cpl csb cvc ccn cln cax cga chx chp cla cps crp cst ctg cti ctr = some (nI d, nI (nxp x), nI d, rtn, rvn, va_cpy ram cam 0 0 80, va_cpy riv civ 0 0 80, va_cpy rpd cpd 0 0 40, va_cpy rpa cpa 0 0 80, va_cpy rpl cpl 0 0 40, va_cpy rsb csb 0 0 80, va_cpy rvc cvc 0 0 80, rcn, rln, va_cpy rax cax 0 0 640, va_cpy rga cga 0 0 80, va_cpy rhx chx 0 0 80, va_cpy rhp chp 0 0 80, va_cpy rla cla 0 0 80, va_cpy rps cps 0 0 320, va_cpy rrp crp 0 0 320, va_cpy rst cst 0 0 80, va_cpy rtg ctg 0 0 80, va_cpy rti cti 0 0 80, va_cpy rtr ctr 0 0 80) := by
  unfold nxp
  by_cases h1 : x = 0
  · subst h1
    simp (disch := omega) only [f_X9_undoP, f_X2_takeBackP, f_X3_copyFrom, f_X6_copyFrom, f_X1_copyFrom, Nat.add_sub_cancel, ll_le, ll_lt, ll_eq, lr_le, lr_lt, lr_eq, ll_add, lr_add, ll_mul, lr_mul, nI_add, pk_mul, nI_leI, nI_ltI, nI_eq, ll_sub, pk_sub, lm_add, rd_n, rd_l, wr_n, wr_l, lm_ne, lm_ne', lm_lt, lm_le, m1_lt, m1_le, m1_le0, m1_lt0, m1_0, m1_0', l1_0, gd_0, gd_1, gd_T, or_true, true_or, false_or, or_false, nle_T, nle_F, nlt_T, nlt_F, neq_T, neq_F, ↓reduceIte, ne_eq, not_true_eq_false, not_false_eq_true, bd1_s, bd2_s, bd3_s, bd4_s, bd5_s, bd6_s, bd7_s, bd8_s, bd9_s, bd10_s, bd11_s, bd12_s, bd13_s, bd14_s, bd15_s, bd16_s, bd17_s, bd18_s, bd19_s, bd20_s, bd21_s, bd22_s, bd23_s, bd24_s, bd25_s]
    rfl
  · simp (disch := omega) only [f_X9_undoP, f_X2_takeBackP, f_X3_copyFrom, f_X6_copyFrom, f_X1_copyFrom, h1, Nat.add_sub_cancel, ll_le, ll_lt, ll_eq, lr_le, lr_lt, lr_eq, ll_add, lr_add, ll_mul, lr_mul, nI_add, pk_mul, nI_leI, nI_ltI, nI_eq, ll_sub, pk_sub, lm_add, rd_n, rd_l, wr_n, wr_l, lm_ne, lm_ne', lm_lt, lm_le, m1_lt, m1_le, m1_le0, m1_lt0, m1_0, m1_0', l1_0, gd_0, gd_1, gd_T, or_true, true_or, false_or, or_false, nle_T, nle_F, nlt_T, nlt_F, neq_T, neq_F, ↓reduceIte, ne_eq, not_true_eq_false, not_false_eq_true, bd1_s, bd2_s, bd3_s, bd4_s, bd5_s, bd6_s, bd7_s, bd8_s, bd9_s, bd10_s, bd11_s, bd12_s, bd13_s, bd14_s, bd15_s, bd16_s, bd17_s, bd18_s, bd19_s, bd20_s, bd21_s, bd22_s, bd23_s, bd24_s, bd25_s]
theorem HR.undo {F n G T x d : Nat} {tp hi S : Nat → Int32} {th : Int32} {ring : Nat → Option Nat} {zr : Nat → LT} (h : HR n G T tp (nI x) (nI (d + 1)) ring zr (nI (d + 1)) hi) (hx : x < 10) (hd : d < 10) (hF : 30000 ≤ F) :
    ring (nxp x) ≠ none ∧ ∃ S', f_X10_undo F th (nI (d + 1)) hi S = some (nI d, 0, nI d, S') ∧ LZ n G T tp (zr (nxp x)) S' ∧ HR n G T tp (nI (nxp x)) (nI d) ring zr (nI d) hi := by
  obtain ⟨x', d', e1, e2, e3, -, e5, e6⟩ := h
  have ex : x' = x := ((nI_eq (by omega) (by omega)).mp e1).symm
  have ed : d' = d + 1 := ((nI_eq (by omega) (by omega)).mp e3).symm
  subst ex ed
  have h0 : (x' + 9 - 0) % 10 = nxp x' := by unfold nxp; split <;> omega
  obtain ⟨g1, g2⟩ := e6 0 (by omega)
  rw [h0] at g1 g2
  refine ⟨g1, _, undo10_v hi S hd hF, g2.S (fun j hj => ?_), nxp x', d, rfl, by unfold nxp; split <;> omega, rfl, rfl, by omega, fun k hk => ?_⟩
  · have : spl S (fun j => hi (2524 * d + j)) 0 2524 (0 + j) = hi (2524 * d + j) := spl_hi hj
    rw [Nat.zero_add] at this
    rw [this]
    have : d + 1 - 1 - 0 = d := by omega
    rw [this]
  · have hi1 : (nxp x' + 9 - k) % 10 = (x' + 9 - (k + 1)) % 10 := by
      unfold nxp
      split <;> omega
    have hi2 : d - 1 - k = d + 1 - 1 - (k + 1) := by omega
    rw [hi1, hi2]
    exact e6 (k + 1) (by omega)
theorem nar1 : vp_nar .boolean 1 = 1 := by decide
theorem nar0 : vp_nar .boolean 0 = 0 := by decide
theorem save10_v {F s : Nat} {th : Int32} (sv sl S : Nat → Int32) (hs : s < 2) (hF : 30000 ≤ F) : f_X10_saveSnapshot F (nI s) th sv sl S = some (1, 0, upd sv s 1, spl sl S (2524 * s) 2524) := by
  unfold f_X10_saveSnapshot
  rw [rg_1 (F := F) (p := nI s) (a := 0) (b := 1) (by omega) (by omega) (by rw [nI_toInt (by omega)]; omega) (by rw [nI_toInt (by omega)]; omega), bd1_s, if_neg (by decide)]
  unfold f_X10_saveSnapshot_L19
  refine lp_at (fun i => (nI s, nI i, 0, sv, spl sl S (2524 * s) i)) 2524 (by omega) (by rw [spl_0]; rfl) (fun i hi' k => ?_) (fun k => ?_)
  · have s1 := spl_s sl S (2524 * s) i
    simp (disch := omega) only [f_X10_saveSnapshot_h19, s1, ll_le, ll_lt, ll_eq, lr_le, lr_lt, lr_eq, ll_add, lr_add, ll_mul, lr_mul, nI_add, pk_mul, nI_leI, nI_ltI, nI_eq, ll_sub, pk_sub, lm_add, rd_n, rd_l, wr_n, wr_l, lm_ne, lm_ne', lm_lt, lm_le, m1_lt, m1_le, m1_le0, m1_lt0, m1_0, m1_0', l1_0, gd_0, gd_1, gd_T, or_true, true_or, false_or, or_false, nle_T, nle_F, nlt_T, nlt_F, neq_T, neq_F, ↓reduceIte, ne_eq, not_true_eq_false, not_false_eq_true, bd1_s, bd2_s, bd3_s, bd4_s, bd5_s, bd6_s, bd7_s, bd8_s, bd9_s, bd10_s, bd11_s, bd12_s, bd13_s, bd14_s, bd15_s, bd16_s, bd17_s, bd18_s, bd19_s, bd20_s, bd21_s, bd22_s, bd23_s, bd24_s, bd25_s]
  · simp (disch := omega) only [f_X10_saveSnapshot_h19, nar1, ll_le, ll_lt, ll_eq, lr_le, lr_lt, lr_eq, ll_add, lr_add, ll_mul, lr_mul, nI_add, pk_mul, nI_leI, nI_ltI, nI_eq, ll_sub, pk_sub, lm_add, rd_n, rd_l, wr_n, wr_l, lm_ne, lm_ne', lm_lt, lm_le, m1_lt, m1_le, m1_le0, m1_lt0, m1_0, m1_0', l1_0, gd_0, gd_1, gd_T, or_true, true_or, false_or, or_false, nle_T, nle_F, nlt_T, nlt_F, neq_T, neq_F, ↓reduceIte, ne_eq, not_true_eq_false, not_false_eq_true, bd1_s, bd2_s, bd3_s, bd4_s, bd5_s, bd6_s, bd7_s, bd8_s, bd9_s, bd10_s, bd11_s, bd12_s, bd13_s, bd14_s, bd15_s, bd16_s, bd17_s, bd18_s, bd19_s, bd20_s, bd21_s, bd22_s, bd23_s, bd24_s, bd25_s]
theorem save10_n {F : Nat} {p th : Int32} (sv sl S : Nat → Int32) (hp : p < 0 ∨ 2 ≤ p) : f_X10_saveSnapshot F p th sv sl S = some (0, 0, sv, sl) := by
  unfold f_X10_saveSnapshot
  rw [rg_0 (F := F) (p := p) (a := 0) (b := 1) (by omega) (by omega) (by
    rw [i32_lt, i32_le] at hp
    have e0 : (0 : Int32).toInt = 0 := by decide
    have e2 : (2 : Int32).toInt = 2 := by decide
    omega), bd1_s, if_pos rfl]
  exact gd_0
theorem rest10_v {F s : Nat} {th dp : Int32} (sv sl S : Nat → Int32) (hs : s < 2) (hv : sv s = 1) (hF : 30000 ≤ F) : f_X10_restoreSnapshot F (nI s) th dp sv sl S = some (1, 0, 0, spl S (fun j => sl (2524 * s + j)) 0 2524) := by
  unfold f_X10_restoreSnapshot
  rw [rg_1 (F := F) (p := nI s) (a := 0) (b := 1) (by omega) (by omega) (by rw [nI_toInt (by omega)]; omega) (by rw [nI_toInt (by omega)]; omega), bd1_s, if_neg (by decide), rd_n hs (by decide), hv, if_neg (by decide)]
  unfold f_X10_restoreSnapshot_L28
  refine lp_at (fun i => (nI s, nI i, 0, dp, spl S (fun j => sl (2524 * s + j)) 0 i)) 2524 (by omega) (by rw [spl_0]; rfl) (fun i hi' k => ?_) (fun k => ?_)
  · have s1 := spl_z S (fun j => sl (2524 * s + j)) i
    try dsimp only at s1
    simp (disch := omega) only [f_X10_restoreSnapshot_h28, s1, ll_le, ll_lt, ll_eq, lr_le, lr_lt, lr_eq, ll_add, lr_add, ll_mul, lr_mul, nI_add, pk_mul, nI_leI, nI_ltI, nI_eq, ll_sub, pk_sub, lm_add, rd_n, rd_l, wr_n, wr_l, lm_ne, lm_ne', lm_lt, lm_le, m1_lt, m1_le, m1_le0, m1_lt0, m1_0, m1_0', l1_0, gd_0, gd_1, gd_T, or_true, true_or, false_or, or_false, nle_T, nle_F, nlt_T, nlt_F, neq_T, neq_F, ↓reduceIte, ne_eq, not_true_eq_false, not_false_eq_true, bd1_s, bd2_s, bd3_s, bd4_s, bd5_s, bd6_s, bd7_s, bd8_s, bd9_s, bd10_s, bd11_s, bd12_s, bd13_s, bd14_s, bd15_s, bd16_s, bd17_s, bd18_s, bd19_s, bd20_s, bd21_s, bd22_s, bd23_s, bd24_s, bd25_s]
  · simp (disch := omega) only [f_X10_restoreSnapshot_h28, ll_le, ll_lt, ll_eq, lr_le, lr_lt, lr_eq, ll_add, lr_add, ll_mul, lr_mul, nI_add, pk_mul, nI_leI, nI_ltI, nI_eq, ll_sub, pk_sub, lm_add, rd_n, rd_l, wr_n, wr_l, lm_ne, lm_ne', lm_lt, lm_le, m1_lt, m1_le, m1_le0, m1_lt0, m1_0, m1_0', l1_0, gd_0, gd_1, gd_T, or_true, true_or, false_or, or_false, nle_T, nle_F, nlt_T, nlt_F, neq_T, neq_F, ↓reduceIte, ne_eq, not_true_eq_false, not_false_eq_true, bd1_s, bd2_s, bd3_s, bd4_s, bd5_s, bd6_s, bd7_s, bd8_s, bd9_s, bd10_s, bd11_s, bd12_s, bd13_s, bd14_s, bd15_s, bd16_s, bd17_s, bd18_s, bd19_s, bd20_s, bd21_s, bd22_s, bd23_s, bd24_s, bd25_s]
theorem rest10_e {F s : Nat} {th dp : Int32} (sv sl S : Nat → Int32) (hs : s < 2) (hv : sv s = 0) : f_X10_restoreSnapshot F (nI s) th dp sv sl S = some (0, 0, dp, S) := by
  unfold f_X10_restoreSnapshot
  rw [rg_1 (F := F) (p := nI s) (a := 0) (b := 1) (by omega) (by omega) (by rw [nI_toInt (by omega)]; omega) (by rw [nI_toInt (by omega)]; omega), bd1_s, if_neg (by decide), rd_n hs (by decide), hv, if_pos rfl]
  exact gd_0
theorem rest10_n {F : Nat} {p th dp : Int32} (sv sl S : Nat → Int32) (hp : p < 0 ∨ 2 ≤ p) : f_X10_restoreSnapshot F p th dp sv sl S = some (0, 0, dp, S) := by
  unfold f_X10_restoreSnapshot
  rw [rg_0 (F := F) (p := p) (a := 0) (b := 1) (by omega) (by omega) (by
    rw [i32_lt, i32_le] at hp
    have e0 : (0 : Int32).toInt = 0 := by decide
    have e2 : (2 : Int32).toInt = 2 := by decide
    omega), bd1_s, if_pos rfl]
  exact gd_0
theorem saveP_v {F s : Nat} (ctn cvn : Int32) (cam civ cpd cpa cpl csb cvc : Nat → Int32) (ccn cln : Int32) (cax cga chx chp cla cps crp cst ctg cti ctr : Nat → Int32) (rtn rvn : Int32) (ram riv rpd rpa rpl rsb rvc : Nat → Int32) (rcn rln : Int32) (rax rga rhx rhp rla rps rrp rst rtg rti rtr : Nat → Int32) (full : Nat → Int32) (hs : s < 2) :
    f_X9_saveSnapshotP F (nI s) ctn cvn cam civ cpd cpa cpl csb cvc ccn cln cax cga chx chp cla cps crp cst ctg cti ctr rtn rvn ram riv rpd rpa rpl rsb rvc rcn rln rax rga rhx rhp rla rps rrp rst rtg rti rtr full = some (1, ctn, cvn, va_cpy cam ram 0 0 80, va_cpy civ riv 0 0 80, va_cpy cpd rpd 0 0 40, va_cpy cpa rpa 0 0 80, va_cpy cpl rpl 0 0 40, va_cpy csb rsb 0 0 80, va_cpy cvc rvc 0 0 80, ccn, cln, va_cpy cax rax 0 0 640, va_cpy cga rga 0 0 80, va_cpy chx rhx 0 0 80, va_cpy chp rhp 0 0 80, va_cpy cla rla 0 0 80, va_cpy cps rps 0 0 320, va_cpy crp rrp 0 0 320, va_cpy cst rst 0 0 80, va_cpy ctg rtg 0 0 80, va_cpy cti rti 0 0 80, va_cpy ctr rtr 0 0 80, upd full s 1) := by
  simp (disch := omega) only [f_X9_saveSnapshotP, f_X8_storeP, f_X3_copyFrom, f_X6_copyFrom, f_X1_copyFrom, nar1, ll_le, ll_lt, ll_eq, lr_le, lr_lt, lr_eq, ll_add, lr_add, ll_mul, lr_mul, nI_add, pk_mul, nI_leI, nI_ltI, nI_eq, ll_sub, pk_sub, lm_add, rd_n, rd_l, wr_n, wr_l, lm_ne, lm_ne', lm_lt, lm_le, m1_lt, m1_le, m1_le0, m1_lt0, m1_0, m1_0', l1_0, gd_0, gd_1, gd_T, or_true, true_or, false_or, or_false, nle_T, nle_F, nlt_T, nlt_F, neq_T, neq_F, ↓reduceIte, ne_eq, not_true_eq_false, not_false_eq_true, bd1_s, bd2_s, bd3_s, bd4_s, bd5_s, bd6_s, bd7_s, bd8_s, bd9_s, bd10_s, bd11_s, bd12_s, bd13_s, bd14_s, bd15_s, bd16_s, bd17_s, bd18_s, bd19_s, bd20_s, bd21_s, bd22_s, bd23_s, bd24_s, bd25_s]
theorem saveZ_v {F : Nat} {p : Int32} (hp : p < 0 ∨ 2 ≤ p) : f_X9_saveSnapshotZ F p = some 0 := by
  by_cases h1 : p < 0
  · simp (disch := omega) only [f_X9_saveSnapshotZ, f_X8_storeZ, h1, ll_le, ll_lt, ll_eq, lr_le, lr_lt, lr_eq, ll_add, lr_add, ll_mul, lr_mul, nI_add, pk_mul, nI_leI, nI_ltI, nI_eq, ll_sub, pk_sub, lm_add, rd_n, rd_l, wr_n, wr_l, lm_ne, lm_ne', lm_lt, lm_le, m1_lt, m1_le, m1_le0, m1_lt0, m1_0, m1_0', l1_0, gd_0, gd_1, gd_T, or_true, true_or, false_or, or_false, nle_T, nle_F, nlt_T, nlt_F, neq_T, neq_F, ↓reduceIte, ne_eq, not_true_eq_false, not_false_eq_true, bd1_s, bd2_s, bd3_s, bd4_s, bd5_s, bd6_s, bd7_s, bd8_s, bd9_s, bd10_s, bd11_s, bd12_s, bd13_s, bd14_s, bd15_s, bd16_s, bd17_s, bd18_s, bd19_s, bd20_s, bd21_s, bd22_s, bd23_s, bd24_s, bd25_s]
  · have h2 : ¬ p < 2 := i32_nlt.mpr (hp.resolve_left h1)
    simp (disch := omega) only [f_X9_saveSnapshotZ, f_X8_storeZ, h1, h2, ll_le, ll_lt, ll_eq, lr_le, lr_lt, lr_eq, ll_add, lr_add, ll_mul, lr_mul, nI_add, pk_mul, nI_leI, nI_ltI, nI_eq, ll_sub, pk_sub, lm_add, rd_n, rd_l, wr_n, wr_l, lm_ne, lm_ne', lm_lt, lm_le, m1_lt, m1_le, m1_le0, m1_lt0, m1_0, m1_0', l1_0, gd_0, gd_1, gd_T, or_true, true_or, false_or, or_false, nle_T, nle_F, nlt_T, nlt_F, neq_T, neq_F, ↓reduceIte, ne_eq, not_true_eq_false, not_false_eq_true, bd1_s, bd2_s, bd3_s, bd4_s, bd5_s, bd6_s, bd7_s, bd8_s, bd9_s, bd10_s, bd11_s, bd12_s, bd13_s, bd14_s, bd15_s, bd16_s, bd17_s, bd18_s, bd19_s, bd20_s, bd21_s, bd22_s, bd23_s, bd24_s, bd25_s]
theorem restP_v {F s : Nat} {dp : Int32} (ctn cvn : Int32) (cam civ cpd cpa cpl csb cvc : Nat → Int32) (ccn cln : Int32) (cax cga chx chp cla cps crp cst ctg cti ctr : Nat → Int32) (rtn rvn : Int32) (ram riv rpd rpa rpl rsb rvc : Nat → Int32) (rcn rln : Int32) (rax rga rhx rhp rla rps rrp rst rtg rti rtr : Nat → Int32) (full : Nat → Int32) (hs : s < 2) (hf : full s = 1) :
    f_X9_restoreSnapshotP F (nI s) dp ctn cvn cam civ cpd cpa cpl csb cvc ccn cln cax cga chx chp cla cps crp cst ctg cti ctr rtn rvn ram riv rpd rpa rpl rsb rvc rcn rln rax rga rhx rhp rla rps rrp rst rtg rti rtr full = some (1, 0, rtn, rvn, va_cpy ram cam 0 0 80, va_cpy riv civ 0 0 80, va_cpy rpd cpd 0 0 40, va_cpy rpa cpa 0 0 80, va_cpy rpl cpl 0 0 40, va_cpy rsb csb 0 0 80, va_cpy rvc cvc 0 0 80, rcn, rln, va_cpy rax cax 0 0 640, va_cpy rga cga 0 0 80, va_cpy rhx chx 0 0 80, va_cpy rhp chp 0 0 80, va_cpy rla cla 0 0 80, va_cpy rps cps 0 0 320, va_cpy rrp crp 0 0 320, va_cpy rst cst 0 0 80, va_cpy rtg ctg 0 0 80, va_cpy rti cti 0 0 80, va_cpy rtr ctr 0 0 80) := by
  simp (disch := omega) only [f_X9_restoreSnapshotP, f_X9_restoreSnapshotP_b24, f_X8_fetchP, f_X2_forget, f_X3_copyFrom, f_X6_copyFrom, f_X1_copyFrom, hf, ll_le, ll_lt, ll_eq, lr_le, lr_lt, lr_eq, ll_add, lr_add, ll_mul, lr_mul, nI_add, pk_mul, nI_leI, nI_ltI, nI_eq, ll_sub, pk_sub, lm_add, rd_n, rd_l, wr_n, wr_l, lm_ne, lm_ne', lm_lt, lm_le, m1_lt, m1_le, m1_le0, m1_lt0, m1_0, m1_0', l1_0, gd_0, gd_1, gd_T, or_true, true_or, false_or, or_false, nle_T, nle_F, nlt_T, nlt_F, neq_T, neq_F, ↓reduceIte, ne_eq, not_true_eq_false, not_false_eq_true, bd1_s, bd2_s, bd3_s, bd4_s, bd5_s, bd6_s, bd7_s, bd8_s, bd9_s, bd10_s, bd11_s, bd12_s, bd13_s, bd14_s, bd15_s, bd16_s, bd17_s, bd18_s, bd19_s, bd20_s, bd21_s, bd22_s, bd23_s, bd24_s, bd25_s]
theorem restZ_v {F : Nat} {p dp : Int32} (full : Nat → Int32) (hp : p < 0 ∨ 2 ≤ p ∨ ∃ s, s < 2 ∧ p = nI s ∧ full s = 0) : f_X9_restoreSnapshotZ F p dp full = some (0, dp) := by
  by_cases h1 : p < 0
  · simp (disch := omega) only [f_X9_restoreSnapshotZ, f_X9_restoreSnapshotZ_b24, f_X8_fetchZ, h1, ll_le, ll_lt, ll_eq, lr_le, lr_lt, lr_eq, ll_add, lr_add, ll_mul, lr_mul, nI_add, pk_mul, nI_leI, nI_ltI, nI_eq, ll_sub, pk_sub, lm_add, rd_n, rd_l, wr_n, wr_l, lm_ne, lm_ne', lm_lt, lm_le, m1_lt, m1_le, m1_le0, m1_lt0, m1_0, m1_0', l1_0, gd_0, gd_1, gd_T, or_true, true_or, false_or, or_false, nle_T, nle_F, nlt_T, nlt_F, neq_T, neq_F, ↓reduceIte, ne_eq, not_true_eq_false, not_false_eq_true, bd1_s, bd2_s, bd3_s, bd4_s, bd5_s, bd6_s, bd7_s, bd8_s, bd9_s, bd10_s, bd11_s, bd12_s, bd13_s, bd14_s, bd15_s, bd16_s, bd17_s, bd18_s, bd19_s, bd20_s, bd21_s, bd22_s, bd23_s, bd24_s, bd25_s]
  · by_cases h2 : 2 ≤ p
    · simp (disch := omega) only [f_X9_restoreSnapshotZ, f_X9_restoreSnapshotZ_b24, f_X8_fetchZ, h1, h2, ll_le, ll_lt, ll_eq, lr_le, lr_lt, lr_eq, ll_add, lr_add, ll_mul, lr_mul, nI_add, pk_mul, nI_leI, nI_ltI, nI_eq, ll_sub, pk_sub, lm_add, rd_n, rd_l, wr_n, wr_l, lm_ne, lm_ne', lm_lt, lm_le, m1_lt, m1_le, m1_le0, m1_lt0, m1_0, m1_0', l1_0, gd_0, gd_1, gd_T, or_true, true_or, false_or, or_false, nle_T, nle_F, nlt_T, nlt_F, neq_T, neq_F, ↓reduceIte, ne_eq, not_true_eq_false, not_false_eq_true, bd1_s, bd2_s, bd3_s, bd4_s, bd5_s, bd6_s, bd7_s, bd8_s, bd9_s, bd10_s, bd11_s, bd12_s, bd13_s, bd14_s, bd15_s, bd16_s, bd17_s, bd18_s, bd19_s, bd20_s, bd21_s, bd22_s, bd23_s, bd24_s, bd25_s]
    · obtain ⟨s, s1, rfl, s3⟩ := (hp.resolve_left h1).resolve_left h2
      simp (disch := omega) only [f_X9_restoreSnapshotZ, f_X9_restoreSnapshotZ_b24, f_X8_fetchZ, s3, ll_le, ll_lt, ll_eq, lr_le, lr_lt, lr_eq, ll_add, lr_add, ll_mul, lr_mul, nI_add, pk_mul, nI_leI, nI_ltI, nI_eq, ll_sub, pk_sub, lm_add, rd_n, rd_l, wr_n, wr_l, lm_ne, lm_ne', lm_lt, lm_le, m1_lt, m1_le, m1_le0, m1_lt0, m1_0, m1_0', l1_0, gd_0, gd_1, gd_T, or_true, true_or, false_or, or_false, nle_T, nle_F, nlt_T, nlt_F, neq_T, neq_F, ↓reduceIte, ne_eq, not_true_eq_false, not_false_eq_true, bd1_s, bd2_s, bd3_s, bd4_s, bd5_s, bd6_s, bd7_s, bd8_s, bd9_s, bd10_s, bd11_s, bd12_s, bd13_s, bd14_s, bd15_s, bd16_s, bd17_s, bd18_s, bd19_s, bd20_s, bd21_s, bd22_s, bd23_s, bd24_s, bd25_s]
