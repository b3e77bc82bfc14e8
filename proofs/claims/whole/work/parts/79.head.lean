/-! the head of a text, and the text -/
section
variable {F n : Nat} {b : Nat → Nat} {tx bf : Nat → Int32} {tk st ts tk2 v eo : Int32} {xca xcp mM mP xta xtp ca cp dr lf lm lq lt ta tp : Nat → Int32}
theorem txt_both (h : TXT n b tx bf) (hn : 0 < n) (hF : 2000 ≤ F) (hM : ∀ k, k < 100 → mM k = 0 ∧ mP k = 0) (hd : dr 1 = 0 ∧ dr 2 = 0 ∧ dr 3 = 0 ∧ dr 4 = 1 ∧ dr 5 = 60 ∧ dr 6 = 0) :
    ∃ G, G ≤ 10 ∧ Ok2 (bd5 (f_X5_readHead F (nI n) 0 tk st 0 0 tx) fun o44 o45 o46 o47 o48 => f_X5_readText_b59 F tx 0 (nI n) o44 o45 o46 o47 0 0 0 o48 0 0 0 1 60 0 xca xcp mM mP xta xtp) (f_X10_readNetwork F (nI n) ts 0 tk2 v 0 eo 0 bf ca cp dr lf lm lq lt ta tp) (QT n G ca cp lf lm lq lt ta tp) := by
  have h1 := h.1
  have n10 : ¬ (1 : Int32) = 0 := by decide
  obtain ⟨s, e, k, v1, q1, t⟩ := tok h (Nat.zero_le n) hF ts tk2 v
  have t3 : e ≤ n := t.2.2.1
  have sn : s ≤ n := Nat.le_trans t.2.1 t3
  have t7 := t.2.2.2.2.2.2.1
  obtain ⟨r, z, c, q, -⟩ := isw (j := 0) h (by omega) t hF
  have a1 : f_X5_advance F (nI n) tk st 0 tx = some (nI k, nI s, nI e) := t7 tk st
  have q1' : f_X10_nextToken F (nI n) ts 0 tk2 v bf = some (nI s, nI e, rk k, v1) := q1
  unfold f_X5_readHead f_X10_readNetwork
  rw [a1, bd3_s, c, bd1_s, q1', bd4_s, q, bd1_s]
  rcases z with z | z
  · -- no head
    obtain ⟨f1, f2, f3⟩ := fin_f (d := 1) (s1 := s) h1 (by omega) (by omega) sn
    obtain ⟨r2, k2, s2, e2, e21, w1⟩ := num_f h t3 f1 f2 2 10 hF
    obtain ⟨k3, s3, e3, e31, w2⟩ := sem_f h e21 f1 f2 hF
    refine ⟨0, by omega, ?_⟩
    rw [if_pos z, show f_X5_fail F 1 0 (nI s) = some (nI (8 * s + 1)) from fl_0 (d := 1), bd1_s]
    unfold f_X5_readHead_b18 f_X5_readHead_b41
    rw [w1, bd5_s, if_neg (nI_nz f1 f2), w2, bd4_s, bd5_s, z, mu_0 (by decide), bd3_s, if_pos rfl]
    unfold f_X5_readText_b59 f_X5_readText_L61
    refine .of1 ⟨_, ?_, _, rfl, .inr ⟨1, s, nI k3, nI s3, nI e3, 0, nI s, nI e, rk k, v1, 0, 0, 0, 0, 0, 0, 1, 60, 0, 0, xca, xcp, mM, mP, xta, xtp, ca, cp, dr, lf, lm, lq, lt, ta, tp, rfl, rfl, by omega, by omega, sn, FRX.rf⟩⟩
    refine lp_at (fun _ => (0, 0, nI n, nI (8 * s + 1), nI k3, nI s3, nI e3, 0, 0, 0, 0, 0, 0, 0, 1, 60, 0, xca, xcp, mM, mP, xta, xtp)) 0 (by omega) rfl (fun i hi k => by omega) (fun k => ?_)
    dsimp only
    unfold f_X5_readText_h61 f_X5_readText_b102
    rw [if_neg (fun w => by have := (nI_leI (a := n) (b := 0) (by omega) (by omega)).mp w; omega), if_neg (nI_nz f1 f2)]
  · have z0 : ¬ r = 0 := by rw [z]; decide
    rw [if_neg z0, z, mu_1, bd3_s, if_neg n10]
    obtain ⟨s1, e1, k1, v2, q2, t1⟩ := tok h t3 hF (nI s) (rk k) v1
    have s1n : s1 ≤ n := Nat.le_trans t1.2.1 t1.2.2.1
    unfold f_X5_readHead_b18
    rw [q2, bd4_s]
    rcases num_both (L := 2) (H := 10) (lo := 2) (hi := 10) h t1 rfl rfl (by omega) (by omega) hF with ⟨G, s2, e2, k2, v3, g1, g2, c1, r1, t2, -, -⟩ | ⟨r', d, hd', c1, r1, -, -⟩
    · rw [c1, bd5_s, if_pos rfl, r1, bd7_s, show (0 : Int32) = nI 0 from rfl, wr_n (by decide) (by decide), show nI 0 = (0 : Int32) from rfl]
      refine ⟨G, g2, ?_⟩
      obtain ⟨u1, u2, u3, u4, u5, u6, u7, u8⟩ := id t2
      have hD : DRX G 0 0 0 0 0 0 1 60 0 xca xcp mM mP xta xtp 0 ca cp (upd dr 0 (nI G)) lf lm lq lt ta tp := by
        obtain ⟨d1, d2, d3, d4, d5, d6⟩ := hd
        refine ⟨0, 0, 0, 1, 60, 0, fun _ _ => 0, fun _ _ => 0, rfl, rfl, rfl, rfl, rfl, rfl, by omega, by omega, by omega, by omega, by rw [upd_at, if_pos rfl], by rw [upd_at, if_neg (by omega), d1]; rfl, by rw [upd_at, if_neg (by omega), d2]; rfl, by rw [upd_at, if_neg (by omega), d3]; rfl, by rw [upd_at, if_neg (by omega), d4]; rfl, by rw [upd_at, if_neg (by omega), d5]; rfl, by rw [upd_at, if_neg (by omega), d6]; rfl, ⟨by omega, fun a c ha hc => ?_, fun k hk => by omega, fun a c _ _ w => absurd w (Nat.lt_irrefl 0)⟩, ⟨by omega, fun k hk => by omega⟩, ⟨⟨by omega, fun k hk => by omega, fun i j _ hj => by omega⟩, fun k hk => by omega⟩, ⟨0, 0, 0, by omega, by omega, by omega, rfl, rfl, rfl, rfl⟩⟩
        obtain ⟨m1, m2⟩ := hM (a * 10 + c) (by omega)
        exact ⟨m1, m2, Nat.zero_le _, Nat.zero_le _, Iff.rfl⟩
      unfold f_X5_readHead_b41 f_X5_readSemicolon f_X5_readSemicolon_b17 f_X10_readNetwork_b51
      rw [u7, bd3_s]
      by_cases k3 : k2 = 3
      · obtain ⟨s4, e4, k4, v4, y1, y2⟩ := tok h u3 hF (nI s2) (rk k2) v3
        rw [if_pos (show nI k2 = (3 : Int32) by rw [k3]; rfl), bd4_s, bd5_s, if_pos ((rk_s u4).mpr k3), mu_1, bd3_s, if_neg n10, y1, bd4_s]
        unfold f_X5_readText_b59 f_X5_readText_L61 f_X10_readNetwork_L62
        exact txt_loop (i0 := 0) h g1 g2 hF (Nat.zero_le _) (.inl ⟨nI k2, nI s2, v4, eo, e2, s4, e4, k4, 0, 0, 0, 0, 0, 0, 1, 60, 0, 0, xca, xcp, mM, mP, xta, xtp, ca, cp, upd dr 0 (nI G), lf, lm, lq, lt, ta, tp, rfl, rfl, y2, Nat.zero_le _, hD, FRX.rf⟩)
      · rw [if_neg (show ¬ nI k2 = (3 : Int32) from fun w => k3 ((nI_eq (b := 3) (by omega) (by omega)).mp w)), show f_X5_fail F 1 0 (nI s2) = some (nI (8 * s2 + 1)) from fl_0 (d := 1), bd1_s, bd4_s, bd5_s, if_neg (fun w => k3 ((rk_s u4).mp w)), mu_0 (by decide), bd3_s, if_pos rfl]
        unfold f_X5_readText_b59 f_X5_readText_L61 f_X10_readNetwork_L62
        exact txt_loop (i0 := 0) h g1 g2 hF (Nat.zero_le _) (.inr ⟨1, s2, nI k2, nI s2, nI e2, nI G, nI s2, nI e2, rk k2, v3, 0, 0, 0, 0, 0, 0, 1, 60, 0, 0, xca, xcp, mM, mP, xta, xtp, ca, cp, upd dr 0 (nI G), lf, lm, lq, lt, ta, tp, rfl, rfl, by omega, by omega, by omega, FRX.rf⟩)
    · obtain ⟨f1, f2, f3⟩ := fin_f (d := d) (s1 := s1) h1 (by omega) (by omega) s1n
      obtain ⟨k3, s3, e3, e31, w2⟩ := sem_f h t1.2.2.1 f1 f2 hF
      refine ⟨2, by omega, ?_⟩
      unfold f_X5_readHead_b41 f_X10_readNetwork_b51
      rw [c1, bd5_s, if_neg (nI_nz f1 f2), w2, bd4_s, bd5_s, r1, bd7_s, show (0 : Int32) = nI 0 from rfl, wr_n (by decide) (by decide), show nI 0 = (0 : Int32) from rfl, mu_e f3, bd3_s, mu_e f3, bd3_s, if_pos rfl]
      unfold f_X5_readText_b59 f_X5_readText_L61 f_X10_readNetwork_L62
      have q := txt_loop (G := 2) (i0 := 0) (z := (0, 0, nI n, nI (8 * s1 + d), nI k3, nI s3, nI e3, 0, 0, 0, 0, 0, 0, 0, 1, 60, 0, xca, xcp, mM, mP, xta, xtp)) (z' := (nI s1, nI e1, rk k1, v2, nI d, nI s1, 0, ca, cp, upd dr 0 0, lf, lm, lq, lt, ta, tp)) h (by omega) (by omega) hF (Nat.zero_le _) (.inr ⟨d, s1, nI k3, nI s3, nI e3, 0, nI s1, nI e1, rk k1, v2, 0, 0, 0, 0, 0, 0, 1, 60, 0, 0, xca, xcp, mM, mP, xta, xtp, ca, cp, upd dr 0 0, lf, lm, lq, lt, ta, tp, rfl, rfl, by omega, by omega, s1n, FRX.rf⟩)
      split
      · exact q
      · exact q
end
