/-! append -/
theorem nar_b (x : Int32) : vp_nar .byte x = x.toInt8.toInt32 := rfl
theorem bv_255 : ∀ i, i < 32 → (255#32).getLsbD i = decide (i < 8) := by decide
theorem bv_key (v : BitVec 32) {m : Nat} (hm : m ≤ 24) : (v >>> m) &&& 255#32 = ((((v.sshiftRight m).signExtend 8).signExtend 32).signExtend 8).signExtend 32 &&& 255#32 := by
  apply BitVec.eq_of_getLsbD_eq
  intro i hi
  rw [BitVec.getLsbD_and, BitVec.getLsbD_and, bv_255 i hi]
  by_cases h8 : i < 8
  · rw [BitVec.getLsbD_signExtend, BitVec.getLsbD_signExtend, BitVec.getLsbD_signExtend, BitVec.getLsbD_signExtend, BitVec.getLsbD_sshiftRight, BitVec.getLsbD_ushiftRight]
    have h1 : m + i < 32 := by omega
    simp [hi, h8, h1]
    all_goals omega
  · simp [h8]
theorem sh_24 (x : Int32) : ((x.toUInt32 >>> ((nI 24).toUInt32 &&& Int32.toUInt32 31)).toInt32) &&& 255 = (vp_nar .byte ((x >>> (nI 24 &&& 31)).toInt8.toInt32)) &&& 255 := by
  apply Int32.toBitVec_inj.mp
  exact bv_key x.toBitVec (m := 24) (by omega)
theorem sh_16 (x : Int32) : ((x.toUInt32 >>> ((nI 16).toUInt32 &&& Int32.toUInt32 31)).toInt32) &&& 255 = (vp_nar .byte ((x >>> (nI 16 &&& 31)).toInt8.toInt32)) &&& 255 := by
  apply Int32.toBitVec_inj.mp
  exact bv_key x.toBitVec (m := 16) (by omega)
theorem sh_8 (x : Int32) : ((x.toUInt32 >>> ((nI 8).toUInt32 &&& Int32.toUInt32 31)).toInt32) &&& 255 = (vp_nar .byte ((x >>> (nI 8 &&& 31)).toInt8.toInt32)) &&& 255 := by
  apply Int32.toBitVec_inj.mp
  exact bv_key x.toBitVec (m := 8) (by omega)
theorem sh_0 (x : Int32) : ((x.toUInt32 >>> ((nI 0).toUInt32 &&& Int32.toUInt32 31)).toInt32) &&& 255 = (vp_nar .byte ((x >>> (nI 0 &&& 31)).toInt8.toInt32)) &&& 255 := by
  apply Int32.toBitVec_inj.mp
  exact bv_key x.toBitVec (m := 0) (by omega)
def sft : Nat → Int32
  | 0 => 24
  | 1 => 16
  | 2 => 8
  | 3 => 0
  | _ => -8
def byt (x : Int32) (i : Nat) : Int32 := ((x.toUInt32 >>> ((sft i).toUInt32 &&& Int32.toUInt32 31)).toInt32) &&& 255
def byr (x : Int32) (i : Nat) : Int32 := vp_nar .byte ((x >>> (sft i &&& 31)).toInt8.toInt32)
theorem by_eq (x : Int32) {i : Nat} (h : i < 4) : byr x i &&& 255 = byt x i := by
  rcases (show i = 0 ∨ i = 1 ∨ i = 2 ∨ i = 3 by omega) with rfl | rfl | rfl | rfl
  · exact (sh_24 x).symm
  · exact (sh_16 x).symm
  · exact (sh_8 x).symm
  · exact (sh_0 x).symm
theorem sft_s {i : Nat} (h : i < 4) : sft i + (-8) = sft (i + 1) ∧ ¬ sft i < 0 := by
  rcases (show i = 0 ∨ i = 1 ∨ i = 2 ∨ i = 3 by omega) with rfl | rfl | rfl | rfl <;> decide
section
variable {F m : Nat} {tx bf : Nat → Int32}
theorem aw_5 (x : Int32) (hm : m + 4 ≤ 900) (hF : 100 ≤ F) : f_X5_addWord F x (nI m) tx = some (nI (m + 4), spl tx (byt x) m 4) := by
  unfold f_X5_addWord f_X5_addWord_L3
  refine lp_at (fun i => (x, sft i, nI (m + i), spl tx (byt x) m i)) 4 (by omega) (by rw [spl_0]; rfl) (fun i hi k => ?_) (fun k => ?_)
  · obtain ⟨g1, g2⟩ := sft_s hi
    have s1 := spl_s tx (byt x) m i
    dsimp only
    unfold f_X5_addWord_h3
    rw [if_neg g2, if_neg (show ¬ (900 : Int32) ≤ nI (m + i) from fun w => by have := (nI_leI (a := 900) (by omega) (by omega)).mp w; omega), wr_n (by omega) (by decide), g1]
    have s2 : upd (spl tx (byt x) m i) (m + i) ((x.toUInt32 >>> ((sft i).toUInt32 &&& Int32.toUInt32 31)).toInt32 &&& 255) = spl tx (byt x) m (i + 1) := s1
    rw [s2, show nI (m + i) + 1 = nI (m + (i + 1)) from nI_add (m + i) 1]
  · dsimp only
    unfold f_X5_addWord_h3 f_X5_addWord_b49
    rw [if_pos (show sft 4 < 0 by decide)]
theorem aw_10 (x : Int32) (hm : m + 4 ≤ 900) (hF : 100 ≤ F) : f_X10_appendInt F x (nI m) bf = some (nI (m + 4), spl bf (byr x) m 4) := by
  unfold f_X10_appendInt f_X10_appendInt_L3
  refine lp_at (fun i => (x, sft i, nI (m + i), spl bf (byr x) m i)) 4 (by omega) (by rw [spl_0]; rfl) (fun i hi k => ?_) (fun k => ?_)
  · obtain ⟨g1, g2⟩ := sft_s hi
    have s1 := spl_s bf (byr x) m i
    dsimp only
    unfold f_X10_appendInt_h3
    rw [if_neg g2, wr_n (by omega) (by decide), g1]
    have s2 : upd (spl bf (byr x) m i) (m + i) (vp_nar .byte ((x >>> (sft i &&& 31)).toInt8.toInt32)) = spl bf (byr x) m (i + 1) := s1
    rw [s2, show nI (m + i) + 1 = nI (m + (i + 1)) from nI_add (m + i) 1]
  · dsimp only
    unfold f_X10_appendInt_h3
    rw [if_pos (show sft 4 < 0 by decide)]
theorem aw_T {b : Nat → Nat} (x : Int32) (h : TXT m b tx bf) (hm : m + 4 ≤ 900) : ∃ b', TXT (m + 4) b' (spl tx (byt x) m 4) (spl bf (byr x) m 4) := by
  have hc : ∀ j, ∃ c, c < 256 ∧ byt x j = nI c := fun j => by
    obtain ⟨c, c1, c2⟩ := pk_andE ((x.toUInt32 >>> ((sft j).toUInt32 &&& Int32.toUInt32 31)).toInt32) (m := 255) 8 (by decide)
    exact ⟨c, c1, c2⟩
  refine ⟨fun i => if i < m then b i else Classical.choose (hc (i - m)), hm, fun i hi => ?_⟩
  dsimp only
  by_cases w : i < m
  · rw [if_pos w, spl_lo w, spl_lo w]
    exact h.2 i w
  · obtain ⟨j, rfl⟩ : ∃ j, i = m + j := ⟨i - m, by omega⟩
    rw [if_neg w, spl_hi (by omega), spl_hi (by omega), Nat.add_sub_cancel_left]
    obtain ⟨c1, c2⟩ := Classical.choose_spec (hc j)
    exact ⟨c1, c2, (by_eq x (by omega)).trans c2⟩
end
theorem h_append {F : Nat} {hd le th : Int32} {tx bf : Nat → Int32} (p1 p2 p3 p4 p5 : Int32) (hB : BUF hd le tx bf) (hF : 100 ≤ F) : ∃ r hd' le' tx' bf', f_X9_append F p1 p2 p3 p4 p5 hd tx = some (r, hd', tx') ∧ f_X10_append F p1 p2 p3 p4 p5 th le bf = some (r, 0, le', bf') ∧ BUF hd' le' tx' bf' := by
  obtain ⟨m, b, rfl, rfl, h⟩ := hB
  have hm := h.1
  by_cases h8 : m ≤ 880
  · obtain ⟨b1, t1⟩ := aw_T p1 h (by omega)
    obtain ⟨b2, t2⟩ := aw_T p2 t1 (by omega)
    obtain ⟨b3, t3⟩ := aw_T p3 t2 (by omega)
    obtain ⟨b4, t4⟩ := aw_T p4 t3 (by omega)
    obtain ⟨b5, t5⟩ := aw_T p5 t4 (by omega)
    refine ⟨nI (m + 4 + 4 + 4 + 4 + 4), _, _, _, _, ?_, ?_, ⟨_, b5, rfl, rfl, t5⟩⟩
    · unfold f_X9_append
      rw [if_pos (show nI m ≤ (880 : Int32) from (nI_leI (b := 880) (by omega) (by omega)).mpr h8), aw_5 p1 (by omega) hF, bd2_s, aw_5 p2 (by omega) hF, bd2_s, aw_5 p3 (by omega) hF, bd2_s, aw_5 p4 (by omega) hF, bd2_s, aw_5 p5 (by omega) hF, bd2_s]
    · unfold f_X10_append
      rw [if_pos (show nI m + 20 ≤ (900 : Int32) by rw [show nI m + 20 = nI (m + 20) from nI_add m 20]; exact (nI_leI (b := 900) (by omega) (by omega)).mpr (by omega)), aw_10 p1 (by omega) hF, bd2_s, aw_10 p2 (by omega) hF, bd2_s, aw_10 p3 (by omega) hF, bd2_s, aw_10 p4 (by omega) hF, bd2_s, aw_10 p5 (by omega) hF, bd2_s]
  · refine ⟨-1, nI m, nI m, tx, bf, ?_, ?_, ⟨m, b, rfl, rfl, h⟩⟩
    · unfold f_X9_append
      rw [if_neg (show ¬ nI m ≤ (880 : Int32) from fun w => h8 ((nI_leI (b := 880) (by omega) (by omega)).mp w))]
    · unfold f_X10_append
      rw [if_neg (show ¬ nI m + 20 ≤ (900 : Int32) by rw [show nI m + 20 = nI (m + 20) from nI_add m 20]; exact fun w => by have := (nI_leI (b := 900) (by omega) (by omega)).mp w; omega)]
