/-! append -/
theorem nar_b (x : Int32) : vp_nar .byte x = x.toInt8.toInt32 := rfl
theorem sh_v (x : Int32) {k : Nat} (hk : k ≤ 24) : ((x.toUInt32 >>> ((nI k).toUInt32 &&& Int32.toUInt32 31)).toInt32) &&& 255 = (vp_nar .byte ((x >>> (nI k &&& 31)).toInt8.toInt32)) &&& 255 := by
  sorry
