/-! the law's loop and its switch -/
theorem rs_c : 400000 ≤ room_1.cells := Nat.le_of_ble_eq_true rfl
theorem rs_s : 4000000 ≤ room_1.slots := Nat.le_of_ble_eq_true rfl
def lawOffs : Array Int := #[204, 277, 333, 346, 359, 415, 495, 575, 667, 680, 736, 792, 848, 904, 960, 1028, 1084, 1140, 1196, 1209, 1222, 1278, 1334, 1347, 1403, 1459, 1515, 1571, 1627, 1640, 1696, 1752, 1808, 1864, 1877, 1969, 2073, 2165, 2233, 2301, 2357, 2413, 2481, 2537, 2621, 2634, 2659]
def lawLab : List Nat := [244, 317, 373, 386, 399, 455, 535, 615, 707, 720, 776, 832, 888, 944, 1000, 1068, 1124, 1180, 1236, 1249, 1262, 1318, 1374, 1387, 1443, 1499, 1555, 1611, 1667, 1680, 1736, 1792, 1848, 1904, 1917, 2009, 2113, 2205, 2273, 2341, 2397, 2453, 2521, 2577, 2661, 2674, 2699]
theorem law_ok : ∀ j, j < 47 → lawOffs[j]? = some ((lawLab.getD j 0 : Int) - 40) := by decide +kernel
theorem dL_sw : decode cL_law 40 = .ok (.tableswitch 2684 0 46 lawOffs, 204) := dL_law_40
section LawL
variable {p : Program} {l : Launch} {e : Env} {s : State} {m : MethodId} {args : Array Value} {below : List Frame} {meth : Method} {c : Code} {H : Heap} {locs : List Loc} {cells slots : Nat} {Q : State → Prop} {g : GT} {A : Nat → Prop} {ls : Array Slot} {R : Room}
theorem law_sw (hx : p.tables.exec = Jvm.exec) (hb : c.code = cL_law) (v : Int32) (h : ∀ j : Nat, j < 47 → v &&& 63 = nI j → W p l e R s m args below meth c H locs cells slots Q (F0 m (lawLab.getD j 0) ls [])) (hd : (∀ j : Nat, j < 47 → v &&& 63 ≠ nI j) → W p l e R s m args below meth c H locs cells slots Q (F0 m 2724 ls [])) : W p l e R s m args below meth c H locs cells slots Q (F0 m 40 ls [.int (v &&& 63)]) := by
  obtain ⟨j, hj, ej⟩ := pk_andE v (m := 63) 6 (by decide)
  have hj64 : j < 64 := hj
  have et : (nI j).toInt = (j : Int) := nI_toInt (by omega)
  by_cases h47 : j < 47
  · have hw := h j h47 ej
    rw [ej]
    refine lv_tableIn (off := (lawLab.getD j 0 : Int) - 40) (tgt := lawLab.getD j 0) hx hb dL_sw (by rw [et]; omega) (by rw [et]; omega) ?_ (by omega) hw
    rw [et]
    have e2 : ((j : Int) - 0).toNat = j := by omega
    rw [e2]
    exact law_ok j h47
  · have hw := hd (fun k hk e => h47 (by
      have := (nI_eq (by omega) (by omega)).mp (ej.symm.trans e)
      omega))
    rw [ej]
    exact lv_tableOut (tgt := 2724) hx hb dL_sw (Or.inr (by rw [et]; omega)) (by decide) hw
end LawL
theorem law_cmp {n L : Nat} (hL : L ≤ 3072) (hn : n ≤ 3072) : nI L - 6 < nI n ↔ L < n + 6 := by
  have h1 : (nI L - nI 6).toInt = (L : Int) - 6 := pk_sub_toInt (by omega) (by omega)
  have h2 : (nI n).toInt = (n : Int) := nI_toInt (by omega)
  have h3 : nI L - 6 = nI L - nI 6 := rfl
  rw [Int32.lt_iff_toInt_lt, h3, h1, h2]
  omega
set_option maxHeartbeats 4000000 in
/-- THE LOOP, over any invariant I of the world behind n calls: a step leads from the switch to the end of the body -/
theorem law_loop {p : Program} {l : Launch} {e : Env} {s : State} {m : MethodId} {below : List Frame} {meth : Method} {c : Code} {g : GT} {A : Nat → Prop} {b L hx hm ho : Nat} {xs : Nat → Int32} (hL : L ≤ 3072) (C : Cx p s m #[Value.ref b] meth c RL m_L_law g A) (hX : va_X b L xs s s.heap) (hbl : b < s.heap.size) (hbA : ¬ A b) (hA : A = fun q => s.heap.size ≤ q) (I : Nat → va_W → Prop)
    (hstep : ∀ (n : Nat) (ws : va_W) (H : Heap) (locs : List Loc) (ls : Array Slot) (cells slots : Nat), 6 * n + 6 ≤ L → cells ≤ 300000 → slots ≤ 3000000 → I n ws → Wd g A ws s.heap H locs → lv_has ls 7 [(0, .ref b), (1, .ref hx), (2, .ref hm), (3, .ref ho), (4, .int (nI (6 * n)))] →
      (∀ (ws2 : va_W) (H : Heap) (locs : List Loc) (ls : Array Slot), I (n + 1) ws2 → Wd g A ws2 s.heap H locs → lv_has ls 7 [(0, .ref b), (1, .ref hx), (2, .ref hm), (3, .ref ho), (4, .int (nI (6 * n)))] → W p l e room_1 s m #[Value.ref b] below meth c H locs (cells + 30) (slots + 3000) (lw_Z below #[Value.ref b] s) (F0 m 2724 ls [])) →
      W p l e room_1 s m #[Value.ref b] below meth c H locs cells slots (lw_Z below #[Value.ref b] s) (F0 m 40 ls [.int (xs (6 * n) &&& 63)])) :
    ∀ (k n : Nat) (ws : va_W) (H : Heap) (locs : List Loc) (ls : Array Slot), n ≤ 512 → 513 ≤ n + k → I n ws → Wd g A ws s.heap H locs → lv_has ls 7 [(0, .ref b), (1, .ref hx), (2, .ref hm), (3, .ref ho), (4, .int (nI (6 * n)))] →
      W p l e room_1 s m #[Value.ref b] below meth c H locs (200 + 30 * n) (60000 + 3000 * n) (lw_Z below #[Value.ref b] s) (F0 m 23 ls []) := by
  have hx9 := C.1
  have hb : c.code = cL_law := C.2.1
  intro k
  induction k with
  | zero => intro n ws H locs ls h1 h2; omega
  | succ k ih =>
    intro n ws H locs ls hn hk hI w hl
    refine lv_iload hx9 hb dL_law_23 (lv_at hl 4 rfl) ?_
    refine lv_aload_n hx9 hb dL_law_25 rfl (lv_at hl 0 rfl) ?_
    refine va_slen hx9 hb hX hbl hbA w.2.2 dL_law_26 ?_
    refine lv_bipush (v := 6) hx9 hb dL_law_27 (by decide) ?_
    refine lv_isub hx9 hb dL_law_29 ?_
    refine lv_icmp_gt (tgt := 2730) hx9 hb dL_law_30 (by decide) (fun c1 => ?_) (fun c1 => ?_)
    · refine lv_iconst (v := 1) hx9 hb dL_law_2730 (by decide) ?_
      refine va_forget (fun q hq => by have := w.2.2.2.2 q hq; rw [hA] at this; exact this) ?_
      refine W.widen (k := room_1.cells) (n := room_1.slots) (Nat.le_trans (show 200 + 30 * n ≤ 400000 by omega) rs_c) (Nat.le_trans (show 60000 + 3000 * n ≤ 4000000 by omega) rs_s) ?_
      exact lw_ret hx9 hb C.2.2.2.2.2.2.2.2.1 C.2.2.2.2.2.2.2.2.2 dL_law_2731
    · have h6 : 6 * n + 6 ≤ L := by
        rcases Nat.lt_or_ge L (6 * n + 6) with q | q
        · exact absurd ((law_cmp hL (by omega)).mpr q) c1
        · exact q
      have hi : vp_in (nI (6 * n)) L := vp_in_nI (by omega) (by omega)
      refine lv_aload_n hx9 hb dL_law_33 rfl (lv_at hl 0 rfl) ?_
      refine lv_iload hx9 hb dL_law_34 (lv_at hl 4 rfl) ?_
      refine va_sld hx9 hb hX hbl hbA w.2.2 hi dL_law_36 ?_
      rw [nI_clamp (show 6 * n < 2 ^ 31 by omega)]
      refine lv_bipush (v := 63) hx9 hb dL_law_37 (by decide) ?_
      refine lv_iand hx9 hb dL_law_39 ?_
      refine hstep n ws H locs ls (200 + 30 * n) (60000 + 3000 * n) h6 (by omega) (by omega) hI w hl (fun ws2 H locs ls hI2 w hl => ?_)
      refine lv_iinc (v := nI (6 * (n + 1))) (lv' := [(4, .int (nI (6 * (n + 1)))), (0, .ref b), (1, .ref hx), (2, .ref hm), (3, .ref ho)]) hx9 hb dL_law_2724 hl (k := 4) rfl (nI_add (6 * n) 6) (by decide) rfl (fun ls hl => ?_)
      refine lv_goto (tgt := 23) hx9 hb dL_law_2727 (by decide) ?_
      have h := ih (n + 1) ws2 H locs ls (by omega) (by omega) hI2 w (lv_sub hl [1, 2, 3, 4, 0] rfl)
      have e1 : 200 + 30 * (n + 1) = 200 + 30 * n + 30 := by omega
      have e2 : 60000 + 3000 * (n + 1) = 60000 + 3000 * n + 3000 := by omega
      rw [e1, e2] at h
      exact h
