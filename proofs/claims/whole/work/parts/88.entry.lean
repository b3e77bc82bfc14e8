/-! the loop's step, the entry, the end -/
theorem vi_k {n L k : Nat} (h : 6 * n + 6 ≤ L) (hL : L ≤ 3072) (hk : k ≤ 5) : vp_in (nI (6 * n) + nI k) L := by
  rw [nI_add]
  exact vp_in_nI (by omega) (by omega)
theorem law_step {p : Program} {l : Launch} {e : Env} {s : State} {m : MethodId} {below : List Frame} {meth : Method} {c : Code} {g : GT} {A : Nat → Prop} {b L hx hm ho : Nat} {u um : Nat → Nat} {xs : Nat → Int32} (hL : L ≤ 3072) (hst : l.stackTraces = false) (C : Cx p s m #[Value.ref b] meth c RL m_L_law g A) (hX : va_X b L xs s s.heap) (hbl : b < s.heap.size) (hbA : ¬ A b) :
    ∀ (n : Nat) (ws : va_W) (H : Heap) (locs : List Loc) (ls : Array Slot) (cells slots : Nat), 6 * n + 6 ≤ L → cells ≤ 300000 → slots ≤ 3000000 → INV hx hm ho u um g n ws → Wd g A ws s.heap H locs → lv_has ls 7 [(0, .ref b), (1, .ref hx), (2, .ref hm), (3, .ref ho), (4, .int (nI (6 * n)))] →
      (∀ (ws2 : va_W) (H : Heap) (locs : List Loc) (ls : Array Slot), INV hx hm ho u um g (n + 1) ws2 → Wd g A ws2 s.heap H locs → lv_has ls 7 [(0, .ref b), (1, .ref hx), (2, .ref hm), (3, .ref ho), (4, .int (nI (6 * n)))] → W p l e room_1 s m #[Value.ref b] below meth c H locs (cells + 30) (slots + 3000) (lw_Z below #[Value.ref b] s) (F0 m 2724 ls [])) →
      W p l e room_1 s m #[Value.ref b] below meth c H locs cells slots (lw_Z below #[Value.ref b] s) (F0 m 40 ls [.int (xs (6 * n) &&& 63)]) := by
  intro n ws H locs ls cells slots h6 hc hs hI w hl kk
  have X : Lx p s m #[Value.ref b] meth c g A b L xs (nI (6 * n)) := ⟨C, hX, hbl, hbA, vi_k (k := 1) h6 hL (by omega), vi_k (k := 2) h6 hL (by omega), vi_k (k := 3) h6 hL (by omega), vi_k (k := 4) h6 hL (by omega), vi_k (k := 5) h6 hL (by omega)⟩
  have hn : n < 512 := by omega
  refine law_sw C.1 C.2.1 (xs (6 * n)) (fun j hj _ => ?_) (fun _ => ?_)
  · match j, hj with
    | 0, _ => exact sc_0 X hst hn H locs cells slots _ ws ls w hl hI hc hs kk
    | 1, _ => exact sc_1 X hst hn H locs cells slots _ ws ls w hl hI hc hs kk
    | 2, _ => exact sc_2 X hst hn H locs cells slots _ ws ls w hl hI hc hs kk
    | 3, _ => exact sc_3 X hst hn H locs cells slots _ ws ls w hl hI hc hs kk
    | 4, _ => exact sc_4 X hst hn H locs cells slots _ ws ls w hl hI hc hs kk
    | 5, _ => exact sc_5 X hst hn H locs cells slots _ ws ls w hl hI hc hs kk
    | 6, _ => exact sc_6 X hst hn H locs cells slots _ ws ls w hl hI hc hs kk
    | 7, _ => exact sc_7 X hst hn H locs cells slots _ ws ls w hl hI hc hs kk
    | 8, _ => exact sc_8 X hst hn H locs cells slots _ ws ls w hl hI hc hs kk
    | 9, _ => exact sc_9 X hst hn H locs cells slots _ ws ls w hl hI hc hs kk
    | 10, _ => exact sc_10 X hst hn H locs cells slots _ ws ls w hl hI hc hs kk
    | 11, _ => exact sc_11 X hst hn H locs cells slots _ ws ls w hl hI hc hs kk
    | 12, _ => exact sc_12 X hst hn H locs cells slots _ ws ls w hl hI hc hs kk
    | 13, _ => exact sc_13 X hst hn H locs cells slots _ ws ls w hl hI hc hs kk
    | 14, _ => exact sc_14 X hst hn H locs cells slots _ ws ls w hl hI hc hs kk
    | 15, _ => exact sc_15 X hst hn H locs cells slots _ ws ls w hl hI hc hs kk
    | 16, _ => exact sc_16 X hst hn H locs cells slots _ ws ls w hl hI hc hs kk
    | 17, _ => exact sc_17 X hst hn H locs cells slots _ ws ls w hl hI hc hs kk
    | 18, _ => exact sc_18 X hst hn H locs cells slots _ ws ls w hl hI hc hs kk
    | 19, _ => exact sc_19 X hst hn H locs cells slots _ ws ls w hl hI hc hs kk
    | 20, _ => exact sc_20 X hst hn H locs cells slots _ ws ls w hl hI hc hs kk
    | 21, _ => exact sc_21 X hst hn H locs cells slots _ ws ls w hl hI hc hs kk
    | 22, _ => exact sc_22 X hst hn H locs cells slots _ ws ls w hl hI hc hs kk
    | 23, _ => exact sc_23 X hst hn H locs cells slots _ ws ls w hl hI hc hs kk
    | 24, _ => exact sc_24 X hst hn H locs cells slots _ ws ls w hl hI hc hs kk
    | 25, _ => exact sc_25 X hst hn H locs cells slots _ ws ls w hl hI hc hs kk
    | 26, _ => exact sc_26 X hst hn H locs cells slots _ ws ls w hl hI hc hs kk
    | 27, _ => exact sc_27 X hst hn H locs cells slots _ ws ls w hl hI hc hs kk
    | 28, _ => exact sc_28 X hst hn H locs cells slots _ ws ls w hl hI hc hs kk
    | 29, _ => exact sc_29 X hst hn H locs cells slots _ ws ls w hl hI hc hs kk
    | 30, _ => exact sc_30 X hst hn H locs cells slots _ ws ls w hl hI hc hs kk
    | 31, _ => exact sc_31 X hst hn H locs cells slots _ ws ls w hl hI hc hs kk
    | 32, _ => exact sc_32 X hst hn H locs cells slots _ ws ls w hl hI hc hs kk
    | 33, _ => exact sc_33 X hst hn H locs cells slots _ ws ls w hl hI hc hs kk
    | 34, _ => exact sc_34 X hst hn H locs cells slots _ ws ls w hl hI hc hs kk
    | 35, _ => exact sc_35 X hst hn H locs cells slots _ ws ls w hl hI hc hs kk
    | 36, _ => exact sc_36 X hst hn H locs cells slots _ ws ls w hl hI hc hs kk
    | 37, _ => exact sc_37 X hst hn H locs cells slots _ ws ls w hl hI hc hs kk
    | 38, _ => exact sc_38 X hst hn H locs cells slots _ ws ls w hl hI hc hs kk
    | 39, _ => exact sc_39 X hst hn H locs cells slots _ ws ls w hl hI hc hs kk
    | 40, _ => exact sc_40 X hst hn H locs cells slots _ ws ls w hl hI hc hs kk
    | 41, _ => exact sc_41 X hst hn H locs cells slots _ ws ls w hl hI hc hs kk
    | 42, _ => exact sc_42 X hst hn H locs cells slots _ ws ls w hl hI hc hs kk
    | 43, _ => exact sc_43 X hst hn H locs cells slots _ ws ls w hl hI hc hs kk
    | 44, _ => exact sc_44 X hst hn H locs cells slots _ ws ls w hl hI hc hs kk
    | 45, _ => exact sc_45 X hst hn H locs cells slots _ ws ls w hl hI hc hs kk
    | 46, _ => exact sc_46 X hst hn H locs cells slots _ ws ls w hl hI hc hs kk
    | j + 47, hj => exact absurd hj (by omega)
  · refine W.widen (k := cells + 30) (n := slots + 3000) (by omega) (by omega) (kk ws H locs ls ?_ w hl)
    refine INV.el hI ?_
    intro qa qb gn ln cn tn wn cf fn mM mP xca xcp xtp xta gn2 ln2 cn2 tn2 wn2 cf2 fn2 mM2 mP2 xca2 xcp2 xtp2 xta2 hd len fl tk st en ws cs fs tx lk pr rs t0 i0 xip xlp xtr xtA xce xcn xtI xtl xv ctn cvn cam civ cpd cpa cpl csb cvc ccn cln cax cga chx chp cla cps crp cst ctg cti ctr nx dp ring fu rows th le tl ts te tk2 v er eo gv dq rm rc n0 m0 bs bf ca cp dr hi sv lf lm lq lt nA nC ni np nv route sl S ta tp tried tf fo ur us zr zs hp hr1 hr2 hR
    exact INV.mk hp hr1 hr2 (hR.mono (Nat.le_succ n))
theorem w0_perm (g : GT) (hx hm ho : Nat) (u um : Nat → Nat) (o : Nat → Int32) : (wi_X9 g hx u ++ wi_X10 g hm um o ++ [(ho, aJ g 1 (fun _ => 0))]).Perm (wB g hx hm ho u um (fun i => u i) (fun i => u (9 + i)) 0 0 0 0 1 60 0 (fun _ => 0) (fun _ => 0) (fun _ => 0) (fun _ => 0) (fun _ => 0) (fun _ => 0) 0 0 0 0 1 60 0 (fun _ => 0) (fun _ => 0) (fun _ => 0) (fun _ => 0) (fun _ => 0) (fun _ => 0) 0 0 0 0 0 0 0 0 0 (fun _ => 0) (-1) (-1) (fun _ => 0) 0 0 (fun _ => 0) (fun _ => 0) (fun _ => 0) (fun _ => 0) (fun _ => 0) (fun _ => 0) (fun _ => 0) (fun _ => 0) (fun _ => 0) 0 0 (fun _ => 0) (fun _ => 0) (fun _ => 0) (fun _ => 0) (fun _ => 0) (fun _ => 0) (fun _ => 0) 0 0 (fun _ => 0) (fun _ => 0) (fun _ => 0) (fun _ => 0) (fun _ => 0) (fun _ => 0) (fun _ => 0) (fun _ => 0) (fun _ => 0) (fun _ => 0) (fun _ => 0) 0 0 (fun _ => none) (fun _ => 0) (fun _ => none) 0 0 0 0 0 0 0 0 0 0 0 0 0 0 0 (upd (upd (upd (upd (upd (upd (upd (fun _ => 0) 0 0) 1 0) 2 0) 3 0) 4 1) 5 60) 6 0) (fun _ => 0) (fun _ => 0) (fun _ => 0) (fun _ => 0) (fun _ => 0) (fun _ => 0) (fun _ => 0) (fun _ => 0) (fun _ => 0) (fun _ => 0) (fun _ => 0) (fun _ => 0) (fun _ => 0) (fun _ => 0) (fun _ => 0) (fun _ => 0) (fun _ => 0) o (fun _ => 0) (fun _ => 0) (fun _ => 0) (fun _ => 0) (fun _ => 0)) := by
  have h := pm_q 80 80 [0, 50, 51, 29, 42, 43, 47, 49, 45, 48, 46, 44, 30, 41, 31, 36, 35, 32, 40, 39, 37, 34, 33, 38, 1, 4, 5, 2, 3, 7, 6, 19, 20, 28, 27, 22, 25, 24, 21, 23, 26, 8, 10, 13, 14, 11, 12, 16, 15, 9, 17, 18, 52, 54, 53, 79, 55, 57, 56, 63, 64, 58, 68, 70, 59, 61, 62, 60, 74, 75, 73, 76, 77, 71, 69, 67, 66, 65, 72, 78] [] (List.range 80) (ws := (wi_X9 g hx u ++ wi_X10 g hm um o ++ [(ho, aJ g 1 (fun _ => 0))])) (wc := wB g hx hm ho u um (fun i => u i) (fun i => u (9 + i)) 0 0 0 0 1 60 0 (fun _ => 0) (fun _ => 0) (fun _ => 0) (fun _ => 0) (fun _ => 0) (fun _ => 0) 0 0 0 0 1 60 0 (fun _ => 0) (fun _ => 0) (fun _ => 0) (fun _ => 0) (fun _ => 0) (fun _ => 0) 0 0 0 0 0 0 0 0 0 (fun _ => 0) (-1) (-1) (fun _ => 0) 0 0 (fun _ => 0) (fun _ => 0) (fun _ => 0) (fun _ => 0) (fun _ => 0) (fun _ => 0) (fun _ => 0) (fun _ => 0) (fun _ => 0) 0 0 (fun _ => 0) (fun _ => 0) (fun _ => 0) (fun _ => 0) (fun _ => 0) (fun _ => 0) (fun _ => 0) 0 0 (fun _ => 0) (fun _ => 0) (fun _ => 0) (fun _ => 0) (fun _ => 0) (fun _ => 0) (fun _ => 0) (fun _ => 0) (fun _ => 0) (fun _ => 0) (fun _ => 0) 0 0 (fun _ => none) (fun _ => 0) (fun _ => none) 0 0 0 0 0 0 0 0 0 0 0 0 0 0 0 (upd (upd (upd (upd (upd (upd (upd (fun _ => 0) 0 0) 1 0) 2 0) 3 0) 4 1) 5 60) 6 0) (fun _ => 0) (fun _ => 0) (fun _ => 0) (fun _ => 0) (fun _ => 0) (fun _ => 0) (fun _ => 0) (fun _ => 0) (fun _ => 0) (fun _ => 0) (fun _ => 0) (fun _ => 0) (fun _ => 0) (fun _ => 0) (fun _ => 0) (fun _ => 0) (fun _ => 0) o (fun _ => 0) (fun _ => 0) (fun _ => 0) (fun _ => 0) (fun _ => 0)) (wc' := fun _ => wB g hx hm ho u um (fun i => u i) (fun i => u (9 + i)) 0 0 0 0 1 60 0 (fun _ => 0) (fun _ => 0) (fun _ => 0) (fun _ => 0) (fun _ => 0) (fun _ => 0) 0 0 0 0 1 60 0 (fun _ => 0) (fun _ => 0) (fun _ => 0) (fun _ => 0) (fun _ => 0) (fun _ => 0) 0 0 0 0 0 0 0 0 0 (fun _ => 0) (-1) (-1) (fun _ => 0) 0 0 (fun _ => 0) (fun _ => 0) (fun _ => 0) (fun _ => 0) (fun _ => 0) (fun _ => 0) (fun _ => 0) (fun _ => 0) (fun _ => 0) 0 0 (fun _ => 0) (fun _ => 0) (fun _ => 0) (fun _ => 0) (fun _ => 0) (fun _ => 0) (fun _ => 0) 0 0 (fun _ => 0) (fun _ => 0) (fun _ => 0) (fun _ => 0) (fun _ => 0) (fun _ => 0) (fun _ => 0) (fun _ => 0) (fun _ => 0) (fun _ => 0) (fun _ => 0) 0 0 (fun _ => none) (fun _ => 0) (fun _ => none) 0 0 0 0 0 0 0 0 0 0 0 0 0 0 0 (upd (upd (upd (upd (upd (upd (upd (fun _ => 0) 0 0) 1 0) 2 0) 3 0) 4 1) 5 60) 6 0) (fun _ => 0) (fun _ => 0) (fun _ => 0) (fun _ => 0) (fun _ => 0) (fun _ => 0) (fun _ => 0) (fun _ => 0) (fun _ => 0) (fun _ => 0) (fun _ => 0) (fun _ => 0) (fun _ => 0) (fun _ => 0) (fun _ => 0) (fun _ => 0) (fun _ => 0) o (fun _ => 0) (fun _ => 0) (fun _ => 0) (fun _ => 0) (fun _ => 0)) (wn := fun _ => wB g hx hm ho u um (fun i => u i) (fun i => u (9 + i)) 0 0 0 0 1 60 0 (fun _ => 0) (fun _ => 0) (fun _ => 0) (fun _ => 0) (fun _ => 0) (fun _ => 0) 0 0 0 0 1 60 0 (fun _ => 0) (fun _ => 0) (fun _ => 0) (fun _ => 0) (fun _ => 0) (fun _ => 0) 0 0 0 0 0 0 0 0 0 (fun _ => 0) (-1) (-1) (fun _ => 0) 0 0 (fun _ => 0) (fun _ => 0) (fun _ => 0) (fun _ => 0) (fun _ => 0) (fun _ => 0) (fun _ => 0) (fun _ => 0) (fun _ => 0) 0 0 (fun _ => 0) (fun _ => 0) (fun _ => 0) (fun _ => 0) (fun _ => 0) (fun _ => 0) (fun _ => 0) 0 0 (fun _ => 0) (fun _ => 0) (fun _ => 0) (fun _ => 0) (fun _ => 0) (fun _ => 0) (fun _ => 0) (fun _ => 0) (fun _ => 0) (fun _ => 0) (fun _ => 0) 0 0 (fun _ => none) (fun _ => 0) (fun _ => none) 0 0 0 0 0 0 0 0 0 0 0 0 0 0 0 (upd (upd (upd (upd (upd (upd (upd (fun _ => 0) 0 0) 1 0) 2 0) 3 0) 4 1) 5 60) 6 0) (fun _ => 0) (fun _ => 0) (fun _ => 0) (fun _ => 0) (fun _ => 0) (fun _ => 0) (fun _ => 0) (fun _ => 0) (fun _ => 0) (fun _ => 0) (fun _ => 0) (fun _ => 0) (fun _ => 0) (fun _ => 0) (fun _ => 0) (fun _ => 0) (fun _ => 0) o (fun _ => 0) (fun _ => 0) (fun _ => 0) (fun _ => 0) (fun _ => 0)) rfl (by decide +kernel) rfl (fun _ => rfl) (by decide +kernel) (fun _ => rfl)
  obtain ⟨wr, p1, p2⟩ := h
  exact p1.trans (p2 (fun _ => 0))
theorem inv_0 (g : GT) (hx hm ho : Nat) (u um : Nat → Nat) {o : Nat → Int32} (ho0 : ∀ j, j < 2524 → o j = 0) : INV hx hm ho u um g 0 (wi_X9 g hx u ++ wi_X10 g hm um o ++ [(ho, aJ g 1 (fun _ => 0))]) := by
  have hq : (wi_X9 g hx u ++ wi_X10 g hm um o ++ [(ho, aJ g 1 (fun _ => 0))]).Perm (wB g hx hm ho u um (fun i => u i) (fun i => u (9 + i)) 0 0 0 0 1 60 0 (fun _ => 0) (fun _ => 0) (fun _ => 0) (fun _ => 0) (fun _ => 0) (fun _ => 0) 0 0 0 0 1 60 0 (fun _ => 0) (fun _ => 0) (fun _ => 0) (fun _ => 0) (fun _ => 0) (fun _ => 0) 0 0 0 0 0 0 0 0 0 (fun _ => 0) (-1) (-1) (fun _ => 0) 0 0 (fun _ => 0) (fun _ => 0) (fun _ => 0) (fun _ => 0) (fun _ => 0) (fun _ => 0) (fun _ => 0) (fun _ => 0) (fun _ => 0) 0 0 (fun _ => 0) (fun _ => 0) (fun _ => 0) (fun _ => 0) (fun _ => 0) (fun _ => 0) (fun _ => 0) 0 0 (fun _ => 0) (fun _ => 0) (fun _ => 0) (fun _ => 0) (fun _ => 0) (fun _ => 0) (fun _ => 0) (fun _ => 0) (fun _ => 0) (fun _ => 0) (fun _ => 0) 0 0 (fun _ => none) (fun _ => 0) (fun _ => none) 0 0 0 0 0 0 0 0 0 0 0 0 0 0 0 (upd (upd (upd (upd (upd (upd (upd (fun _ => 0) 0 0) 1 0) 2 0) 3 0) 4 1) 5 60) 6 0) (fun _ => 0) (fun _ => 0) (fun _ => 0) (fun _ => 0) (fun _ => 0) (fun _ => 0) (fun _ => 0) (fun _ => 0) (fun _ => 0) (fun _ => 0) (fun _ => 0) (fun _ => 0) (fun _ => 0) (fun _ => 0) (fun _ => 0) (fun _ => 0) (fun _ => 0) o (fun _ => 0) (fun _ => 0) (fun _ => 0) (fun _ => 0) (fun _ => 0) ++ (RW g 10 (fun _ => none) (fun _ _ => 0) (fun _ => (0, 0, (fun _ => 0), (fun _ => 0), (fun _ => 0), (fun _ => 0), (fun _ => 0), (fun _ => 0), (fun _ => 0), 0, 0, (fun _ => 0), (fun _ => 0), (fun _ => 0), (fun _ => 0), (fun _ => 0), (fun _ => 0), (fun _ => 0), (fun _ => 0), (fun _ => 0), (fun _ => 0), (fun _ => 0))) ++ RW g 2 (fun _ => none) (fun _ _ => 0) (fun _ => (0, 0, (fun _ => 0), (fun _ => 0), (fun _ => 0), (fun _ => 0), (fun _ => 0), (fun _ => 0), (fun _ => 0), 0, 0, (fun _ => 0), (fun _ => 0), (fun _ => 0), (fun _ => 0), (fun _ => 0), (fun _ => 0), (fun _ => 0), (fun _ => 0), (fun _ => 0), (fun _ => 0), (fun _ => 0))))) := (w0_perm g hx hm ho u um o).trans (List.Perm.of_eq (List.append_nil _).symm)
  refine INV.mk hq (fun i h q => by cases q) (fun i h q => by cases q) ⟨0, 0, ?_, LR.zero ho0, ⟨0, fun _ => 0, rfl, rfl, by omega, fun i hi => by omega⟩, ⟨0, 0, rfl, by omega, rfl, rfl, by omega, fun k hk => by omega⟩, fun s hs => .inl ⟨rfl, rfl⟩⟩
  exact ⟨0, 0, 1, 60, 0, fun _ _ => 0, fun _ _ => 0, rfl, rfl, rfl, rfl, rfl, rfl, rfl, by omega, by omega, by omega, by omega, rfl, rfl, rfl, rfl, ⟨fun a b ha => by omega, fun k hk => by omega, fun a b ha => by omega⟩, ⟨by omega, rfl, fun k hk => by omega, ⟨by omega, fun k hk => by omega, fun i j hij hj => by omega⟩, rfl, fun k hk => by omega, rfl, by omega, by omega⟩, fun k hk => by omega⟩
theorem q_25 : Cond.classLink RL 8 RX9 ∈ TS := ts_t 25 (by decide +kernel) (by decide +kernel)
theorem q_26 : Cond.instantiable RX9 7 ∈ TS := ts_t 26 (by decide +kernel) (by decide +kernel)
theorem k_L_126 : LkI RL 126 m_X9_init 0 := ⟨ts_t 27 (by decide +kernel) (by decide +kernel), ts_t 28 (by decide +kernel) (by decide +kernel), rfl, rfl, ⟨q_1, ts_t 29 (by decide +kernel) (by decide +kernel), by decide, by decide, by decide +kernel⟩⟩
theorem q_1212 : Cond.classLink RL 127 RX10 ∈ TS := ts_t 1212 (by decide +kernel) (by decide +kernel)
theorem q_1213 : Cond.instantiable RX10 38 ∈ TS := ts_t 1213 (by decide +kernel) (by decide +kernel)
theorem k_L_129 : LkI RL 129 m_X10_init 0 := ⟨ts_t 1214 (by decide +kernel) (by decide +kernel), ts_t 1215 (by decide +kernel) (by decide +kernel), rfl, rfl, ⟨q_11, ts_t 1216 (by decide +kernel) (by decide +kernel), by decide, by decide, by decide +kernel⟩⟩
theorem q_1775 : Cond.arrayClass .long ∈ TS := ts_t 1775 (by decide +kernel) (by decide +kernel)
theorem dfX9 : ∀ j, j < 7 → defaultValue (tyX9 j) = vp_V [.null, .null, .null, .null, .null, .null, .null] j := by decide +kernel
theorem dfX10 : ∀ j, j < 38 → defaultValue (tyX10 j) = vp_V [.int 0, .null, .int 0, .int 0, .int 0, .int 0, .int 0, .int 0, .int 0, .int 0, .null, .null, .null, .null, .null, .null, .null, .null, .null, .null, .int 0, .null, .null, .int 0, .null, .null, .int 0, .int 0, .null, .null, .null, .null, .null, .null, .null, .null, .int 0, .int 0] j := by decide +kernel
section
variable {l : Launch} {g : GT} {d : MD} {p : Program} {e : Env} {R : Room} {s : State} {m : MethodId} {args : Array Value} {below : List Frame} {meth : Method} {c : Code} {H : Heap} {locs : List Loc} {cells slots : Nat} {Q : State → Prop} {own : String} {A : Nat → Prop} {ws : va_W} {pc : Nat} {ls : Array Slot} {rest : List Value}
theorem naj (C : Cx p s m args meth c own d g A) (w : Wd g A ws s.heap H locs) (harr : Cond.arrayClass .long ∈ TS) {n : Int32} {N cells2 slots2 : Nat} (hn : ¬ n < 0) (hN : n.toNatClampNeg = N) (hb : N * componentBytes .long ≤ 536870912) (hc : cells + 1 ≤ R.cells) (hs : slots + N ≤ R.slots) (hcs : cells + 1 = cells2 ∧ slots + N = slots2) (hd : decode d.2.1 pc = .ok (.newarray .long, 2))
    (kk : ∀ (q : Nat) (H1 : Heap), Wd g A (ws ++ [(q, aJ g N (fun _ => 0))]) s.heap H1 locs → W p l e R s m args below meth c H1 locs cells2 slots2 Q (F0 m (pc + 2) ls (.ref q :: rest))) : W p l e R s m args below meth c H locs cells slots Q (F0 m pc ls (.int n :: rest)) := by
  obtain ⟨rfl, rfl⟩ := hcs
  refine va_newa (atype := .long) (ty := .long) C.1 C.2.1 (C.2.2.2.2.1 _ harr) rfl C.2.2.2.2.2.1 w.1 w.2.1 w.2.2 C.2.2.2.2.2.2.1 (a0 := (N, .inr (.inl (fun _ => 0)))) (fun _ => rfl) hn hN hb hc hs hd (fun q cA H1 hK hP hD hS => ?_)
  have h1 : s.vm.findClass ("[" ++ FieldType.long.toString) = some cA := (hK.2 5 (cA, .long) rfl).2
  have h2 : s.vm.findClass ("[" ++ FieldType.long.toString) = some (cJ g) := (C.2.2.2.2.2.1.2 4 (cJ g, .long) rfl).2
  have h3 : cA = cJ g := Option.some.inj (h1.symm.trans h2)
  subst h3
  exact kk q H1 ⟨hP, hD, hS⟩
end
theorem st_off {l : Launch} (h : l.flags = flags0) : l.stackTraces = false := by
  unfold Launch.stackTraces
  rw [h]
  decide +kernel
theorem rs_0 {a : Nat} (h : a ≤ 400000) : a ≤ room_1.cells := Nat.le_trans h rs_c
theorem rs_1 {a : Nat} (h : a ≤ 4000000) : a ≤ room_1.slots := Nat.le_trans h rs_s
theorem whole_start {p : Program} {e : Env} {s : State} {m : MethodId} {below : List Frame} {meth : Method} {c : Code} (l : Launch) (hflags : l.flags = flags0) {b L : Nat} {xs : Nat → Int32} (hL : L ≤ 3072) (C0 : lw_At p s m meth c b L xs) : W p l e room_1 s m #[Value.ref b] below meth c s.heap [] 0 0 (lw_Z below #[Value.ref b] s) (entryFrame m ([Value.ref b] : List Value).toArray 7) := by
  obtain ⟨g, hK, hM⟩ := am_start C0
  obtain ⟨hx, hb, hr, hml, hown, hts, hX, hbl, hlocks, hgv⟩ := C0
  have hst := st_off hflags
  have C : Cx p s m #[Value.ref b] meth c RL m_L_law g (fun q => s.heap.size ≤ q) := ⟨hx, hb, hml, hown, fun w h => hts w (ts_in h), hK, fun _ h => h, hM, hr, hlocks⟩
  have hbA : ¬ (fun q : Nat => s.heap.size ≤ q) b := Nat.not_le.mpr hbl
  obtain ⟨A, hA⟩ : ∃ A : Nat → Prop, A = fun q => s.heap.size ≤ q := ⟨_, rfl⟩
  rw [← hA] at C hbA
  have w : Wd g A [] s.heap s.heap [] := ⟨fun k q h => by simp at h, ⟨fun i j p q h => by simp at h, fun k q h => by simp at h⟩, va_S.rf⟩
  rw [lg_entry_eq]
  have hl := lv_entry [Value.ref b] (n := 7) (Nat.le_of_ble_eq_true rfl)
  have hl : lv_has _ 7 [(0, .ref b)] := hl
  have hb : c.code = cL_law := hb
  refine nwo C w inX9s tyX9_ok q_25 q_26 q_1 (ci := 9) rfl dfX9 (rs_0 (by decide)) (rs_1 (by decide)) (cells2 := 1) (slots2 := 7) ⟨rfl, rfl⟩ dL_law_0 (fun q1 H w => ?_)
  have w : Wd g A [(q1, .inr (9, [.null, .null, .null, .null, .null, .null, .null]))] s.heap H [] := w
  refine lv_dup hx hb dL_law_3 rfl ?_
  refine ca_vI C w (wn := fun u => wi_X9 g q1 u) (pm_k [true] rfl rfl (fun _ => Nat.le_of_ble_eq_true rfl) (fun _ => rfl)) (c_X9_init l g q1 _) k_L_126 (rm_law (by decide) (by decide)) rfl hl.1 rfl (Nat.le_of_ble_eq_true rfl) dL_law_4 ⟨rs_0 (by decide), rs_1 (by decide)⟩ (cells2 := 55) (slots2 := 4589) ⟨rfl, rfl⟩ (fun u H locs w => ?_)
  refine lv_astore_n (lv' := [(1, .ref q1), (0, .ref b)]) hx hb dL_law_7 rfl hl (by decide) rfl (fun ls hl => ?_)
  refine nwo C w inX10s tyX10_ok q_1212 q_1213 q_11 (ci := 10) rfl dfX10 (rs_0 (by decide)) (rs_1 (by decide)) (cells2 := 56) (slots2 := 4627) ⟨rfl, rfl⟩ dL_law_8 (fun q2 H w => ?_)
  have w : Wd g A (wi_X9 g q1 u ++ [(q2, .inr (10, [.int 0, .null, .int 0, .int 0, .int 0, .int 0, .int 0, .int 0, .int 0, .int 0, .null, .null, .null, .null, .null, .null, .null, .null, .null, .null, .int 0, .null, .null, .int 0, .null, .null, .int 0, .int 0, .null, .null, .null, .null, .null, .null, .null, .null, .int 0, .int 0]))]) s.heap H locs := w
  refine lv_dup hx hb dL_law_11 rfl ?_
  have hclr := clr_v (F := 100000) (fun _ => 0) (by omega)
  refine ca_vI C w (wn := fun um => wi_X9 g q1 u ++ wi_X10 g q2 um (spl (fun _ => 0) (fun _ => 0) 0 2524)) (pm_k [false, false, false, false, false, false, false, false, false, false, false, false, false, false, false, false, false, false, false, false, false, false, false, false, false, false, false, false, false, false, false, false, false, false, false, false, false, false, false, false, false, false, false, false, false, false, false, false, false, false, false, false, false, false, false, true] rfl rfl (fun _ => Nat.le_of_ble_eq_true rfl) (fun _ => rfl)) (c_X10_init l g 100000 _ q2 _ hclr) k_L_129 (rm_law (by decide) (by decide)) rfl hl.1 rfl (Nat.le_of_ble_eq_true rfl) dL_law_12 ⟨rs_0 (by decide), rs_1 (by decide)⟩ (cells2 := 79) (slots2 := 39099) ⟨rfl, rfl⟩ (fun um H locs w => ?_)
  refine lv_astore_n (lv' := [(2, .ref q2), (1, .ref q1), (0, .ref b)]) hx hb dL_law_15 rfl hl (by decide) rfl (fun ls hl => ?_)
  refine lv_iconst (v := 1) hx hb dL_law_16 (by decide) ?_
  refine naj C w q_1775 (N := 1) (by decide) (by decide) (by decide) (rs_0 (by decide)) (rs_1 (by decide)) (cells2 := 80) (slots2 := 39100) ⟨rfl, rfl⟩ dL_law_17 (fun q3 H w => ?_)
  refine lv_astore_n (lv' := [(3, .ref q3), (2, .ref q2), (1, .ref q1), (0, .ref b)]) hx hb dL_law_19 rfl hl (by decide) rfl (fun ls hl => ?_)
  refine lv_iconst (v := 0) hx hb dL_law_20 (by decide) ?_
  refine lv_istore (lv' := [(4, .int 0), (3, .ref q3), (2, .ref q2), (1, .ref q1), (0, .ref b)]) hx hb dL_law_21 hl (by decide) rfl (fun ls hl => ?_)
  refine W.widen (k := 200 + 30 * 0) (n := 60000 + 3000 * 0) (by decide) (by decide) ?_
  exact law_loop (xs := xs) hL C hX hbl hbA hA (INV q1 q2 q3 u um g) (law_step hL hst C hX hbl hbA) 513 0 _ H locs ls (by omega) (by omega) (inv_0 g q1 q2 q3 u um (fun j hj => spl_z0 hj)) w (lv_sub hl [4, 3, 2, 1, 0] rfl)
