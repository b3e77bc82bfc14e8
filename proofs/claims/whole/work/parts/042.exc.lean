theorem pm_q (n k : Nat) (is isR pm2 : List Nat) {ws wc : va_W} {wc' wn : (Nat → Nat) → va_W} (hn : ws.length = n) (h1 : (isR ++ is).Perm (List.range n)) (h2 : pk ws is = wc) (hk : ∀ u, (pk ws isR ++ wc' u).length = k) (h3 : pm2.Perm (List.range k)) (h4 : ∀ u, pk (pk ws isR ++ wc' u) pm2 = wn u) : PM ws wc wc' wn := by
  have key : ∀ (l : va_W), (List.range l.length).filterMap (fun i => l[i]?) = l := by
    intro l
    induction l with
    | nil => rfl
    | cons a l ih =>
      rw [List.length_cons, List.range_succ_eq_map, List.filterMap_cons]
      simp only [List.getElem?_cons_zero, List.filterMap_map]
      congr 1
  subst hn
  subst h2
  refine ⟨pk ws isR, ?_, fun u => ?_⟩
  · have h := h1.filterMap (fun i => ws[i]?)
    rw [key, List.filterMap_append] at h
    exact h.symm
  · have h := h3.filterMap (fun i => (pk ws isR ++ wc' u)[i]?)
    rw [← hk u, key] at h
    have h5 := h4 u
    unfold pk at h5 h ⊢
    rw [← h5]
    exact h.symm
/-! methods that may throw: 1, 2, 3 for the three classes, 0 for a return -/
def exN : Nat → String
  | 1 => "java/lang/IllegalArgumentException"
  | 2 => "java/lang/IndexOutOfBoundsException"
  | _ => "java/lang/IllegalStateException"
abbrev exNs : List String := ["java/lang/RuntimeException", "java/lang/Exception"]
abbrev vxc (g : GT) (A : Nat → Prop) (ws' : (Nat → Nat) → va_W) (x : Nat) : String → State → State → Prop := vx_X (fun (_ : Nat → Nat) => x ≠ 0) (fun E u t => E = exN x ∧ Po g A (ws' u) t) A
def XI (l : Launch) (d : MD) (rm : Room) (g : GT) (ws : va_W) (ws' : (Nat → Nat) → va_W) (sz : Nat) (as : List Value) (x : Nat) (r : Int32) : Prop := vx_Met l d.1 (mw d) rm (va_Pc as (Pr g ws sz)) (va_Qi (fun (r' : Int32) (_ : Nat → Nat) => x = 0 ∧ r' = r) (fun u t => Po g (va_A ws sz) (ws' u) t) (va_A ws sz)) (vxc g (va_A ws sz) ws' x) rm.cells rm.slots (va_A ws sz)
def XV (l : Launch) (d : MD) (rm : Room) (g : GT) (ws : va_W) (ws' : (Nat → Nat) → va_W) (sz : Nat) (as : List Value) (x : Nat) : Prop := vx_Met l d.1 (mw d) rm (va_Pc as (Pr g ws sz)) (va_Qv (fun (_ : Nat → Nat) => x = 0) (fun u t => Po g (va_A ws sz) (ws' u) t) (va_A ws sz)) (vxc g (va_A ws sz) ws' x) rm.cells rm.slots (va_A ws sz)
abbrev QXI (below : List Frame) (a : Array Value) (s : State) (g : GT) (A : Nat → Prop) (ws' : (Nat → Nat) → va_W) (x : Nat) (r : Int32) (mc ms : Nat) : State → Prop := vx_MQ below (va_Qi (fun (r' : Int32) (_ : Nat → Nat) => x = 0 ∧ r' = r) (fun u t => Po g A (ws' u) t) A) (vxc g A ws' x) a s mc ms A
abbrev QXV (below : List Frame) (a : Array Value) (s : State) (g : GT) (A : Nat → Prop) (ws' : (Nat → Nat) → va_W) (x : Nat) (mc ms : Nat) : State → Prop := vx_MQ below (va_Qv (fun (_ : Nat → Nat) => x = 0) (fun u t => Po g A (ws' u) t) A) (vxc g A ws' x) a s mc ms A
section EnX
variable {l : Launch} {g : GT} {d : MD} {rm : Room} {ws : va_W} {ws' : (Nat → Nat) → va_W} {sz : Nat} {as : List Value} {r : Int32} {x : Nat}
theorem ex_i (hy : plainName d.1.cls = true) (hlen : (lg_sl as).length ≤ d.2.2.1)
    (body : ∀ (p : Program) (e : Env) (s : State) (m : MethodId) (args : Array Value) (below : List Frame) (meth : Method) (c : Code) (A : Nat → Prop) (ls : Array Slot), (∀ x ∈ c.exceptionTable.toList, False) → Cx p s m args meth c d.1.cls d g A → Wd g A ws s.heap s.heap [] → lv_has ls d.2.2.1 (lv_args 0 as) →
      W p l e rm s m args below meth c s.heap [] 0 0 (QXI below args s g A ws' x r rm.cells rm.slots) (F0 m 0 ls [])) : XI l d rm g ws ws' sz as x r := by
  refine vx_ofW (cc := d.2.1) (maxL := d.2.2.1) (ret := d.2.2.2) hy rfl ?_
  intro p e s m args below meth c s₁ B hml ht hv
  obtain ⟨rfl, hv⟩ := hv
  obtain ⟨C, w, rfl⟩ := cx_of B hml hv
  rw [lg_entry_eq]
  exact body p e s m _ below meth c _ _ ht C w (lv_entry as hlen)
theorem ex_v (hy : plainName d.1.cls = true) (hlen : (lg_sl as).length ≤ d.2.2.1)
    (body : ∀ (p : Program) (e : Env) (s : State) (m : MethodId) (args : Array Value) (below : List Frame) (meth : Method) (c : Code) (A : Nat → Prop) (ls : Array Slot), (∀ x ∈ c.exceptionTable.toList, False) → Cx p s m args meth c d.1.cls d g A → Wd g A ws s.heap s.heap [] → lv_has ls d.2.2.1 (lv_args 0 as) →
      W p l e rm s m args below meth c s.heap [] 0 0 (QXV below args s g A ws' x rm.cells rm.slots) (F0 m 0 ls [])) : XV l d rm g ws ws' sz as x := by
  refine vx_ofW (cc := d.2.1) (maxL := d.2.2.1) (ret := d.2.2.2) hy rfl ?_
  intro p e s m args below meth c s₁ B hml ht hv
  obtain ⟨rfl, hv⟩ := hv
  obtain ⟨C, w, rfl⟩ := cx_of B hml hv
  rw [lg_entry_eq]
  exact body p e s m _ below meth c _ _ ht C w (lv_entry as hlen)
end EnX
section RoX
variable {p : Program} {l : Launch} {e : Env} {R : Room} {s : State} {m : MethodId} {args : Array Value} {below : List Frame} {meth : Method} {c : Code} {H : Heap} {locs : List Loc} {cells slots mc ms : Nat} {Q : State → Prop} {own : String} {d d' : MD} {g : GT} {A : Nat → Prop} {ws : va_W} {ws' : (Nat → Nat) → va_W} {pc : Nat} {ls : Array Slot} {rest : List Value} {x : Nat} {r v : Int32}
theorem xr_i (C : Cx p s m args meth c own d g A) (w : Wd g A ws s.heap H locs) (hret : d.2.2.2 = some .int) (u : Nat → Nat) (hws : ws = ws' u) (hx : 0 = x) (hv : v = r) (hc : cells ≤ mc) (hs : slots ≤ ms) (hd : decode d.2.1 pc = .ok (.ireturn, 1)) : W p l e R s m args below meth c H locs cells slots (QXI below args s g A ws' x r mc ms) (F0 m pc ls [.int v]) := by
  obtain ⟨hx9, hb, hml, hown, hts, hK, hA, hM, hr, hlocks⟩ := C
  obtain ⟨hP, hD, hS⟩ := w
  subst hv
  refine W.widen hc hs (vx_ret ?_)
  exact W.iret (v := v) hx9 hb (hr.trans hret) (fun t ht hW => ⟨⟨v, u, rfl, ⟨hx.symm, rfl⟩, by rw [ht, ← hws]; exact hP, va_K.moved hW.alike hK, by rw [← hws]; exact hD⟩, hS.F ht⟩) hS.2.2 hd hlocks
theorem xr_v (C : Cx p s m args meth c own d g A) (w : Wd g A ws s.heap H locs) (hret : d.2.2.2 = none) (u : Nat → Nat) (hws : ws = ws' u) (hx : 0 = x) (hc : cells ≤ mc) (hs : slots ≤ ms) (hd : decode d.2.1 pc = .ok (.return_, 1)) : W p l e R s m args below meth c H locs cells slots (QXV below args s g A ws' x mc ms) (F0 m pc ls []) := by
  obtain ⟨hx9, hb, hml, hown, hts, hK, hA, hM, hr, hlocks⟩ := C
  obtain ⟨hP, hD, hS⟩ := w
  refine W.widen hc hs (vx_ret ?_)
  exact W.vret hx9 hb (hr.trans hret) (fun t ht hW => ⟨⟨u, rfl, hx.symm, by rw [ht, ← hws]; exact hP, va_K.moved hW.alike hK, by rw [← hws]; exact hD⟩, hS.F ht⟩) hS.2.2 hd hlocks
/-- the words of a throw in FreeFlowToll -/
def AtW (ic x : Nat) : Prop := (∀ w ∈ vx_atS RX9 ic (exN x) exNs, w ∈ lw_tbl ∧ (goodWord w || isNest w) = true) ∧ (∀ w ∈ vx_atS RX9 ic (exN x) exNs, vx_ot w = true) ∧ Bundle.fit (exN x) = true ∧ x ≠ 0 ∧ Cond.initialized (exN x) ∈ TS
theorem atw_hat {ic k : Nat} (C : Cx p s m args meth c RX9 d g A) (h : AtW ic k) : ∀ w ∈ vx_atS RX9 ic (exN k) exNs, w.before args s = true := by
  intro w hw
  obtain ⟨h1, h2⟩ := h.1 w hw
  by_cases hg : goodWord w = true
  · exact C.2.2.2.2.1 w (List.mem_filter.mpr ⟨h1, hg⟩)
  · have h3 : isNest w = true := by
      rcases Bool.or_eq_true_iff.mp h2 with h | h
      · exact absurd h hg
      · exact h
    have h4 : w ∈ tables_1 := by
      rcases List.mem_append.mp h1 with h5 | h5
      · obtain ⟨q, -, rfl⟩ := List.mem_map.mp h5
        simp [isNest] at h3
      · exact h5
    have h5 := C.2.2.2.2.2.2.2.1.1 w (List.mem_filter.mpr ⟨h4, h3⟩)
    cases w <;> first | exact va_Nw.use rfl h5 | (simp [isNest] at h3)
theorem xt {Qc : Array Value → State → Outcome → State → Prop} {ik is ic k n : Nat} {text : String} (C : Cx p s m args meth c RX9 d g A) (ht : ∀ x ∈ c.exceptionTable.toList, False) (w : Wd g A ws s.heap H locs) (hst : l.stackTraces = false) (hk : Cond.classLink RX9 ik (exN k) ∈ TS) (hm : (RX9, is, text, n) ∈ SRL) (ha : AtW ic k) (hsz : ls.size = d.2.2.1) (d0 : decode d.2.1 pc = .ok (.new ik, 3)) (d3 : decode d.2.1 (pc + 3) = .ok (.dup, 1)) (d4 : decode d.2.1 (pc + 4) = .ok (.ldc is, 2)) (d6 : decode d.2.1 (pc + 6) = .ok (.invokespecial ic, 3)) (d9 : decode d.2.1 (pc + 9) = .ok (.athrow, 1))
    (hR1 : 5 < R.frames) (hR2 : (rest.map fun v => v.category).sum + 82 ≤ R.locals) (hR3 : cells + 1 ≤ R.cells) (hR4 : slots + 6 ≤ R.slots) (u : Nat → Nat) (hws : ws = ws' u) (hx : k = x) (hc : cells + 1 ≤ mc) (hs : slots + 6 ≤ ms) :
    W p l e R s m args below meth c H locs cells slots (vx_MQ below Qc (vxc g A ws' x) args s mc ms A) (F0 m pc ls rest) := by
  subst hx
  subst hws
  refine vx_throwS (sa := sK g n) (text := text) (names := exNs) C.1 C.2.1 hst C.2.2.2.1 ha.2.2.1 (by decide) (C.2.2.2.2.1 _ hk) (C.2.2.2.2.1 _ ha.2.2.2.2) (C.2.2.2.2.2.2.2.1.2.2.2.1 _ hm) (atw_hat C ha) ?_ C.2.2.2.2.2.2.2.1.2.1 C.2.2.2.2.2.2.2.1.2.2.1 w.2.2 (hsz.trans C.2.2.1.symm) d0 d3 d4 d6 d9 (fun x hx => (ht x hx).elim) hR1 hR2 hR3 hR4 C.2.2.2.2.2.2.2.2.2 ?_ w.2.2.2.2 hc hs
  · intro w hw
    rcases List.mem_cons.mp hw with rfl | hw
    · simp [vx_ot, ts_good hk]
    · rcases List.mem_cons.mp hw with rfl | hw
      · simp [vx_ot, ts_good ha.2.2.2.2]
      · exact ha.2.1 w hw
  · intro t hvm hz hk9
    refine ⟨u, ha.2.2.2.1, ⟨rfl, w.1.kept (fun k9 q hq => hk9 _ (w.1 k9 q hq).lt), va_K.moved hvm C.2.2.2.2.2.1, w.2.1⟩, Nat.le_trans w.2.2.1 hz, fun q h1 h2 => (hk9 q (Nat.lt_of_lt_of_le h1 w.2.2.1)).trans (w.2.2.2.1 q h1 h2)⟩
theorem xtw {Qc : Array Value → State → Outcome → State → Prop} {ik is ic k n : Nat} {text : String} (C : Cx p s m args meth c RX9 d g A) (ht : ∀ x ∈ c.exceptionTable.toList, False) (w : Wd g A ws s.heap H locs) (hst : l.stackTraces = false) (hk : Cond.classLink RX9 ik (exN k) ∈ TS) (hm : (RX9, is, text, n) ∈ SRL) (ha : AtW ic k) (hsz : ls.size = d.2.2.1) (d0 : decode d.2.1 pc = .ok (.new ik, 3)) (d3 : decode d.2.1 (pc + 3) = .ok (.dup, 1)) (d4 : decode d.2.1 (pc + 4) = .ok (.ldc_w is, 3)) (d6 : decode d.2.1 (pc + 7) = .ok (.invokespecial ic, 3)) (d9 : decode d.2.1 (pc + 10) = .ok (.athrow, 1))
    (hR1 : 5 < R.frames) (hR2 : (rest.map fun v => v.category).sum + 82 ≤ R.locals) (hR3 : cells + 1 ≤ R.cells) (hR4 : slots + 6 ≤ R.slots) (u : Nat → Nat) (hws : ws = ws' u) (hx : k = x) (hc : cells + 1 ≤ mc) (hs : slots + 6 ≤ ms) :
    W p l e R s m args below meth c H locs cells slots (vx_MQ below Qc (vxc g A ws' x) args s mc ms A) (F0 m pc ls rest) := by
  subst hx
  subst hws
  refine vx_throwSW (sa := sK g n) (text := text) (names := exNs) C.1 C.2.1 hst C.2.2.2.1 ha.2.2.1 (by decide) (C.2.2.2.2.1 _ hk) (C.2.2.2.2.1 _ ha.2.2.2.2) (C.2.2.2.2.2.2.2.1.2.2.2.1 _ hm) (atw_hat C ha) ?_ C.2.2.2.2.2.2.2.1.2.1 C.2.2.2.2.2.2.2.1.2.2.1 w.2.2 (hsz.trans C.2.2.1.symm) d0 d3 d4 d6 d9 (fun x hx => (ht x hx).elim) hR1 hR2 hR3 hR4 C.2.2.2.2.2.2.2.2.2 ?_ w.2.2.2.2 hc hs
  · intro w hw
    rcases List.mem_cons.mp hw with rfl | hw
    · simp [vx_ot, ts_good hk]
    · rcases List.mem_cons.mp hw with rfl | hw
      · simp [vx_ot, ts_good ha.2.2.2.2]
      · exact ha.2.1 w hw
  · intro t hvm hz hk9
    refine ⟨u, ha.2.2.2.1, ⟨rfl, w.1.kept (fun k9 q hq => hk9 _ (w.1 k9 q hq).lt), va_K.moved hvm C.2.2.2.2.2.1, w.2.1⟩, Nat.le_trans w.2.2.1 hz, fun q h1 h2 => (hk9 q (Nat.lt_of_lt_of_le h1 w.2.2.1)).trans (w.2.2.2.1 q h1 h2)⟩
/-- thrown further -/
theorem xo {Qc : Array Value → State → Outcome → State → Prop} {k q : Nat} {ce : Cell} (C : Cx p s m args meth c own d g A) (ht : ∀ x ∈ c.exceptionTable.toList, False) (w : Wd g A ws s.heap H locs) (u : Nat → Nat) (hws : ws = ws' u) (hx : k = x) (h0 : k ≠ 0) (h1 : H[q]? = some ce) (h2 : ce.vm = .none) (h3 : s.vm.findClass (exN k) = some ce.cls) (hc : cells ≤ mc) (hs : slots ≤ ms) :
    vx_W p l e R s m args below meth c H locs cells slots (vx_MQ below Qc (vxc g A ws' x) args s mc ms A) (F0 m pc ls rest) q := by
  subst hx
  subst hws
  refine vx_out (E := exN k) (ce := ce) (fun x hx => (ht x hx).elim) C.2.2.2.2.2.2.2.2.2 h1 h2 h3 (fun t hh hvm => ?_) w.2.2.2.2 hc hs
  exact ⟨u, h0, ⟨rfl, by rw [hh]; exact w.1, va_K.moved hvm C.2.2.2.2.2.1, w.2.1⟩, w.2.2.F hh⟩
end RoX
section CaX
variable {p : Program} {l : Launch} {e : Env} {R : Room} {s : State} {m : MethodId} {args : Array Value} {below : List Frame} {meth : Method} {c : Code} {H : Heap} {locs : List Loc} {cells slots : Nat} {Q : State → Prop} {own : String} {d d' : MD} {g : GT} {A : Nat → Prop} {ws : va_W} {pc : Nat} {ls : Array Slot} {rest : List Value} {rm' : Room} {wc : va_W} {wc' wn : (Nat → Nat) → va_W} {b ix n x : Nat} {As st0 : List Value} {r : Int32}
theorem rx_V {Pc : Array Value → State → Prop} {Qc : Array Value → State → Outcome → State → Prop} {XC : String → State → State → Prop} {free : Addr → Prop} (C : Cx p s m args meth c own d g A) (w : Wd g A ws s.heap H locs) (hM : vx_Met l d'.1 (mw d') rm' Pc Qc XC rm'.cells rm'.slots free) (L : LkV own ix d' n) (hR : rm'.frames + 1 ≤ R.frames ∧ 8 + (d'.2.2.1 + 11) + rm'.locals ≤ R.locals) (hP : FrameBlind Pc ∧ (∀ U : State, U.heap = H → s.WarmedH U.vm → Pc (.ref b :: As).toArray U))
    {q0 ci : Nat} {q : vw_C} {fs : List Value} (he : ws[q0]? = some (b, .inr (ci, fs))) (hc : vwCl[ci]? = some q) (hq : q.1 = d'.1.cls) (hn : As.length = n) (hsz : ls.size = d.2.2.1) (hst : st0 = As.reverse ++ .ref b :: rest) (hrs : (rest.map fun v => v.category).sum ≤ 8) (hd : decode d.2.1 pc = .ok (.invokevirtual ix, 3)) (hf : cells + rm'.cells ≤ R.cells ∧ slots + rm'.slots ≤ R.slots) :
    vx_Run p l e R s m args below meth c H locs cells slots rm'.cells rm'.slots (F0 m pc ls st0) rest (Qc (.ref b :: As).toArray) XC free := by
  obtain ⟨h1, h2, h3, h4, h5, h6⟩ := L
  refine vx_runV (C := d'.1.cls) ⟨C.1, C.2.1, C.2.2.1, C.2.2.2.1, C.2.2.2.2.1⟩ hM (cwV n C.2.2.2.2.1 (ts_app (a := [.methodLink own ix d'.1, .instanceMethod d'.1, .selects d'.1.cls d'.1 d'.1, .initialized d'.1.cls]) ?_ h5) rfl rfl rfl ⟨rfl, h6⟩ hR) ⟨hP.1, ?_, hP.2⟩ rfl hn hsz hst (lv_room hrs) hd hf
  · intro v hv
    simp only [List.mem_cons, List.not_mem_nil, or_false] at hv
    rcases hv with rfl | rfl | rfl | rfl
    · exact h1
    · exact h2
    · exact h3
    · exact h4
  · obtain ⟨cell, e1, e2, e3⟩ := va_recv C.2.2.2.2.2.1 w.1 hc he
    exact ⟨cell, e1, e2, by rw [← hq]; exact e3⟩
theorem cx_iV (C : Cx p s m args meth c own d g A) (w : Wd g A ws s.heap H locs) (P : PM ws wc wc' wn) (hM : XI l d' rm' g wc wc' H.size (.ref b :: As) x r) (L : LkV own ix d' n) (hR : rm'.frames + 1 ≤ R.frames ∧ 8 + (d'.2.2.1 + 11) + rm'.locals ≤ R.locals) (q0 ci : Nat) {q : vw_C} {fs : List Value} (he : ws[q0]? = some (b, .inr (ci, fs))) (hc : vwCl[ci]? = some q) (hq : q.1 = d'.1.cls) (hn : As.length = n) (hsz : ls.size = d.2.2.1) (hst : st0 = As.reverse ++ .ref b :: rest) (hrs : (rest.map fun v => v.category).sum ≤ 8) (hd : decode d.2.1 pc = .ok (.invokevirtual ix, 3)) (hf : cells + rm'.cells ≤ R.cells ∧ slots + rm'.slots ≤ R.slots) {cells2 slots2 : Nat} (hcs : cells + rm'.cells = cells2 ∧ slots + rm'.slots = slots2)
    (kx : x ≠ 0 → ∀ (u : Nat → Nat) (H1 : Heap) (locs1 : List Loc), Wd g A (wn u) s.heap H1 locs1 → ∀ (q9 : Nat) (ce : Cell), H1[q9]? = some ce → ce.vm = .none → s.vm.findClass (exN x) = some ce.cls → vx_W p l e R s m args below meth c H1 locs1 cells2 slots2 Q (F0 m pc ls rest) q9)
    (kk : x = 0 → ∀ (u : Nat → Nat) (H1 : Heap) (locs1 : List Loc), Wd g A (wn u) s.heap H1 locs1 → W p l e R s m args below meth c H1 locs1 cells2 slots2 Q (F0 m (pc + 3) ls (.int r :: rest))) : W p l e R s m args below meth c H locs cells slots Q (F0 m pc ls st0) := by
  obtain ⟨rfl, rfl⟩ := hcs
  obtain ⟨wr, p1, p2⟩ := P
  obtain ⟨a1, a2, hF⟩ := pr_call (as := .ref b :: As) C w p1
  refine vx_calli (rx_V C w hM L hR ⟨a1, a2⟩ he hc hq hn hsz hst hrs hd hf) w.2.2 (fun q _ h => hF q h) hF (fun q _ h => hF q h) (fun E ce q9 u t H1 locs1 ht hvm hw hB hz1 hk1 hS h1 h2 h3 => ?_) (fun r' u t H1 locs1 ht hvm hw hB hz1 hk1 hS => ?_)
  · obtain ⟨rfl, hP1, hK1, hD1⟩ := hB
    rw [ht] at hP1
    exact kx hw u H1 locs1 (jn w p1 hF hk1 hP1 hD1 hS (p2 u)) q9 ce h1 h2 h3
  · obtain ⟨hP1, hK1, hD1⟩ := hB
    rw [ht] at hP1
    obtain ⟨hx0, rfl⟩ := hw
    exact kk hx0 u H1 locs1 (jn w p1 hF hk1 hP1 hD1 hS (p2 u))
theorem cx_vV (C : Cx p s m args meth c own d g A) (w : Wd g A ws s.heap H locs) (P : PM ws wc wc' wn) (hM : XV l d' rm' g wc wc' H.size (.ref b :: As) x) (L : LkV own ix d' n) (hR : rm'.frames + 1 ≤ R.frames ∧ 8 + (d'.2.2.1 + 11) + rm'.locals ≤ R.locals) (q0 ci : Nat) {q : vw_C} {fs : List Value} (he : ws[q0]? = some (b, .inr (ci, fs))) (hc : vwCl[ci]? = some q) (hq : q.1 = d'.1.cls) (hn : As.length = n) (hsz : ls.size = d.2.2.1) (hst : st0 = As.reverse ++ .ref b :: rest) (hrs : (rest.map fun v => v.category).sum ≤ 8) (hd : decode d.2.1 pc = .ok (.invokevirtual ix, 3)) (hf : cells + rm'.cells ≤ R.cells ∧ slots + rm'.slots ≤ R.slots) {cells2 slots2 : Nat} (hcs : cells + rm'.cells = cells2 ∧ slots + rm'.slots = slots2)
    (kx : x ≠ 0 → ∀ (u : Nat → Nat) (H1 : Heap) (locs1 : List Loc), Wd g A (wn u) s.heap H1 locs1 → ∀ (q9 : Nat) (ce : Cell), H1[q9]? = some ce → ce.vm = .none → s.vm.findClass (exN x) = some ce.cls → vx_W p l e R s m args below meth c H1 locs1 cells2 slots2 Q (F0 m pc ls rest) q9)
    (kk : x = 0 → ∀ (u : Nat → Nat) (H1 : Heap) (locs1 : List Loc), Wd g A (wn u) s.heap H1 locs1 → W p l e R s m args below meth c H1 locs1 cells2 slots2 Q (F0 m (pc + 3) ls rest)) : W p l e R s m args below meth c H locs cells slots Q (F0 m pc ls st0) := by
  obtain ⟨rfl, rfl⟩ := hcs
  obtain ⟨wr, p1, p2⟩ := P
  obtain ⟨a1, a2, hF⟩ := pr_call (as := .ref b :: As) C w p1
  refine vx_callv (rx_V C w hM L hR ⟨a1, a2⟩ he hc hq hn hsz hst hrs hd hf) w.2.2 (fun q _ h => hF q h) hF (fun q _ h => hF q h) (fun E ce q9 u t H1 locs1 ht hvm hw hB hz1 hk1 hS h1 h2 h3 => ?_) (fun u t H1 locs1 ht hvm hw hB hz1 hk1 hS => ?_)
  · obtain ⟨rfl, hP1, hK1, hD1⟩ := hB
    rw [ht] at hP1
    exact kx hw u H1 locs1 (jn w p1 hF hk1 hP1 hD1 hS (p2 u)) q9 ce h1 h2 h3
  · obtain ⟨hP1, hK1, hD1⟩ := hB
    rw [ht] at hP1
    exact kk hw u H1 locs1 (jn w p1 hF hk1 hP1 hD1 hS (p2 u))
end CaX
theorem at_1 : AtW 70 1 := ⟨by decide +kernel, by decide +kernel, by decide +kernel, by decide, ts_t 15 (by decide +kernel) (by decide +kernel)⟩
theorem at_2 : AtW 334 2 := ⟨by decide +kernel, by decide +kernel, by decide +kernel, by decide, ts_t 22 (by decide +kernel) (by decide +kernel)⟩
theorem at_3 : AtW 267 3 := ⟨by decide +kernel, by decide +kernel, by decide +kernel, by decide, ts_t 23 (by decide +kernel) (by decide +kernel)⟩
theorem kl_1 : Cond.classLink RX9 66 (exN 1) ∈ TS := ts_t 530 (by decide +kernel) (by decide +kernel)
theorem kl_2 : Cond.classLink RX9 330 (exN 2) ∈ TS := ts_t 851 (by decide +kernel) (by decide +kernel)
theorem kl_3 : Cond.classLink RX9 263 (exN 3) ∈ TS := ts_t 1082 (by decide +kernel) (by decide +kernel)
