/-! methods that make a new row of the history when they return, and none when they throw -/
def YI (l : Launch) (d : MD) (rm : Room) (g : GT) (ws : va_W) (ws' : (Nat → Nat) → va_W) (wsx : va_W) (sz : Nat) (as : List Value) (x : Nat) (r : Int32) : Prop := vx_Met l d.1 (mw d) rm (va_Pc as (Pr g ws sz)) (va_Qi (fun (r' : Int32) (_ : Nat → Nat) => x = 0 ∧ r' = r) (fun u t => Po g (va_A ws sz) (ws' u) t) (va_A ws sz)) (vxc g (va_A ws sz) (fun _ => wsx) x) rm.cells rm.slots (va_A ws sz)
abbrev QYI (below : List Frame) (a : Array Value) (s : State) (g : GT) (A : Nat → Prop) (ws' : (Nat → Nat) → va_W) (wsx : va_W) (x : Nat) (r : Int32) (mc ms : Nat) : State → Prop := vx_MQ below (va_Qi (fun (r' : Int32) (_ : Nat → Nat) => x = 0 ∧ r' = r) (fun u t => Po g A (ws' u) t) A) (vxc g A (fun _ => wsx) x) a s mc ms A
section EnY
variable {l : Launch} {g : GT} {d : MD} {rm : Room} {ws wsx : va_W} {ws' : (Nat → Nat) → va_W} {sz : Nat} {as : List Value} {r : Int32} {x : Nat}
theorem ey_i (hy : plainName d.1.cls = true) (hlen : (lg_sl as).length ≤ d.2.2.1)
    (body : ∀ (p : Program) (e : Env) (s : State) (m : MethodId) (args : Array Value) (below : List Frame) (meth : Method) (c : Code) (A : Nat → Prop) (ls : Array Slot), (∀ x ∈ c.exceptionTable.toList, False) → Cx p s m args meth c d.1.cls d g A → Wd g A ws s.heap s.heap [] → lv_has ls d.2.2.1 (lv_args 0 as) →
      W p l e rm s m args below meth c s.heap [] 0 0 (QYI below args s g A ws' wsx x r rm.cells rm.slots) (F0 m 0 ls [])) : YI l d rm g ws ws' wsx sz as x r := by
  refine vx_ofW (cc := d.2.1) (maxL := d.2.2.1) (ret := d.2.2.2) hy rfl ?_
  intro p e s m args below meth c s₁ B hml ht hv
  obtain ⟨rfl, hv⟩ := hv
  obtain ⟨C, w, rfl⟩ := cx_of B hml hv
  rw [lg_entry_eq]
  exact body p e s m _ below meth c _ _ ht C w (lv_entry as hlen)
end EnY
section RoY
variable {p : Program} {l : Launch} {e : Env} {R : Room} {s : State} {m : MethodId} {args : Array Value} {below : List Frame} {meth : Method} {c : Code} {H : Heap} {locs : List Loc} {cells slots mc ms : Nat} {Q : State → Prop} {own : String} {d d' : MD} {g : GT} {A : Nat → Prop} {ws : va_W} {ws' : (Nat → Nat) → va_W} {pc : Nat} {ls : Array Slot} {rest : List Value} {x : Nat} {r v : Int32}
theorem yr_i {XC : String → State → State → Prop} (C : Cx p s m args meth c own d g A) (w : Wd g A ws s.heap H locs) (hret : d.2.2.2 = some .int) (u : Nat → Nat) (hws : ws = ws' u) (hx : 0 = x) (hv : v = r) (hc : cells ≤ mc) (hs : slots ≤ ms) (hd : decode d.2.1 pc = .ok (.ireturn, 1)) : W p l e R s m args below meth c H locs cells slots (vx_MQ below (va_Qi (fun (r' : Int32) (_ : Nat → Nat) => x = 0 ∧ r' = r) (fun u t => Po g A (ws' u) t) A) XC args s mc ms A) (F0 m pc ls [.int v]) := by
  obtain ⟨hx9, hb, hml, hown, hts, hK, hA, hM, hr, hlocks⟩ := C
  obtain ⟨hP, hD, hS⟩ := w
  subst hv
  refine W.widen hc hs (vx_ret ?_)
  exact W.iret (v := v) hx9 hb (hr.trans hret) (fun t ht hW => ⟨⟨v, u, rfl, ⟨hx.symm, rfl⟩, by rw [ht, ← hws]; exact hP, va_K.moved hW.alike hK, by rw [← hws]; exact hD⟩, hS.F ht⟩) hS.2.2 hd hlocks
end RoY
section CaY
variable {p : Program} {l : Launch} {e : Env} {R : Room} {s : State} {m : MethodId} {args : Array Value} {below : List Frame} {meth : Method} {c : Code} {H : Heap} {locs : List Loc} {cells slots : Nat} {Q : State → Prop} {own : String} {d d' : MD} {g : GT} {A : Nat → Prop} {ws : va_W} {pc : Nat} {ls : Array Slot} {rest : List Value} {rm' : Room} {wc wcx wnx : va_W} {wc' wn : (Nat → Nat) → va_W} {b ix n x : Nat} {As st0 : List Value} {r : Int32}
theorem cy_iV (C : Cx p s m args meth c own d g A) (w : Wd g A ws s.heap H locs) (P : PM ws wc wc' wn) (Px : PM ws wc (fun _ => wcx) (fun _ => wnx)) (hM : YI l d' rm' g wc wc' wcx H.size (.ref b :: As) x r) (L : LkV own ix d' n) (hR : rm'.frames + 1 ≤ R.frames ∧ 8 + (d'.2.2.1 + 11) + rm'.locals ≤ R.locals) (q0 ci : Nat) {q : vw_C} {fs : List Value} (he : ws[q0]? = some (b, .inr (ci, fs))) (hc : vwCl[ci]? = some q) (hq : q.1 = d'.1.cls) (hn : As.length = n) (hsz : ls.size = d.2.2.1) (hst : st0 = As.reverse ++ .ref b :: rest) (hrs : (rest.map fun v => v.category).sum ≤ 8) (hd : decode d.2.1 pc = .ok (.invokevirtual ix, 3)) (hf : cells + rm'.cells ≤ R.cells ∧ slots + rm'.slots ≤ R.slots) {cells2 slots2 : Nat} (hcs : cells + rm'.cells = cells2 ∧ slots + rm'.slots = slots2)
    (kx : x ≠ 0 → ∀ (H1 : Heap) (locs1 : List Loc), Wd g A wnx s.heap H1 locs1 → ∀ (q9 : Nat) (ce : Cell), H1[q9]? = some ce → ce.vm = .none → s.vm.findClass (exN x) = some ce.cls → vx_W p l e R s m args below meth c H1 locs1 cells2 slots2 Q (F0 m pc ls rest) q9)
    (kk : x = 0 → ∀ (u : Nat → Nat) (H1 : Heap) (locs1 : List Loc), Wd g A (wn u) s.heap H1 locs1 → W p l e R s m args below meth c H1 locs1 cells2 slots2 Q (F0 m (pc + 3) ls (.int r :: rest))) : W p l e R s m args below meth c H locs cells slots Q (F0 m pc ls st0) := by
  obtain ⟨rfl, rfl⟩ := hcs
  obtain ⟨wr, p1, p2⟩ := P
  obtain ⟨wx, x1, x2⟩ := Px
  obtain ⟨a1, a2, hF⟩ := pr_call (as := .ref b :: As) C w p1
  refine vx_calli (rx_V C w hM L hR ⟨a1, a2⟩ he hc hq hn hsz hst hrs hd hf) w.2.2 (fun q _ h => hF q h) hF (fun q _ h => hF q h) (fun E ce q9 u t H1 locs1 ht hvm hw hB hz1 hk1 hS h1 h2 h3 => ?_) (fun r' u t H1 locs1 ht hvm hw hB hz1 hk1 hS => ?_)
  · obtain ⟨rfl, hP1, hK1, hD1⟩ := hB
    rw [ht] at hP1
    exact kx hw H1 locs1 (jn w x1 hF hk1 hP1 hD1 hS (x2 u)) q9 ce h1 h2 h3
  · obtain ⟨hP1, hK1, hD1⟩ := hB
    rw [ht] at hP1
    obtain ⟨hx0, rfl⟩ := hw
    exact kk hx0 u H1 locs1 (jn w p1 hF hk1 hP1 hD1 hS (p2 u))
end CaY
