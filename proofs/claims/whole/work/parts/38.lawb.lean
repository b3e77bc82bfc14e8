/-! the law's body: rows for its calls -/
def LkK (own : String) (ix : Nat) (d : MD) (hh : List (Nat × Nat × Nat × Nat)) (n : Nat) : Prop := Cond.methodLink own ix d.1 ∈ TS ∧ Cond.static d.1 ∈ TS ∧ Cond.initialized d.1.cls ∈ TS ∧ Cond.codeWith d.1 d.2.1 d.2.2.1 d.2.2.2 hh ∈ TS ∧ d.1.cls ≠ "java/lang/invoke/MethodHandle" ∧ d.1.cls ≠ "java/lang/invoke/VarHandle" ∧ (parseMethodDescriptor d.1.desc).map (fun x => x.parameters.length) = some n
theorem rm_law {k n mc ms : Nat} (h : k ≤ 100) (hn : n ≤ 60) : (rml k mc ms).frames + 1 ≤ room_1.frames ∧ 8 + (n + 11) + (rml k mc ms).locals ≤ room_1.locals := by
  constructor
  · show 10 * k + 10 + 1 ≤ 2048
    omega
  · show 8 + (n + 11) + (100 * k + 110) ≤ 84000
    omega
theorem lg_cmp_self (x : Int64) : lg_cmp x x = 0 := by simp [lg_cmp]
section CaK
variable {p : Program} {l : Launch} {e : Env} {R : Room} {s : State} {m : MethodId} {args : Array Value} {below : List Frame} {meth : Method} {c : Code} {H : Heap} {locs : List Loc} {cells slots : Nat} {Q : State → Prop} {own : String} {d d' : MD} {g : GT} {A : Nat → Prop} {ws : va_W} {pc : Nat} {ls : Array Slot} {rest : List Value} {rm' : Room} {wc : va_W} {wc' wn : (Nat → Nat) → va_W} {b ix n : Nat} {As st0 : List Value} {r : Int32} {hh : List (Nat × Nat × Nat × Nat)}
theorem ck_iS (C : Cx p s m args meth c own d g A) (w : Wd g A ws s.heap H locs) (P : PM ws wc wc' wn) (hM : KI l d' hh rm' g wc wc' H.size As r) (L : LkK own ix d' hh n) (hR : rm'.frames + 1 ≤ R.frames ∧ 8 + (d'.2.2.1 + 11) + rm'.locals ≤ R.locals) (hn : As.length = n) (hsz : ls.size = d.2.2.1) (hst : st0 = As.reverse ++ rest) (hrs : (rest.map fun v => v.category).sum ≤ 8) (hd : decode d.2.1 pc = .ok (.invokestatic ix, 3)) (hf : cells + rm'.cells ≤ R.cells ∧ slots + rm'.slots ≤ R.slots)
    (kk : ∀ (u : Nat → Nat) (H1 : Heap) (locs1 : List Loc), Wd g A (wn u) s.heap H1 locs1 → W p l e R s m args below meth c H1 locs1 (cells + rm'.cells) (slots + rm'.slots) Q (F0 m (pc + 3) ls (.int r :: rest))) : W p l e R s m args below meth c H locs cells slots Q (F0 m pc ls st0) := by
  obtain ⟨wr, p1, p2⟩ := P
  obtain ⟨a1, a2, hF⟩ := pr_call (as := As) C w p1
  obtain ⟨l1, l2, l3, l4, l5⟩ := L
  refine go_i w hF p1 p2 (vx_runSW ⟨C.1, C.2.1, C.2.2.1, C.2.2.2.1, C.2.2.2.2.1⟩ hM (vx_cwSW n C.2.2.2.2.1 (ts_app (a := [.methodLink own ix d'.1, .static d'.1, .initialized d'.1.cls]) ?_ l4) rfl rfl rfl l5 hR) ⟨a1, a2⟩ rfl hn hsz hst (lv_room hrs) hd hf) kk
  intro v hv
  simp only [List.mem_cons, List.not_mem_nil, or_false] at hv
  rcases hv with rfl | rfl | rfl
  · exact l1
  · exact l2
  · exact l3
/-- a call whose receiver is among the callee's cells -/
theorem cm_iV {ci : Nat} {fs : List Value} {q : vw_C} (C : Cx p s m args meth c own d g A) (w : Wd g A ws s.heap H locs) (P : PM ws wc wc' wn) (hM : CI l d' rm' g wc wc' H.size (.ref b :: As) r) (L : LkV own ix d' n) (hR : rm'.frames + 1 ≤ R.frames ∧ 8 + (d'.2.2.1 + 11) + rm'.locals ≤ R.locals) (hm : (b, .inr (ci, fs)) ∈ wc) (hc : vwCl[ci]? = some q) (hq : q.1 = d'.1.cls) (hn : As.length = n) (hsz : ls.size = d.2.2.1) (hst : st0 = As.reverse ++ .ref b :: rest) (hrs : (rest.map fun v => v.category).sum ≤ 8) (hd : decode d.2.1 pc = .ok (.invokevirtual ix, 3)) (hf : cells + rm'.cells ≤ R.cells ∧ slots + rm'.slots ≤ R.slots)
    (kk : ∀ (u : Nat → Nat) (H1 : Heap) (locs1 : List Loc), Wd g A (wn u) s.heap H1 locs1 → W p l e R s m args below meth c H1 locs1 (cells + rm'.cells) (slots + rm'.slots) Q (F0 m (pc + 3) ls (.int r :: rest))) : W p l e R s m args below meth c H locs cells slots Q (F0 m pc ls st0) := by
  have hws : (b, .inr (ci, fs)) ∈ ws := by
    obtain ⟨wr, p1, -⟩ := P
    exact p1.mem_iff.mpr (List.mem_append_right _ hm)
  obtain ⟨q0, he⟩ := List.getElem?_of_mem hws
  exact ca_iV C w P hM L hR q0 ci he hc hq hn hsz hst hrs hd hf ⟨rfl, rfl⟩ kk
theorem lal_mem {a : Nat} {f : Nat → Int64} (C : Cx p s m args meth c own d g A) (w : Wd g A ws s.heap H locs) (hm : (a, aJ g 1 f) ∈ ws) (hd : decode d.2.1 pc = .ok (.laload, 1))
    (kk : W p l e R s m args below meth c H locs cells slots Q (F0 m (pc + 1) ls (.long (f 0) :: rest))) : W p l e R s m args below meth c H locs cells slots Q (F0 m pc ls (.int 0 :: .ref a :: rest)) := by
  obtain ⟨q0, he⟩ := List.getElem?_of_mem hm
  exact lal_last C w he hd kk
end CaK
abbrev m_L_law : MD := (yL_law, cL_law, 7, some .boolean)
/-- what the law's body stands on: its context, the script, the place i4 in it -/
def Lx (p : Program) (s : State) (m : MethodId) (args : Array Value) (meth : Method) (c : Code) (g : GT) (A : Nat → Prop) (b L : Nat) (xs : Nat → Int32) (i4 : Int32) : Prop := Cx p s m args meth c RL m_L_law g A ∧ va_X b L xs s s.heap ∧ b < s.heap.size ∧ ¬ A b ∧ vp_in (i4 + 1) L ∧ vp_in (i4 + 2) L ∧ vp_in (i4 + 3) L ∧ vp_in (i4 + 4) L ∧ vp_in (i4 + 5) L
