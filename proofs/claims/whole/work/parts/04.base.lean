/-! my own rows: one list of words for every method, a world and a context in one piece each, calls in one row -/
def TS : List Cond := lw_tbl.filter goodWord
def isNest : Cond → Bool
  | .fieldLinkNest .. => true
  | .methodLinkNest .. => true
  | _ => false
theorem ts_t {w : Cond} (i : Nat) (h : tables_1[i]? = some w) (hg : goodWord w = true) : w ∈ TS := List.mem_filter.mpr ⟨List.mem_append_right _ (List.mem_of_getElem? h), hg⟩
theorem ts_s {w : Cond} (i : Nat) (h : (k2_sels lw_privs)[i]? = some w) (hg : goodWord w = true) : w ∈ TS := List.mem_filter.mpr ⟨List.mem_append_left _ (List.mem_of_getElem? h), hg⟩
theorem ts_good {w : Cond} (h : w ∈ TS) : goodWord w = true := (List.mem_filter.mp h).2
theorem ts_in {w : Cond} (h : w ∈ TS) : w ∈ lw_tbl := (List.mem_filter.mp h).1
theorem ts_wm {w : Cond} (h : w ∈ TS) : GoodIn TS (w :: TS) := fun v hv => by
  have h1 : v ∈ TS := (List.mem_cons.mp hv).elim (fun e => e ▸ h) id
  exact ⟨h1, good_of_word (ts_good h1)⟩
theorem ts_app {a : List Cond} (ha : ∀ w ∈ a, w ∈ TS) {w : Cond} (h : w ∈ TS) : GoodIn TS (a ++ (w :: TS)) := fun v hv => by
  have h1 : v ∈ TS := (List.mem_append.mp hv).elim (ha v) (fun h2 => (List.mem_cons.mp h2).elim (fun e => e ▸ h) id)
  exact ⟨h1, good_of_word (ts_good h1)⟩
def NWs : List Cond := tables_1.filter isNest
def NW (U : State) : Prop := ∀ w ∈ NWs, va_Nw w U
theorem nw_t {w : Cond} (i : Nat) (h : tables_1[i]? = some w) (hg : isNest w = true) : w ∈ NWs := List.mem_filter.mpr ⟨List.mem_of_getElem? h, hg⟩
theorem NW.moved {s U : State} (hW : s.WarmedH U.vm) (h : NW s) : NW U := by
  intro w hw
  have h1 := h w hw
  have h2 := (List.mem_filter.mp hw).2
  cases w <;> first | exact va_Nw.warmF hW h1 | exact va_Nw.warmM hW h1 | (simp [isNest] at h2)
theorem NW.same {s U : State} (hvm : s.vm = U.vm) (h : NW s) : NW U := by
  intro w hw
  have h1 := h w hw
  have h2 := (List.mem_filter.mp hw).2
  cases w <;> first | exact va_Nw.same rfl hvm h1 | (simp [isNest] at h2)
/-- the ids: of the classes, and of the five array classes -/
abbrev GT : Type := va_G × (ClassId × ClassId × ClassId × ClassId × ClassId)
abbrev cI (g : GT) : ClassId := g.2.1
abbrev cZ (g : GT) : ClassId := g.2.2.1
abbrev cB (g : GT) : ClassId := g.2.2.2.1
abbrev cO (g : GT) : ClassId := g.2.2.2.2.1
abbrev cJ (g : GT) : ClassId := g.2.2.2.2.2
abbrev ty (g : GT) : List (ClassId × FieldType) := [(cI g, .int), (cZ g, .boolean), (cB g, .byte), (cO g, .object "FreeFlowToll$Ledger"), (cJ g, .long)]
abbrev aI (g : GT) (n : Nat) (f : Nat → Int32) : va_E := .inl (cI g, n, .inl f)
abbrev aZ (g : GT) (n : Nat) (f : Nat → Int32) : va_E := .inl (cZ g, n, .inl f)
abbrev aB (g : GT) (n : Nat) (f : Nat → Int32) : va_E := .inl (cB g, n, .inl f)
abbrev aJ (g : GT) (n : Nat) (f : Nat → Int64) : va_E := .inl (cJ g, n, .inr (.inl f))
abbrev aO (g : GT) (n : Nat) (f : Nat → Option Nat) : va_E := .inl (cO g, n, .inr (.inr (.inr (.inr f))))
/-- what holds all the time: links between nest mates, the statics that a throw reads -/
def AM (A : Nat → Prop) (U : State) (H : Heap) : Prop := NW U ∧ vx_Zq Bundle.tN "UNASSIGNED_STACK" Bundle.steD A U H ∧ vx_Zq Bundle.tN "SUPPRESSED_SENTINEL" Bundle.listD A U H
theorem AM.call {A A' : Nat → Prop} {s U : State} {H : Heap} {locs : List Loc} (h : AM A s s.heap) (hS : va_S A s.heap H locs) (hU : U.heap = H) (hW : s.WarmedH U.vm) (hA : ∀ q, A' q → A q) : AM A' U U.heap := by
  obtain ⟨h1, h2, h3⟩ := h
  have hq : ∀ a : Nat, a < s.heap.size → ¬ A a → U.heap[a]? = s.heap[a]? := fun a ha hn => by rw [hU]; exact hS.2.1 a ha hn
  exact ⟨h1.moved hW, ((h2.kept hq).moved hW.alike).narrow hA, ((h3.kept hq).moved hW.alike).narrow hA⟩
theorem AM.blind {A : Nat → Prop} {U : State} {g : JFrame} {mk : MethodId} {a : Array Value} (h : AM A U U.heap) : AM A (U.calling g mk a) (U.calling g mk a).heap := by
  obtain ⟨h1, h2, h3⟩ := h
  exact ⟨h1.same rfl, vx_Zq.moved (u := U) (U := U.calling g mk a) (Vm.Alike.refl U.vm) h2, vx_Zq.moved (u := U) (U := U.calling g mk a) (Vm.Alike.refl U.vm) h3⟩
/-- a method: name, bytes, locals, what it returns -/
abbrev MD : Type := MethodName × ByteArray × Nat × Option FieldType
abbrev mw (d : MD) : List Cond := Cond.code d.1 d.2.1 d.2.2.1 d.2.2.2 :: TS
def Pr (g : GT) (ws : va_W) (sz : Nat) (U : State) : Prop := U.heap.size = sz ∧ va_P g.1 vwCl ws U.heap ∧ va_K g.1 vwCl (ty g) U ∧ va_D (fun _ => True) ws ∧ AM (va_A ws sz) U U.heap
def Po (g : GT) (A : Nat → Prop) (ws : va_W) (t : State) : Prop := va_P g.1 vwCl ws t.heap ∧ va_K g.1 vwCl (ty g) t ∧ va_D A ws
abbrev rml (k mc ms : Nat) : Room := { frames := 10 * k + 10, cells := mc, slots := ms, locals := 100 * k + 110 }
/-- a contract: an int (or a boolean) comes back; nothing comes back -/
def CI (l : Launch) (d : MD) (rm : Room) (g : GT) (ws : va_W) (ws' : (Nat → Nat) → va_W) (sz : Nat) (as : List Value) (r : Int32) : Prop := Met l d.1 (mw d) rm (va_Pc as (Pr g ws sz)) (va_Qi (fun (r' : Int32) (_ : Nat → Nat) => r' = r) (fun u t => Po g (va_A ws sz) (ws' u) t) (va_A ws sz)) rm.cells rm.slots (va_A ws sz)
def CV (l : Launch) (d : MD) (rm : Room) (g : GT) (ws : va_W) (ws' : (Nat → Nat) → va_W) (sz : Nat) (as : List Value) : Prop := Met l d.1 (mw d) rm (va_Pc as (Pr g ws sz)) (va_Qv (fun (_ : Nat → Nat) => True) (fun u t => Po g (va_A ws sz) (ws' u) t) (va_A ws sz)) rm.cells rm.slots (va_A ws sz)
def QI (below : List Frame) (a : Array Value) (s : State) (g : GT) (A : Nat → Prop) (ws' : (Nat → Nat) → va_W) (r : Int32) (mc ms : Nat) : State → Prop := MQ below (va_Qi (fun (r' : Int32) (_ : Nat → Nat) => r' = r) (fun u t => Po g A (ws' u) t) A) a s mc ms A
def QV (below : List Frame) (a : Array Value) (s : State) (g : GT) (A : Nat → Prop) (ws' : (Nat → Nat) → va_W) (mc ms : Nat) : State → Prop := MQ below (va_Qv (fun (_ : Nat → Nat) => True) (fun u t => Po g A (ws' u) t) A) a s mc ms A
/-- the context of a body -/
def Cx (p : Program) (s : State) (m : MethodId) (args : Array Value) (meth : Method) (c : Code) (own : String) (d : MD) (g : GT) (A : Nat → Prop) : Prop :=
  p.tables.exec = Jvm.exec ∧ c.code = d.2.1 ∧ c.maxLocals = d.2.2.1 ∧ s.vm.findClass own = some m.cls ∧ (∀ w ∈ TS, w.before args s = true) ∧ va_K g.1 vwCl (ty g) s ∧ (∀ q : Nat, s.heap.size ≤ q → A q) ∧ AM A s s.heap ∧ meth.sig.returnType = d.2.2.2 ∧ meth.locks = false
/-- the world -/
def Wd (g : GT) (A : Nat → Prop) (ws : va_W) (H0 H : Heap) (locs : List Loc) : Prop := va_P g.1 vwCl ws H ∧ va_D A ws ∧ va_S A H0 H locs
theorem Wd.sub {g : GT} {A : Nat → Prop} {ws ws' : va_W} {H0 H : Heap} {locs : List Loc} (h : Wd g A ws H0 H locs) (is : List Nat) (hn : va_nd is = true) (hs : is.map (fun i => ws[i]?) = ws'.map some) : Wd g A ws' H0 H locs := by
  refine ⟨h.1.sub is ?_, h.2.1.sub is hn hs, h.2.2⟩
  have : (is.map (fun i => ws[i]?)).filterMap id = (ws'.map some).filterMap id := by rw [hs]
  simpa [List.filterMap_map] using this
section En
variable {l : Launch} {g : GT} {d : MD} {rm : Room} {ws : va_W} {ws' : (Nat → Nat) → va_W} {sz : Nat} {as : List Value} {r : Int32}
theorem cx_of {p : Program} {e : Env} {s : State} {m : MethodId} {below : List Frame} {meth : Method} {c : Code} {s₁ : State} (B : BodyLoose p l d.1 (headSpec (mw d) rm) d.2.1 d.2.2.1 d.2.2.2 e s m as.toArray below meth c s₁) (hml : c.maxLocals = d.2.2.1) (h : Pr g ws sz s) :
    Cx p s m as.toArray meth c d.1.cls d g (va_A ws s.heap.size) ∧ Wd g (va_A ws s.heap.size) ws s.heap s.heap [] ∧ s.heap.size = sz := by
  obtain ⟨hsz, hP, hK, hD, hM⟩ := h
  subst hsz
  refine ⟨⟨B.exec, B.bytes, hml, findClass_of_methodNamed B.named, fun w hw => atoms_spec (ws := mw d) B.pre w (List.mem_cons_of_mem _ hw), hK, fun q h => Or.inr h, hM, B.returns, B.notSynchronized⟩, ⟨hP, hD.self, va_S.rf⟩, rfl⟩
theorem en_i (hy : plainName d.1.cls = true) (hlen : (lg_sl as).length ≤ d.2.2.1)
    (body : ∀ (p : Program) (e : Env) (s : State) (m : MethodId) (below : List Frame) (meth : Method) (c : Code) (A : Nat → Prop) (ls : Array Slot), Cx p s m as.toArray meth c d.1.cls d g A → Wd g A ws s.heap s.heap [] → lv_has ls d.2.2.1 (lv_args 0 as) →
      W p l e rm s m as.toArray below meth c s.heap [] 0 0 (QI below as.toArray s g A ws' r rm.cells rm.slots) (F0 m 0 ls [])) : CI l d rm g ws ws' sz as r := by
  refine Met.ofW (cc := d.2.1) (maxL := d.2.2.1) (ret := d.2.2.2) hy rfl ?_
  intro p e s m args below meth c s₁ B hml hv
  obtain ⟨rfl, hv⟩ := hv
  obtain ⟨C, w, rfl⟩ := cx_of B hml hv
  rw [lg_entry_eq]
  exact body p e s m below meth c _ _ C w (lv_entry as hlen)
theorem en_v (hy : plainName d.1.cls = true) (hlen : (lg_sl as).length ≤ d.2.2.1)
    (body : ∀ (p : Program) (e : Env) (s : State) (m : MethodId) (below : List Frame) (meth : Method) (c : Code) (A : Nat → Prop) (ls : Array Slot), Cx p s m as.toArray meth c d.1.cls d g A → Wd g A ws s.heap s.heap [] → lv_has ls d.2.2.1 (lv_args 0 as) →
      W p l e rm s m as.toArray below meth c s.heap [] 0 0 (QV below as.toArray s g A ws' rm.cells rm.slots) (F0 m 0 ls [])) : CV l d rm g ws ws' sz as := by
  refine Met.ofW (cc := d.2.1) (maxL := d.2.2.1) (ret := d.2.2.2) hy rfl ?_
  intro p e s m args below meth c s₁ B hml hv
  obtain ⟨rfl, hv⟩ := hv
  obtain ⟨C, w, rfl⟩ := cx_of B hml hv
  rw [lg_entry_eq]
  exact body p e s m below meth c _ _ C w (lv_entry as hlen)
end En
section Ro
variable {p : Program} {l : Launch} {e : Env} {R : Room} {s : State} {m : MethodId} {args : Array Value} {below : List Frame} {meth : Method} {c : Code} {H : Heap} {locs : List Loc} {cells slots : Nat} {Q : State → Prop} {own : String} {d : MD} {g : GT} {A : Nat → Prop} {ws : va_W} {pc : Nat} {ls : Array Slot} {rest : List Value}
/-- returns -/
theorem rt_i {ws' : (Nat → Nat) → va_W} {r v : Int32} (C : Cx p s m args meth c own d g A) (w : Wd g A ws s.heap H locs) (hret : d.2.2.2 = some .int) (u : Nat → Nat) (hws : ws = ws' u) (hv : v = r) (hd : decode d.2.1 pc = .ok (.ireturn, 1)) : W p l e R s m args below meth c H locs cells slots (QI below args s g A ws' r cells slots) (F0 m pc ls [.int v]) := by
  obtain ⟨hx, hb, hml, hown, hts, hK, hA, hM, hr, hlocks⟩ := C
  obtain ⟨hP, hD, hS⟩ := w
  subst hv
  exact W.iret (v := v) hx hb (hr.trans hret) (fun t ht hW => ⟨⟨v, u, rfl, rfl, by rw [ht, ← hws]; exact hP, va_K.moved hW.alike hK, by rw [← hws]; exact hD⟩, hS.F ht⟩) hS.2.2 hd hlocks
theorem rt_z {ws' : (Nat → Nat) → va_W} {r v : Int32} (C : Cx p s m args meth c own d g A) (w : Wd g A ws s.heap H locs) (hret : d.2.2.2 = some .boolean) (h01 : v = 0 ∨ v = 1) (u : Nat → Nat) (hws : ws = ws' u) (hv : v = r) (hd : decode d.2.1 pc = .ok (.ireturn, 1)) : W p l e R s m args below meth c H locs cells slots (QI below args s g A ws' r cells slots) (F0 m pc ls [.int v]) := by
  obtain ⟨hx, hb, hml, hown, hts, hK, hA, hM, hr, hlocks⟩ := C
  obtain ⟨hP, hD, hS⟩ := w
  subst hv
  exact W.zret (v := v) (ty := .boolean) hx hb (hr.trans hret) (by rcases h01 with h | h <;> rw [h] <;> rfl) (fun t ht hW => ⟨⟨v, u, rfl, rfl, by rw [ht, ← hws]; exact hP, va_K.moved hW.alike hK, by rw [← hws]; exact hD⟩, hS.F ht⟩) hS.2.2 hd hlocks
theorem rt_v {ws' : (Nat → Nat) → va_W} (C : Cx p s m args meth c own d g A) (w : Wd g A ws s.heap H locs) (hret : d.2.2.2 = none) (u : Nat → Nat) (hws : ws = ws' u) (hd : decode d.2.1 pc = .ok (.return_, 1)) : W p l e R s m args below meth c H locs cells slots (QV below args s g A ws' cells slots) (F0 m pc ls []) := by
  obtain ⟨hx, hb, hml, hown, hts, hK, hA, hM, hr, hlocks⟩ := C
  obtain ⟨hP, hD, hS⟩ := w
  exact W.vret hx hb (hr.trans hret) (fun t ht hW => ⟨⟨u, rfl, trivial, by rw [ht, ← hws]; exact hP, va_K.moved hW.alike hK, by rw [← hws]; exact hD⟩, hS.F ht⟩) hS.2.2 hd hlocks
/-- fields -/
theorem fg (C : Cx p s m args meth c own d g A) (w : Wd g A ws s.heap H locs) {ref K : String} {T : u_T} {N ci ix a : Nat} {fs : List Value} {v : Value} (hin : ∀ w ∈ u_ws K T N, w ∈ TS) (hc : vwCl[ci]? = some (K, T, N)) (k : Nat) (hk : k < N) (hl : Cond.fieldLink own ix ref (T k).2.1 (T k).2.2.1 ∈ TS) (hs : (T k).1 = ref) (q0 : Nat) (he : ws[q0]? = some (a, .inr (ci, fs))) (hv : fs[k]? = some v) (hd : decode d.2.1 pc = .ok (.getfield ix, 3))
    (kk : W p l e R s m args below meth c H locs cells slots Q (F0 m (pc + 3) ls (v :: rest))) : W p l e R s m args below meth c H locs cells slots Q (F0 m pc ls (.ref a :: rest)) :=
  va_get C.1 C.2.1 C.2.2.2.2.1 hin C.2.2.2.1 C.2.2.2.2.2.1 w.1 q0 he hc k hk (C.2.2.2.2.1 _ hl) (fun _ h9 => by rw [← hs]; exact h9) hv hd kk
theorem fgN (C : Cx p s m args meth c own d g A) (w : Wd g A ws s.heap H locs) {ref K host : String} {T : u_T} {N ci ix a : Nat} {fs : List Value} {v : Value} (hin : ∀ w ∈ u_ws K T N, w ∈ TS) (hc : vwCl[ci]? = some (K, T, N)) (k : Nat) (hk : k < N) (hl : Cond.fieldLinkNest own ix ref (T k).2.1 (T k).2.2.1 host ∈ NWs) (hs : (T k).1 = ref) (q0 : Nat) (he : ws[q0]? = some (a, .inr (ci, fs))) (hv : fs[k]? = some v) (hd : decode d.2.1 pc = .ok (.getfield ix, 3))
    (kk : W p l e R s m args below meth c H locs cells slots Q (F0 m (pc + 3) ls (v :: rest))) : W p l e R s m args below meth c H locs cells slots Q (F0 m pc ls (.ref a :: rest)) :=
  va_getN C.1 C.2.1 C.2.2.2.2.1 hin C.2.2.2.1 C.2.2.2.2.2.1 w.1 q0 he hc k hk (va_Nw.use rfl (C.2.2.2.2.2.2.2.1.1 _ hl)) (fun _ h9 => by rw [← hs]; exact h9) hv hd kk
theorem fp (C : Cx p s m args meth c own d g A) (w : Wd g A ws s.heap H locs) {ref K : String} {T : u_T} {N ci ix a : Nat} {fs : List Value} {v : Value} {ty0 : Nat → FieldType} (hin : ∀ w ∈ u_ws K T N, w ∈ TS) (hty : ∀ k, k < N → parseFieldDescriptor (T k).2.2.1 = some (ty0 k)) (hnm : ∀ a, a < N → ∀ b, b < N → a ≠ b → (T a).2.1 ≠ (T b).2.1) (hc : vwCl[ci]? = some (K, T, N)) (k : Nat) (hk : k < N) (hl : Cond.fieldLink own ix ref (T k).2.1 (T k).2.2.1 ∈ TS) (hs : (T k).1 = ref) (hfin : (T k).2.2.2 = false) (q0 : Nat) (he : ws[q0]? = some (a, .inr (ci, fs))) (hn : narrow (ty0 k) v = v) (hfit : fits (ty0 k) v = true) (hlt : k < fs.length) {ws2 : va_W} (h2 : ws.set q0 (a, .inr (ci, fs.set k v)) = ws2) (hd : decode d.2.1 pc = .ok (.putfield ix, 3))
    (kk : ∀ (H1 : Heap) (locs1 : List Loc), Wd g A ws2 s.heap H1 locs1 → W p l e R s m args below meth c H1 locs1 cells slots Q (F0 m (pc + 3) ls rest)) : W p l e R s m args below meth c H locs cells slots Q (F0 m pc ls (v :: .ref a :: rest)) := by
  subst h2
  exact va_put C.1 C.2.1 C.2.2.2.2.1 hin ty0 hty hnm C.2.2.2.1 C.2.2.2.2.2.1 w.1 w.2.1 w.2.2 q0 he hc k hk (C.2.2.2.2.1 _ hl) (fun _ h9 => by rw [← hs]; exact h9) hfin (hty k hk) hn hfit hlt hd (fun H1 l1 h1 h2 h3 => kk H1 l1 ⟨h1, h2, h3⟩)
theorem fpN (C : Cx p s m args meth c own d g A) (w : Wd g A ws s.heap H locs) {ref K host : String} {T : u_T} {N ci ix a : Nat} {fs : List Value} {v : Value} {ty0 : Nat → FieldType} (hin : ∀ w ∈ u_ws K T N, w ∈ TS) (hty : ∀ k, k < N → parseFieldDescriptor (T k).2.2.1 = some (ty0 k)) (hnm : ∀ a, a < N → ∀ b, b < N → a ≠ b → (T a).2.1 ≠ (T b).2.1) (hc : vwCl[ci]? = some (K, T, N)) (k : Nat) (hk : k < N) (hl : Cond.fieldLinkNest own ix ref (T k).2.1 (T k).2.2.1 host ∈ NWs) (hs : (T k).1 = ref) (hfin : (T k).2.2.2 = false) (q0 : Nat) (he : ws[q0]? = some (a, .inr (ci, fs))) (hn : narrow (ty0 k) v = v) (hfit : fits (ty0 k) v = true) (hlt : k < fs.length) {ws2 : va_W} (h2 : ws.set q0 (a, .inr (ci, fs.set k v)) = ws2) (hd : decode d.2.1 pc = .ok (.putfield ix, 3))
    (kk : ∀ (H1 : Heap) (locs1 : List Loc), Wd g A ws2 s.heap H1 locs1 → W p l e R s m args below meth c H1 locs1 cells slots Q (F0 m (pc + 3) ls rest)) : W p l e R s m args below meth c H locs cells slots Q (F0 m pc ls (v :: .ref a :: rest)) := by
  subst h2
  exact va_putN C.1 C.2.1 C.2.2.2.2.1 hin ty0 hty hnm C.2.2.2.1 C.2.2.2.2.2.1 w.1 w.2.1 w.2.2 q0 he hc k hk (va_Nw.use rfl (C.2.2.2.2.2.2.2.1.1 _ hl)) (fun _ h9 => by rw [← hs]; exact h9) hfin (hty k hk) hn hfit hlt hd (fun H1 l1 h1 h2 h3 => kk H1 l1 ⟨h1, h2, h3⟩)
/-- arrays of ints -/
theorem ial (C : Cx p s m args meth c own d g A) (w : Wd g A ws s.heap H locs) (q0 : Nat) {a n : Nat} {f : Nat → Int32} (he : ws[q0]? = some (a, aI g n f)) {i : Int32} (hin : vp_in i n) (hd : decode d.2.1 pc = .ok (.iaload, 1))
    (kk : W p l e R s m args below meth c H locs cells slots Q (F0 m (pc + 1) ls (.int (f i.toNatClampNeg) :: rest))) : W p l e R s m args below meth c H locs cells slots Q (F0 m pc ls (.int i :: .ref a :: rest)) :=
  va_iald C.1 C.2.1 C.2.2.2.2.2.1 w.1 q0 0 he rfl hin hd kk
theorem ias (C : Cx p s m args meth c own d g A) (w : Wd g A ws s.heap H locs) (q0 : Nat) {a n : Nat} {f : Nat → Int32} (he : ws[q0]? = some (a, aI g n f)) {i x : Int32} (hin : vp_in i n) {ws2 : va_W} (h2 : ws.set q0 (a, aI g n (upd f i.toNatClampNeg x)) = ws2) (hd : decode d.2.1 pc = .ok (.iastore, 1))
    (kk : ∀ (H1 : Heap) (locs1 : List Loc), Wd g A ws2 s.heap H1 locs1 → W p l e R s m args below meth c H1 locs1 cells slots Q (F0 m (pc + 1) ls rest)) : W p l e R s m args below meth c H locs cells slots Q (F0 m pc ls (.int x :: .int i :: .ref a :: rest)) := by
  subst h2
  exact va_iast C.1 C.2.1 C.2.2.2.2.2.1 w.1 w.2.1 w.2.2 q0 0 he rfl hin hd (fun H1 l1 h1 h2 h3 => kk H1 l1 ⟨h1, h2, h3⟩)
/-- calls: what is asked of the callee's start -/
theorem pr_call {as : List Value} {wc : va_W} (C : Cx p s m args meth c own d g A) (w : Wd g A ws s.heap H locs) (is : List Nat) (hn : va_nd is = true) (hC : is.map (fun i => ws[i]?) = wc.map some) :
    FrameBlind (va_Pc as (Pr g wc H.size)) ∧ (∀ U : State, U.heap = H → s.WarmedH U.vm → va_Pc as (Pr g wc H.size) as.toArray U) ∧ ∀ q, va_A wc H.size q → A q := by
  have hF := va_free (wc := wc) w.2.1 w.2.2 C.2.2.2.2.2.2.1 is hC
  have wS := w.sub is hn hC
  refine ⟨fun a U g9 mk h => ?_, fun U hU hW => ?_, hF⟩
  · obtain ⟨h0, h1, h2, h3, h4, h5⟩ := h
    exact ⟨h0, h1, h2, va_K.moved (u := U) (U := U.calling g9 mk a) (Vm.Alike.refl U.vm) h3, h4, h5.blind⟩
  · exact ⟨rfl, by rw [hU], by rw [hU]; exact wS.1, va_K.moved hW.alike C.2.2.2.2.2.1, wS.2.1.weaken (fun _ _ _ _ => trivial), C.2.2.2.2.2.2.2.1.call w.2.2 hU hW hF⟩
/-- calls: going on -/
theorem go_i {a : Array Value} {st0 : List Value} {wc wr : va_W} {wc' wn : (Nat → Nat) → va_W} {mc ms : Nat} {r : Int32} (w : Wd g A ws s.heap H locs) (hF : ∀ q, va_A wc H.size q → A q) (is isR pm : List Nat) (hC : is.map (fun i => ws[i]?) = wc.map some) (hR : isR.map (fun i => ws[i]?) = wr.map some) (hnR : va_nd isR = true) (hdis : ∀ i ∈ isR, i ∉ is) (hnp : va_nd pm = true) (hpm : ∀ u, pm.map (fun i => (wr ++ wc' u)[i]?) = (wn u).map some)
    (hrun : va_Run p l e R s m args below meth c H locs cells slots mc ms (F0 m pc ls st0) rest (va_Qi (fun (r' : Int32) (_ : Nat → Nat) => r' = r) (fun u t => Po g (va_A wc H.size) (wc' u) t) (va_A wc H.size) a) (va_A wc H.size))
    (kk : ∀ (u : Nat → Nat) (H1 : Heap) (locs1 : List Loc), Wd g A (wn u) s.heap H1 locs1 → W p l e R s m args below meth c H1 locs1 (cells + mc) (slots + ms) Q (F0 m (pc + 3) ls (.int r :: rest))) : W p l e R s m args below meth c H locs cells slots Q (F0 m pc ls st0) := by
  refine va_calli hrun w.2.2 (fun q _ h => hF q h) hF (fun r' u t H1 locs1 ht hvm hw hB hz1 hk1 hS => ?_)
  obtain ⟨hP1, hK1, hD1⟩ := hB
  rw [ht] at hP1
  obtain ⟨hP, hD⟩ := va_join (wr := wr) (w1 := wc' u) w.1 w.2.1 is isR hC hR hnR hdis hk1 hF hP1 hD1
  have hw2 : r' = r := hw
  subst hw2
  exact kk u H1 locs1 (Wd.sub ⟨hP, hD, hS⟩ pm hnp (hpm u))
theorem go_v {a : Array Value} {st0 : List Value} {wc wr : va_W} {wc' wn : (Nat → Nat) → va_W} {mc ms : Nat} (w : Wd g A ws s.heap H locs) (hF : ∀ q, va_A wc H.size q → A q) (is isR pm : List Nat) (hC : is.map (fun i => ws[i]?) = wc.map some) (hR : isR.map (fun i => ws[i]?) = wr.map some) (hnR : va_nd isR = true) (hdis : ∀ i ∈ isR, i ∉ is) (hnp : va_nd pm = true) (hpm : ∀ u, pm.map (fun i => (wr ++ wc' u)[i]?) = (wn u).map some)
    (hrun : va_Run p l e R s m args below meth c H locs cells slots mc ms (F0 m pc ls st0) rest (va_Qv (fun (_ : Nat → Nat) => True) (fun u t => Po g (va_A wc H.size) (wc' u) t) (va_A wc H.size) a) (va_A wc H.size))
    (kk : ∀ (u : Nat → Nat) (H1 : Heap) (locs1 : List Loc), Wd g A (wn u) s.heap H1 locs1 → W p l e R s m args below meth c H1 locs1 (cells + mc) (slots + ms) Q (F0 m (pc + 3) ls rest)) : W p l e R s m args below meth c H locs cells slots Q (F0 m pc ls st0) := by
  refine va_callv hrun w.2.2 (fun q _ h => hF q h) hF (fun u t H1 locs1 ht hvm hw hB hz1 hk1 hS => ?_)
  obtain ⟨hP1, hK1, hD1⟩ := hB
  rw [ht] at hP1
  obtain ⟨hP, hD⟩ := va_join (wr := wr) (w1 := wc' u) w.1 w.2.1 is isR hC hR hnR hdis hk1 hF hP1 hD1
  exact kk u H1 locs1 (Wd.sub ⟨hP, hD, hS⟩ pm hnp (hpm u))
end Ro
/-- the words of a call -/
def LD (d : MD) (n : Nat) : Prop := Cond.initialized d.1.cls ∈ TS ∧ Cond.code d.1 d.2.1 d.2.2.1 d.2.2.2 ∈ TS ∧ d.1.cls ≠ "java/lang/invoke/MethodHandle" ∧ d.1.cls ≠ "java/lang/invoke/VarHandle" ∧ (parseMethodDescriptor d.1.desc).map (fun x => x.parameters.length) = some n
def LV (own : String) (ix : Nat) (d : MD) (n : Nat) : Prop := Cond.methodLink own ix d.1 ∈ TS ∧ Cond.instanceMethod d.1 ∈ TS ∧ Cond.selects d.1.cls d.1 d.1 ∈ TS ∧ LD d n
def LN (own : String) (ix : Nat) (d : MD) (n : Nat) : Prop := (∃ host, Cond.methodLinkNest own ix d.1 host ∈ NWs) ∧ Cond.instanceMethod d.1 ∈ TS ∧ Cond.selects d.1.cls d.1 d.1 ∈ TS ∧ LD d n
def LS (own : String) (ix : Nat) (d : MD) (n : Nat) : Prop := Cond.methodLink own ix d.1 ∈ TS ∧ Cond.static d.1 ∈ TS ∧ d.1.cls = own ∧ LD d n
def LI (own : String) (ix : Nat) (d : MD) (n : Nat) : Prop := Cond.methodLink own ix d.1 ∈ TS ∧ Cond.instanceMethod d.1 ∈ TS ∧ d.1.name = "<init>" ∧ d.2.2.2 = none ∧ LD d n
def LJ (own : String) (ix : Nat) (d : MD) (n : Nat) : Prop := (∃ host, Cond.methodLinkNest own ix d.1 host ∈ NWs) ∧ Cond.instanceMethod d.1 ∈ TS ∧ d.1.name = "<init>" ∧ d.2.2.2 = none ∧ LD d n
section Ca
variable {p : Program} {l : Launch} {e : Env} {R : Room} {s : State} {m : MethodId} {args : Array Value} {below : List Frame} {meth : Method} {c : Code} {H : Heap} {locs : List Loc} {cells slots : Nat} {Q : State → Prop} {own : String} {d d' : MD} {g : GT} {A : Nat → Prop} {ws : va_W} {pc : Nat} {ls : Array Slot} {rest : List Value} {rm' : Room} {wc wr : va_W} {wc' wn : (Nat → Nat) → va_W} {b ix n : Nat} {As st0 : List Value} {r : Int32}
theorem rn_V {Pc : Array Value → State → Prop} {Qc : Array Value → State → Outcome → State → Prop} {free : Addr → Prop} (C : Cx p s m args meth c own d g A) (w : Wd g A ws s.heap H locs) (hM : Met l d'.1 (mw d') rm' Pc Qc rm'.cells rm'.slots free) (L : LV own ix d' n) (hR : rm'.frames + 1 ≤ R.frames ∧ 8 + (d'.2.2.1 + 11) + rm'.locals ≤ R.locals) (hP : FrameBlind Pc ∧ (∀ U : State, U.heap = H → s.WarmedH U.vm → Pc (.ref b :: As).toArray U))
    {q0 ci : Nat} {q : vw_C} {fs : List Value} (he : ws[q0]? = some (b, .inr (ci, fs))) (hc : vwCl[ci]? = some q) (hq : q.1 = d'.1.cls) (hn : As.length = n) (hsz : ls.size = d.2.2.1) (hst : st0 = As.reverse ++ .ref b :: rest) (hrs : (rest.map fun v => v.category).sum ≤ 8) (hd : decode d.2.1 pc = .ok (.invokevirtual ix, 3)) (hf : cells + rm'.cells ≤ R.cells ∧ slots + rm'.slots ≤ R.slots) :
    va_Run p l e R s m args below meth c H locs cells slots rm'.cells rm'.slots (F0 m pc ls st0) rest (Qc (.ref b :: As).toArray) free := by
  obtain ⟨h1, h2, h3, h4, h5, h6⟩ := L
  refine va_runV (C := d'.1.cls) ⟨C.1, C.2.1, C.2.2.1, C.2.2.2.1, C.2.2.2.2.1⟩ hM (cwV n C.2.2.2.2.1 (ts_app (a := [.methodLink own ix d'.1, .instanceMethod d'.1, .selects d'.1.cls d'.1 d'.1, .initialized d'.1.cls]) ?_ h5) rfl rfl rfl ⟨rfl, h6⟩ hR) ⟨hP.1, ?_, hP.2⟩ rfl hn hsz hst (lv_room hrs) hd hf
  · intro v hv
    simp only [List.mem_cons, List.not_mem_nil, or_false] at hv
    rcases hv with rfl | rfl | rfl | rfl
    · exact h1
    · exact h2
    · exact h3
    · exact h4
  · obtain ⟨cell, e1, e2, e3⟩ := va_recv C.2.2.2.2.2.1 w.1 hc he
    exact ⟨cell, e1, e2, by rw [← hq]; exact e3⟩
theorem rn_N {Pc : Array Value → State → Prop} {Qc : Array Value → State → Outcome → State → Prop} {free : Addr → Prop} (C : Cx p s m args meth c own d g A) (w : Wd g A ws s.heap H locs) (hM : Met l d'.1 (mw d') rm' Pc Qc rm'.cells rm'.slots free) (L : LN own ix d' n) (hR : rm'.frames + 1 ≤ R.frames ∧ 8 + (d'.2.2.1 + 11) + rm'.locals ≤ R.locals) (hP : FrameBlind Pc ∧ (∀ U : State, U.heap = H → s.WarmedH U.vm → Pc (.ref b :: As).toArray U))
    {q0 ci : Nat} {q : vw_C} {fs : List Value} (he : ws[q0]? = some (b, .inr (ci, fs))) (hc : vwCl[ci]? = some q) (hq : q.1 = d'.1.cls) (hn : As.length = n) (hsz : ls.size = d.2.2.1) (hst : st0 = As.reverse ++ .ref b :: rest) (hrs : (rest.map fun v => v.category).sum ≤ 8) (hd : decode d.2.1 pc = .ok (.invokevirtual ix, 3)) (hf : cells + rm'.cells ≤ R.cells ∧ slots + rm'.slots ≤ R.slots) :
    va_Run p l e R s m args below meth c H locs cells slots rm'.cells rm'.slots (F0 m pc ls st0) rest (Qc (.ref b :: As).toArray) free := by
  obtain ⟨⟨host, h1⟩, h2, h3, h4, h5, h6⟩ := L
  refine va_runVN (C := d'.1.cls) (host := host) ⟨C.1, C.2.1, C.2.2.1, C.2.2.2.1, C.2.2.2.2.1⟩ hM ⟨va_cnB n C.2.2.2.2.1 (ts_wm h5) rfl rfl rfl (C.2.2.2.2.2.2.2.1.1 _ h1) (C.2.2.2.2.1 _ h4) h6 hR, C.2.2.2.2.1 _ h2, C.2.2.2.2.1 _ h3⟩ ⟨hP.1, ?_, hP.2⟩ rfl hn hsz hst (lv_room hrs) hd hf
  obtain ⟨cell, e1, e2, e3⟩ := va_recv C.2.2.2.2.2.1 w.1 hc he
  exact ⟨cell, e1, e2, by rw [← hq]; exact e3⟩
theorem rn_S {Pc : Array Value → State → Prop} {Qc : Array Value → State → Outcome → State → Prop} {free : Addr → Prop} (C : Cx p s m args meth c own d g A) (hM : Met l d'.1 (mw d') rm' Pc Qc rm'.cells rm'.slots free) (L : LS own ix d' n) (hR : rm'.frames + 1 ≤ R.frames ∧ 8 + (d'.2.2.1 + 11) + rm'.locals ≤ R.locals) (hP : FrameBlind Pc ∧ (∀ U : State, U.heap = H → s.WarmedH U.vm → Pc As.toArray U))
    (hn : As.length = n) (hsz : ls.size = d.2.2.1) (hst : st0 = As.reverse ++ rest) (hrs : (rest.map fun v => v.category).sum ≤ 8) (hd : decode d.2.1 pc = .ok (.invokestatic ix, 3)) (hf : cells + rm'.cells ≤ R.cells ∧ slots + rm'.slots ≤ R.slots) :
    va_Run p l e R s m args below meth c H locs cells slots rm'.cells rm'.slots (F0 m pc ls st0) rest (Qc As.toArray) free := by
  obtain ⟨h1, h2, h3, h4, h5, h6⟩ := L
  refine va_runS ⟨C.1, C.2.1, C.2.2.1, C.2.2.2.1, C.2.2.2.2.1⟩ hM (cwS n C.2.2.2.2.1 (ts_app (a := [.methodLink own ix d'.1, .static d'.1, .initialized own]) ?_ h5) rfl rfl rfl ⟨h3, h6⟩ hR) ⟨hP.1, hP.2⟩ rfl hn hsz hst (lv_room hrs) hd hf
  intro v hv
  simp only [List.mem_cons, List.not_mem_nil, or_false] at hv
  rcases hv with rfl | rfl | rfl
  · exact h1
  · exact h2
  · rw [← h3]; exact h4
theorem rn_I {Pc : Array Value → State → Prop} {Qc : Array Value → State → Outcome → State → Prop} {free : Addr → Prop} (C : Cx p s m args meth c own d g A) (hM : Met l d'.1 (mw d') rm' Pc Qc rm'.cells rm'.slots free) (L : LI own ix d' n) (hR : rm'.frames + 1 ≤ R.frames ∧ 8 + (d'.2.2.1 + 11) + rm'.locals ≤ R.locals) (hP : FrameBlind Pc ∧ (∀ U : State, U.heap = H → s.WarmedH U.vm → Pc (.ref b :: As).toArray U))
    (hn : As.length = n) (hsz : ls.size = d.2.2.1) (hst : st0 = As.reverse ++ .ref b :: rest) (hrs : (rest.map fun v => v.category).sum ≤ 8) (hd : decode d.2.1 pc = .ok (.invokespecial ix, 3)) (hf : cells + rm'.cells ≤ R.cells ∧ slots + rm'.slots ≤ R.slots) :
    va_Run p l e R s m args below meth c H locs cells slots rm'.cells rm'.slots (F0 m pc ls st0) rest (Qc (.ref b :: As).toArray) free := by
  obtain ⟨h1, h2, h3, h7, h4, h5, h6⟩ := L
  obtain ⟨y, by9, n9, r9⟩ := d'
  dsimp only at *
  subst h7
  exact va_runI ⟨C.1, C.2.1, C.2.2.1, C.2.2.2.1, C.2.2.2.2.1⟩ hM (cwI n C.2.2.2.2.1 (ts_wm h5) rfl rfl rfl (C.2.2.2.2.1 _ h4) (C.2.2.2.2.1 _ h1) (C.2.2.2.2.1 _ h2) h3 h6 hR) ⟨hP.1, hP.2⟩ rfl hn hsz hst (lv_room hrs) hd hf
theorem rn_J {Pc : Array Value → State → Prop} {Qc : Array Value → State → Outcome → State → Prop} {free : Addr → Prop} (C : Cx p s m args meth c own d g A) (hM : Met l d'.1 (mw d') rm' Pc Qc rm'.cells rm'.slots free) (L : LJ own ix d' n) (hR : rm'.frames + 1 ≤ R.frames ∧ 8 + (d'.2.2.1 + 11) + rm'.locals ≤ R.locals) (hP : FrameBlind Pc ∧ (∀ U : State, U.heap = H → s.WarmedH U.vm → Pc (.ref b :: As).toArray U))
    (hn : As.length = n) (hsz : ls.size = d.2.2.1) (hst : st0 = As.reverse ++ .ref b :: rest) (hrs : (rest.map fun v => v.category).sum ≤ 8) (hd : decode d.2.1 pc = .ok (.invokespecial ix, 3)) (hf : cells + rm'.cells ≤ R.cells ∧ slots + rm'.slots ≤ R.slots) :
    va_Run p l e R s m args below meth c H locs cells slots rm'.cells rm'.slots (F0 m pc ls st0) rest (Qc (.ref b :: As).toArray) free := by
  obtain ⟨⟨host, h1⟩, h2, h3, h7, h4, h5, h6⟩ := L
  obtain ⟨y, by9, n9, r9⟩ := d'
  dsimp only at *
  subst h7
  exact va_runIN (host := host) ⟨C.1, C.2.1, C.2.2.1, C.2.2.2.1, C.2.2.2.2.1⟩ hM ⟨va_cnB n C.2.2.2.2.1 (ts_wm h5) rfl rfl rfl (C.2.2.2.2.2.2.2.1.1 _ h1) (C.2.2.2.2.1 _ h4) h6 hR, h3, C.2.2.2.2.1 _ h2⟩ ⟨hP.1, hP.2⟩ rfl hn hsz hst (lv_room hrs) hd hf
/-- the places of a call: callee's cells, the rest, the new order -/
def Pl (ws wc wr : va_W) (wc' wn : (Nat → Nat) → va_W) (is isR pm : List Nat) : Prop := va_nd is = true ∧ is.map (fun i => ws[i]?) = wc.map some ∧ isR.map (fun i => ws[i]?) = wr.map some ∧ va_nd isR = true ∧ (∀ i ∈ isR, i ∉ is) ∧ va_nd pm = true ∧ ∀ u, pm.map (fun i => (wr ++ wc' u)[i]?) = (wn u).map some
theorem ca_iV (C : Cx p s m args meth c own d g A) (w : Wd g A ws s.heap H locs) (is isR pm : List Nat) (P : Pl ws wc wr wc' wn is isR pm) (hM : CI l d' rm' g wc wc' H.size (.ref b :: As) r) (L : LV own ix d' n) (hR : rm'.frames + 1 ≤ R.frames ∧ 8 + (d'.2.2.1 + 11) + rm'.locals ≤ R.locals) (q0 ci : Nat) {q : vw_C} {fs : List Value} (he : ws[q0]? = some (b, .inr (ci, fs))) (hc : vwCl[ci]? = some q) (hq : q.1 = d'.1.cls) (hn : As.length = n) (hsz : ls.size = d.2.2.1) (hst : st0 = As.reverse ++ .ref b :: rest) (hrs : (rest.map fun v => v.category).sum ≤ 8) (hd : decode d.2.1 pc = .ok (.invokevirtual ix, 3)) (hf : cells + rm'.cells ≤ R.cells ∧ slots + rm'.slots ≤ R.slots)
    (kk : ∀ (u : Nat → Nat) (H1 : Heap) (locs1 : List Loc), Wd g A (wn u) s.heap H1 locs1 → W p l e R s m args below meth c H1 locs1 (cells + rm'.cells) (slots + rm'.slots) Q (F0 m (pc + 3) ls (.int r :: rest))) : W p l e R s m args below meth c H locs cells slots Q (F0 m pc ls st0) := by
  obtain ⟨p1, p2, p3, p4, p5, p6, p7⟩ := P
  obtain ⟨a1, a2, hF⟩ := pr_call (as := .ref b :: As) C w is p1 p2
  exact go_i w hF is isR pm p2 p3 p4 p5 p6 p7 (rn_V C w hM L hR ⟨a1, a2⟩ he hc hq hn hsz hst hrs hd hf) kk
theorem ca_vV (C : Cx p s m args meth c own d g A) (w : Wd g A ws s.heap H locs) (is isR pm : List Nat) (P : Pl ws wc wr wc' wn is isR pm) (hM : CV l d' rm' g wc wc' H.size (.ref b :: As)) (L : LV own ix d' n) (hR : rm'.frames + 1 ≤ R.frames ∧ 8 + (d'.2.2.1 + 11) + rm'.locals ≤ R.locals) (q0 ci : Nat) {q : vw_C} {fs : List Value} (he : ws[q0]? = some (b, .inr (ci, fs))) (hc : vwCl[ci]? = some q) (hq : q.1 = d'.1.cls) (hn : As.length = n) (hsz : ls.size = d.2.2.1) (hst : st0 = As.reverse ++ .ref b :: rest) (hrs : (rest.map fun v => v.category).sum ≤ 8) (hd : decode d.2.1 pc = .ok (.invokevirtual ix, 3)) (hf : cells + rm'.cells ≤ R.cells ∧ slots + rm'.slots ≤ R.slots)
    (kk : ∀ (u : Nat → Nat) (H1 : Heap) (locs1 : List Loc), Wd g A (wn u) s.heap H1 locs1 → W p l e R s m args below meth c H1 locs1 (cells + rm'.cells) (slots + rm'.slots) Q (F0 m (pc + 3) ls rest)) : W p l e R s m args below meth c H locs cells slots Q (F0 m pc ls st0) := by
  obtain ⟨p1, p2, p3, p4, p5, p6, p7⟩ := P
  obtain ⟨a1, a2, hF⟩ := pr_call (as := .ref b :: As) C w is p1 p2
  exact go_v w hF is isR pm p2 p3 p4 p5 p6 p7 (rn_V C w hM L hR ⟨a1, a2⟩ he hc hq hn hsz hst hrs hd hf) kk
theorem ca_iN (C : Cx p s m args meth c own d g A) (w : Wd g A ws s.heap H locs) (is isR pm : List Nat) (P : Pl ws wc wr wc' wn is isR pm) (hM : CI l d' rm' g wc wc' H.size (.ref b :: As) r) (L : LN own ix d' n) (hR : rm'.frames + 1 ≤ R.frames ∧ 8 + (d'.2.2.1 + 11) + rm'.locals ≤ R.locals) (q0 ci : Nat) {q : vw_C} {fs : List Value} (he : ws[q0]? = some (b, .inr (ci, fs))) (hc : vwCl[ci]? = some q) (hq : q.1 = d'.1.cls) (hn : As.length = n) (hsz : ls.size = d.2.2.1) (hst : st0 = As.reverse ++ .ref b :: rest) (hrs : (rest.map fun v => v.category).sum ≤ 8) (hd : decode d.2.1 pc = .ok (.invokevirtual ix, 3)) (hf : cells + rm'.cells ≤ R.cells ∧ slots + rm'.slots ≤ R.slots)
    (kk : ∀ (u : Nat → Nat) (H1 : Heap) (locs1 : List Loc), Wd g A (wn u) s.heap H1 locs1 → W p l e R s m args below meth c H1 locs1 (cells + rm'.cells) (slots + rm'.slots) Q (F0 m (pc + 3) ls (.int r :: rest))) : W p l e R s m args below meth c H locs cells slots Q (F0 m pc ls st0) := by
  obtain ⟨p1, p2, p3, p4, p5, p6, p7⟩ := P
  obtain ⟨a1, a2, hF⟩ := pr_call (as := .ref b :: As) C w is p1 p2
  exact go_i w hF is isR pm p2 p3 p4 p5 p6 p7 (rn_N C w hM L hR ⟨a1, a2⟩ he hc hq hn hsz hst hrs hd hf) kk
theorem ca_vN (C : Cx p s m args meth c own d g A) (w : Wd g A ws s.heap H locs) (is isR pm : List Nat) (P : Pl ws wc wr wc' wn is isR pm) (hM : CV l d' rm' g wc wc' H.size (.ref b :: As)) (L : LN own ix d' n) (hR : rm'.frames + 1 ≤ R.frames ∧ 8 + (d'.2.2.1 + 11) + rm'.locals ≤ R.locals) (q0 ci : Nat) {q : vw_C} {fs : List Value} (he : ws[q0]? = some (b, .inr (ci, fs))) (hc : vwCl[ci]? = some q) (hq : q.1 = d'.1.cls) (hn : As.length = n) (hsz : ls.size = d.2.2.1) (hst : st0 = As.reverse ++ .ref b :: rest) (hrs : (rest.map fun v => v.category).sum ≤ 8) (hd : decode d.2.1 pc = .ok (.invokevirtual ix, 3)) (hf : cells + rm'.cells ≤ R.cells ∧ slots + rm'.slots ≤ R.slots)
    (kk : ∀ (u : Nat → Nat) (H1 : Heap) (locs1 : List Loc), Wd g A (wn u) s.heap H1 locs1 → W p l e R s m args below meth c H1 locs1 (cells + rm'.cells) (slots + rm'.slots) Q (F0 m (pc + 3) ls rest)) : W p l e R s m args below meth c H locs cells slots Q (F0 m pc ls st0) := by
  obtain ⟨p1, p2, p3, p4, p5, p6, p7⟩ := P
  obtain ⟨a1, a2, hF⟩ := pr_call (as := .ref b :: As) C w is p1 p2
  exact go_v w hF is isR pm p2 p3 p4 p5 p6 p7 (rn_N C w hM L hR ⟨a1, a2⟩ he hc hq hn hsz hst hrs hd hf) kk
theorem ca_iS (C : Cx p s m args meth c own d g A) (w : Wd g A ws s.heap H locs) (is isR pm : List Nat) (P : Pl ws wc wr wc' wn is isR pm) (hM : CI l d' rm' g wc wc' H.size As r) (L : LS own ix d' n) (hR : rm'.frames + 1 ≤ R.frames ∧ 8 + (d'.2.2.1 + 11) + rm'.locals ≤ R.locals) (hn : As.length = n) (hsz : ls.size = d.2.2.1) (hst : st0 = As.reverse ++ rest) (hrs : (rest.map fun v => v.category).sum ≤ 8) (hd : decode d.2.1 pc = .ok (.invokestatic ix, 3)) (hf : cells + rm'.cells ≤ R.cells ∧ slots + rm'.slots ≤ R.slots)
    (kk : ∀ (u : Nat → Nat) (H1 : Heap) (locs1 : List Loc), Wd g A (wn u) s.heap H1 locs1 → W p l e R s m args below meth c H1 locs1 (cells + rm'.cells) (slots + rm'.slots) Q (F0 m (pc + 3) ls (.int r :: rest))) : W p l e R s m args below meth c H locs cells slots Q (F0 m pc ls st0) := by
  obtain ⟨p1, p2, p3, p4, p5, p6, p7⟩ := P
  obtain ⟨a1, a2, hF⟩ := pr_call (as := As) C w is p1 p2
  exact go_i w hF is isR pm p2 p3 p4 p5 p6 p7 (rn_S C hM L hR ⟨a1, a2⟩ hn hsz hst hrs hd hf) kk
theorem ca_vS (C : Cx p s m args meth c own d g A) (w : Wd g A ws s.heap H locs) (is isR pm : List Nat) (P : Pl ws wc wr wc' wn is isR pm) (hM : CV l d' rm' g wc wc' H.size As) (L : LS own ix d' n) (hR : rm'.frames + 1 ≤ R.frames ∧ 8 + (d'.2.2.1 + 11) + rm'.locals ≤ R.locals) (hn : As.length = n) (hsz : ls.size = d.2.2.1) (hst : st0 = As.reverse ++ rest) (hrs : (rest.map fun v => v.category).sum ≤ 8) (hd : decode d.2.1 pc = .ok (.invokestatic ix, 3)) (hf : cells + rm'.cells ≤ R.cells ∧ slots + rm'.slots ≤ R.slots)
    (kk : ∀ (u : Nat → Nat) (H1 : Heap) (locs1 : List Loc), Wd g A (wn u) s.heap H1 locs1 → W p l e R s m args below meth c H1 locs1 (cells + rm'.cells) (slots + rm'.slots) Q (F0 m (pc + 3) ls rest)) : W p l e R s m args below meth c H locs cells slots Q (F0 m pc ls st0) := by
  obtain ⟨p1, p2, p3, p4, p5, p6, p7⟩ := P
  obtain ⟨a1, a2, hF⟩ := pr_call (as := As) C w is p1 p2
  exact go_v w hF is isR pm p2 p3 p4 p5 p6 p7 (rn_S C hM L hR ⟨a1, a2⟩ hn hsz hst hrs hd hf) kk
theorem ca_vI (C : Cx p s m args meth c own d g A) (w : Wd g A ws s.heap H locs) (is isR pm : List Nat) (P : Pl ws wc wr wc' wn is isR pm) (hM : CV l d' rm' g wc wc' H.size (.ref b :: As)) (L : LI own ix d' n) (hR : rm'.frames + 1 ≤ R.frames ∧ 8 + (d'.2.2.1 + 11) + rm'.locals ≤ R.locals) (hn : As.length = n) (hsz : ls.size = d.2.2.1) (hst : st0 = As.reverse ++ .ref b :: rest) (hrs : (rest.map fun v => v.category).sum ≤ 8) (hd : decode d.2.1 pc = .ok (.invokespecial ix, 3)) (hf : cells + rm'.cells ≤ R.cells ∧ slots + rm'.slots ≤ R.slots)
    (kk : ∀ (u : Nat → Nat) (H1 : Heap) (locs1 : List Loc), Wd g A (wn u) s.heap H1 locs1 → W p l e R s m args below meth c H1 locs1 (cells + rm'.cells) (slots + rm'.slots) Q (F0 m (pc + 3) ls rest)) : W p l e R s m args below meth c H locs cells slots Q (F0 m pc ls st0) := by
  obtain ⟨p1, p2, p3, p4, p5, p6, p7⟩ := P
  obtain ⟨a1, a2, hF⟩ := pr_call (as := .ref b :: As) C w is p1 p2
  exact go_v w hF is isR pm p2 p3 p4 p5 p6 p7 (rn_I C hM L hR ⟨a1, a2⟩ hn hsz hst hrs hd hf) kk
theorem ca_vJ (C : Cx p s m args meth c own d g A) (w : Wd g A ws s.heap H locs) (is isR pm : List Nat) (P : Pl ws wc wr wc' wn is isR pm) (hM : CV l d' rm' g wc wc' H.size (.ref b :: As)) (L : LJ own ix d' n) (hR : rm'.frames + 1 ≤ R.frames ∧ 8 + (d'.2.2.1 + 11) + rm'.locals ≤ R.locals) (hn : As.length = n) (hsz : ls.size = d.2.2.1) (hst : st0 = As.reverse ++ .ref b :: rest) (hrs : (rest.map fun v => v.category).sum ≤ 8) (hd : decode d.2.1 pc = .ok (.invokespecial ix, 3)) (hf : cells + rm'.cells ≤ R.cells ∧ slots + rm'.slots ≤ R.slots)
    (kk : ∀ (u : Nat → Nat) (H1 : Heap) (locs1 : List Loc), Wd g A (wn u) s.heap H1 locs1 → W p l e R s m args below meth c H1 locs1 (cells + rm'.cells) (slots + rm'.slots) Q (F0 m (pc + 3) ls rest)) : W p l e R s m args below meth c H locs cells slots Q (F0 m pc ls st0) := by
  obtain ⟨p1, p2, p3, p4, p5, p6, p7⟩ := P
  obtain ⟨a1, a2, hF⟩ := pr_call (as := .ref b :: As) C w is p1 p2
  exact go_v w hF is isR pm p2 p3 p4 p5 p6 p7 (rn_J C hM L hR ⟨a1, a2⟩ hn hsz hst hrs hd hf) kk
end Ca
/-! the functional side: reads and stores within bounds, calls, loops with fuel -/
def gd {α : Type} (b : Prop) [Decidable b] (x : Option α) : Option α := if b then x else none
theorem gd_some {α : Type} {b : Prop} [Decidable b] {x : Option α} {r : α} (h : gd b x = some r) : b ∧ x = some r := by
  unfold gd at h
  split at h
  · exact ⟨by assumption, h⟩
  · cases h
def rd {α β : Type} (f : Nat → α) (n : Nat) (i : Int32) (k : α → Option β) : Option β := if ¬ (i < 0 ∨ n ≤ i.toNatClampNeg) then k (f i.toNatClampNeg) else none
theorem rd_some {α β : Type} {f : Nat → α} {n : Nat} {i : Int32} {k : α → Option β} {r : β} (h : rd f n i k = some r) : vp_in i n ∧ k (f i.toNatClampNeg) = some r := by
  unfold rd at h
  split at h
  · exact ⟨by assumption, h⟩
  · cases h
def wr {β : Type} (f : Nat → Int32) (n : Nat) (i x : Int32) (k : (Nat → Int32) → Option β) : Option β := if ¬ (i < 0 ∨ n ≤ i.toNatClampNeg) then k (upd f i.toNatClampNeg x) else none
theorem wr_some {β : Type} {f : Nat → Int32} {n : Nat} {i x : Int32} {k : (Nat → Int32) → Option β} {r : β} (h : wr f n i x k = some r) : vp_in i n ∧ k (upd f i.toNatClampNeg x) = some r := by
  unfold wr at h
  split at h
  · exact ⟨by assumption, h⟩
  · cases h
theorem vp_inD {i : Int32} {n : Nat} (h : vp_in i n) : ¬ (i < 0 ∨ n ≤ i.toNatClampNeg) := h
def bd1 {α β : Type} (x : Option α) (k : α → Option β) : Option β := x.bind k
theorem bd1_some {α β : Type} {x : Option α} {k : α → Option β} {r : β} (h : bd1 x k = some r) : ∃ a, x = some a ∧ k a = some r := Option.bind_eq_some_iff.mp h
def lp {σ ρ : Type} (body : (σ → Option ρ) → σ → Option ρ) : Nat → σ → Option ρ
  | 0, _ => none
  | n + 1, z => body (lp body n) z
theorem lp_W {σ ρ : Type} {body : (σ → Option ρ) → σ → Option ρ} {r : ρ} (P : σ → Prop) (step : ∀ (k : σ → Option ρ) (z : σ), (∀ z', k z' = some r → P z') → body k z = some r → P z) : ∀ (n : Nat) (z : σ), lp body n z = some r → P z := by
  intro n
  induction n with
  | zero => intro z h; cases h
  | succ n ih => intro z h; exact step (lp body n) z ih h
