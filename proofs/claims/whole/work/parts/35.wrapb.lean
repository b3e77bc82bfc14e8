/-! the law's own static methods: a call of the class in a try, what is thrown becomes a number -/
abbrev mwW (d : MD) (hh : List (Nat × Nat × Nat × Nat)) : List Cond := Cond.codeWith d.1 d.2.1 d.2.2.1 d.2.2.2 hh :: TS
def KI (l : Launch) (d : MD) (hh : List (Nat × Nat × Nat × Nat)) (rm : Room) (g : GT) (ws : va_W) (ws' : (Nat → Nat) → va_W) (sz : Nat) (as : List Value) (r : Int32) : Prop := Met l d.1 (mwW d hh) rm (va_Pc as (Pr g ws sz)) (va_Qi (fun (r' : Int32) (_ : Nat → Nat) => r' = r) (fun u t => Po g (va_A ws sz) (ws' u) t) (va_A ws sz)) rm.cells rm.slots (va_A ws sz)
section EnK
variable {l : Launch} {g : GT} {d : MD} {rm : Room} {ws : va_W} {ws' : (Nat → Nat) → va_W} {sz : Nat} {as : List Value} {r : Int32} {hh : List (Nat × Nat × Nat × Nat)}
theorem ek_i (hy : plainName d.1.cls = true) (hlen : (lg_sl as).length ≤ d.2.2.1)
    (body : ∀ (p : Program) (e : Env) (s : State) (m : MethodId) (args : Array Value) (below : List Frame) (meth : Method) (c : Code) (A : Nat → Prop) (ls : Array Slot), c.exceptionTable.toList = tableOf hh → Cx p s m args meth c d.1.cls d g A → Wd g A ws s.heap s.heap [] → lv_has ls d.2.2.1 (lv_args 0 as) →
      W p l e rm s m args below meth c s.heap [] 0 0 (QI below args s g A ws' r rm.cells rm.slots) (F0 m 0 ls [])) : KI l d hh rm g ws ws' sz as r := by
  refine va_MetW (cc := d.2.1) (maxL := d.2.2.1) (ret := d.2.2.2) (hh := hh) hy rfl ?_
  intro p e s m args below meth c s₁ B hml hv
  obtain ⟨rfl, hsz, hP, hK, hD, hM⟩ := hv
  subst hsz
  have ht := vx_table (x := d.1) B (atoms_spec (ws := mwW d hh) B.pre _ List.mem_cons_self)
  rw [lg_entry_eq]
  exact body p e s m _ below meth c _ _ ht ⟨B.exec, B.bytes, hml, findClass_of_methodNamed B.named, fun w hw => atoms_spec (ws := mwW d hh) B.pre w (List.mem_cons_of_mem _ hw), hK, fun q h => Or.inr h, hM, B.returns, B.notSynchronized⟩ ⟨hP, hD.self, va_S.rf⟩ (lv_entry as hlen)
end EnK
theorem pm_last {ws : va_W} {ws' : (Nat → Nat) → va_W} {o : Nat × va_E} : PM (ws ++ [o]) ws ws' (fun u => ws' u ++ [o]) := ⟨[o], List.perm_append_comm, fun _ => List.perm_append_comm⟩
/-- the number of what was thrown: its place among the handlers -/
def kc (hs : List Nat) (x : Nat) : Int32 := if x = 0 then 0 else nI (hs.idxOf x + 1)
section RoK
variable {p : Program} {l : Launch} {e : Env} {R : Room} {s : State} {m : MethodId} {args : Array Value} {below : List Frame} {meth : Method} {c : Code} {H : Heap} {locs : List Loc} {cells slots : Nat} {Q : State → Prop} {own : String} {d : MD} {g : GT} {A : Nat → Prop} {ws : va_W} {pc : Nat} {ls : Array Slot} {rest : List Value}
theorem las_last {a : Nat} {f : Nat → Int64} {x : Int64} (C : Cx p s m args meth c own d g A) (w : Wd g A (ws ++ [(a, aJ g 1 f)]) s.heap H locs) (hd : decode d.2.1 pc = .ok (.lastore, 1))
    (kk : ∀ (H1 : Heap) (locs1 : List Loc), Wd g A (ws ++ [(a, aJ g 1 (vp_updL f 0 x))]) s.heap H1 locs1 → W p l e R s m args below meth c H1 locs1 cells slots Q (F0 m (pc + 1) ls rest)) : W p l e R s m args below meth c H locs cells slots Q (F0 m pc ls (.long x :: .int 0 :: .ref a :: rest)) := by
  refine va_last C.1 C.2.1 C.2.2.2.2.2.1 w.1 w.2.1 w.2.2 ws.length 4 (n := 1) (f := f) (by simp) rfl (show ¬ ((0 : Int32) < 0 ∨ 1 ≤ (0 : Int32).toNatClampNeg) by decide) hd (fun H1 l1 h1 h2 h3 => kk H1 l1 ?_)
  have e : (ws ++ [(a, aJ g 1 f)]).set ws.length (a, aJ g 1 (vp_updL f (0 : Int32).toNatClampNeg x)) = ws ++ [(a, aJ g 1 (vp_updL f 0 x))] := by
    rw [List.set_append_right _ _ (Nat.le_refl _)]
    simp
  rw [e] at h1 h2
  exact ⟨h1, h2, h3⟩
theorem lal_last {a : Nat} {f : Nat → Int64} (C : Cx p s m args meth c own d g A) {q0 : Nat} {ws : va_W} (w : Wd g A ws s.heap H locs) (he : ws[q0]? = some (a, aJ g 1 f)) (hd : decode d.2.1 pc = .ok (.laload, 1))
    (kk : W p l e R s m args below meth c H locs cells slots Q (F0 m (pc + 1) ls (.long (f 0) :: rest))) : W p l e R s m args below meth c H locs cells slots Q (F0 m pc ls (.int 0 :: .ref a :: rest)) :=
  va_lald C.1 C.2.1 C.2.2.2.2.2.1 w.1 q0 4 he rfl (show ¬ ((0 : Int32) < 0 ∨ 1 ≤ (0 : Int32).toNatClampNeg) by decide) hd kk
end RoK
