theorem dX0_addPassage_0 : decode cX0_addPassage 0 = .ok (.aload_n 0, 1) := by decide +kernel
theorem dX0_addPassage_1 : decode cX0_addPassage 1 = .ok (.getfield 43, 3) := by decide +kernel
theorem dX0_addPassage_4 : decode cX0_addPassage 4 = .ok (.iload_n 1, 1) := by decide +kernel
theorem dX0_addPassage_5 : decode cX0_addPassage 5 = .ok (.iaload, 1) := by decide +kernel
theorem dX0_addPassage_6 : decode cX0_addPassage 6 = .ok (.iconst (-1), 1) := by decide +kernel
theorem dX0_addPassage_7 : decode cX0_addPassage 7 = .ok (.if_icmp .ne 57, 3) := by decide +kernel
theorem dX0_addPassage_10 : decode cX0_addPassage 10 = .ok (.aload_n 0, 1) := by decide +kernel
theorem dX0_addPassage_11 : decode cX0_addPassage 11 = .ok (.getfield 9, 3) := by decide +kernel
theorem dX0_addPassage_14 : decode cX0_addPassage 14 = .ok (.bipush 80, 2) := by decide +kernel
theorem dX0_addPassage_16 : decode cX0_addPassage 16 = .ok (.if_icmp .ge 48, 3) := by decide +kernel
theorem dX0_addPassage_19 : decode cX0_addPassage 19 = .ok (.aload_n 0, 1) := by decide +kernel
theorem dX0_addPassage_20 : decode cX0_addPassage 20 = .ok (.getfield 22, 3) := by decide +kernel
theorem dX0_addPassage_23 : decode cX0_addPassage 23 = .ok (.aload_n 0, 1) := by decide +kernel
theorem dX0_addPassage_24 : decode cX0_addPassage 24 = .ok (.getfield 9, 3) := by decide +kernel
theorem dX0_addPassage_27 : decode cX0_addPassage 27 = .ok (.aload_n 0, 1) := by decide +kernel
theorem dX0_addPassage_28 : decode cX0_addPassage 28 = .ok (.getfield 15, 3) := by decide +kernel
theorem dX0_addPassage_31 : decode cX0_addPassage 31 = .ok (.iconst 1, 1) := by decide +kernel
theorem dX0_addPassage_32 : decode cX0_addPassage 32 = .ok (.isub, 1) := by decide +kernel
theorem dX0_addPassage_33 : decode cX0_addPassage 33 = .ok (.iastore, 1) := by decide +kernel
theorem dX0_addPassage_34 : decode cX0_addPassage 34 = .ok (.aload_n 0, 1) := by decide +kernel
theorem dX0_addPassage_35 : decode cX0_addPassage 35 = .ok (.getfield 25, 3) := by decide +kernel
theorem dX0_addPassage_38 : decode cX0_addPassage 38 = .ok (.aload_n 0, 1) := by decide +kernel
theorem dX0_addPassage_39 : decode cX0_addPassage 39 = .ok (.getfield 9, 3) := by decide +kernel
theorem dX0_addPassage_42 : decode cX0_addPassage 42 = .ok (.iconst (-1), 1) := by decide +kernel
theorem dX0_addPassage_43 : decode cX0_addPassage 43 = .ok (.iastore, 1) := by decide +kernel
theorem dX0_addPassage_44 : decode cX0_addPassage 44 = .ok (.aload_n 0, 1) := by decide +kernel
theorem dX0_addPassage_45 : decode cX0_addPassage 45 = .ok (.getfield 28, 3) := by decide +kernel
theorem dX0_addPassage_48 : decode cX0_addPassage 48 = .ok (.aload_n 0, 1) := by decide +kernel
theorem dX0_addPassage_49 : decode cX0_addPassage 49 = .ok (.getfield 9, 3) := by decide +kernel
theorem dX0_addPassage_52 : decode cX0_addPassage 52 = .ok (.iconst 0, 1) := by decide +kernel
theorem dX0_addPassage_53 : decode cX0_addPassage 53 = .ok (.iastore, 1) := by decide +kernel
theorem dX0_addPassage_54 : decode cX0_addPassage 54 = .ok (.aload_n 0, 1) := by decide +kernel
theorem dX0_addPassage_55 : decode cX0_addPassage 55 = .ok (.dup, 1) := by decide +kernel
theorem dX0_addPassage_56 : decode cX0_addPassage 56 = .ok (.getfield 9, 3) := by decide +kernel
theorem dX0_addPassage_59 : decode cX0_addPassage 59 = .ok (.iconst 1, 1) := by decide +kernel
theorem dX0_addPassage_60 : decode cX0_addPassage 60 = .ok (.iadd, 1) := by decide +kernel
theorem dX0_addPassage_61 : decode cX0_addPassage 61 = .ok (.putfield 9, 3) := by decide +kernel
theorem dX0_addPassage_64 : decode cX0_addPassage 64 = .ok (.aload_n 0, 1) := by decide +kernel
theorem dX0_addPassage_65 : decode cX0_addPassage 65 = .ok (.getfield 9, 3) := by decide +kernel
theorem dX0_addPassage_68 : decode cX0_addPassage 68 = .ok (.iconst 1, 1) := by decide +kernel
theorem dX0_addPassage_69 : decode cX0_addPassage 69 = .ok (.isub, 1) := by decide +kernel
theorem dX0_addPassage_70 : decode cX0_addPassage 70 = .ok (.istore_n 3, 1) := by decide +kernel
theorem dX0_addPassage_71 : decode cX0_addPassage 71 = .ok (.iload_n 3, 1) := by decide +kernel
theorem dX0_addPassage_72 : decode cX0_addPassage 72 = .ok (.ifCond .lt 36, 3) := by decide +kernel
theorem dX0_addPassage_75 : decode cX0_addPassage 75 = .ok (.aload_n 0, 1) := by decide +kernel
theorem dX0_addPassage_76 : decode cX0_addPassage 76 = .ok (.getfield 40, 3) := by decide +kernel
theorem dX0_addPassage_79 : decode cX0_addPassage 79 = .ok (.iload_n 1, 1) := by decide +kernel
theorem dX0_addPassage_80 : decode cX0_addPassage 80 = .ok (.iload_n 3, 1) := by decide +kernel
theorem dX0_addPassage_81 : decode cX0_addPassage 81 = .ok (.iastore, 1) := by decide +kernel
theorem dX0_addPassage_82 : decode cX0_addPassage 82 = .ok (.aload_n 0, 1) := by decide +kernel
theorem dX0_addPassage_83 : decode cX0_addPassage 83 = .ok (.getfield 28, 3) := by decide +kernel
theorem dX0_addPassage_86 : decode cX0_addPassage 86 = .ok (.iload_n 3, 1) := by decide +kernel
theorem dX0_addPassage_87 : decode cX0_addPassage 87 = .ok (.dup2, 1) := by decide +kernel
theorem dX0_addPassage_88 : decode cX0_addPassage 88 = .ok (.iaload, 1) := by decide +kernel
theorem dX0_addPassage_89 : decode cX0_addPassage 89 = .ok (.iconst 1, 1) := by decide +kernel
theorem dX0_addPassage_90 : decode cX0_addPassage 90 = .ok (.iadd, 1) := by decide +kernel
theorem dX0_addPassage_91 : decode cX0_addPassage 91 = .ok (.iastore, 1) := by decide +kernel
theorem dX0_addPassage_92 : decode cX0_addPassage 92 = .ok (.aload_n 0, 1) := by decide +kernel
theorem dX0_addPassage_93 : decode cX0_addPassage 93 = .ok (.getfield 25, 3) := by decide +kernel
theorem dX0_addPassage_96 : decode cX0_addPassage 96 = .ok (.iload_n 3, 1) := by decide +kernel
theorem dX0_addPassage_97 : decode cX0_addPassage 97 = .ok (.aload_n 0, 1) := by decide +kernel
theorem dX0_addPassage_98 : decode cX0_addPassage 98 = .ok (.getfield 25, 3) := by decide +kernel
theorem dX0_addPassage_101 : decode cX0_addPassage 101 = .ok (.iload_n 3, 1) := by decide +kernel
theorem dX0_addPassage_102 : decode cX0_addPassage 102 = .ok (.iaload, 1) := by decide +kernel
theorem dX0_addPassage_103 : decode cX0_addPassage 103 = .ok (.iload_n 2, 1) := by decide +kernel
theorem dX0_addPassage_104 : decode cX0_addPassage 104 = .ok (.invokestatic 89, 3) := by decide +kernel
theorem dX0_addPassage_107 : decode cX0_addPassage 107 = .ok (.iastore, 1) := by decide +kernel
theorem dX0_addPassage_108 : decode cX0_addPassage 108 = .ok (.return_, 1) := by decide +kernel
abbrev m_X0_addPassage : MD := (yX0_addPassage, cX0_addPassage, 4, none)
theorem q_952 : Cond.methodLink RX0 89 Lib.Math.max.name ∈ TS := ts_t 952 (by decide +kernel) (by decide +kernel)
theorem q_474 : Cond.static Lib.Math.max.name ∈ TS := ts_t 474 (by decide +kernel) (by decide +kernel)
theorem q_475 : Cond.code Lib.Math.max.name Lib.Math.max.code 2 (some .int) ∈ TS := ts_t 475 (by decide +kernel) (by decide +kernel)
theorem inX0s : ∀ w ∈ u_ws RX0 TX0 11, w ∈ TS := by
  show ∀ w ∈ [u_lay RX0 TX0 0, u_lay RX0 TX0 1, u_lay RX0 TX0 2, u_lay RX0 TX0 3, u_lay RX0 TX0 4, u_lay RX0 TX0 5, u_lay RX0 TX0 6, u_lay RX0 TX0 7, u_lay RX0 TX0 8, u_lay RX0 TX0 9, u_lay RX0 TX0 10], w ∈ TS
  exact List.forall_mem_cons.mpr ⟨ts_t 176 (by decide +kernel) (by decide +kernel), List.forall_mem_cons.mpr ⟨ts_t 178 (by decide +kernel) (by decide +kernel), List.forall_mem_cons.mpr ⟨ts_t 180 (by decide +kernel) (by decide +kernel), List.forall_mem_cons.mpr ⟨ts_t 182 (by decide +kernel) (by decide +kernel), List.forall_mem_cons.mpr ⟨ts_t 184 (by decide +kernel) (by decide +kernel), List.forall_mem_cons.mpr ⟨ts_t 186 (by decide +kernel) (by decide +kernel), List.forall_mem_cons.mpr ⟨ts_t 188 (by decide +kernel) (by decide +kernel), List.forall_mem_cons.mpr ⟨ts_t 190 (by decide +kernel) (by decide +kernel), List.forall_mem_cons.mpr ⟨ts_t 192 (by decide +kernel) (by decide +kernel), List.forall_mem_cons.mpr ⟨ts_t 194 (by decide +kernel) (by decide +kernel), List.forall_mem_cons.mpr ⟨ts_t 196 (by decide +kernel) (by decide +kernel), fun _ h => absurd h List.not_mem_nil⟩⟩⟩⟩⟩⟩⟩⟩⟩⟩⟩
theorem g_X0_9 {p : Program} {l : Launch} {e : Env} {R : Room} {s : State} {m : MethodId} {args : Array Value} {below : List Frame} {meth : Method} {c : Code} {H : Heap} {locs : List Loc} {cells slots : Nat} {Q : State → Prop} {d : MD} {g : GT} {A : Nat → Prop} {ws : va_W} {pc : Nat} {ls : Array Slot} {rest : List Value} (C : Cx p s m args meth c RX0 d g A) (w : Wd g A ws s.heap H locs) (q0 : Nat) {a : Nat} {fs : List Value} {v : Value} (he : ws[q0]? = some (a, .inr (0, fs))) (hv : fs[0]? = some v) (hd : decode d.2.1 pc = .ok (.getfield 9, 3)) (kk : W p l e R s m args below meth c H locs cells slots Q (F0 m (pc + 3) ls (v :: rest))) : W p l e R s m args below meth c H locs cells slots Q (F0 m pc ls (.ref a :: rest)) := fg C w inX0s (ref := RX0) rfl 0 (by decide) (ts_t (w := Cond.fieldLink RX0 9 RX0 (TX0 0).2.1 (TX0 0).2.2.1) 163 (by decide +kernel) (by decide +kernel)) rfl q0 he hv hd kk
theorem g_X0_40 {p : Program} {l : Launch} {e : Env} {R : Room} {s : State} {m : MethodId} {args : Array Value} {below : List Frame} {meth : Method} {c : Code} {H : Heap} {locs : List Loc} {cells slots : Nat} {Q : State → Prop} {d : MD} {g : GT} {A : Nat → Prop} {ws : va_W} {pc : Nat} {ls : Array Slot} {rest : List Value} (C : Cx p s m args meth c RX0 d g A) (w : Wd g A ws s.heap H locs) (q0 : Nat) {a : Nat} {fs : List Value} {v : Value} (he : ws[q0]? = some (a, .inr (0, fs))) (hv : fs[9]? = some v) (hd : decode d.2.1 pc = .ok (.getfield 40, 3)) (kk : W p l e R s m args below meth c H locs cells slots Q (F0 m (pc + 3) ls (v :: rest))) : W p l e R s m args below meth c H locs cells slots Q (F0 m pc ls (.ref a :: rest)) := fg C w inX0s (ref := RX0) rfl 9 (by decide) (ts_t (w := Cond.fieldLink RX0 40 RX0 (TX0 9).2.1 (TX0 9).2.2.1) 174 (by decide +kernel) (by decide +kernel)) rfl q0 he hv hd kk
theorem g_X0_28 {p : Program} {l : Launch} {e : Env} {R : Room} {s : State} {m : MethodId} {args : Array Value} {below : List Frame} {meth : Method} {c : Code} {H : Heap} {locs : List Loc} {cells slots : Nat} {Q : State → Prop} {d : MD} {g : GT} {A : Nat → Prop} {ws : va_W} {pc : Nat} {ls : Array Slot} {rest : List Value} (C : Cx p s m args meth c RX0 d g A) (w : Wd g A ws s.heap H locs) (q0 : Nat) {a : Nat} {fs : List Value} {v : Value} (he : ws[q0]? = some (a, .inr (0, fs))) (hv : fs[5]? = some v) (hd : decode d.2.1 pc = .ok (.getfield 28, 3)) (kk : W p l e R s m args below meth c H locs cells slots Q (F0 m (pc + 3) ls (v :: rest))) : W p l e R s m args below meth c H locs cells slots Q (F0 m pc ls (.ref a :: rest)) := fg C w inX0s (ref := RX0) rfl 5 (by decide) (ts_t (w := Cond.fieldLink RX0 28 RX0 (TX0 5).2.1 (TX0 5).2.2.1) 170 (by decide +kernel) (by decide +kernel)) rfl q0 he hv hd kk
theorem g_X0_25 {p : Program} {l : Launch} {e : Env} {R : Room} {s : State} {m : MethodId} {args : Array Value} {below : List Frame} {meth : Method} {c : Code} {H : Heap} {locs : List Loc} {cells slots : Nat} {Q : State → Prop} {d : MD} {g : GT} {A : Nat → Prop} {ws : va_W} {pc : Nat} {ls : Array Slot} {rest : List Value} (C : Cx p s m args meth c RX0 d g A) (w : Wd g A ws s.heap H locs) (q0 : Nat) {a : Nat} {fs : List Value} {v : Value} (he : ws[q0]? = some (a, .inr (0, fs))) (hv : fs[4]? = some v) (hd : decode d.2.1 pc = .ok (.getfield 25, 3)) (kk : W p l e R s m args below meth c H locs cells slots Q (F0 m (pc + 3) ls (v :: rest))) : W p l e R s m args below meth c H locs cells slots Q (F0 m pc ls (.ref a :: rest)) := fg C w inX0s (ref := RX0) rfl 4 (by decide) (ts_t (w := Cond.fieldLink RX0 25 RX0 (TX0 4).2.1 (TX0 4).2.2.1) 169 (by decide +kernel) (by decide +kernel)) rfl q0 he hv hd kk
theorem g_X0_43 {p : Program} {l : Launch} {e : Env} {R : Room} {s : State} {m : MethodId} {args : Array Value} {below : List Frame} {meth : Method} {c : Code} {H : Heap} {locs : List Loc} {cells slots : Nat} {Q : State → Prop} {d : MD} {g : GT} {A : Nat → Prop} {ws : va_W} {pc : Nat} {ls : Array Slot} {rest : List Value} (C : Cx p s m args meth c RX0 d g A) (w : Wd g A ws s.heap H locs) (q0 : Nat) {a : Nat} {fs : List Value} {v : Value} (he : ws[q0]? = some (a, .inr (0, fs))) (hv : fs[10]? = some v) (hd : decode d.2.1 pc = .ok (.getfield 43, 3)) (kk : W p l e R s m args below meth c H locs cells slots Q (F0 m (pc + 3) ls (v :: rest))) : W p l e R s m args below meth c H locs cells slots Q (F0 m pc ls (.ref a :: rest)) := fg C w inX0s (ref := RX0) rfl 10 (by decide) (ts_t (w := Cond.fieldLink RX0 43 RX0 (TX0 10).2.1 (TX0 10).2.2.1) 175 (by decide +kernel) (by decide +kernel)) rfl q0 he hv hd kk
theorem g_X0_22 {p : Program} {l : Launch} {e : Env} {R : Room} {s : State} {m : MethodId} {args : Array Value} {below : List Frame} {meth : Method} {c : Code} {H : Heap} {locs : List Loc} {cells slots : Nat} {Q : State → Prop} {d : MD} {g : GT} {A : Nat → Prop} {ws : va_W} {pc : Nat} {ls : Array Slot} {rest : List Value} (C : Cx p s m args meth c RX0 d g A) (w : Wd g A ws s.heap H locs) (q0 : Nat) {a : Nat} {fs : List Value} {v : Value} (he : ws[q0]? = some (a, .inr (0, fs))) (hv : fs[3]? = some v) (hd : decode d.2.1 pc = .ok (.getfield 22, 3)) (kk : W p l e R s m args below meth c H locs cells slots Q (F0 m (pc + 3) ls (v :: rest))) : W p l e R s m args below meth c H locs cells slots Q (F0 m pc ls (.ref a :: rest)) := fg C w inX0s (ref := RX0) rfl 3 (by decide) (ts_t (w := Cond.fieldLink RX0 22 RX0 (TX0 3).2.1 (TX0 3).2.2.1) 168 (by decide +kernel) (by decide +kernel)) rfl q0 he hv hd kk
theorem g_X0_15 {p : Program} {l : Launch} {e : Env} {R : Room} {s : State} {m : MethodId} {args : Array Value} {below : List Frame} {meth : Method} {c : Code} {H : Heap} {locs : List Loc} {cells slots : Nat} {Q : State → Prop} {d : MD} {g : GT} {A : Nat → Prop} {ws : va_W} {pc : Nat} {ls : Array Slot} {rest : List Value} (C : Cx p s m args meth c RX0 d g A) (w : Wd g A ws s.heap H locs) (q0 : Nat) {a : Nat} {fs : List Value} {v : Value} (he : ws[q0]? = some (a, .inr (0, fs))) (hv : fs[1]? = some v) (hd : decode d.2.1 pc = .ok (.getfield 15, 3)) (kk : W p l e R s m args below meth c H locs cells slots Q (F0 m (pc + 3) ls (v :: rest))) : W p l e R s m args below meth c H locs cells slots Q (F0 m pc ls (.ref a :: rest)) := fg C w inX0s (ref := RX0) rfl 1 (by decide) (ts_t (w := Cond.fieldLink RX0 15 RX0 (TX0 1).2.1 (TX0 1).2.2.1) 165 (by decide +kernel) (by decide +kernel)) rfl q0 he hv hd kk
theorem p_X0_9 {p : Program} {l : Launch} {e : Env} {R : Room} {s : State} {m : MethodId} {args : Array Value} {below : List Frame} {meth : Method} {c : Code} {H : Heap} {locs : List Loc} {cells slots : Nat} {Q : State → Prop} {d : MD} {g : GT} {A : Nat → Prop} {ws : va_W} {pc : Nat} {ls : Array Slot} {rest : List Value} (C : Cx p s m args meth c RX0 d g A) (w : Wd g A ws s.heap H locs) (q0 : Nat) {a : Nat} {fs : List Value} {x : Int32} (he : ws[q0]? = some (a, .inr (0, fs))) (hlt : 0 < fs.length) {ws2 : va_W} (h2 : ws.set q0 (a, .inr (0, fs.set 0 (.int x))) = ws2) (hd : decode d.2.1 pc = .ok (.putfield 9, 3)) (kk : ∀ (H1 : Heap) (locs1 : List Loc), Wd g A ws2 s.heap H1 locs1 → W p l e R s m args below meth c H1 locs1 cells slots Q (F0 m (pc + 3) ls rest)) : W p l e R s m args below meth c H locs cells slots Q (F0 m pc ls (.int x :: .ref a :: rest)) := fp C w inX0s tyX0_ok nmX0 (ref := RX0) rfl 0 (by decide) (ts_t (w := Cond.fieldLink RX0 9 RX0 (TX0 0).2.1 (TX0 0).2.2.1) 163 (by decide +kernel) (by decide +kernel)) rfl rfl q0 he rfl rfl hlt h2 hd kk
abbrev w_X0_addPassage (g : GT) (h0 h1 h2 h3 h4 h5 : Nat) (v0_2 v0_6 v0_7 v0_8 : Value) (trips0 invoices0 : Int32) (legPrice1 trip2 tripAxles3 tripInvoice4 tripLength5 : Nat → Int32) : va_W := [(h0, .inr (0, [.int trips0, .int invoices0, v0_2, .ref h4, .ref h3, .ref h5, v0_6, v0_7, v0_8, .ref h2, .ref h1])), (h1, aI g 80 legPrice1), (h2, aI g 80 trip2), (h3, aI g 80 tripAxles3), (h4, aI g 80 tripInvoice4), (h5, aI g 80 tripLength5)]
def f_X0_addPassage_b108 (F : Nat) (invoices0 : Int32) (legPrice1 : Nat → Int32) (trips0 : Int32) (trip2 tripAxles3 tripInvoice4 tripLength5 : Nat → Int32) : Option (Int32 × (Nat → Int32) × (Nat → Int32) × (Nat → Int32) × (Nat → Int32)) :=
  some (trips0, trip2, tripAxles3, tripInvoice4, tripLength5)
def f_X0_addPassage_b64 (F : Nat) (invoices0 : Int32) (legPrice1 : Nat → Int32) (x1 x2 trips0 : Int32) (trip2 tripAxles3 tripInvoice4 tripLength5 : Nat → Int32) : Option (Int32 × (Nat → Int32) × (Nat → Int32) × (Nat → Int32) × (Nat → Int32)) :=
  if (trips0 - 1) < 0 then
    f_X0_addPassage_b108 F invoices0 legPrice1 trips0 trip2 tripAxles3 tripInvoice4 tripLength5
  else
    wr trip2 80 x1 (trips0 - 1) fun f2 =>
    rd tripLength5 80 (trips0 - 1) fun a3 =>
    wr tripLength5 80 (trips0 - 1) (a3 + 1) fun f4 =>
    rd tripAxles3 80 (trips0 - 1) fun a5 =>
    wr tripAxles3 80 (trips0 - 1) (if a5 < x2 then x2 else a5) fun f6 =>
    f_X0_addPassage_b108 F invoices0 legPrice1 trips0 f2 f6 tripInvoice4 f4
def f_X0_addPassage (F : Nat) (p1 p2 trips0 invoices0 : Int32) (legPrice1 trip2 tripAxles3 tripInvoice4 tripLength5 : Nat → Int32) : Option (Int32 × (Nat → Int32) × (Nat → Int32) × (Nat → Int32) × (Nat → Int32)) :=
  rd legPrice1 80 p1 fun a7 =>
  if a7 = (-1) then
    if 80 ≤ trips0 then
      f_X0_addPassage_b64 F invoices0 legPrice1 p1 p2 trips0 trip2 tripAxles3 tripInvoice4 tripLength5
    else
      wr tripInvoice4 80 trips0 (invoices0 - 1) fun f10 =>
      wr tripAxles3 80 trips0 (-1) fun f11 =>
      wr tripLength5 80 trips0 0 fun f12 =>
      f_X0_addPassage_b64 F invoices0 legPrice1 p1 p2 (trips0 + 1) trip2 f11 f10 f12
  else
    f_X0_addPassage_b64 F invoices0 legPrice1 p1 p2 trips0 trip2 tripAxles3 tripInvoice4 tripLength5
set_option maxHeartbeats 4000000 in
set_option maxRecDepth 100000 in
theorem c_X0_addPassage (l : Launch) (g : GT) (F : Nat) (h0 h1 h2 h3 h4 h5 : Nat) (v0_2 v0_6 v0_7 v0_8 : Value) (p1 p2 trips0 invoices0 : Int32) (legPrice1 trip2 tripAxles3 tripInvoice4 tripLength5 : Nat → Int32) (o_trips0 : Int32) (o_trip2 o_tripAxles3 o_tripInvoice4 o_tripLength5 : Nat → Int32) (sz : Nat) (hf : f_X0_addPassage F p1 p2 trips0 invoices0 legPrice1 trip2 tripAxles3 tripInvoice4 tripLength5 = some (o_trips0, o_trip2, o_tripAxles3, o_tripInvoice4, o_tripLength5)) : CV l m_X0_addPassage (rml 1 0 0) g (w_X0_addPassage g h0 h1 h2 h3 h4 h5 v0_2 v0_6 v0_7 v0_8 trips0 invoices0 legPrice1 trip2 tripAxles3 tripInvoice4 tripLength5) (fun _ => w_X0_addPassage g h0 h1 h2 h3 h4 h5 v0_2 v0_6 v0_7 v0_8 o_trips0 invoices0 legPrice1 o_trip2 o_tripAxles3 o_tripInvoice4 o_tripLength5) sz [.ref h0, .int p1, .int p2] := by
  refine en_v (by decide) (Nat.le_of_ble_eq_true rfl) (fun p e s m args below meth c A ls C w hl => ?_)
  have C : Cx p s m args meth c RX0 m_X0_addPassage g A := C
  have hx := C.1
  have hb : c.code = cX0_addPassage := C.2.1
  have hl : lv_has ls 4 [(0, .ref h0), (1, .int p1), (2, .int p2)] := hl
  obtain ⟨Q, hQ⟩ : ∃ Q, Q = QV below args s g A (fun _ => w_X0_addPassage g h0 h1 h2 h3 h4 h5 v0_2 v0_6 v0_7 v0_8 o_trips0 invoices0 legPrice1 o_trip2 o_tripAxles3 o_tripInvoice4 o_tripLength5) 0 0 := ⟨_, rfl⟩
  suffices hW : W p l e (rml 1 0 0) s m args below meth c s.heap [] 0 0 Q (F0 m 0 ls []) from (by rw [hQ] at hW; exact hW)
  unfold f_X0_addPassage at hf
  have b108 : ∀ (trips0 : Int32) (trip2 tripAxles3 tripInvoice4 tripLength5 : Nat → Int32) (H : Heap) (locs : List Loc) (ls : Array Slot), f_X0_addPassage_b108 F invoices0 legPrice1 trips0 trip2 tripAxles3 tripInvoice4 tripLength5 = some (o_trips0, o_trip2, o_tripAxles3, o_tripInvoice4, o_tripLength5) → Wd g A (w_X0_addPassage g h0 h1 h2 h3 h4 h5 v0_2 v0_6 v0_7 v0_8 trips0 invoices0 legPrice1 trip2 tripAxles3 tripInvoice4 tripLength5) s.heap H locs → lv_has ls 4 [] → W p l e (rml 1 0 0) s m args below meth c H locs 0 0 Q (F0 m 108 ls []) := by
    intro trips0 trip2 tripAxles3 tripInvoice4 tripLength5 H locs ls hf w hl
    unfold f_X0_addPassage_b108 at hf
    obtain ⟨e1, e2, e3, e4, e5⟩ := tp5 hf
    rw [hQ]
    exact rt_v C w rfl (fun _ => 0) (by rw [← e1, ← e2, ← e3, ← e4, ← e5]) dX0_addPassage_108
  have b64 : ∀ (x1 x2 trips0 : Int32) (trip2 tripAxles3 tripInvoice4 tripLength5 : Nat → Int32) (H : Heap) (locs : List Loc) (ls : Array Slot), f_X0_addPassage_b64 F invoices0 legPrice1 x1 x2 trips0 trip2 tripAxles3 tripInvoice4 tripLength5 = some (o_trips0, o_trip2, o_tripAxles3, o_tripInvoice4, o_tripLength5) → Wd g A (w_X0_addPassage g h0 h1 h2 h3 h4 h5 v0_2 v0_6 v0_7 v0_8 trips0 invoices0 legPrice1 trip2 tripAxles3 tripInvoice4 tripLength5) s.heap H locs → lv_has ls 4 [(0, .ref h0), (1, .int x1), (2, .int x2)] → W p l e (rml 1 0 0) s m args below meth c H locs 0 0 Q (F0 m 64 ls []) := by
    intro x1 x2 trips0 trip2 tripAxles3 tripInvoice4 tripLength5 H locs ls hf w hl
    unfold f_X0_addPassage_b64 at hf
    refine lv_aload_n hx hb dX0_addPassage_64 rfl (lv_at hl 0 rfl) ?_
    refine g_X0_9 C w 0 rfl rfl dX0_addPassage_65 ?_
    refine lv_iconst (v := 1) hx hb dX0_addPassage_68 (by decide) ?_
    refine lv_isub hx hb dX0_addPassage_69 ?_
    refine lv_istore_n (lv' := [(3, .int (trips0 - 1)), (0, .ref h0), (1, .int x1), (2, .int x2)]) hx hb dX0_addPassage_70 rfl hl (by decide) rfl (fun ls hl => ?_)
    refine lv_iload_n hx hb dX0_addPassage_71 rfl (lv_at hl 0 rfl) ?_
    refine lv_if_lt (tgt := 108) hx hb dX0_addPassage_72 (by decide) (fun c1 => ?_) (fun c1 => ?_)
    · replace hf := it_t c1 hf
      exact b108 trips0 trip2 tripAxles3 tripInvoice4 tripLength5 _ _ _ hf w (lv_sub hl [] rfl)
    · replace hf := it_f c1 hf
      refine lv_aload_n hx hb dX0_addPassage_75 rfl (lv_at hl 1 rfl) ?_
      refine g_X0_40 C w 0 rfl rfl dX0_addPassage_76 ?_
      refine lv_iload_n hx hb dX0_addPassage_79 rfl (lv_at hl 2 rfl) ?_
      refine lv_iload_n hx hb dX0_addPassage_80 rfl (lv_at hl 0 rfl) ?_
      obtain ⟨f2, hif2, haf2, hf⟩ := wr_some hf
      refine ias C w 2 rfl hif2 haf2 (ws2 := w_X0_addPassage g h0 h1 h2 h3 h4 h5 v0_2 v0_6 v0_7 v0_8 trips0 invoices0 legPrice1 f2 tripAxles3 tripInvoice4 tripLength5) rfl dX0_addPassage_81 (fun H locs w => ?_)
      refine lv_aload_n hx hb dX0_addPassage_82 rfl (lv_at hl 1 rfl) ?_
      refine g_X0_28 C w 0 rfl rfl dX0_addPassage_83 ?_
      refine lv_iload_n hx hb dX0_addPassage_86 rfl (lv_at hl 0 rfl) ?_
      refine lv_dup2_11 hx hb dX0_addPassage_87 rfl rfl ?_
      obtain ⟨a3, hia3, haa3, hf⟩ := rd_some hf
      refine ial C w 5 rfl hia3 haa3 dX0_addPassage_88 ?_
      refine lv_iconst (v := 1) hx hb dX0_addPassage_89 (by decide) ?_
      refine lv_iadd hx hb dX0_addPassage_90 ?_
      obtain ⟨f4, hif4, haf4, hf⟩ := wr_some hf
      refine ias C w 5 rfl hif4 haf4 (ws2 := w_X0_addPassage g h0 h1 h2 h3 h4 h5 v0_2 v0_6 v0_7 v0_8 trips0 invoices0 legPrice1 f2 tripAxles3 tripInvoice4 f4) rfl dX0_addPassage_91 (fun H locs w => ?_)
      refine lv_aload_n hx hb dX0_addPassage_92 rfl (lv_at hl 1 rfl) ?_
      refine g_X0_25 C w 0 rfl rfl dX0_addPassage_93 ?_
      refine lv_iload_n hx hb dX0_addPassage_96 rfl (lv_at hl 0 rfl) ?_
      refine lv_aload_n hx hb dX0_addPassage_97 rfl (lv_at hl 1 rfl) ?_
      refine g_X0_25 C w 0 rfl rfl dX0_addPassage_98 ?_
      refine lv_iload_n hx hb dX0_addPassage_101 rfl (lv_at hl 0 rfl) ?_
      obtain ⟨a5, hia5, haa5, hf⟩ := rd_some hf
      refine ial C w 3 rfl hia5 haa5 dX0_addPassage_102 ?_
      refine lv_iload_n hx hb dX0_addPassage_103 rfl (lv_at hl 3 rfl) ?_
      refine mmx C hl.1 q_952 q_474 q_16 q_475 (Nat.le_of_ble_eq_true rfl) (Nat.le_of_ble_eq_true rfl) (Nat.le_of_ble_eq_true rfl) (Nat.le_of_ble_eq_true rfl) dX0_addPassage_104 ?_
      obtain ⟨f6, hif6, haf6, hf⟩ := wr_some hf
      refine ias C w 3 rfl hif6 haf6 (ws2 := w_X0_addPassage g h0 h1 h2 h3 h4 h5 v0_2 v0_6 v0_7 v0_8 trips0 invoices0 legPrice1 f2 f6 tripInvoice4 f4) rfl dX0_addPassage_107 (fun H locs w => ?_)
      exact b108 trips0 f2 f6 tripInvoice4 f4 _ _ _ hf w (lv_sub hl [] rfl)
  refine lv_aload_n hx hb dX0_addPassage_0 rfl (lv_at hl 0 rfl) ?_
  refine g_X0_43 C w 0 rfl rfl dX0_addPassage_1 ?_
  refine lv_iload_n hx hb dX0_addPassage_4 rfl (lv_at hl 1 rfl) ?_
  obtain ⟨a7, hia7, haa7, hf⟩ := rd_some hf
  refine ial C w 1 rfl hia7 haa7 dX0_addPassage_5 ?_
  refine lv_iconst (v := -1) hx hb dX0_addPassage_6 (by decide) ?_
  refine lv_icmp_ne (tgt := 64) hx hb dX0_addPassage_7 (by decide) (fun c8 => ?_) (fun c8 => ?_)
  · replace hf := it_f c8 hf
    exact b64 p1 p2 trips0 trip2 tripAxles3 tripInvoice4 tripLength5 _ _ _ hf w (lv_sub hl [0, 1, 2] rfl)
  · replace hf := it_t c8 hf
    refine lv_aload_n hx hb dX0_addPassage_10 rfl (lv_at hl 0 rfl) ?_
    refine g_X0_9 C w 0 rfl rfl dX0_addPassage_11 ?_
    refine lv_bipush (v := 80) hx hb dX0_addPassage_14 (by decide) ?_
    refine lv_icmp_ge (tgt := 64) hx hb dX0_addPassage_16 (by decide) (fun c9 => ?_) (fun c9 => ?_)
    · replace hf := it_t c9 hf
      exact b64 p1 p2 trips0 trip2 tripAxles3 tripInvoice4 tripLength5 _ _ _ hf w (lv_sub hl [0, 1, 2] rfl)
    · replace hf := it_f c9 hf
      refine lv_aload_n hx hb dX0_addPassage_19 rfl (lv_at hl 0 rfl) ?_
      refine g_X0_22 C w 0 rfl rfl dX0_addPassage_20 ?_
      refine lv_aload_n hx hb dX0_addPassage_23 rfl (lv_at hl 0 rfl) ?_
      refine g_X0_9 C w 0 rfl rfl dX0_addPassage_24 ?_
      refine lv_aload_n hx hb dX0_addPassage_27 rfl (lv_at hl 0 rfl) ?_
      refine g_X0_15 C w 0 rfl rfl dX0_addPassage_28 ?_
      refine lv_iconst (v := 1) hx hb dX0_addPassage_31 (by decide) ?_
      refine lv_isub hx hb dX0_addPassage_32 ?_
      obtain ⟨f10, hif10, haf10, hf⟩ := wr_some hf
      refine ias C w 4 rfl hif10 haf10 (ws2 := w_X0_addPassage g h0 h1 h2 h3 h4 h5 v0_2 v0_6 v0_7 v0_8 trips0 invoices0 legPrice1 trip2 tripAxles3 f10 tripLength5) rfl dX0_addPassage_33 (fun H locs w => ?_)
      refine lv_aload_n hx hb dX0_addPassage_34 rfl (lv_at hl 0 rfl) ?_
      refine g_X0_25 C w 0 rfl rfl dX0_addPassage_35 ?_
      refine lv_aload_n hx hb dX0_addPassage_38 rfl (lv_at hl 0 rfl) ?_
      refine g_X0_9 C w 0 rfl rfl dX0_addPassage_39 ?_
      refine lv_iconst (v := -1) hx hb dX0_addPassage_42 (by decide) ?_
      obtain ⟨f11, hif11, haf11, hf⟩ := wr_some hf
      refine ias C w 3 rfl hif11 haf11 (ws2 := w_X0_addPassage g h0 h1 h2 h3 h4 h5 v0_2 v0_6 v0_7 v0_8 trips0 invoices0 legPrice1 trip2 f11 f10 tripLength5) rfl dX0_addPassage_43 (fun H locs w => ?_)
      refine lv_aload_n hx hb dX0_addPassage_44 rfl (lv_at hl 0 rfl) ?_
      refine g_X0_28 C w 0 rfl rfl dX0_addPassage_45 ?_
      refine lv_aload_n hx hb dX0_addPassage_48 rfl (lv_at hl 0 rfl) ?_
      refine g_X0_9 C w 0 rfl rfl dX0_addPassage_49 ?_
      refine lv_iconst (v := 0) hx hb dX0_addPassage_52 (by decide) ?_
      obtain ⟨f12, hif12, haf12, hf⟩ := wr_some hf
      refine ias C w 5 rfl hif12 haf12 (ws2 := w_X0_addPassage g h0 h1 h2 h3 h4 h5 v0_2 v0_6 v0_7 v0_8 trips0 invoices0 legPrice1 trip2 f11 f10 f12) rfl dX0_addPassage_53 (fun H locs w => ?_)
      refine lv_aload_n hx hb dX0_addPassage_54 rfl (lv_at hl 0 rfl) ?_
      refine lv_dup hx hb dX0_addPassage_55 rfl ?_
      refine g_X0_9 C w 0 rfl rfl dX0_addPassage_56 ?_
      refine lv_iconst (v := 1) hx hb dX0_addPassage_59 (by decide) ?_
      refine lv_iadd hx hb dX0_addPassage_60 ?_
      refine p_X0_9 C w 0 rfl (Nat.le_of_ble_eq_true rfl) (ws2 := w_X0_addPassage g h0 h1 h2 h3 h4 h5 v0_2 v0_6 v0_7 v0_8 (trips0 + 1) invoices0 legPrice1 trip2 f11 f10 f12) rfl dX0_addPassage_61 (fun H locs w => ?_)
      exact b64 p1 p2 (trips0 + 1) trip2 f11 f10 f12 _ _ _ hf w (lv_sub hl [0, 1, 2] rfl)

theorem dX0_addVehicle_0 : decode cX0_addVehicle 0 = .ok (.aload_n 0, 1) := by decide +kernel
theorem dX0_addVehicle_1 : decode cX0_addVehicle 1 = .ok (.getfield 15, 3) := by decide +kernel
theorem dX0_addVehicle_4 : decode cX0_addVehicle 4 = .ok (.bipush 80, 2) := by decide +kernel
theorem dX0_addVehicle_6 : decode cX0_addVehicle 6 = .ok (.if_icmp .lt 4, 3) := by decide +kernel
theorem dX0_addVehicle_9 : decode cX0_addVehicle 9 = .ok (.return_, 1) := by decide +kernel
theorem dX0_addVehicle_10 : decode cX0_addVehicle 10 = .ok (.aload_n 0, 1) := by decide +kernel
theorem dX0_addVehicle_11 : decode cX0_addVehicle 11 = .ok (.getfield 18, 3) := by decide +kernel
theorem dX0_addVehicle_14 : decode cX0_addVehicle 14 = .ok (.aload_n 0, 1) := by decide +kernel
theorem dX0_addVehicle_15 : decode cX0_addVehicle 15 = .ok (.getfield 15, 3) := by decide +kernel
theorem dX0_addVehicle_18 : decode cX0_addVehicle 18 = .ok (.aload_n 0, 1) := by decide +kernel
theorem dX0_addVehicle_19 : decode cX0_addVehicle 19 = .ok (.getfield 37, 3) := by decide +kernel
theorem dX0_addVehicle_22 : decode cX0_addVehicle 22 = .ok (.iload_n 3, 1) := by decide +kernel
theorem dX0_addVehicle_23 : decode cX0_addVehicle 23 = .ok (.iaload, 1) := by decide +kernel
theorem dX0_addVehicle_24 : decode cX0_addVehicle 24 = .ok (.iastore, 1) := by decide +kernel
theorem dX0_addVehicle_25 : decode cX0_addVehicle 25 = .ok (.aload_n 0, 1) := by decide +kernel
theorem dX0_addVehicle_26 : decode cX0_addVehicle 26 = .ok (.dup, 1) := by decide +kernel
theorem dX0_addVehicle_27 : decode cX0_addVehicle 27 = .ok (.getfield 15, 3) := by decide +kernel
theorem dX0_addVehicle_30 : decode cX0_addVehicle 30 = .ok (.iconst 1, 1) := by decide +kernel
theorem dX0_addVehicle_31 : decode cX0_addVehicle 31 = .ok (.iadd, 1) := by decide +kernel
theorem dX0_addVehicle_32 : decode cX0_addVehicle 32 = .ok (.putfield 15, 3) := by decide +kernel
theorem dX0_addVehicle_35 : decode cX0_addVehicle 35 = .ok (.iconst (-1), 1) := by decide +kernel
theorem dX0_addVehicle_36 : decode cX0_addVehicle 36 = .ok (.istore 5, 2) := by decide +kernel
theorem dX0_addVehicle_38 : decode cX0_addVehicle 38 = .ok (.iload_n 3, 1) := by decide +kernel
theorem dX0_addVehicle_39 : decode cX0_addVehicle 39 = .ok (.istore 6, 2) := by decide +kernel
theorem dX0_addVehicle_41 : decode cX0_addVehicle 41 = .ok (.iload 6, 2) := by decide +kernel
theorem dX0_addVehicle_43 : decode cX0_addVehicle 43 = .ok (.aload_n 2, 1) := by decide +kernel
theorem dX0_addVehicle_44 : decode cX0_addVehicle 44 = .ok (.getfield 46, 3) := by decide +kernel
theorem dX0_addVehicle_47 : decode cX0_addVehicle 47 = .ok (.if_icmp .ge 106, 3) := by decide +kernel
theorem dX0_addVehicle_50 : decode cX0_addVehicle 50 = .ok (.aload_n 0, 1) := by decide +kernel
theorem dX0_addVehicle_51 : decode cX0_addVehicle 51 = .ok (.getfield 37, 3) := by decide +kernel
theorem dX0_addVehicle_54 : decode cX0_addVehicle 54 = .ok (.iload 6, 2) := by decide +kernel
theorem dX0_addVehicle_56 : decode cX0_addVehicle 56 = .ok (.iaload, 1) := by decide +kernel
theorem dX0_addVehicle_57 : decode cX0_addVehicle 57 = .ok (.aload_n 0, 1) := by decide +kernel
theorem dX0_addVehicle_58 : decode cX0_addVehicle 58 = .ok (.getfield 37, 3) := by decide +kernel
theorem dX0_addVehicle_61 : decode cX0_addVehicle 61 = .ok (.iload_n 3, 1) := by decide +kernel
theorem dX0_addVehicle_62 : decode cX0_addVehicle 62 = .ok (.iaload, 1) := by decide +kernel
theorem dX0_addVehicle_63 : decode cX0_addVehicle 63 = .ok (.if_icmp .ne 84, 3) := by decide +kernel
theorem dX0_addVehicle_66 : decode cX0_addVehicle 66 = .ok (.aload_n 0, 1) := by decide +kernel
theorem dX0_addVehicle_67 : decode cX0_addVehicle 67 = .ok (.getfield 43, 3) := by decide +kernel
theorem dX0_addVehicle_70 : decode cX0_addVehicle 70 = .ok (.iload 6, 2) := by decide +kernel
theorem dX0_addVehicle_72 : decode cX0_addVehicle 72 = .ok (.iconst (-1), 1) := by decide +kernel
theorem dX0_addVehicle_73 : decode cX0_addVehicle 73 = .ok (.iastore, 1) := by decide +kernel
theorem dX0_addVehicle_74 : decode cX0_addVehicle 74 = .ok (.iload 5, 2) := by decide +kernel
theorem dX0_addVehicle_76 : decode cX0_addVehicle 76 = .ok (.iconst (-1), 1) := by decide +kernel
theorem dX0_addVehicle_77 : decode cX0_addVehicle 77 = .ok (.if_icmp .eq 54, 3) := by decide +kernel
theorem dX0_addVehicle_80 : decode cX0_addVehicle 80 = .ok (.aload_n 2, 1) := by decide +kernel
theorem dX0_addVehicle_81 : decode cX0_addVehicle 81 = .ok (.getfield 54, 3) := by decide +kernel
theorem dX0_addVehicle_84 : decode cX0_addVehicle 84 = .ok (.iload 6, 2) := by decide +kernel
theorem dX0_addVehicle_86 : decode cX0_addVehicle 86 = .ok (.iaload, 1) := by decide +kernel
theorem dX0_addVehicle_87 : decode cX0_addVehicle 87 = .ok (.aload_n 2, 1) := by decide +kernel
theorem dX0_addVehicle_88 : decode cX0_addVehicle 88 = .ok (.getfield 54, 3) := by decide +kernel
theorem dX0_addVehicle_91 : decode cX0_addVehicle 91 = .ok (.iload 5, 2) := by decide +kernel
theorem dX0_addVehicle_93 : decode cX0_addVehicle 93 = .ok (.iaload, 1) := by decide +kernel
theorem dX0_addVehicle_94 : decode cX0_addVehicle 94 = .ok (.isub, 1) := by decide +kernel
theorem dX0_addVehicle_95 : decode cX0_addVehicle 95 = .ok (.istore 7, 2) := by decide +kernel
theorem dX0_addVehicle_97 : decode cX0_addVehicle 97 = .ok (.aload 4, 2) := by decide +kernel
theorem dX0_addVehicle_99 : decode cX0_addVehicle 99 = .ok (.aload_n 1, 1) := by decide +kernel
theorem dX0_addVehicle_100 : decode cX0_addVehicle 100 = .ok (.aload_n 2, 1) := by decide +kernel
theorem dX0_addVehicle_101 : decode cX0_addVehicle 101 = .ok (.getfield 69, 3) := by decide +kernel
theorem dX0_addVehicle_104 : decode cX0_addVehicle 104 = .ok (.iload 5, 2) := by decide +kernel
theorem dX0_addVehicle_106 : decode cX0_addVehicle 106 = .ok (.iaload, 1) := by decide +kernel
theorem dX0_addVehicle_107 : decode cX0_addVehicle 107 = .ok (.aload_n 2, 1) := by decide +kernel
theorem dX0_addVehicle_108 : decode cX0_addVehicle 108 = .ok (.getfield 69, 3) := by decide +kernel
theorem dX0_addVehicle_111 : decode cX0_addVehicle 111 = .ok (.iload 6, 2) := by decide +kernel
theorem dX0_addVehicle_113 : decode cX0_addVehicle 113 = .ok (.iaload, 1) := by decide +kernel
theorem dX0_addVehicle_114 : decode cX0_addVehicle 114 = .ok (.iload 7, 2) := by decide +kernel
theorem dX0_addVehicle_116 : decode cX0_addVehicle 116 = .ok (.invokevirtual 72, 3) := by decide +kernel
theorem dX0_addVehicle_119 : decode cX0_addVehicle 119 = .ok (.aload_n 0, 1) := by decide +kernel
theorem dX0_addVehicle_120 : decode cX0_addVehicle 120 = .ok (.getfield 43, 3) := by decide +kernel
theorem dX0_addVehicle_123 : decode cX0_addVehicle 123 = .ok (.iload 6, 2) := by decide +kernel
theorem dX0_addVehicle_125 : decode cX0_addVehicle 125 = .ok (.aload 4, 2) := by decide +kernel
theorem dX0_addVehicle_127 : decode cX0_addVehicle 127 = .ok (.getfield 78, 3) := by decide +kernel
theorem dX0_addVehicle_130 : decode cX0_addVehicle 130 = .ok (.iastore, 1) := by decide +kernel
theorem dX0_addVehicle_131 : decode cX0_addVehicle 131 = .ok (.aload_n 0, 1) := by decide +kernel
theorem dX0_addVehicle_132 : decode cX0_addVehicle 132 = .ok (.iload 6, 2) := by decide +kernel
theorem dX0_addVehicle_134 : decode cX0_addVehicle 134 = .ok (.aload_n 2, 1) := by decide +kernel
theorem dX0_addVehicle_135 : decode cX0_addVehicle 135 = .ok (.iload 6, 2) := by decide +kernel
theorem dX0_addVehicle_137 : decode cX0_addVehicle 137 = .ok (.invokevirtual 81, 3) := by decide +kernel
theorem dX0_addVehicle_140 : decode cX0_addVehicle 140 = .ok (.invokevirtual 85, 3) := by decide +kernel
theorem dX0_addVehicle_143 : decode cX0_addVehicle 143 = .ok (.iload 6, 2) := by decide +kernel
theorem dX0_addVehicle_145 : decode cX0_addVehicle 145 = .ok (.istore 5, 2) := by decide +kernel
theorem dX0_addVehicle_147 : decode cX0_addVehicle 147 = .ok (.iinc 6 1, 3) := by decide +kernel
theorem dX0_addVehicle_150 : decode cX0_addVehicle 150 = .ok (.goto (-109), 3) := by decide +kernel
theorem dX0_addVehicle_153 : decode cX0_addVehicle 153 = .ok (.return_, 1) := by decide +kernel
abbrev m_X0_addVehicle : MD := (yX0_addVehicle, cX0_addVehicle, 8, none)
theorem g_X0_46 {p : Program} {l : Launch} {e : Env} {R : Room} {s : State} {m : MethodId} {args : Array Value} {below : List Frame} {meth : Method} {c : Code} {H : Heap} {locs : List Loc} {cells slots : Nat} {Q : State → Prop} {d : MD} {g : GT} {A : Nat → Prop} {ws : va_W} {pc : Nat} {ls : Array Slot} {rest : List Value} (C : Cx p s m args meth c RX0 d g A) (w : Wd g A ws s.heap H locs) (q0 : Nat) {a : Nat} {fs : List Value} {v : Value} (he : ws[q0]? = some (a, .inr (6, fs))) (hv : fs[0]? = some v) (hd : decode d.2.1 pc = .ok (.getfield 46, 3)) (kk : W p l e R s m args below meth c H locs cells slots Q (F0 m (pc + 3) ls (v :: rest))) : W p l e R s m args below meth c H locs cells slots Q (F0 m pc ls (.ref a :: rest)) := fgN C w inX6s (ref := RX6) rfl 0 (by decide) (nw_t (w := Cond.fieldLinkNest RX0 46 RX6 (TX6 0).2.1 (TX6 0).2.2.1 "FreeFlowToll") 212 (by decide +kernel) rfl) rfl q0 he hv hd kk
theorem g_X0_37 {p : Program} {l : Launch} {e : Env} {R : Room} {s : State} {m : MethodId} {args : Array Value} {below : List Frame} {meth : Method} {c : Code} {H : Heap} {locs : List Loc} {cells slots : Nat} {Q : State → Prop} {d : MD} {g : GT} {A : Nat → Prop} {ws : va_W} {pc : Nat} {ls : Array Slot} {rest : List Value} (C : Cx p s m args meth c RX0 d g A) (w : Wd g A ws s.heap H locs) (q0 : Nat) {a : Nat} {fs : List Value} {v : Value} (he : ws[q0]? = some (a, .inr (0, fs))) (hv : fs[8]? = some v) (hd : decode d.2.1 pc = .ok (.getfield 37, 3)) (kk : W p l e R s m args below meth c H locs cells slots Q (F0 m (pc + 3) ls (v :: rest))) : W p l e R s m args below meth c H locs cells slots Q (F0 m pc ls (.ref a :: rest)) := fg C w inX0s (ref := RX0) rfl 8 (by decide) (ts_t (w := Cond.fieldLink RX0 37 RX0 (TX0 8).2.1 (TX0 8).2.2.1) 173 (by decide +kernel) (by decide +kernel)) rfl q0 he hv hd kk
theorem g_X0_54 {p : Program} {l : Launch} {e : Env} {R : Room} {s : State} {m : MethodId} {args : Array Value} {below : List Frame} {meth : Method} {c : Code} {H : Heap} {locs : List Loc} {cells slots : Nat} {Q : State → Prop} {d : MD} {g : GT} {A : Nat → Prop} {ws : va_W} {pc : Nat} {ls : Array Slot} {rest : List Value} (C : Cx p s m args meth c RX0 d g A) (w : Wd g A ws s.heap H locs) (q0 : Nat) {a : Nat} {fs : List Value} {v : Value} (he : ws[q0]? = some (a, .inr (6, fs))) (hv : fs[4]? = some v) (hd : decode d.2.1 pc = .ok (.getfield 54, 3)) (kk : W p l e R s m args below meth c H locs cells slots Q (F0 m (pc + 3) ls (v :: rest))) : W p l e R s m args below meth c H locs cells slots Q (F0 m pc ls (.ref a :: rest)) := fgN C w inX6s (ref := RX6) rfl 4 (by decide) (nw_t (w := Cond.fieldLinkNest RX0 54 RX6 (TX6 4).2.1 (TX6 4).2.2.1 "FreeFlowToll") 221 (by decide +kernel) rfl) rfl q0 he hv hd kk
theorem g_X0_69 {p : Program} {l : Launch} {e : Env} {R : Room} {s : State} {m : MethodId} {args : Array Value} {below : List Frame} {meth : Method} {c : Code} {H : Heap} {locs : List Loc} {cells slots : Nat} {Q : State → Prop} {d : MD} {g : GT} {A : Nat → Prop} {ws : va_W} {pc : Nat} {ls : Array Slot} {rest : List Value} (C : Cx p s m args meth c RX0 d g A) (w : Wd g A ws s.heap H locs) (q0 : Nat) {a : Nat} {fs : List Value} {v : Value} (he : ws[q0]? = some (a, .inr (6, fs))) (hv : fs[2]? = some v) (hd : decode d.2.1 pc = .ok (.getfield 69, 3)) (kk : W p l e R s m args below meth c H locs cells slots Q (F0 m (pc + 3) ls (v :: rest))) : W p l e R s m args below meth c H locs cells slots Q (F0 m pc ls (.ref a :: rest)) := fgN C w inX6s (ref := RX6) rfl 2 (by decide) (nw_t (w := Cond.fieldLinkNest RX0 69 RX6 (TX6 2).2.1 (TX6 2).2.2.1 "FreeFlowToll") 217 (by decide +kernel) rfl) rfl q0 he hv hd kk
theorem g_X0_78 {p : Program} {l : Launch} {e : Env} {R : Room} {s : State} {m : MethodId} {args : Array Value} {below : List Frame} {meth : Method} {c : Code} {H : Heap} {locs : List Loc} {cells slots : Nat} {Q : State → Prop} {d : MD} {g : GT} {A : Nat → Prop} {ws : va_W} {pc : Nat} {ls : Array Slot} {rest : List Value} (C : Cx p s m args meth c RX0 d g A) (w : Wd g A ws s.heap H locs) (q0 : Nat) {a : Nat} {fs : List Value} {v : Value} (he : ws[q0]? = some (a, .inr (7, fs))) (hv : fs[1]? = some v) (hd : decode d.2.1 pc = .ok (.getfield 78, 3)) (kk : W p l e R s m args below meth c H locs cells slots Q (F0 m (pc + 3) ls (v :: rest))) : W p l e R s m args below meth c H locs cells slots Q (F0 m pc ls (.ref a :: rest)) := fgN C w inX7s (ref := RX7) rfl 1 (by decide) (nw_t (w := Cond.fieldLinkNest RX0 78 RX7 (TX7 1).2.1 (TX7 1).2.2.1 "FreeFlowToll") 147 (by decide +kernel) rfl) rfl q0 he hv hd kk
theorem g_X0_18 {p : Program} {l : Launch} {e : Env} {R : Room} {s : State} {m : MethodId} {args : Array Value} {below : List Frame} {meth : Method} {c : Code} {H : Heap} {locs : List Loc} {cells slots : Nat} {Q : State → Prop} {d : MD} {g : GT} {A : Nat → Prop} {ws : va_W} {pc : Nat} {ls : Array Slot} {rest : List Value} (C : Cx p s m args meth c RX0 d g A) (w : Wd g A ws s.heap H locs) (q0 : Nat) {a : Nat} {fs : List Value} {v : Value} (he : ws[q0]? = some (a, .inr (0, fs))) (hv : fs[2]? = some v) (hd : decode d.2.1 pc = .ok (.getfield 18, 3)) (kk : W p l e R s m args below meth c H locs cells slots Q (F0 m (pc + 3) ls (v :: rest))) : W p l e R s m args below meth c H locs cells slots Q (F0 m pc ls (.ref a :: rest)) := fg C w inX0s (ref := RX0) rfl 2 (by decide) (ts_t (w := Cond.fieldLink RX0 18 RX0 (TX0 2).2.1 (TX0 2).2.2.1) 167 (by decide +kernel) (by decide +kernel)) rfl q0 he hv hd kk
theorem p_X0_15 {p : Program} {l : Launch} {e : Env} {R : Room} {s : State} {m : MethodId} {args : Array Value} {below : List Frame} {meth : Method} {c : Code} {H : Heap} {locs : List Loc} {cells slots : Nat} {Q : State → Prop} {d : MD} {g : GT} {A : Nat → Prop} {ws : va_W} {pc : Nat} {ls : Array Slot} {rest : List Value} (C : Cx p s m args meth c RX0 d g A) (w : Wd g A ws s.heap H locs) (q0 : Nat) {a : Nat} {fs : List Value} {x : Int32} (he : ws[q0]? = some (a, .inr (0, fs))) (hlt : 1 < fs.length) {ws2 : va_W} (h2 : ws.set q0 (a, .inr (0, fs.set 1 (.int x))) = ws2) (hd : decode d.2.1 pc = .ok (.putfield 15, 3)) (kk : ∀ (H1 : Heap) (locs1 : List Loc), Wd g A ws2 s.heap H1 locs1 → W p l e R s m args below meth c H1 locs1 cells slots Q (F0 m (pc + 3) ls rest)) : W p l e R s m args below meth c H locs cells slots Q (F0 m pc ls (.int x :: .ref a :: rest)) := fp C w inX0s tyX0_ok nmX0 (ref := RX0) rfl 1 (by decide) (ts_t (w := Cond.fieldLink RX0 15 RX0 (TX0 1).2.1 (TX0 1).2.2.1) 165 (by decide +kernel) (by decide +kernel)) rfl rfl q0 he rfl rfl hlt h2 hd kk
theorem k_X0_81 : LkN RX0 81 m_X6_axlesOf 1 := ⟨⟨"FreeFlowToll", nw_t 947 (by decide +kernel) rfl⟩, q_434, qs_8, ⟨q_7, q_435, by decide, by decide, by decide +kernel⟩⟩
theorem q_5 : Cond.initialized RX0 ∈ TS := ts_t 5 (by decide +kernel) (by decide +kernel)
theorem q_951 : Cond.code yX0_addPassage cX0_addPassage 4 none ∈ TS := ts_t 951 (by decide +kernel) (by decide +kernel)
theorem q_948 : Cond.methodLink RX0 85 yX0_addPassage ∈ TS := ts_t 948 (by decide +kernel) (by decide +kernel)
theorem q_950 : Cond.instanceMethod yX0_addPassage ∈ TS := ts_t 950 (by decide +kernel) (by decide +kernel)
theorem qs_62 : Cond.selects yX0_addPassage.cls yX0_addPassage yX0_addPassage ∈ TS := ts_s 62 (by decide +kernel) (by decide +kernel)
theorem k_X0_85 : LkV RX0 85 m_X0_addPassage 2 := ⟨q_948, q_950, qs_62, ⟨q_5, q_951, by decide, by decide, by decide +kernel⟩⟩
theorem q_799 : Cond.code yX7_find cX7_find 5 none ∈ TS := ts_t 799 (by decide +kernel) (by decide +kernel)
theorem q_798 : Cond.instanceMethod yX7_find ∈ TS := ts_t 798 (by decide +kernel) (by decide +kernel)
theorem qs_51 : Cond.selects yX7_find.cls yX7_find yX7_find ∈ TS := ts_s 51 (by decide +kernel) (by decide +kernel)
theorem k_X0_72 : LkN RX0 72 m_X7_find 4 := ⟨⟨"FreeFlowToll", nw_t 946 (by decide +kernel) rfl⟩, q_798, qs_51, ⟨q_4, q_799, by decide, by decide, by decide +kernel⟩⟩
abbrev w_X0_addVehicle (g : GT) (h0 h1 h2 h3 h4 h5 h6 h7 h8 h9 h10 h11 h12 h13 h14 h15 h16 h17 : Nat) (v0_6 v0_7 v8_1 v8_2 v8_3 v8_4 v8_5 v8_6 v8_9 v8_10 v8_11 v8_12 v11_1 v11_3 v11_5 v11_6 v11_8 v11_9 v11_10 v11_11 : Value) (trips0 invoices0 : Int32) (invoicePlate1 legPrice2 trip3 tripAxles4 tripInvoice5 tripLength6 vehicle7 : Nat → Int32) (gantries8 : Int32) (linkMinutes9 linkPrice10 : Nat → Int32) (count11 : Int32) (axleReadings12 gantry13 handAxles14 time15 : Nat → Int32) (links16 price16 : Int32) (stops17 : Nat → Int32) : va_W := [(h0, .inr (0, [.int trips0, .int invoices0, .ref h1, .ref h5, .ref h4, .ref h6, v0_6, v0_7, .ref h7, .ref h3, .ref h2])), (h1, aI g 80 invoicePlate1), (h2, aI g 80 legPrice2), (h3, aI g 80 trip3), (h4, aI g 80 tripAxles4), (h5, aI g 80 tripInvoice5), (h6, aI g 80 tripLength6), (h7, aI g 80 vehicle7), (h8, .inr (4, [.int gantries8, v8_1, v8_2, v8_3, v8_4, v8_5, v8_6, .ref h9, .ref h10, v8_9, v8_10, v8_11, v8_12])), (h9, aI g 100 linkMinutes9), (h10, aI g 100 linkPrice10), (h11, .inr (6, [.int count11, v11_1, .ref h13, v11_3, .ref h15, v11_5, v11_6, .ref h14, v11_8, v11_9, v11_10, v11_11, .ref h12])), (h12, aI g 640 axleReadings12), (h13, aI g 80 gantry13), (h14, aI g 80 handAxles14), (h15, aI g 80 time15), (h16, .inr (7, [.int links16, .int price16, .ref h17])), (h17, aI g 4 stops17)]
def f_X0_addVehicle_b147 (F : Nat) (k41 : (Int32 × Int32 × Int32 × Int32 × Int32 × (Nat → Int32) × (Nat → Int32) × (Nat → Int32) × (Nat → Int32) × (Nat → Int32) × (Nat → Int32) × Int32 × Int32 × (Nat → Int32)) → Option (Int32 × Int32 × (Nat → Int32) × (Nat → Int32) × (Nat → Int32) × (Nat → Int32) × (Nat → Int32) × (Nat → Int32) × Int32 × Int32 × (Nat → Int32))) (vehicle7 : Nat → Int32) (gantries8 : Int32) (linkMinutes9 linkPrice10 : Nat → Int32) (count11 : Int32) (axleReadings12 gantry13 handAxles14 time15 : Nat → Int32) (x3 x5 x6 trips0 invoices0 : Int32) (invoicePlate1 legPrice2 trip3 tripAxles4 tripInvoice5 tripLength6 : Nat → Int32) (links16 price16 : Int32) (stops17 : Nat → Int32) : Option (Int32 × Int32 × (Nat → Int32) × (Nat → Int32) × (Nat → Int32) × (Nat → Int32) × (Nat → Int32) × (Nat → Int32) × Int32 × Int32 × (Nat → Int32)) :=
  k41 (x3, x5, x6 + 1, trips0, invoices0, invoicePlate1, legPrice2, trip3, tripAxles4, tripInvoice5, tripLength6, links16, price16, stops17)
def f_X0_addVehicle_b131 (F : Nat) (k41 : (Int32 × Int32 × Int32 × Int32 × Int32 × (Nat → Int32) × (Nat → Int32) × (Nat → Int32) × (Nat → Int32) × (Nat → Int32) × (Nat → Int32) × Int32 × Int32 × (Nat → Int32)) → Option (Int32 × Int32 × (Nat → Int32) × (Nat → Int32) × (Nat → Int32) × (Nat → Int32) × (Nat → Int32) × (Nat → Int32) × Int32 × Int32 × (Nat → Int32))) (vehicle7 : Nat → Int32) (gantries8 : Int32) (linkMinutes9 linkPrice10 : Nat → Int32) (count11 : Int32) (axleReadings12 gantry13 handAxles14 time15 : Nat → Int32) (x3 x6 trips0 invoices0 : Int32) (invoicePlate1 legPrice2 trip3 tripAxles4 tripInvoice5 tripLength6 : Nat → Int32) (links16 price16 : Int32) (stops17 : Nat → Int32) : Option (Int32 × Int32 × (Nat → Int32) × (Nat → Int32) × (Nat → Int32) × (Nat → Int32) × (Nat → Int32) × (Nat → Int32) × Int32 × Int32 × (Nat → Int32)) :=
  bd1 (f_X6_axlesOf F x6 axleReadings12 handAxles14) fun r1 =>
  bd5 (f_X0_addPassage F x6 r1 trips0 invoices0 legPrice2 trip3 tripAxles4 tripInvoice5 tripLength6) fun o3 o4 o5 o6 o7 =>
  f_X0_addVehicle_b147 F k41 vehicle7 gantries8 linkMinutes9 linkPrice10 count11 axleReadings12 gantry13 handAxles14 time15 x3 x6 x6 o3 invoices0 invoicePlate1 legPrice2 o4 o5 o6 o7 links16 price16 stops17
def f_X0_addVehicle_h41 (F : Nat) (vehicle7 : Nat → Int32) (gantries8 : Int32) (linkMinutes9 linkPrice10 : Nat → Int32) (count11 : Int32) (axleReadings12 gantry13 handAxles14 time15 : Nat → Int32) (k41 : (Int32 × Int32 × Int32 × Int32 × Int32 × (Nat → Int32) × (Nat → Int32) × (Nat → Int32) × (Nat → Int32) × (Nat → Int32) × (Nat → Int32) × Int32 × Int32 × (Nat → Int32)) → Option (Int32 × Int32 × (Nat → Int32) × (Nat → Int32) × (Nat → Int32) × (Nat → Int32) × (Nat → Int32) × (Nat → Int32) × Int32 × Int32 × (Nat → Int32))) (x3 x5 x6 trips0 invoices0 : Int32) (invoicePlate1 legPrice2 trip3 tripAxles4 tripInvoice5 tripLength6 : Nat → Int32) (links16 price16 : Int32) (stops17 : Nat → Int32) : Option (Int32 × Int32 × (Nat → Int32) × (Nat → Int32) × (Nat → Int32) × (Nat → Int32) × (Nat → Int32) × (Nat → Int32) × Int32 × Int32 × (Nat → Int32)) :=
  if count11 ≤ x6 then
    some (trips0, invoices0, invoicePlate1, legPrice2, trip3, tripAxles4, tripInvoice5, tripLength6, links16, price16, stops17)
  else
    rd vehicle7 80 x6 fun a10 =>
    rd vehicle7 80 x3 fun a11 =>
    if a10 = a11 then
      wr legPrice2 80 x6 (-1) fun f13 =>
      if x5 = (-1) then
        f_X0_addVehicle_b131 F k41 vehicle7 gantries8 linkMinutes9 linkPrice10 count11 axleReadings12 gantry13 handAxles14 time15 x3 x6 trips0 invoices0 invoicePlate1 f13 trip3 tripAxles4 tripInvoice5 tripLength6 links16 price16 stops17
      else
        rd time15 80 x6 fun a15 =>
        rd time15 80 x5 fun a16 =>
        rd gantry13 80 x5 fun a17 =>
        rd gantry13 80 x6 fun a18 =>
        bd3 (f_X7_find F a17 a18 (a15 - a16) links16 price16 stops17 gantries8 linkMinutes9 linkPrice10) fun o19 o20 o21 =>
        wr f13 80 x6 o20 fun f23 =>
        f_X0_addVehicle_b131 F k41 vehicle7 gantries8 linkMinutes9 linkPrice10 count11 axleReadings12 gantry13 handAxles14 time15 x3 x6 trips0 invoices0 invoicePlate1 f23 trip3 tripAxles4 tripInvoice5 tripLength6 o19 o20 o21
    else
      f_X0_addVehicle_b147 F k41 vehicle7 gantries8 linkMinutes9 linkPrice10 count11 axleReadings12 gantry13 handAxles14 time15 x3 x5 x6 trips0 invoices0 invoicePlate1 legPrice2 trip3 tripAxles4 tripInvoice5 tripLength6 links16 price16 stops17
def f_X0_addVehicle_L41 (F : Nat) (vehicle7 : Nat → Int32) (gantries8 : Int32) (linkMinutes9 linkPrice10 : Nat → Int32) (count11 : Int32) (axleReadings12 gantry13 handAxles14 time15 : Nat → Int32) (z : Int32 × Int32 × Int32 × Int32 × Int32 × (Nat → Int32) × (Nat → Int32) × (Nat → Int32) × (Nat → Int32) × (Nat → Int32) × (Nat → Int32) × Int32 × Int32 × (Nat → Int32)) : Option (Int32 × Int32 × (Nat → Int32) × (Nat → Int32) × (Nat → Int32) × (Nat → Int32) × (Nat → Int32) × (Nat → Int32) × Int32 × Int32 × (Nat → Int32)) := lp (fun k z => f_X0_addVehicle_h41 F vehicle7 gantries8 linkMinutes9 linkPrice10 count11 axleReadings12 gantry13 handAxles14 time15 k z.1 z.2.1 z.2.2.1 z.2.2.2.1 z.2.2.2.2.1 z.2.2.2.2.2.1 z.2.2.2.2.2.2.1 z.2.2.2.2.2.2.2.1 z.2.2.2.2.2.2.2.2.1 z.2.2.2.2.2.2.2.2.2.1 z.2.2.2.2.2.2.2.2.2.2.1 z.2.2.2.2.2.2.2.2.2.2.2.1 z.2.2.2.2.2.2.2.2.2.2.2.2.1 z.2.2.2.2.2.2.2.2.2.2.2.2.2) F z
def f_X0_addVehicle (F : Nat) (p3 trips0 invoices0 : Int32) (invoicePlate1 legPrice2 trip3 tripAxles4 tripInvoice5 tripLength6 vehicle7 : Nat → Int32) (gantries8 : Int32) (linkMinutes9 linkPrice10 : Nat → Int32) (count11 : Int32) (axleReadings12 gantry13 handAxles14 time15 : Nat → Int32) (links16 price16 : Int32) (stops17 : Nat → Int32) : Option (Int32 × Int32 × (Nat → Int32) × (Nat → Int32) × (Nat → Int32) × (Nat → Int32) × (Nat → Int32) × (Nat → Int32) × Int32 × Int32 × (Nat → Int32)) :=
  if invoices0 < 80 then
    rd vehicle7 80 p3 fun a25 =>
    wr invoicePlate1 80 invoices0 a25 fun f26 =>
    f_X0_addVehicle_L41 F vehicle7 gantries8 linkMinutes9 linkPrice10 count11 axleReadings12 gantry13 handAxles14 time15 (p3, (-1), p3, trips0, invoices0 + 1, f26, legPrice2, trip3, tripAxles4, tripInvoice5, tripLength6, links16, price16, stops17)
  else
    some (trips0, invoices0, invoicePlate1, legPrice2, trip3, tripAxles4, tripInvoice5, tripLength6, links16, price16, stops17)
set_option maxHeartbeats 4000000 in
set_option maxRecDepth 100000 in
theorem c_X0_addVehicle (l : Launch) (g : GT) (F : Nat) (h0 h1 h2 h3 h4 h5 h6 h7 h8 h9 h10 h11 h12 h13 h14 h15 h16 h17 : Nat) (v0_6 v0_7 v8_1 v8_2 v8_3 v8_4 v8_5 v8_6 v8_9 v8_10 v8_11 v8_12 v11_1 v11_3 v11_5 v11_6 v11_8 v11_9 v11_10 v11_11 : Value) (p3 trips0 invoices0 : Int32) (invoicePlate1 legPrice2 trip3 tripAxles4 tripInvoice5 tripLength6 vehicle7 : Nat → Int32) (gantries8 : Int32) (linkMinutes9 linkPrice10 : Nat → Int32) (count11 : Int32) (axleReadings12 gantry13 handAxles14 time15 : Nat → Int32) (links16 price16 : Int32) (stops17 : Nat → Int32) (o_trips0 o_invoices0 : Int32) (o_invoicePlate1 o_legPrice2 o_trip3 o_tripAxles4 o_tripInvoice5 o_tripLength6 : Nat → Int32) (o_links16 o_price16 : Int32) (o_stops17 : Nat → Int32) (sz : Nat) (hf : f_X0_addVehicle F p3 trips0 invoices0 invoicePlate1 legPrice2 trip3 tripAxles4 tripInvoice5 tripLength6 vehicle7 gantries8 linkMinutes9 linkPrice10 count11 axleReadings12 gantry13 handAxles14 time15 links16 price16 stops17 = some (o_trips0, o_invoices0, o_invoicePlate1, o_legPrice2, o_trip3, o_tripAxles4, o_tripInvoice5, o_tripLength6, o_links16, o_price16, o_stops17)) : CV l m_X0_addVehicle (rml 4 0 0) g (w_X0_addVehicle g h0 h1 h2 h3 h4 h5 h6 h7 h8 h9 h10 h11 h12 h13 h14 h15 h16 h17 v0_6 v0_7 v8_1 v8_2 v8_3 v8_4 v8_5 v8_6 v8_9 v8_10 v8_11 v8_12 v11_1 v11_3 v11_5 v11_6 v11_8 v11_9 v11_10 v11_11 trips0 invoices0 invoicePlate1 legPrice2 trip3 tripAxles4 tripInvoice5 tripLength6 vehicle7 gantries8 linkMinutes9 linkPrice10 count11 axleReadings12 gantry13 handAxles14 time15 links16 price16 stops17) (fun _ => w_X0_addVehicle g h0 h1 h2 h3 h4 h5 h6 h7 h8 h9 h10 h11 h12 h13 h14 h15 h16 h17 v0_6 v0_7 v8_1 v8_2 v8_3 v8_4 v8_5 v8_6 v8_9 v8_10 v8_11 v8_12 v11_1 v11_3 v11_5 v11_6 v11_8 v11_9 v11_10 v11_11 o_trips0 o_invoices0 o_invoicePlate1 o_legPrice2 o_trip3 o_tripAxles4 o_tripInvoice5 o_tripLength6 vehicle7 gantries8 linkMinutes9 linkPrice10 count11 axleReadings12 gantry13 handAxles14 time15 o_links16 o_price16 o_stops17) sz [.ref h0, .ref h8, .ref h11, .int p3, .ref h16] := by
  refine en_v (by decide) (Nat.le_of_ble_eq_true rfl) (fun p e s m args below meth c A ls C w hl => ?_)
  have C : Cx p s m args meth c RX0 m_X0_addVehicle g A := C
  have hx := C.1
  have hb : c.code = cX0_addVehicle := C.2.1
  have hl : lv_has ls 8 [(0, .ref h0), (1, .ref h8), (2, .ref h11), (3, .int p3), (4, .ref h16)] := hl
  obtain ⟨Q, hQ⟩ : ∃ Q, Q = QV below args s g A (fun _ => w_X0_addVehicle g h0 h1 h2 h3 h4 h5 h6 h7 h8 h9 h10 h11 h12 h13 h14 h15 h16 h17 v0_6 v0_7 v8_1 v8_2 v8_3 v8_4 v8_5 v8_6 v8_9 v8_10 v8_11 v8_12 v11_1 v11_3 v11_5 v11_6 v11_8 v11_9 v11_10 v11_11 o_trips0 o_invoices0 o_invoicePlate1 o_legPrice2 o_trip3 o_tripAxles4 o_tripInvoice5 o_tripLength6 vehicle7 gantries8 linkMinutes9 linkPrice10 count11 axleReadings12 gantry13 handAxles14 time15 o_links16 o_price16 o_stops17) 0 0 := ⟨_, rfl⟩
  suffices hW : W p l e (rml 4 0 0) s m args below meth c s.heap [] 0 0 Q (F0 m 0 ls []) from (by rw [hQ] at hW; exact hW)
  unfold f_X0_addVehicle at hf
  have L41 : ∀ (z : Int32 × Int32 × Int32 × Int32 × Int32 × (Nat → Int32) × (Nat → Int32) × (Nat → Int32) × (Nat → Int32) × (Nat → Int32) × (Nat → Int32) × Int32 × Int32 × (Nat → Int32)), f_X0_addVehicle_L41 F vehicle7 gantries8 linkMinutes9 linkPrice10 count11 axleReadings12 gantry13 handAxles14 time15 z = some (o_trips0, o_invoices0, o_invoicePlate1, o_legPrice2, o_trip3, o_tripAxles4, o_tripInvoice5, o_tripLength6, o_links16, o_price16, o_stops17) → ∀ (H : Heap) (locs : List Loc) (ls : Array Slot), Wd g A (w_X0_addVehicle g h0 h1 h2 h3 h4 h5 h6 h7 h8 h9 h10 h11 h12 h13 h14 h15 h16 h17 v0_6 v0_7 v8_1 v8_2 v8_3 v8_4 v8_5 v8_6 v8_9 v8_10 v8_11 v8_12 v11_1 v11_3 v11_5 v11_6 v11_8 v11_9 v11_10 v11_11 z.2.2.2.1 z.2.2.2.2.1 z.2.2.2.2.2.1 z.2.2.2.2.2.2.1 z.2.2.2.2.2.2.2.1 z.2.2.2.2.2.2.2.2.1 z.2.2.2.2.2.2.2.2.2.1 z.2.2.2.2.2.2.2.2.2.2.1 vehicle7 gantries8 linkMinutes9 linkPrice10 count11 axleReadings12 gantry13 handAxles14 time15 z.2.2.2.2.2.2.2.2.2.2.2.1 z.2.2.2.2.2.2.2.2.2.2.2.2.1 z.2.2.2.2.2.2.2.2.2.2.2.2.2) s.heap H locs → lv_has ls 8 [(0, .ref h0), (1, .ref h8), (2, .ref h11), (3, .int z.1), (4, .ref h16), (5, .int z.2.1), (6, .int z.2.2.1)] → W p l e (rml 4 0 0) s m args below meth c H locs 0 0 Q (F0 m 41 ls []) := by
    intro z hf
    refine lp_W (r := (o_trips0, o_invoices0, o_invoicePlate1, o_legPrice2, o_trip3, o_tripAxles4, o_tripInvoice5, o_tripLength6, o_links16, o_price16, o_stops17)) (fun (z : Int32 × Int32 × Int32 × Int32 × Int32 × (Nat → Int32) × (Nat → Int32) × (Nat → Int32) × (Nat → Int32) × (Nat → Int32) × (Nat → Int32) × Int32 × Int32 × (Nat → Int32)) => ∀ (H : Heap) (locs : List Loc) (ls : Array Slot), Wd g A (w_X0_addVehicle g h0 h1 h2 h3 h4 h5 h6 h7 h8 h9 h10 h11 h12 h13 h14 h15 h16 h17 v0_6 v0_7 v8_1 v8_2 v8_3 v8_4 v8_5 v8_6 v8_9 v8_10 v8_11 v8_12 v11_1 v11_3 v11_5 v11_6 v11_8 v11_9 v11_10 v11_11 z.2.2.2.1 z.2.2.2.2.1 z.2.2.2.2.2.1 z.2.2.2.2.2.2.1 z.2.2.2.2.2.2.2.1 z.2.2.2.2.2.2.2.2.1 z.2.2.2.2.2.2.2.2.2.1 z.2.2.2.2.2.2.2.2.2.2.1 vehicle7 gantries8 linkMinutes9 linkPrice10 count11 axleReadings12 gantry13 handAxles14 time15 z.2.2.2.2.2.2.2.2.2.2.2.1 z.2.2.2.2.2.2.2.2.2.2.2.2.1 z.2.2.2.2.2.2.2.2.2.2.2.2.2) s.heap H locs → lv_has ls 8 [(0, .ref h0), (1, .ref h8), (2, .ref h11), (3, .int z.1), (4, .ref h16), (5, .int z.2.1), (6, .int z.2.2.1)] → W p l e (rml 4 0 0) s m args below meth c H locs 0 0 Q (F0 m 41 ls [])) (fun k41 z ih41 hf => ?_) F z hf
    obtain ⟨x3, x5, x6, trips0, invoices0, invoicePlate1, legPrice2, trip3, tripAxles4, tripInvoice5, tripLength6, links16, price16, stops17⟩ := z
    intro H locs ls w hl
    try dsimp only at hf w hl ⊢
    unfold f_X0_addVehicle_h41 at hf
    have b147 : ∀ (x3 x5 x6 trips0 invoices0 : Int32) (invoicePlate1 legPrice2 trip3 tripAxles4 tripInvoice5 tripLength6 : Nat → Int32) (links16 price16 : Int32) (stops17 : Nat → Int32) (H : Heap) (locs : List Loc) (ls : Array Slot), f_X0_addVehicle_b147 F k41 vehicle7 gantries8 linkMinutes9 linkPrice10 count11 axleReadings12 gantry13 handAxles14 time15 x3 x5 x6 trips0 invoices0 invoicePlate1 legPrice2 trip3 tripAxles4 tripInvoice5 tripLength6 links16 price16 stops17 = some (o_trips0, o_invoices0, o_invoicePlate1, o_legPrice2, o_trip3, o_tripAxles4, o_tripInvoice5, o_tripLength6, o_links16, o_price16, o_stops17) → Wd g A (w_X0_addVehicle g h0 h1 h2 h3 h4 h5 h6 h7 h8 h9 h10 h11 h12 h13 h14 h15 h16 h17 v0_6 v0_7 v8_1 v8_2 v8_3 v8_4 v8_5 v8_6 v8_9 v8_10 v8_11 v8_12 v11_1 v11_3 v11_5 v11_6 v11_8 v11_9 v11_10 v11_11 trips0 invoices0 invoicePlate1 legPrice2 trip3 tripAxles4 tripInvoice5 tripLength6 vehicle7 gantries8 linkMinutes9 linkPrice10 count11 axleReadings12 gantry13 handAxles14 time15 links16 price16 stops17) s.heap H locs → lv_has ls 8 [(0, .ref h0), (1, .ref h8), (2, .ref h11), (3, .int x3), (4, .ref h16), (5, .int x5), (6, .int x6)] → W p l e (rml 4 0 0) s m args below meth c H locs 0 0 Q (F0 m 147 ls []) := by
      intro x3 x5 x6 trips0 invoices0 invoicePlate1 legPrice2 trip3 tripAxles4 tripInvoice5 tripLength6 links16 price16 stops17 H locs ls hf w hl
      unfold f_X0_addVehicle_b147 at hf
      refine lv_iinc (v := x6 + 1) (lv' := [(6, .int (x6 + 1)), (0, .ref h0), (1, .ref h8), (2, .ref h11), (3, .int x3), (4, .ref h16), (5, .int x5)]) hx hb dX0_addVehicle_147 hl (k := 6) rfl rfl (by decide) rfl (fun ls hl => ?_)
      refine lv_goto (tgt := 41) hx hb dX0_addVehicle_150 (by decide) ?_
      exact ih41 (x3, x5, x6 + 1, trips0, invoices0, invoicePlate1, legPrice2, trip3, tripAxles4, tripInvoice5, tripLength6, links16, price16, stops17) hf _ _ _ w (lv_sub hl [1, 2, 3, 4, 5, 6, 0] rfl)
    have b131 : ∀ (x3 x6 trips0 invoices0 : Int32) (invoicePlate1 legPrice2 trip3 tripAxles4 tripInvoice5 tripLength6 : Nat → Int32) (links16 price16 : Int32) (stops17 : Nat → Int32) (H : Heap) (locs : List Loc) (ls : Array Slot), f_X0_addVehicle_b131 F k41 vehicle7 gantries8 linkMinutes9 linkPrice10 count11 axleReadings12 gantry13 handAxles14 time15 x3 x6 trips0 invoices0 invoicePlate1 legPrice2 trip3 tripAxles4 tripInvoice5 tripLength6 links16 price16 stops17 = some (o_trips0, o_invoices0, o_invoicePlate1, o_legPrice2, o_trip3, o_tripAxles4, o_tripInvoice5, o_tripLength6, o_links16, o_price16, o_stops17) → Wd g A (w_X0_addVehicle g h0 h1 h2 h3 h4 h5 h6 h7 h8 h9 h10 h11 h12 h13 h14 h15 h16 h17 v0_6 v0_7 v8_1 v8_2 v8_3 v8_4 v8_5 v8_6 v8_9 v8_10 v8_11 v8_12 v11_1 v11_3 v11_5 v11_6 v11_8 v11_9 v11_10 v11_11 trips0 invoices0 invoicePlate1 legPrice2 trip3 tripAxles4 tripInvoice5 tripLength6 vehicle7 gantries8 linkMinutes9 linkPrice10 count11 axleReadings12 gantry13 handAxles14 time15 links16 price16 stops17) s.heap H locs → lv_has ls 8 [(0, .ref h0), (1, .ref h8), (2, .ref h11), (3, .int x3), (4, .ref h16), (6, .int x6)] → W p l e (rml 4 0 0) s m args below meth c H locs 0 0 Q (F0 m 131 ls []) := by
      intro x3 x6 trips0 invoices0 invoicePlate1 legPrice2 trip3 tripAxles4 tripInvoice5 tripLength6 links16 price16 stops17 H locs ls hf w hl
      unfold f_X0_addVehicle_b131 at hf
      refine lv_aload_n hx hb dX0_addVehicle_131 rfl (lv_at hl 0 rfl) ?_
      refine lv_iload hx hb dX0_addVehicle_132 (lv_at hl 5 rfl) ?_
      refine lv_aload_n hx hb dX0_addVehicle_134 rfl (lv_at hl 2 rfl) ?_
      refine lv_iload hx hb dX0_addVehicle_135 (lv_at hl 5 rfl) ?_
      obtain ⟨r1, hc2, hf⟩ := bd1_some hf
      refine ca_iN C w (wn := fun _ => w_X0_addVehicle g h0 h1 h2 h3 h4 h5 h6 h7 h8 h9 h10 h11 h12 h13 h14 h15 h16 h17 v0_6 v0_7 v8_1 v8_2 v8_3 v8_4 v8_5 v8_6 v8_9 v8_10 v8_11 v8_12 v11_1 v11_3 v11_5 v11_6 v11_8 v11_9 v11_10 v11_11 trips0 invoices0 invoicePlate1 legPrice2 trip3 tripAxles4 tripInvoice5 tripLength6 vehicle7 gantries8 linkMinutes9 linkPrice10 count11 axleReadings12 gantry13 handAxles14 time15 links16 price16 stops17) (pm_k [false, false, false, false, false, false, false, false, false, false, false, true, true, false, true, false, false, false] rfl rfl (fun _ => Nat.le_of_ble_eq_true rfl) (fun _ => rfl)) (c_X6_axlesOf l g F h11 h12 h14 (.int count11) v11_1 (.ref h13) v11_3 (.ref h15) v11_5 v11_6 v11_8 v11_9 v11_10 v11_11 x6 axleReadings12 handAxles14 r1 _ hc2) k_X0_81 (rm_le (by decide) (by decide)) 11 6 rfl rfl rfl rfl hl.1 rfl (Nat.le_of_ble_eq_true rfl) dX0_addVehicle_137 ⟨Nat.le_of_ble_eq_true rfl, Nat.le_of_ble_eq_true rfl⟩ (cells2 := 0) (slots2 := 0) ⟨rfl, rfl⟩ (fun _ H locs w => ?_)
      obtain ⟨o3, o4, o5, o6, o7, hc8, hf⟩ := bd5_some hf
      refine ca_vV C w (wn := fun _ => w_X0_addVehicle g h0 h1 h2 h3 h4 h5 h6 h7 h8 h9 h10 h11 h12 h13 h14 h15 h16 h17 v0_6 v0_7 v8_1 v8_2 v8_3 v8_4 v8_5 v8_6 v8_9 v8_10 v8_11 v8_12 v11_1 v11_3 v11_5 v11_6 v11_8 v11_9 v11_10 v11_11 o3 invoices0 invoicePlate1 legPrice2 o4 o5 o6 o7 vehicle7 gantries8 linkMinutes9 linkPrice10 count11 axleReadings12 gantry13 handAxles14 time15 links16 price16 stops17) (pm_k [true, false, true, true, true, true, true, false, false, false, false, false, false, false, false, false, false, false] rfl rfl (fun _ => Nat.le_of_ble_eq_true rfl) (fun _ => rfl)) (c_X0_addPassage l g F h0 h2 h3 h4 h5 h6 (.ref h1) v0_6 v0_7 (.ref h7) x6 r1 trips0 invoices0 legPrice2 trip3 tripAxles4 tripInvoice5 tripLength6 o3 o4 o5 o6 o7 _ hc8) k_X0_85 (rm_le (by decide) (by decide)) 0 0 rfl rfl rfl rfl hl.1 rfl (Nat.le_of_ble_eq_true rfl) dX0_addVehicle_140 ⟨Nat.le_of_ble_eq_true rfl, Nat.le_of_ble_eq_true rfl⟩ (cells2 := 0) (slots2 := 0) ⟨rfl, rfl⟩ (fun _ H locs w => ?_)
      refine lv_iload hx hb dX0_addVehicle_143 (lv_at hl 5 rfl) ?_
      refine lv_istore (lv' := [(5, .int x6), (0, .ref h0), (1, .ref h8), (2, .ref h11), (3, .int x3), (4, .ref h16), (6, .int x6)]) hx hb dX0_addVehicle_145 hl (by decide) rfl (fun ls hl => ?_)
      exact b147 x3 x6 x6 o3 invoices0 invoicePlate1 legPrice2 o4 o5 o6 o7 links16 price16 stops17 _ _ _ hf w (lv_sub hl [1, 2, 3, 4, 5, 0, 6] rfl)
    refine lv_iload hx hb dX0_addVehicle_41 (lv_at hl 6 rfl) ?_
    refine lv_aload_n hx hb dX0_addVehicle_43 rfl (lv_at hl 2 rfl) ?_
    refine g_X0_46 C w 11 rfl rfl dX0_addVehicle_44 ?_
    refine lv_icmp_ge (tgt := 153) hx hb dX0_addVehicle_47 (by decide) (fun c9 => ?_) (fun c9 => ?_)
    · replace hf := it_t c9 hf
      obtain ⟨e1, e2, e3, e4, e5, e6, e7, e8, e9, e10, e11⟩ := tp11 hf
      rw [hQ]
      exact rt_v C w rfl (fun _ => 0) (by rw [← e1, ← e2, ← e3, ← e4, ← e5, ← e6, ← e7, ← e8, ← e9, ← e10, ← e11]) dX0_addVehicle_153
    · replace hf := it_f c9 hf
      refine lv_aload_n hx hb dX0_addVehicle_50 rfl (lv_at hl 0 rfl) ?_
      refine g_X0_37 C w 0 rfl rfl dX0_addVehicle_51 ?_
      refine lv_iload hx hb dX0_addVehicle_54 (lv_at hl 6 rfl) ?_
      obtain ⟨a10, hia10, haa10, hf⟩ := rd_some hf
      refine ial C w 7 rfl hia10 haa10 dX0_addVehicle_56 ?_
      refine lv_aload_n hx hb dX0_addVehicle_57 rfl (lv_at hl 0 rfl) ?_
      refine g_X0_37 C w 0 rfl rfl dX0_addVehicle_58 ?_
      refine lv_iload_n hx hb dX0_addVehicle_61 rfl (lv_at hl 3 rfl) ?_
      obtain ⟨a11, hia11, haa11, hf⟩ := rd_some hf
      refine ial C w 7 rfl hia11 haa11 dX0_addVehicle_62 ?_
      refine lv_icmp_ne (tgt := 147) hx hb dX0_addVehicle_63 (by decide) (fun c12 => ?_) (fun c12 => ?_)
      · replace hf := it_f c12 hf
        exact b147 x3 x5 x6 trips0 invoices0 invoicePlate1 legPrice2 trip3 tripAxles4 tripInvoice5 tripLength6 links16 price16 stops17 _ _ _ hf w (lv_sub hl [0, 1, 2, 3, 4, 5, 6] rfl)
      · replace hf := it_t c12 hf
        refine lv_aload_n hx hb dX0_addVehicle_66 rfl (lv_at hl 0 rfl) ?_
        refine g_X0_43 C w 0 rfl rfl dX0_addVehicle_67 ?_
        refine lv_iload hx hb dX0_addVehicle_70 (lv_at hl 6 rfl) ?_
        refine lv_iconst (v := -1) hx hb dX0_addVehicle_72 (by decide) ?_
        obtain ⟨f13, hif13, haf13, hf⟩ := wr_some hf
        refine ias C w 2 rfl hif13 haf13 (ws2 := w_X0_addVehicle g h0 h1 h2 h3 h4 h5 h6 h7 h8 h9 h10 h11 h12 h13 h14 h15 h16 h17 v0_6 v0_7 v8_1 v8_2 v8_3 v8_4 v8_5 v8_6 v8_9 v8_10 v8_11 v8_12 v11_1 v11_3 v11_5 v11_6 v11_8 v11_9 v11_10 v11_11 trips0 invoices0 invoicePlate1 f13 trip3 tripAxles4 tripInvoice5 tripLength6 vehicle7 gantries8 linkMinutes9 linkPrice10 count11 axleReadings12 gantry13 handAxles14 time15 links16 price16 stops17) rfl dX0_addVehicle_73 (fun H locs w => ?_)
        refine lv_iload hx hb dX0_addVehicle_74 (lv_at hl 5 rfl) ?_
        refine lv_iconst (v := -1) hx hb dX0_addVehicle_76 (by decide) ?_
        refine lv_icmp_eq (tgt := 131) hx hb dX0_addVehicle_77 (by decide) (fun c14 => ?_) (fun c14 => ?_)
        · replace hf := it_t c14 hf
          exact b131 x3 x6 trips0 invoices0 invoicePlate1 f13 trip3 tripAxles4 tripInvoice5 tripLength6 links16 price16 stops17 _ _ _ hf w (lv_sub hl [0, 1, 2, 3, 4, 6] rfl)
        · replace hf := it_f c14 hf
          refine lv_aload_n hx hb dX0_addVehicle_80 rfl (lv_at hl 2 rfl) ?_
          refine g_X0_54 C w 11 rfl rfl dX0_addVehicle_81 ?_
          refine lv_iload hx hb dX0_addVehicle_84 (lv_at hl 6 rfl) ?_
          obtain ⟨a15, hia15, haa15, hf⟩ := rd_some hf
          refine ial C w 15 rfl hia15 haa15 dX0_addVehicle_86 ?_
          refine lv_aload_n hx hb dX0_addVehicle_87 rfl (lv_at hl 2 rfl) ?_
          refine g_X0_54 C w 11 rfl rfl dX0_addVehicle_88 ?_
          refine lv_iload hx hb dX0_addVehicle_91 (lv_at hl 5 rfl) ?_
          obtain ⟨a16, hia16, haa16, hf⟩ := rd_some hf
          refine ial C w 15 rfl hia16 haa16 dX0_addVehicle_93 ?_
          refine lv_isub hx hb dX0_addVehicle_94 ?_
          refine lv_istore (lv' := [(7, .int (a15 - a16)), (0, .ref h0), (1, .ref h8), (2, .ref h11), (3, .int x3), (4, .ref h16), (5, .int x5), (6, .int x6)]) hx hb dX0_addVehicle_95 hl (by decide) rfl (fun ls hl => ?_)
          refine lv_aload hx hb dX0_addVehicle_97 (lv_at hl 5 rfl) ?_
          refine lv_aload_n hx hb dX0_addVehicle_99 rfl (lv_at hl 2 rfl) ?_
          refine lv_aload_n hx hb dX0_addVehicle_100 rfl (lv_at hl 3 rfl) ?_
          refine g_X0_69 C w 11 rfl rfl dX0_addVehicle_101 ?_
          refine lv_iload hx hb dX0_addVehicle_104 (lv_at hl 6 rfl) ?_
          obtain ⟨a17, hia17, haa17, hf⟩ := rd_some hf
          refine ial C w 13 rfl hia17 haa17 dX0_addVehicle_106 ?_
          refine lv_aload_n hx hb dX0_addVehicle_107 rfl (lv_at hl 3 rfl) ?_
          refine g_X0_69 C w 11 rfl rfl dX0_addVehicle_108 ?_
          refine lv_iload hx hb dX0_addVehicle_111 (lv_at hl 7 rfl) ?_
          obtain ⟨a18, hia18, haa18, hf⟩ := rd_some hf
          refine ial C w 13 rfl hia18 haa18 dX0_addVehicle_113 ?_
          refine lv_iload hx hb dX0_addVehicle_114 (lv_at hl 0 rfl) ?_
          obtain ⟨o19, o20, o21, hc22, hf⟩ := bd3_some hf
          refine ca_vN C w (wn := fun _ => w_X0_addVehicle g h0 h1 h2 h3 h4 h5 h6 h7 h8 h9 h10 h11 h12 h13 h14 h15 h16 h17 v0_6 v0_7 v8_1 v8_2 v8_3 v8_4 v8_5 v8_6 v8_9 v8_10 v8_11 v8_12 v11_1 v11_3 v11_5 v11_6 v11_8 v11_9 v11_10 v11_11 trips0 invoices0 invoicePlate1 f13 trip3 tripAxles4 tripInvoice5 tripLength6 vehicle7 gantries8 linkMinutes9 linkPrice10 count11 axleReadings12 gantry13 handAxles14 time15 o19 o20 o21) (pm_q 18 18 [16, 17, 8, 9, 10] [0, 1, 2, 3, 4, 5, 6, 7, 11, 12, 13, 14, 15] [0, 1, 2, 3, 4, 5, 6, 7, 15, 16, 17, 8, 9, 10, 11, 12, 13, 14] rfl (by decide +kernel) rfl (fun _ => rfl) (by decide +kernel) (fun _ => rfl)) (c_X7_find l g F h16 h17 h8 h9 h10 v8_1 v8_2 v8_3 v8_4 v8_5 v8_6 v8_9 v8_10 v8_11 v8_12 a17 a18 (a15 - a16) links16 price16 stops17 gantries8 linkMinutes9 linkPrice10 o19 o20 o21 _ hc22) k_X0_72 (rm_le (by decide) (by decide)) 16 7 rfl rfl rfl rfl hl.1 rfl (Nat.le_of_ble_eq_true rfl) dX0_addVehicle_116 ⟨Nat.le_of_ble_eq_true rfl, Nat.le_of_ble_eq_true rfl⟩ (cells2 := 0) (slots2 := 0) ⟨rfl, rfl⟩ (fun _ H locs w => ?_)
          refine lv_aload_n hx hb dX0_addVehicle_119 rfl (lv_at hl 1 rfl) ?_
          refine g_X0_43 C w 0 rfl rfl dX0_addVehicle_120 ?_
          refine lv_iload hx hb dX0_addVehicle_123 (lv_at hl 7 rfl) ?_
          refine lv_aload hx hb dX0_addVehicle_125 (lv_at hl 5 rfl) ?_
          refine g_X0_78 C w 16 rfl rfl dX0_addVehicle_127 ?_
          obtain ⟨f23, hif23, haf23, hf⟩ := wr_some hf
          refine ias C w 2 rfl hif23 haf23 (ws2 := w_X0_addVehicle g h0 h1 h2 h3 h4 h5 h6 h7 h8 h9 h10 h11 h12 h13 h14 h15 h16 h17 v0_6 v0_7 v8_1 v8_2 v8_3 v8_4 v8_5 v8_6 v8_9 v8_10 v8_11 v8_12 v11_1 v11_3 v11_5 v11_6 v11_8 v11_9 v11_10 v11_11 trips0 invoices0 invoicePlate1 f23 trip3 tripAxles4 tripInvoice5 tripLength6 vehicle7 gantries8 linkMinutes9 linkPrice10 count11 axleReadings12 gantry13 handAxles14 time15 o19 o20 o21) rfl dX0_addVehicle_130 (fun H locs w => ?_)
          exact b131 x3 x6 trips0 invoices0 invoicePlate1 f23 trip3 tripAxles4 tripInvoice5 tripLength6 o19 o20 o21 _ _ _ hf w (lv_sub hl [1, 2, 3, 4, 5, 7] rfl)
  refine lv_aload_n hx hb dX0_addVehicle_0 rfl (lv_at hl 0 rfl) ?_
  refine g_X0_15 C w 0 rfl rfl dX0_addVehicle_1 ?_
  refine lv_bipush (v := 80) hx hb dX0_addVehicle_4 (by decide) ?_
  refine lv_icmp_lt (tgt := 10) hx hb dX0_addVehicle_6 (by decide) (fun c24 => ?_) (fun c24 => ?_)
  · replace hf := it_t c24 hf
    refine lv_aload_n hx hb dX0_addVehicle_10 rfl (lv_at hl 0 rfl) ?_
    refine g_X0_18 C w 0 rfl rfl dX0_addVehicle_11 ?_
    refine lv_aload_n hx hb dX0_addVehicle_14 rfl (lv_at hl 0 rfl) ?_
    refine g_X0_15 C w 0 rfl rfl dX0_addVehicle_15 ?_
    refine lv_aload_n hx hb dX0_addVehicle_18 rfl (lv_at hl 0 rfl) ?_
    refine g_X0_37 C w 0 rfl rfl dX0_addVehicle_19 ?_
    refine lv_iload_n hx hb dX0_addVehicle_22 rfl (lv_at hl 3 rfl) ?_
    obtain ⟨a25, hia25, haa25, hf⟩ := rd_some hf
    refine ial C w 7 rfl hia25 haa25 dX0_addVehicle_23 ?_
    obtain ⟨f26, hif26, haf26, hf⟩ := wr_some hf
    refine ias C w 1 rfl hif26 haf26 (ws2 := w_X0_addVehicle g h0 h1 h2 h3 h4 h5 h6 h7 h8 h9 h10 h11 h12 h13 h14 h15 h16 h17 v0_6 v0_7 v8_1 v8_2 v8_3 v8_4 v8_5 v8_6 v8_9 v8_10 v8_11 v8_12 v11_1 v11_3 v11_5 v11_6 v11_8 v11_9 v11_10 v11_11 trips0 invoices0 f26 legPrice2 trip3 tripAxles4 tripInvoice5 tripLength6 vehicle7 gantries8 linkMinutes9 linkPrice10 count11 axleReadings12 gantry13 handAxles14 time15 links16 price16 stops17) rfl dX0_addVehicle_24 (fun H locs w => ?_)
    refine lv_aload_n hx hb dX0_addVehicle_25 rfl (lv_at hl 0 rfl) ?_
    refine lv_dup hx hb dX0_addVehicle_26 rfl ?_
    refine g_X0_15 C w 0 rfl rfl dX0_addVehicle_27 ?_
    refine lv_iconst (v := 1) hx hb dX0_addVehicle_30 (by decide) ?_
    refine lv_iadd hx hb dX0_addVehicle_31 ?_
    refine p_X0_15 C w 0 rfl (Nat.le_of_ble_eq_true rfl) (ws2 := w_X0_addVehicle g h0 h1 h2 h3 h4 h5 h6 h7 h8 h9 h10 h11 h12 h13 h14 h15 h16 h17 v0_6 v0_7 v8_1 v8_2 v8_3 v8_4 v8_5 v8_6 v8_9 v8_10 v8_11 v8_12 v11_1 v11_3 v11_5 v11_6 v11_8 v11_9 v11_10 v11_11 trips0 (invoices0 + 1) f26 legPrice2 trip3 tripAxles4 tripInvoice5 tripLength6 vehicle7 gantries8 linkMinutes9 linkPrice10 count11 axleReadings12 gantry13 handAxles14 time15 links16 price16 stops17) rfl dX0_addVehicle_32 (fun H locs w => ?_)
    refine lv_iconst (v := -1) hx hb dX0_addVehicle_35 (by decide) ?_
    refine lv_istore (lv' := [(5, .int (-1)), (0, .ref h0), (1, .ref h8), (2, .ref h11), (3, .int p3), (4, .ref h16)]) hx hb dX0_addVehicle_36 hl (by decide) rfl (fun ls hl => ?_)
    refine lv_iload_n hx hb dX0_addVehicle_38 rfl (lv_at hl 4 rfl) ?_
    refine lv_istore (lv' := [(6, .int p3), (5, .int (-1)), (0, .ref h0), (1, .ref h8), (2, .ref h11), (3, .int p3), (4, .ref h16)]) hx hb dX0_addVehicle_39 hl (by decide) rfl (fun ls hl => ?_)
    exact L41 (p3, (-1), p3, trips0, invoices0 + 1, f26, legPrice2, trip3, tripAxles4, tripInvoice5, tripLength6, links16, price16, stops17) hf _ _ _ w (lv_sub hl [2, 3, 4, 5, 6, 1, 0] rfl)
  · replace hf := it_f c24 hf
    obtain ⟨e1, e2, e3, e4, e5, e6, e7, e8, e9, e10, e11⟩ := tp11 hf
    rw [hQ]
    exact rt_v C w rfl (fun _ => 0) (by rw [← e1, ← e2, ← e3, ← e4, ← e5, ← e6, ← e7, ← e8, ← e9, ← e10, ← e11]) dX0_addVehicle_9

theorem dX0_priceTrips_0 : decode cX0_priceTrips 0 = .ok (.iconst 0, 1) := by decide +kernel
theorem dX0_priceTrips_1 : decode cX0_priceTrips 1 = .ok (.istore_n 3, 1) := by decide +kernel
theorem dX0_priceTrips_2 : decode cX0_priceTrips 2 = .ok (.iload_n 3, 1) := by decide +kernel
theorem dX0_priceTrips_3 : decode cX0_priceTrips 3 = .ok (.aload_n 0, 1) := by decide +kernel
theorem dX0_priceTrips_4 : decode cX0_priceTrips 4 = .ok (.getfield 9, 3) := by decide +kernel
theorem dX0_priceTrips_7 : decode cX0_priceTrips 7 = .ok (.if_icmp .ge 59, 3) := by decide +kernel
theorem dX0_priceTrips_10 : decode cX0_priceTrips 10 = .ok (.aload_n 0, 1) := by decide +kernel
theorem dX0_priceTrips_11 : decode cX0_priceTrips 11 = .ok (.getfield 25, 3) := by decide +kernel
theorem dX0_priceTrips_14 : decode cX0_priceTrips 14 = .ok (.iload_n 3, 1) := by decide +kernel
theorem dX0_priceTrips_15 : decode cX0_priceTrips 15 = .ok (.iaload, 1) := by decide +kernel
theorem dX0_priceTrips_16 : decode cX0_priceTrips 16 = .ok (.istore 4, 2) := by decide +kernel
theorem dX0_priceTrips_18 : decode cX0_priceTrips 18 = .ok (.iload 4, 2) := by decide +kernel
theorem dX0_priceTrips_20 : decode cX0_priceTrips 20 = .ok (.iconst (-1), 1) := by decide +kernel
theorem dX0_priceTrips_21 : decode cX0_priceTrips 21 = .ok (.if_icmp .ne 20, 3) := by decide +kernel
theorem dX0_priceTrips_24 : decode cX0_priceTrips 24 = .ok (.aload_n 1, 1) := by decide +kernel
theorem dX0_priceTrips_25 : decode cX0_priceTrips 25 = .ok (.aload_n 0, 1) := by decide +kernel
theorem dX0_priceTrips_26 : decode cX0_priceTrips 26 = .ok (.getfield 18, 3) := by decide +kernel
theorem dX0_priceTrips_29 : decode cX0_priceTrips 29 = .ok (.aload_n 0, 1) := by decide +kernel
theorem dX0_priceTrips_30 : decode cX0_priceTrips 30 = .ok (.getfield 22, 3) := by decide +kernel
theorem dX0_priceTrips_33 : decode cX0_priceTrips 33 = .ok (.iload_n 3, 1) := by decide +kernel
theorem dX0_priceTrips_34 : decode cX0_priceTrips 34 = .ok (.iaload, 1) := by decide +kernel
theorem dX0_priceTrips_35 : decode cX0_priceTrips 35 = .ok (.iaload, 1) := by decide +kernel
theorem dX0_priceTrips_36 : decode cX0_priceTrips 36 = .ok (.invokevirtual 95, 3) := by decide +kernel
theorem dX0_priceTrips_39 : decode cX0_priceTrips 39 = .ok (.istore 4, 2) := by decide +kernel
theorem dX0_priceTrips_41 : decode cX0_priceTrips 41 = .ok (.aload_n 0, 1) := by decide +kernel
theorem dX0_priceTrips_42 : decode cX0_priceTrips 42 = .ok (.getfield 31, 3) := by decide +kernel
theorem dX0_priceTrips_45 : decode cX0_priceTrips 45 = .ok (.iload_n 3, 1) := by decide +kernel
theorem dX0_priceTrips_46 : decode cX0_priceTrips 46 = .ok (.aload_n 1, 1) := by decide +kernel
theorem dX0_priceTrips_47 : decode cX0_priceTrips 47 = .ok (.iload 4, 2) := by decide +kernel
theorem dX0_priceTrips_49 : decode cX0_priceTrips 49 = .ok (.invokevirtual 100, 3) := by decide +kernel
theorem dX0_priceTrips_52 : decode cX0_priceTrips 52 = .ok (.iastore, 1) := by decide +kernel
theorem dX0_priceTrips_53 : decode cX0_priceTrips 53 = .ok (.aload_n 0, 1) := by decide +kernel
theorem dX0_priceTrips_54 : decode cX0_priceTrips 54 = .ok (.getfield 34, 3) := by decide +kernel
theorem dX0_priceTrips_57 : decode cX0_priceTrips 57 = .ok (.iload_n 3, 1) := by decide +kernel
theorem dX0_priceTrips_58 : decode cX0_priceTrips 58 = .ok (.iconst 0, 1) := by decide +kernel
theorem dX0_priceTrips_59 : decode cX0_priceTrips 59 = .ok (.iastore, 1) := by decide +kernel
theorem dX0_priceTrips_60 : decode cX0_priceTrips 60 = .ok (.iinc 3 1, 3) := by decide +kernel
theorem dX0_priceTrips_63 : decode cX0_priceTrips 63 = .ok (.goto (-61), 3) := by decide +kernel
theorem dX0_priceTrips_66 : decode cX0_priceTrips 66 = .ok (.iconst 0, 1) := by decide +kernel
theorem dX0_priceTrips_67 : decode cX0_priceTrips 67 = .ok (.istore_n 3, 1) := by decide +kernel
theorem dX0_priceTrips_68 : decode cX0_priceTrips 68 = .ok (.iload_n 3, 1) := by decide +kernel
theorem dX0_priceTrips_69 : decode cX0_priceTrips 69 = .ok (.aload_n 2, 1) := by decide +kernel
theorem dX0_priceTrips_70 : decode cX0_priceTrips 70 = .ok (.getfield 46, 3) := by decide +kernel
theorem dX0_priceTrips_73 : decode cX0_priceTrips 73 = .ok (.if_icmp .ge 87, 3) := by decide +kernel
theorem dX0_priceTrips_76 : decode cX0_priceTrips 76 = .ok (.aload_n 0, 1) := by decide +kernel
theorem dX0_priceTrips_77 : decode cX0_priceTrips 77 = .ok (.getfield 40, 3) := by decide +kernel
theorem dX0_priceTrips_80 : decode cX0_priceTrips 80 = .ok (.iload_n 3, 1) := by decide +kernel
theorem dX0_priceTrips_81 : decode cX0_priceTrips 81 = .ok (.iaload, 1) := by decide +kernel
theorem dX0_priceTrips_82 : decode cX0_priceTrips 82 = .ok (.istore 4, 2) := by decide +kernel
theorem dX0_priceTrips_84 : decode cX0_priceTrips 84 = .ok (.iload 4, 2) := by decide +kernel
theorem dX0_priceTrips_86 : decode cX0_priceTrips 86 = .ok (.iconst (-1), 1) := by decide +kernel
theorem dX0_priceTrips_87 : decode cX0_priceTrips 87 = .ok (.if_icmp .eq 67, 3) := by decide +kernel
theorem dX0_priceTrips_90 : decode cX0_priceTrips 90 = .ok (.aload_n 0, 1) := by decide +kernel
theorem dX0_priceTrips_91 : decode cX0_priceTrips 91 = .ok (.getfield 43, 3) := by decide +kernel
theorem dX0_priceTrips_94 : decode cX0_priceTrips 94 = .ok (.iload_n 3, 1) := by decide +kernel
theorem dX0_priceTrips_95 : decode cX0_priceTrips 95 = .ok (.iaload, 1) := by decide +kernel
theorem dX0_priceTrips_96 : decode cX0_priceTrips 96 = .ok (.istore 5, 2) := by decide +kernel
theorem dX0_priceTrips_98 : decode cX0_priceTrips 98 = .ok (.iload 5, 2) := by decide +kernel
theorem dX0_priceTrips_100 : decode cX0_priceTrips 100 = .ok (.iconst (-1), 1) := by decide +kernel
theorem dX0_priceTrips_101 : decode cX0_priceTrips 101 = .ok (.if_icmp .ne 30, 3) := by decide +kernel
theorem dX0_priceTrips_104 : decode cX0_priceTrips 104 = .ok (.aload_n 0, 1) := by decide +kernel
theorem dX0_priceTrips_105 : decode cX0_priceTrips 105 = .ok (.getfield 28, 3) := by decide +kernel
theorem dX0_priceTrips_108 : decode cX0_priceTrips 108 = .ok (.iload 4, 2) := by decide +kernel
theorem dX0_priceTrips_110 : decode cX0_priceTrips 110 = .ok (.iaload, 1) := by decide +kernel
theorem dX0_priceTrips_111 : decode cX0_priceTrips 111 = .ok (.iconst 1, 1) := by decide +kernel
theorem dX0_priceTrips_112 : decode cX0_priceTrips 112 = .ok (.if_icmp .ne 16, 3) := by decide +kernel
theorem dX0_priceTrips_115 : decode cX0_priceTrips 115 = .ok (.aload_n 1, 1) := by decide +kernel
theorem dX0_priceTrips_116 : decode cX0_priceTrips 116 = .ok (.aload_n 2, 1) := by decide +kernel
theorem dX0_priceTrips_117 : decode cX0_priceTrips 117 = .ok (.getfield 69, 3) := by decide +kernel
theorem dX0_priceTrips_120 : decode cX0_priceTrips 120 = .ok (.iload_n 3, 1) := by decide +kernel
theorem dX0_priceTrips_121 : decode cX0_priceTrips 121 = .ok (.iaload, 1) := by decide +kernel
theorem dX0_priceTrips_122 : decode cX0_priceTrips 122 = .ok (.invokevirtual 103, 3) := by decide +kernel
theorem dX0_priceTrips_125 : decode cX0_priceTrips 125 = .ok (.goto 4, 3) := by decide +kernel
theorem dX0_priceTrips_128 : decode cX0_priceTrips 128 = .ok (.iconst 0, 1) := by decide +kernel
theorem dX0_priceTrips_129 : decode cX0_priceTrips 129 = .ok (.istore 5, 2) := by decide +kernel
theorem dX0_priceTrips_131 : decode cX0_priceTrips 131 = .ok (.aload_n 0, 1) := by decide +kernel
theorem dX0_priceTrips_132 : decode cX0_priceTrips 132 = .ok (.getfield 34, 3) := by decide +kernel
theorem dX0_priceTrips_135 : decode cX0_priceTrips 135 = .ok (.iload 4, 2) := by decide +kernel
theorem dX0_priceTrips_137 : decode cX0_priceTrips 137 = .ok (.dup2, 1) := by decide +kernel
theorem dX0_priceTrips_138 : decode cX0_priceTrips 138 = .ok (.iaload, 1) := by decide +kernel
theorem dX0_priceTrips_139 : decode cX0_priceTrips 139 = .ok (.aload_n 1, 1) := by decide +kernel
theorem dX0_priceTrips_140 : decode cX0_priceTrips 140 = .ok (.iload 5, 2) := by decide +kernel
theorem dX0_priceTrips_142 : decode cX0_priceTrips 142 = .ok (.aload_n 0, 1) := by decide +kernel
theorem dX0_priceTrips_143 : decode cX0_priceTrips 143 = .ok (.getfield 31, 3) := by decide +kernel
theorem dX0_priceTrips_146 : decode cX0_priceTrips 146 = .ok (.iload 4, 2) := by decide +kernel
theorem dX0_priceTrips_148 : decode cX0_priceTrips 148 = .ok (.iaload, 1) := by decide +kernel
theorem dX0_priceTrips_149 : decode cX0_priceTrips 149 = .ok (.invokevirtual 106, 3) := by decide +kernel
theorem dX0_priceTrips_152 : decode cX0_priceTrips 152 = .ok (.iadd, 1) := by decide +kernel
theorem dX0_priceTrips_153 : decode cX0_priceTrips 153 = .ok (.iastore, 1) := by decide +kernel
theorem dX0_priceTrips_154 : decode cX0_priceTrips 154 = .ok (.iinc 3 1, 3) := by decide +kernel
theorem dX0_priceTrips_157 : decode cX0_priceTrips 157 = .ok (.goto (-89), 3) := by decide +kernel
theorem dX0_priceTrips_160 : decode cX0_priceTrips 160 = .ok (.return_, 1) := by decide +kernel
abbrev m_X0_priceTrips : MD := (yX0_priceTrips, cX0_priceTrips, 6, none)
theorem g_X0_34 {p : Program} {l : Launch} {e : Env} {R : Room} {s : State} {m : MethodId} {args : Array Value} {below : List Frame} {meth : Method} {c : Code} {H : Heap} {locs : List Loc} {cells slots : Nat} {Q : State → Prop} {d : MD} {g : GT} {A : Nat → Prop} {ws : va_W} {pc : Nat} {ls : Array Slot} {rest : List Value} (C : Cx p s m args meth c RX0 d g A) (w : Wd g A ws s.heap H locs) (q0 : Nat) {a : Nat} {fs : List Value} {v : Value} (he : ws[q0]? = some (a, .inr (0, fs))) (hv : fs[7]? = some v) (hd : decode d.2.1 pc = .ok (.getfield 34, 3)) (kk : W p l e R s m args below meth c H locs cells slots Q (F0 m (pc + 3) ls (v :: rest))) : W p l e R s m args below meth c H locs cells slots Q (F0 m pc ls (.ref a :: rest)) := fg C w inX0s (ref := RX0) rfl 7 (by decide) (ts_t (w := Cond.fieldLink RX0 34 RX0 (TX0 7).2.1 (TX0 7).2.2.1) 172 (by decide +kernel) (by decide +kernel)) rfl q0 he hv hd kk
theorem g_X0_31 {p : Program} {l : Launch} {e : Env} {R : Room} {s : State} {m : MethodId} {args : Array Value} {below : List Frame} {meth : Method} {c : Code} {H : Heap} {locs : List Loc} {cells slots : Nat} {Q : State → Prop} {d : MD} {g : GT} {A : Nat → Prop} {ws : va_W} {pc : Nat} {ls : Array Slot} {rest : List Value} (C : Cx p s m args meth c RX0 d g A) (w : Wd g A ws s.heap H locs) (q0 : Nat) {a : Nat} {fs : List Value} {v : Value} (he : ws[q0]? = some (a, .inr (0, fs))) (hv : fs[6]? = some v) (hd : decode d.2.1 pc = .ok (.getfield 31, 3)) (kk : W p l e R s m args below meth c H locs cells slots Q (F0 m (pc + 3) ls (v :: rest))) : W p l e R s m args below meth c H locs cells slots Q (F0 m pc ls (.ref a :: rest)) := fg C w inX0s (ref := RX0) rfl 6 (by decide) (ts_t (w := Cond.fieldLink RX0 31 RX0 (TX0 6).2.1 (TX0 6).2.2.1) 171 (by decide +kernel) (by decide +kernel)) rfl q0 he hv hd kk
theorem q_970 : Cond.code yX4_priceForClass cX4_priceForClass 4 (some .int) ∈ TS := ts_t 970 (by decide +kernel) (by decide +kernel)
theorem q_969 : Cond.instanceMethod yX4_priceForClass ∈ TS := ts_t 969 (by decide +kernel) (by decide +kernel)
theorem qs_65 : Cond.selects yX4_priceForClass.cls yX4_priceForClass yX4_priceForClass ∈ TS := ts_s 65 (by decide +kernel) (by decide +kernel)
theorem k_X0_106 : LkN RX0 106 m_X4_priceForClass 2 := ⟨⟨"FreeFlowToll", nw_t 967 (by decide +kernel) rfl⟩, q_969, qs_65, ⟨q_2, q_970, by decide, by decide, by decide +kernel⟩⟩
theorem q_962 : Cond.code yX4_lowestPriceAt cX4_lowestPriceAt 4 (some .int) ∈ TS := ts_t 962 (by decide +kernel) (by decide +kernel)
theorem q_961 : Cond.instanceMethod yX4_lowestPriceAt ∈ TS := ts_t 961 (by decide +kernel) (by decide +kernel)
theorem qs_64 : Cond.selects yX4_lowestPriceAt.cls yX4_lowestPriceAt yX4_lowestPriceAt ∈ TS := ts_s 64 (by decide +kernel) (by decide +kernel)
theorem k_X0_103 : LkN RX0 103 m_X4_lowestPriceAt 1 := ⟨⟨"FreeFlowToll", nw_t 959 (by decide +kernel) rfl⟩, q_961, qs_64, ⟨q_2, q_962, by decide, by decide, by decide +kernel⟩⟩
theorem k_X0_100 : LkN RX0 100 m_X4_classFor 1 := ⟨⟨"FreeFlowToll", nw_t 958 (by decide +kernel) rfl⟩, q_442, qs_10, ⟨q_2, q_443, by decide, by decide, by decide +kernel⟩⟩
theorem k_X0_95 : LkN RX0 95 m_X4_axlesOfVehicle 1 := ⟨⟨"FreeFlowToll", nw_t 957 (by decide +kernel) rfl⟩, q_446, qs_11, ⟨q_2, q_447, by decide, by decide, by decide +kernel⟩⟩
abbrev w_X0_priceTrips (g : GT) (h0 h1 h2 h3 h4 h5 h6 h7 h8 h9 h10 h11 h12 h13 h14 h15 h16 : Nat) (v0_1 v0_8 v9_1 v9_4 v9_5 v9_6 v9_7 v15_1 v15_3 v15_4 v15_5 v15_6 v15_7 v15_8 v15_9 v15_10 v15_11 v15_12 : Value) (trips0 : Int32) (invoicePlate1 legPrice2 trip3 tripAxles4 tripCents5 tripClassNumber6 tripInvoice7 tripLength8 : Nat → Int32) (gantries9 classes9 tags9 : Int32) (classAxles10 classPercent11 linkPrice12 tagAxles13 tagPlate14 : Nat → Int32) (count15 : Int32) (gantry16 : Nat → Int32) : va_W := [(h0, .inr (0, [.int trips0, v0_1, .ref h1, .ref h7, .ref h4, .ref h8, .ref h6, .ref h5, v0_8, .ref h3, .ref h2])), (h1, aI g 80 invoicePlate1), (h2, aI g 80 legPrice2), (h3, aI g 80 trip3), (h4, aI g 80 tripAxles4), (h5, aI g 80 tripCents5), (h6, aI g 80 tripClassNumber6), (h7, aI g 80 tripInvoice7), (h8, aI g 80 tripLength8), (h9, .inr (4, [.int gantries9, v9_1, .int classes9, .int tags9, v9_4, v9_5, v9_6, v9_7, .ref h12, .ref h10, .ref h11, .ref h14, .ref h13])), (h10, aI g 4 classAxles10), (h11, aI g 4 classPercent11), (h12, aI g 100 linkPrice12), (h13, aI g 12 tagAxles13), (h14, aI g 12 tagPlate14), (h15, .inr (6, [.int count15, v15_1, .ref h16, v15_3, v15_4, v15_5, v15_6, v15_7, v15_8, v15_9, v15_10, v15_11, v15_12])), (h16, aI g 80 gantry16)]
def f_X0_priceTrips_b154 (F : Nat) (k68 : (Int32 × (Nat → Int32) × (Nat → Int32)) → Option ((Nat → Int32) × (Nat → Int32))) (trips0 : Int32) (invoicePlate1 legPrice2 trip3 tripAxles4 tripInvoice7 tripLength8 : Nat → Int32) (gantries9 classes9 tags9 : Int32) (classAxles10 classPercent11 linkPrice12 tagAxles13 tagPlate14 : Nat → Int32) (count15 : Int32) (gantry16 : Nat → Int32) (x3 : Int32) (tripCents5 tripClassNumber6 : Nat → Int32) : Option ((Nat → Int32) × (Nat → Int32)) :=
  k68 (x3 + 1, tripCents5, tripClassNumber6)
def f_X0_priceTrips_b131 (F : Nat) (k68 : (Int32 × (Nat → Int32) × (Nat → Int32)) → Option ((Nat → Int32) × (Nat → Int32))) (trips0 : Int32) (invoicePlate1 legPrice2 trip3 tripAxles4 tripInvoice7 tripLength8 : Nat → Int32) (gantries9 classes9 tags9 : Int32) (classAxles10 classPercent11 linkPrice12 tagAxles13 tagPlate14 : Nat → Int32) (count15 : Int32) (gantry16 : Nat → Int32) (x3 x4 x5 : Int32) (tripCents5 tripClassNumber6 : Nat → Int32) : Option ((Nat → Int32) × (Nat → Int32)) :=
  rd tripCents5 80 x4 fun a1 =>
  rd tripClassNumber6 80 x4 fun a2 =>
  bd1 (f_X4_priceForClass F x5 a2 classes9 classPercent11) fun r3 =>
  wr tripCents5 80 x4 (a1 + r3) fun f5 =>
  f_X0_priceTrips_b154 F k68 trips0 invoicePlate1 legPrice2 trip3 tripAxles4 tripInvoice7 tripLength8 gantries9 classes9 tags9 classAxles10 classPercent11 linkPrice12 tagAxles13 tagPlate14 count15 gantry16 x3 f5 tripClassNumber6
def f_X0_priceTrips_b129 (F : Nat) (k68 : (Int32 × (Nat → Int32) × (Nat → Int32)) → Option ((Nat → Int32) × (Nat → Int32))) (trips0 : Int32) (invoicePlate1 legPrice2 trip3 tripAxles4 tripInvoice7 tripLength8 : Nat → Int32) (gantries9 classes9 tags9 : Int32) (classAxles10 classPercent11 linkPrice12 tagAxles13 tagPlate14 : Nat → Int32) (count15 : Int32) (gantry16 : Nat → Int32) (x3 x4 s0 : Int32) (tripCents5 tripClassNumber6 : Nat → Int32) : Option ((Nat → Int32) × (Nat → Int32)) :=
  f_X0_priceTrips_b131 F k68 trips0 invoicePlate1 legPrice2 trip3 tripAxles4 tripInvoice7 tripLength8 gantries9 classes9 tags9 classAxles10 classPercent11 linkPrice12 tagAxles13 tagPlate14 count15 gantry16 x3 x4 s0 tripCents5 tripClassNumber6
def f_X0_priceTrips_h68 (F : Nat) (trips0 : Int32) (invoicePlate1 legPrice2 trip3 tripAxles4 tripInvoice7 tripLength8 : Nat → Int32) (gantries9 classes9 tags9 : Int32) (classAxles10 classPercent11 linkPrice12 tagAxles13 tagPlate14 : Nat → Int32) (count15 : Int32) (gantry16 : Nat → Int32) (k68 : (Int32 × (Nat → Int32) × (Nat → Int32)) → Option ((Nat → Int32) × (Nat → Int32))) (x3 : Int32) (tripCents5 tripClassNumber6 : Nat → Int32) : Option ((Nat → Int32) × (Nat → Int32)) :=
  if count15 ≤ x3 then
    some (tripCents5, tripClassNumber6)
  else
    rd trip3 80 x3 fun a7 =>
    if a7 = (-1) then
      f_X0_priceTrips_b154 F k68 trips0 invoicePlate1 legPrice2 trip3 tripAxles4 tripInvoice7 tripLength8 gantries9 classes9 tags9 classAxles10 classPercent11 linkPrice12 tagAxles13 tagPlate14 count15 gantry16 x3 tripCents5 tripClassNumber6
    else
      rd legPrice2 80 x3 fun a9 =>
      if a9 = (-1) then
        rd tripLength8 80 a7 fun a11 =>
        if a11 = 1 then
          rd gantry16 80 x3 fun a13 =>
          bd1 (f_X4_lowestPriceAt F a13 gantries9 linkPrice12) fun r14 =>
          f_X0_priceTrips_b129 F k68 trips0 invoicePlate1 legPrice2 trip3 tripAxles4 tripInvoice7 tripLength8 gantries9 classes9 tags9 classAxles10 classPercent11 linkPrice12 tagAxles13 tagPlate14 count15 gantry16 x3 a7 r14 tripCents5 tripClassNumber6
        else
          f_X0_priceTrips_b129 F k68 trips0 invoicePlate1 legPrice2 trip3 tripAxles4 tripInvoice7 tripLength8 gantries9 classes9 tags9 classAxles10 classPercent11 linkPrice12 tagAxles13 tagPlate14 count15 gantry16 x3 a7 0 tripCents5 tripClassNumber6
      else
        f_X0_priceTrips_b131 F k68 trips0 invoicePlate1 legPrice2 trip3 tripAxles4 tripInvoice7 tripLength8 gantries9 classes9 tags9 classAxles10 classPercent11 linkPrice12 tagAxles13 tagPlate14 count15 gantry16 x3 a7 a9 tripCents5 tripClassNumber6
def f_X0_priceTrips_L68 (F : Nat) (trips0 : Int32) (invoicePlate1 legPrice2 trip3 tripAxles4 tripInvoice7 tripLength8 : Nat → Int32) (gantries9 classes9 tags9 : Int32) (classAxles10 classPercent11 linkPrice12 tagAxles13 tagPlate14 : Nat → Int32) (count15 : Int32) (gantry16 : Nat → Int32) (z : Int32 × (Nat → Int32) × (Nat → Int32)) : Option ((Nat → Int32) × (Nat → Int32)) := lp (fun k z => f_X0_priceTrips_h68 F trips0 invoicePlate1 legPrice2 trip3 tripAxles4 tripInvoice7 tripLength8 gantries9 classes9 tags9 classAxles10 classPercent11 linkPrice12 tagAxles13 tagPlate14 count15 gantry16 k z.1 z.2.1 z.2.2) F z
def f_X0_priceTrips_b41 (F : Nat) (k2 : (Int32 × (Nat → Int32) × (Nat → Int32)) → Option ((Nat → Int32) × (Nat → Int32))) (trips0 : Int32) (invoicePlate1 legPrice2 trip3 tripAxles4 tripInvoice7 tripLength8 : Nat → Int32) (gantries9 classes9 tags9 : Int32) (classAxles10 classPercent11 linkPrice12 tagAxles13 tagPlate14 : Nat → Int32) (count15 : Int32) (gantry16 : Nat → Int32) (x3 x4 : Int32) (tripCents5 tripClassNumber6 : Nat → Int32) : Option ((Nat → Int32) × (Nat → Int32)) :=
  bd1 (f_X4_classFor F x4 classes9 classAxles10) fun r16 =>
  wr tripClassNumber6 80 x3 r16 fun f18 =>
  wr tripCents5 80 x3 0 fun f19 =>
  k2 (x3 + 1, f19, f18)
def f_X0_priceTrips_h2 (F : Nat) (trips0 : Int32) (invoicePlate1 legPrice2 trip3 tripAxles4 tripInvoice7 tripLength8 : Nat → Int32) (gantries9 classes9 tags9 : Int32) (classAxles10 classPercent11 linkPrice12 tagAxles13 tagPlate14 : Nat → Int32) (count15 : Int32) (gantry16 : Nat → Int32) (k2 : (Int32 × (Nat → Int32) × (Nat → Int32)) → Option ((Nat → Int32) × (Nat → Int32))) (x3 : Int32) (tripCents5 tripClassNumber6 : Nat → Int32) : Option ((Nat → Int32) × (Nat → Int32)) :=
  if trips0 ≤ x3 then
    f_X0_priceTrips_L68 F trips0 invoicePlate1 legPrice2 trip3 tripAxles4 tripInvoice7 tripLength8 gantries9 classes9 tags9 classAxles10 classPercent11 linkPrice12 tagAxles13 tagPlate14 count15 gantry16 (0, tripCents5, tripClassNumber6)
  else
    rd tripAxles4 80 x3 fun a21 =>
    if a21 = (-1) then
      rd tripInvoice7 80 x3 fun a23 =>
      rd invoicePlate1 80 a23 fun a24 =>
      bd1 (f_X4_axlesOfVehicle F a24 tags9 tagAxles13 tagPlate14) fun r25 =>
      f_X0_priceTrips_b41 F k2 trips0 invoicePlate1 legPrice2 trip3 tripAxles4 tripInvoice7 tripLength8 gantries9 classes9 tags9 classAxles10 classPercent11 linkPrice12 tagAxles13 tagPlate14 count15 gantry16 x3 r25 tripCents5 tripClassNumber6
    else
      f_X0_priceTrips_b41 F k2 trips0 invoicePlate1 legPrice2 trip3 tripAxles4 tripInvoice7 tripLength8 gantries9 classes9 tags9 classAxles10 classPercent11 linkPrice12 tagAxles13 tagPlate14 count15 gantry16 x3 a21 tripCents5 tripClassNumber6
def f_X0_priceTrips_L2 (F : Nat) (trips0 : Int32) (invoicePlate1 legPrice2 trip3 tripAxles4 tripInvoice7 tripLength8 : Nat → Int32) (gantries9 classes9 tags9 : Int32) (classAxles10 classPercent11 linkPrice12 tagAxles13 tagPlate14 : Nat → Int32) (count15 : Int32) (gantry16 : Nat → Int32) (z : Int32 × (Nat → Int32) × (Nat → Int32)) : Option ((Nat → Int32) × (Nat → Int32)) := lp (fun k z => f_X0_priceTrips_h2 F trips0 invoicePlate1 legPrice2 trip3 tripAxles4 tripInvoice7 tripLength8 gantries9 classes9 tags9 classAxles10 classPercent11 linkPrice12 tagAxles13 tagPlate14 count15 gantry16 k z.1 z.2.1 z.2.2) F z
def f_X0_priceTrips (F : Nat) (trips0 : Int32) (invoicePlate1 legPrice2 trip3 tripAxles4 tripCents5 tripClassNumber6 tripInvoice7 tripLength8 : Nat → Int32) (gantries9 classes9 tags9 : Int32) (classAxles10 classPercent11 linkPrice12 tagAxles13 tagPlate14 : Nat → Int32) (count15 : Int32) (gantry16 : Nat → Int32) : Option ((Nat → Int32) × (Nat → Int32)) :=
  f_X0_priceTrips_L2 F trips0 invoicePlate1 legPrice2 trip3 tripAxles4 tripInvoice7 tripLength8 gantries9 classes9 tags9 classAxles10 classPercent11 linkPrice12 tagAxles13 tagPlate14 count15 gantry16 (0, tripCents5, tripClassNumber6)
set_option maxHeartbeats 4000000 in
set_option maxRecDepth 100000 in
theorem c_X0_priceTrips (l : Launch) (g : GT) (F : Nat) (h0 h1 h2 h3 h4 h5 h6 h7 h8 h9 h10 h11 h12 h13 h14 h15 h16 : Nat) (v0_1 v0_8 v9_1 v9_4 v9_5 v9_6 v9_7 v15_1 v15_3 v15_4 v15_5 v15_6 v15_7 v15_8 v15_9 v15_10 v15_11 v15_12 : Value) (trips0 : Int32) (invoicePlate1 legPrice2 trip3 tripAxles4 tripCents5 tripClassNumber6 tripInvoice7 tripLength8 : Nat → Int32) (gantries9 classes9 tags9 : Int32) (classAxles10 classPercent11 linkPrice12 tagAxles13 tagPlate14 : Nat → Int32) (count15 : Int32) (gantry16 : Nat → Int32) (o_tripCents5 o_tripClassNumber6 : Nat → Int32) (sz : Nat) (hf : f_X0_priceTrips F trips0 invoicePlate1 legPrice2 trip3 tripAxles4 tripCents5 tripClassNumber6 tripInvoice7 tripLength8 gantries9 classes9 tags9 classAxles10 classPercent11 linkPrice12 tagAxles13 tagPlate14 count15 gantry16 = some (o_tripCents5, o_tripClassNumber6)) : CV l m_X0_priceTrips (rml 2 0 0) g (w_X0_priceTrips g h0 h1 h2 h3 h4 h5 h6 h7 h8 h9 h10 h11 h12 h13 h14 h15 h16 v0_1 v0_8 v9_1 v9_4 v9_5 v9_6 v9_7 v15_1 v15_3 v15_4 v15_5 v15_6 v15_7 v15_8 v15_9 v15_10 v15_11 v15_12 trips0 invoicePlate1 legPrice2 trip3 tripAxles4 tripCents5 tripClassNumber6 tripInvoice7 tripLength8 gantries9 classes9 tags9 classAxles10 classPercent11 linkPrice12 tagAxles13 tagPlate14 count15 gantry16) (fun _ => w_X0_priceTrips g h0 h1 h2 h3 h4 h5 h6 h7 h8 h9 h10 h11 h12 h13 h14 h15 h16 v0_1 v0_8 v9_1 v9_4 v9_5 v9_6 v9_7 v15_1 v15_3 v15_4 v15_5 v15_6 v15_7 v15_8 v15_9 v15_10 v15_11 v15_12 trips0 invoicePlate1 legPrice2 trip3 tripAxles4 o_tripCents5 o_tripClassNumber6 tripInvoice7 tripLength8 gantries9 classes9 tags9 classAxles10 classPercent11 linkPrice12 tagAxles13 tagPlate14 count15 gantry16) sz [.ref h0, .ref h9, .ref h15] := by
  refine en_v (by decide) (Nat.le_of_ble_eq_true rfl) (fun p e s m args below meth c A ls C w hl => ?_)
  have C : Cx p s m args meth c RX0 m_X0_priceTrips g A := C
  have hx := C.1
  have hb : c.code = cX0_priceTrips := C.2.1
  have hl : lv_has ls 6 [(0, .ref h0), (1, .ref h9), (2, .ref h15)] := hl
  obtain ⟨Q, hQ⟩ : ∃ Q, Q = QV below args s g A (fun _ => w_X0_priceTrips g h0 h1 h2 h3 h4 h5 h6 h7 h8 h9 h10 h11 h12 h13 h14 h15 h16 v0_1 v0_8 v9_1 v9_4 v9_5 v9_6 v9_7 v15_1 v15_3 v15_4 v15_5 v15_6 v15_7 v15_8 v15_9 v15_10 v15_11 v15_12 trips0 invoicePlate1 legPrice2 trip3 tripAxles4 o_tripCents5 o_tripClassNumber6 tripInvoice7 tripLength8 gantries9 classes9 tags9 classAxles10 classPercent11 linkPrice12 tagAxles13 tagPlate14 count15 gantry16) 0 0 := ⟨_, rfl⟩
  suffices hW : W p l e (rml 2 0 0) s m args below meth c s.heap [] 0 0 Q (F0 m 0 ls []) from (by rw [hQ] at hW; exact hW)
  unfold f_X0_priceTrips at hf
  have L68 : ∀ (z : Int32 × (Nat → Int32) × (Nat → Int32)), f_X0_priceTrips_L68 F trips0 invoicePlate1 legPrice2 trip3 tripAxles4 tripInvoice7 tripLength8 gantries9 classes9 tags9 classAxles10 classPercent11 linkPrice12 tagAxles13 tagPlate14 count15 gantry16 z = some (o_tripCents5, o_tripClassNumber6) → ∀ (H : Heap) (locs : List Loc) (ls : Array Slot), Wd g A (w_X0_priceTrips g h0 h1 h2 h3 h4 h5 h6 h7 h8 h9 h10 h11 h12 h13 h14 h15 h16 v0_1 v0_8 v9_1 v9_4 v9_5 v9_6 v9_7 v15_1 v15_3 v15_4 v15_5 v15_6 v15_7 v15_8 v15_9 v15_10 v15_11 v15_12 trips0 invoicePlate1 legPrice2 trip3 tripAxles4 z.2.1 z.2.2 tripInvoice7 tripLength8 gantries9 classes9 tags9 classAxles10 classPercent11 linkPrice12 tagAxles13 tagPlate14 count15 gantry16) s.heap H locs → lv_has ls 6 [(0, .ref h0), (1, .ref h9), (2, .ref h15), (3, .int z.1)] → W p l e (rml 2 0 0) s m args below meth c H locs 0 0 Q (F0 m 68 ls []) := by
    intro z hf
    refine lp_W (r := (o_tripCents5, o_tripClassNumber6)) (fun (z : Int32 × (Nat → Int32) × (Nat → Int32)) => ∀ (H : Heap) (locs : List Loc) (ls : Array Slot), Wd g A (w_X0_priceTrips g h0 h1 h2 h3 h4 h5 h6 h7 h8 h9 h10 h11 h12 h13 h14 h15 h16 v0_1 v0_8 v9_1 v9_4 v9_5 v9_6 v9_7 v15_1 v15_3 v15_4 v15_5 v15_6 v15_7 v15_8 v15_9 v15_10 v15_11 v15_12 trips0 invoicePlate1 legPrice2 trip3 tripAxles4 z.2.1 z.2.2 tripInvoice7 tripLength8 gantries9 classes9 tags9 classAxles10 classPercent11 linkPrice12 tagAxles13 tagPlate14 count15 gantry16) s.heap H locs → lv_has ls 6 [(0, .ref h0), (1, .ref h9), (2, .ref h15), (3, .int z.1)] → W p l e (rml 2 0 0) s m args below meth c H locs 0 0 Q (F0 m 68 ls [])) (fun k68 z ih68 hf => ?_) F z hf
    obtain ⟨x3, tripCents5, tripClassNumber6⟩ := z
    intro H locs ls w hl
    try dsimp only at hf w hl ⊢
    unfold f_X0_priceTrips_h68 at hf
    have b154 : ∀ (x3 : Int32) (tripCents5 tripClassNumber6 : Nat → Int32) (H : Heap) (locs : List Loc) (ls : Array Slot), f_X0_priceTrips_b154 F k68 trips0 invoicePlate1 legPrice2 trip3 tripAxles4 tripInvoice7 tripLength8 gantries9 classes9 tags9 classAxles10 classPercent11 linkPrice12 tagAxles13 tagPlate14 count15 gantry16 x3 tripCents5 tripClassNumber6 = some (o_tripCents5, o_tripClassNumber6) → Wd g A (w_X0_priceTrips g h0 h1 h2 h3 h4 h5 h6 h7 h8 h9 h10 h11 h12 h13 h14 h15 h16 v0_1 v0_8 v9_1 v9_4 v9_5 v9_6 v9_7 v15_1 v15_3 v15_4 v15_5 v15_6 v15_7 v15_8 v15_9 v15_10 v15_11 v15_12 trips0 invoicePlate1 legPrice2 trip3 tripAxles4 tripCents5 tripClassNumber6 tripInvoice7 tripLength8 gantries9 classes9 tags9 classAxles10 classPercent11 linkPrice12 tagAxles13 tagPlate14 count15 gantry16) s.heap H locs → lv_has ls 6 [(0, .ref h0), (1, .ref h9), (2, .ref h15), (3, .int x3)] → W p l e (rml 2 0 0) s m args below meth c H locs 0 0 Q (F0 m 154 ls []) := by
      intro x3 tripCents5 tripClassNumber6 H locs ls hf w hl
      unfold f_X0_priceTrips_b154 at hf
      refine lv_iinc (v := x3 + 1) (lv' := [(3, .int (x3 + 1)), (0, .ref h0), (1, .ref h9), (2, .ref h15)]) hx hb dX0_priceTrips_154 hl (k := 3) rfl rfl (by decide) rfl (fun ls hl => ?_)
      refine lv_goto (tgt := 68) hx hb dX0_priceTrips_157 (by decide) ?_
      exact ih68 (x3 + 1, tripCents5, tripClassNumber6) hf _ _ _ w (lv_sub hl [1, 2, 3, 0] rfl)
    have b131 : ∀ (x3 x4 x5 : Int32) (tripCents5 tripClassNumber6 : Nat → Int32) (H : Heap) (locs : List Loc) (ls : Array Slot), f_X0_priceTrips_b131 F k68 trips0 invoicePlate1 legPrice2 trip3 tripAxles4 tripInvoice7 tripLength8 gantries9 classes9 tags9 classAxles10 classPercent11 linkPrice12 tagAxles13 tagPlate14 count15 gantry16 x3 x4 x5 tripCents5 tripClassNumber6 = some (o_tripCents5, o_tripClassNumber6) → Wd g A (w_X0_priceTrips g h0 h1 h2 h3 h4 h5 h6 h7 h8 h9 h10 h11 h12 h13 h14 h15 h16 v0_1 v0_8 v9_1 v9_4 v9_5 v9_6 v9_7 v15_1 v15_3 v15_4 v15_5 v15_6 v15_7 v15_8 v15_9 v15_10 v15_11 v15_12 trips0 invoicePlate1 legPrice2 trip3 tripAxles4 tripCents5 tripClassNumber6 tripInvoice7 tripLength8 gantries9 classes9 tags9 classAxles10 classPercent11 linkPrice12 tagAxles13 tagPlate14 count15 gantry16) s.heap H locs → lv_has ls 6 [(0, .ref h0), (1, .ref h9), (2, .ref h15), (3, .int x3), (4, .int x4), (5, .int x5)] → W p l e (rml 2 0 0) s m args below meth c H locs 0 0 Q (F0 m 131 ls []) := by
      intro x3 x4 x5 tripCents5 tripClassNumber6 H locs ls hf w hl
      unfold f_X0_priceTrips_b131 at hf
      refine lv_aload_n hx hb dX0_priceTrips_131 rfl (lv_at hl 0 rfl) ?_
      refine g_X0_34 C w 0 rfl rfl dX0_priceTrips_132 ?_
      refine lv_iload hx hb dX0_priceTrips_135 (lv_at hl 4 rfl) ?_
      refine lv_dup2_11 hx hb dX0_priceTrips_137 rfl rfl ?_
      obtain ⟨a1, hia1, haa1, hf⟩ := rd_some hf
      refine ial C w 5 rfl hia1 haa1 dX0_priceTrips_138 ?_
      refine lv_aload_n hx hb dX0_priceTrips_139 rfl (lv_at hl 1 rfl) ?_
      refine lv_iload hx hb dX0_priceTrips_140 (lv_at hl 5 rfl) ?_
      refine lv_aload_n hx hb dX0_priceTrips_142 rfl (lv_at hl 0 rfl) ?_
      refine g_X0_31 C w 0 rfl rfl dX0_priceTrips_143 ?_
      refine lv_iload hx hb dX0_priceTrips_146 (lv_at hl 4 rfl) ?_
      obtain ⟨a2, hia2, haa2, hf⟩ := rd_some hf
      refine ial C w 6 rfl hia2 haa2 dX0_priceTrips_148 ?_
      obtain ⟨r3, hc4, hf⟩ := bd1_some hf
      refine ca_iN C w (wn := fun _ => w_X0_priceTrips g h0 h1 h2 h3 h4 h5 h6 h7 h8 h9 h10 h11 h12 h13 h14 h15 h16 v0_1 v0_8 v9_1 v9_4 v9_5 v9_6 v9_7 v15_1 v15_3 v15_4 v15_5 v15_6 v15_7 v15_8 v15_9 v15_10 v15_11 v15_12 trips0 invoicePlate1 legPrice2 trip3 tripAxles4 tripCents5 tripClassNumber6 tripInvoice7 tripLength8 gantries9 classes9 tags9 classAxles10 classPercent11 linkPrice12 tagAxles13 tagPlate14 count15 gantry16) (pm_k [false, false, false, false, false, false, false, false, false, true, false, true, false, false, false, false, false] rfl rfl (fun _ => Nat.le_of_ble_eq_true rfl) (fun _ => rfl)) (c_X4_priceForClass l g F h9 h11 (.int gantries9) v9_1 (.int tags9) v9_4 v9_5 v9_6 v9_7 (.ref h12) (.ref h10) (.ref h14) (.ref h13) x5 a2 classes9 classPercent11 r3 _ hc4) k_X0_106 (rm_le (by decide) (by decide)) 9 4 rfl rfl rfl rfl hl.1 rfl (Nat.le_of_ble_eq_true rfl) dX0_priceTrips_149 ⟨Nat.le_of_ble_eq_true rfl, Nat.le_of_ble_eq_true rfl⟩ (cells2 := 0) (slots2 := 0) ⟨rfl, rfl⟩ (fun _ H locs w => ?_)
      refine lv_iadd hx hb dX0_priceTrips_152 ?_
      obtain ⟨f5, hif5, haf5, hf⟩ := wr_some hf
      refine ias C w 5 rfl hif5 haf5 (ws2 := w_X0_priceTrips g h0 h1 h2 h3 h4 h5 h6 h7 h8 h9 h10 h11 h12 h13 h14 h15 h16 v0_1 v0_8 v9_1 v9_4 v9_5 v9_6 v9_7 v15_1 v15_3 v15_4 v15_5 v15_6 v15_7 v15_8 v15_9 v15_10 v15_11 v15_12 trips0 invoicePlate1 legPrice2 trip3 tripAxles4 f5 tripClassNumber6 tripInvoice7 tripLength8 gantries9 classes9 tags9 classAxles10 classPercent11 linkPrice12 tagAxles13 tagPlate14 count15 gantry16) rfl dX0_priceTrips_153 (fun H locs w => ?_)
      exact b154 x3 f5 tripClassNumber6 _ _ _ hf w (lv_sub hl [0, 1, 2, 3] rfl)
    have b129 : ∀ (x3 x4 s0 : Int32) (tripCents5 tripClassNumber6 : Nat → Int32) (H : Heap) (locs : List Loc) (ls : Array Slot), f_X0_priceTrips_b129 F k68 trips0 invoicePlate1 legPrice2 trip3 tripAxles4 tripInvoice7 tripLength8 gantries9 classes9 tags9 classAxles10 classPercent11 linkPrice12 tagAxles13 tagPlate14 count15 gantry16 x3 x4 s0 tripCents5 tripClassNumber6 = some (o_tripCents5, o_tripClassNumber6) → Wd g A (w_X0_priceTrips g h0 h1 h2 h3 h4 h5 h6 h7 h8 h9 h10 h11 h12 h13 h14 h15 h16 v0_1 v0_8 v9_1 v9_4 v9_5 v9_6 v9_7 v15_1 v15_3 v15_4 v15_5 v15_6 v15_7 v15_8 v15_9 v15_10 v15_11 v15_12 trips0 invoicePlate1 legPrice2 trip3 tripAxles4 tripCents5 tripClassNumber6 tripInvoice7 tripLength8 gantries9 classes9 tags9 classAxles10 classPercent11 linkPrice12 tagAxles13 tagPlate14 count15 gantry16) s.heap H locs → lv_has ls 6 [(0, .ref h0), (1, .ref h9), (2, .ref h15), (3, .int x3), (4, .int x4)] → W p l e (rml 2 0 0) s m args below meth c H locs 0 0 Q (F0 m 129 ls [.int s0]) := by
      intro x3 x4 s0 tripCents5 tripClassNumber6 H locs ls hf w hl
      unfold f_X0_priceTrips_b129 at hf
      refine lv_istore (lv' := [(5, .int s0), (0, .ref h0), (1, .ref h9), (2, .ref h15), (3, .int x3), (4, .int x4)]) hx hb dX0_priceTrips_129 hl (by decide) rfl (fun ls hl => ?_)
      exact b131 x3 x4 s0 tripCents5 tripClassNumber6 _ _ _ hf w (lv_sub hl [1, 2, 3, 4, 5, 0] rfl)
    refine lv_iload_n hx hb dX0_priceTrips_68 rfl (lv_at hl 3 rfl) ?_
    refine lv_aload_n hx hb dX0_priceTrips_69 rfl (lv_at hl 2 rfl) ?_
    refine g_X0_46 C w 15 rfl rfl dX0_priceTrips_70 ?_
    refine lv_icmp_ge (tgt := 160) hx hb dX0_priceTrips_73 (by decide) (fun c6 => ?_) (fun c6 => ?_)
    · replace hf := it_t c6 hf
      obtain ⟨e1, e2⟩ := tp2 hf
      rw [hQ]
      exact rt_v C w rfl (fun _ => 0) (by rw [← e1, ← e2]) dX0_priceTrips_160
    · replace hf := it_f c6 hf
      refine lv_aload_n hx hb dX0_priceTrips_76 rfl (lv_at hl 0 rfl) ?_
      refine g_X0_40 C w 0 rfl rfl dX0_priceTrips_77 ?_
      refine lv_iload_n hx hb dX0_priceTrips_80 rfl (lv_at hl 3 rfl) ?_
      obtain ⟨a7, hia7, haa7, hf⟩ := rd_some hf
      refine ial C w 3 rfl hia7 haa7 dX0_priceTrips_81 ?_
      refine lv_istore (lv' := [(4, .int a7), (0, .ref h0), (1, .ref h9), (2, .ref h15), (3, .int x3)]) hx hb dX0_priceTrips_82 hl (by decide) rfl (fun ls hl => ?_)
      refine lv_iload hx hb dX0_priceTrips_84 (lv_at hl 0 rfl) ?_
      refine lv_iconst (v := -1) hx hb dX0_priceTrips_86 (by decide) ?_
      refine lv_icmp_eq (tgt := 154) hx hb dX0_priceTrips_87 (by decide) (fun c8 => ?_) (fun c8 => ?_)
      · replace hf := it_t c8 hf
        exact b154 x3 tripCents5 tripClassNumber6 _ _ _ hf w (lv_sub hl [1, 2, 3, 4] rfl)
      · replace hf := it_f c8 hf
        refine lv_aload_n hx hb dX0_priceTrips_90 rfl (lv_at hl 1 rfl) ?_
        refine g_X0_43 C w 0 rfl rfl dX0_priceTrips_91 ?_
        refine lv_iload_n hx hb dX0_priceTrips_94 rfl (lv_at hl 4 rfl) ?_
        obtain ⟨a9, hia9, haa9, hf⟩ := rd_some hf
        refine ial C w 2 rfl hia9 haa9 dX0_priceTrips_95 ?_
        refine lv_istore (lv' := [(5, .int a9), (4, .int a7), (0, .ref h0), (1, .ref h9), (2, .ref h15), (3, .int x3)]) hx hb dX0_priceTrips_96 hl (by decide) rfl (fun ls hl => ?_)
        refine lv_iload hx hb dX0_priceTrips_98 (lv_at hl 0 rfl) ?_
        refine lv_iconst (v := -1) hx hb dX0_priceTrips_100 (by decide) ?_
        refine lv_icmp_ne (tgt := 131) hx hb dX0_priceTrips_101 (by decide) (fun c10 => ?_) (fun c10 => ?_)
        · replace hf := it_f c10 hf
          exact b131 x3 a7 a9 tripCents5 tripClassNumber6 _ _ _ hf w (lv_sub hl [2, 3, 4, 5, 1, 0] rfl)
        · replace hf := it_t c10 hf
          refine lv_aload_n hx hb dX0_priceTrips_104 rfl (lv_at hl 2 rfl) ?_
          refine g_X0_28 C w 0 rfl rfl dX0_priceTrips_105 ?_
          refine lv_iload hx hb dX0_priceTrips_108 (lv_at hl 1 rfl) ?_
          obtain ⟨a11, hia11, haa11, hf⟩ := rd_some hf
          refine ial C w 8 rfl hia11 haa11 dX0_priceTrips_110 ?_
          refine lv_iconst (v := 1) hx hb dX0_priceTrips_111 (by decide) ?_
          refine lv_icmp_ne (tgt := 128) hx hb dX0_priceTrips_112 (by decide) (fun c12 => ?_) (fun c12 => ?_)
          · replace hf := it_f c12 hf
            refine lv_iconst (v := 0) hx hb dX0_priceTrips_128 (by decide) ?_
            exact b129 x3 a7 0 tripCents5 tripClassNumber6 _ _ _ hf w (lv_sub hl [2, 3, 4, 5, 1] rfl)
          · replace hf := it_t c12 hf
            refine lv_aload_n hx hb dX0_priceTrips_115 rfl (lv_at hl 3 rfl) ?_
            refine lv_aload_n hx hb dX0_priceTrips_116 rfl (lv_at hl 4 rfl) ?_
            refine g_X0_69 C w 15 rfl rfl dX0_priceTrips_117 ?_
            refine lv_iload_n hx hb dX0_priceTrips_120 rfl (lv_at hl 5 rfl) ?_
            obtain ⟨a13, hia13, haa13, hf⟩ := rd_some hf
            refine ial C w 16 rfl hia13 haa13 dX0_priceTrips_121 ?_
            obtain ⟨r14, hc15, hf⟩ := bd1_some hf
            refine ca_iN C w (wn := fun _ => w_X0_priceTrips g h0 h1 h2 h3 h4 h5 h6 h7 h8 h9 h10 h11 h12 h13 h14 h15 h16 v0_1 v0_8 v9_1 v9_4 v9_5 v9_6 v9_7 v15_1 v15_3 v15_4 v15_5 v15_6 v15_7 v15_8 v15_9 v15_10 v15_11 v15_12 trips0 invoicePlate1 legPrice2 trip3 tripAxles4 tripCents5 tripClassNumber6 tripInvoice7 tripLength8 gantries9 classes9 tags9 classAxles10 classPercent11 linkPrice12 tagAxles13 tagPlate14 count15 gantry16) (pm_k [false, false, false, false, false, false, false, false, false, true, false, false, true, false, false, false, false] rfl rfl (fun _ => Nat.le_of_ble_eq_true rfl) (fun _ => rfl)) (c_X4_lowestPriceAt l g F h9 h12 v9_1 (.int classes9) (.int tags9) v9_4 v9_5 v9_6 v9_7 (.ref h10) (.ref h11) (.ref h14) (.ref h13) a13 gantries9 linkPrice12 r14 _ hc15) k_X0_103 (rm_le (by decide) (by decide)) 9 4 rfl rfl rfl rfl hl.1 rfl (Nat.le_of_ble_eq_true rfl) dX0_priceTrips_122 ⟨Nat.le_of_ble_eq_true rfl, Nat.le_of_ble_eq_true rfl⟩ (cells2 := 0) (slots2 := 0) ⟨rfl, rfl⟩ (fun _ H locs w => ?_)
            refine lv_goto (tgt := 129) hx hb dX0_priceTrips_125 (by decide) ?_
            exact b129 x3 a7 r14 tripCents5 tripClassNumber6 _ _ _ hf w (lv_sub hl [2, 3, 4, 5, 1] rfl)
  have L2 : ∀ (z : Int32 × (Nat → Int32) × (Nat → Int32)), f_X0_priceTrips_L2 F trips0 invoicePlate1 legPrice2 trip3 tripAxles4 tripInvoice7 tripLength8 gantries9 classes9 tags9 classAxles10 classPercent11 linkPrice12 tagAxles13 tagPlate14 count15 gantry16 z = some (o_tripCents5, o_tripClassNumber6) → ∀ (H : Heap) (locs : List Loc) (ls : Array Slot), Wd g A (w_X0_priceTrips g h0 h1 h2 h3 h4 h5 h6 h7 h8 h9 h10 h11 h12 h13 h14 h15 h16 v0_1 v0_8 v9_1 v9_4 v9_5 v9_6 v9_7 v15_1 v15_3 v15_4 v15_5 v15_6 v15_7 v15_8 v15_9 v15_10 v15_11 v15_12 trips0 invoicePlate1 legPrice2 trip3 tripAxles4 z.2.1 z.2.2 tripInvoice7 tripLength8 gantries9 classes9 tags9 classAxles10 classPercent11 linkPrice12 tagAxles13 tagPlate14 count15 gantry16) s.heap H locs → lv_has ls 6 [(0, .ref h0), (1, .ref h9), (2, .ref h15), (3, .int z.1)] → W p l e (rml 2 0 0) s m args below meth c H locs 0 0 Q (F0 m 2 ls []) := by
    intro z hf
    refine lp_W (r := (o_tripCents5, o_tripClassNumber6)) (fun (z : Int32 × (Nat → Int32) × (Nat → Int32)) => ∀ (H : Heap) (locs : List Loc) (ls : Array Slot), Wd g A (w_X0_priceTrips g h0 h1 h2 h3 h4 h5 h6 h7 h8 h9 h10 h11 h12 h13 h14 h15 h16 v0_1 v0_8 v9_1 v9_4 v9_5 v9_6 v9_7 v15_1 v15_3 v15_4 v15_5 v15_6 v15_7 v15_8 v15_9 v15_10 v15_11 v15_12 trips0 invoicePlate1 legPrice2 trip3 tripAxles4 z.2.1 z.2.2 tripInvoice7 tripLength8 gantries9 classes9 tags9 classAxles10 classPercent11 linkPrice12 tagAxles13 tagPlate14 count15 gantry16) s.heap H locs → lv_has ls 6 [(0, .ref h0), (1, .ref h9), (2, .ref h15), (3, .int z.1)] → W p l e (rml 2 0 0) s m args below meth c H locs 0 0 Q (F0 m 2 ls [])) (fun k2 z ih2 hf => ?_) F z hf
    obtain ⟨x3, tripCents5, tripClassNumber6⟩ := z
    intro H locs ls w hl
    try dsimp only at hf w hl ⊢
    unfold f_X0_priceTrips_h2 at hf
    have b41 : ∀ (x3 x4 : Int32) (tripCents5 tripClassNumber6 : Nat → Int32) (H : Heap) (locs : List Loc) (ls : Array Slot), f_X0_priceTrips_b41 F k2 trips0 invoicePlate1 legPrice2 trip3 tripAxles4 tripInvoice7 tripLength8 gantries9 classes9 tags9 classAxles10 classPercent11 linkPrice12 tagAxles13 tagPlate14 count15 gantry16 x3 x4 tripCents5 tripClassNumber6 = some (o_tripCents5, o_tripClassNumber6) → Wd g A (w_X0_priceTrips g h0 h1 h2 h3 h4 h5 h6 h7 h8 h9 h10 h11 h12 h13 h14 h15 h16 v0_1 v0_8 v9_1 v9_4 v9_5 v9_6 v9_7 v15_1 v15_3 v15_4 v15_5 v15_6 v15_7 v15_8 v15_9 v15_10 v15_11 v15_12 trips0 invoicePlate1 legPrice2 trip3 tripAxles4 tripCents5 tripClassNumber6 tripInvoice7 tripLength8 gantries9 classes9 tags9 classAxles10 classPercent11 linkPrice12 tagAxles13 tagPlate14 count15 gantry16) s.heap H locs → lv_has ls 6 [(0, .ref h0), (1, .ref h9), (2, .ref h15), (3, .int x3), (4, .int x4)] → W p l e (rml 2 0 0) s m args below meth c H locs 0 0 Q (F0 m 41 ls []) := by
      intro x3 x4 tripCents5 tripClassNumber6 H locs ls hf w hl
      unfold f_X0_priceTrips_b41 at hf
      refine lv_aload_n hx hb dX0_priceTrips_41 rfl (lv_at hl 0 rfl) ?_
      refine g_X0_31 C w 0 rfl rfl dX0_priceTrips_42 ?_
      refine lv_iload_n hx hb dX0_priceTrips_45 rfl (lv_at hl 3 rfl) ?_
      refine lv_aload_n hx hb dX0_priceTrips_46 rfl (lv_at hl 1 rfl) ?_
      refine lv_iload hx hb dX0_priceTrips_47 (lv_at hl 4 rfl) ?_
      obtain ⟨r16, hc17, hf⟩ := bd1_some hf
      refine ca_iN C w (wn := fun _ => w_X0_priceTrips g h0 h1 h2 h3 h4 h5 h6 h7 h8 h9 h10 h11 h12 h13 h14 h15 h16 v0_1 v0_8 v9_1 v9_4 v9_5 v9_6 v9_7 v15_1 v15_3 v15_4 v15_5 v15_6 v15_7 v15_8 v15_9 v15_10 v15_11 v15_12 trips0 invoicePlate1 legPrice2 trip3 tripAxles4 tripCents5 tripClassNumber6 tripInvoice7 tripLength8 gantries9 classes9 tags9 classAxles10 classPercent11 linkPrice12 tagAxles13 tagPlate14 count15 gantry16) (pm_k [false, false, false, false, false, false, false, false, false, true, true, false, false, false, false, false, false] rfl rfl (fun _ => Nat.le_of_ble_eq_true rfl) (fun _ => rfl)) (c_X4_classFor l g F h9 h10 (.int gantries9) v9_1 (.int tags9) v9_4 v9_5 v9_6 v9_7 (.ref h12) (.ref h11) (.ref h14) (.ref h13) x4 classes9 classAxles10 r16 _ hc17) k_X0_100 (rm_le (by decide) (by decide)) 9 4 rfl rfl rfl rfl hl.1 rfl (Nat.le_of_ble_eq_true rfl) dX0_priceTrips_49 ⟨Nat.le_of_ble_eq_true rfl, Nat.le_of_ble_eq_true rfl⟩ (cells2 := 0) (slots2 := 0) ⟨rfl, rfl⟩ (fun _ H locs w => ?_)
      obtain ⟨f18, hif18, haf18, hf⟩ := wr_some hf
      refine ias C w 6 rfl hif18 haf18 (ws2 := w_X0_priceTrips g h0 h1 h2 h3 h4 h5 h6 h7 h8 h9 h10 h11 h12 h13 h14 h15 h16 v0_1 v0_8 v9_1 v9_4 v9_5 v9_6 v9_7 v15_1 v15_3 v15_4 v15_5 v15_6 v15_7 v15_8 v15_9 v15_10 v15_11 v15_12 trips0 invoicePlate1 legPrice2 trip3 tripAxles4 tripCents5 f18 tripInvoice7 tripLength8 gantries9 classes9 tags9 classAxles10 classPercent11 linkPrice12 tagAxles13 tagPlate14 count15 gantry16) rfl dX0_priceTrips_52 (fun H locs w => ?_)
      refine lv_aload_n hx hb dX0_priceTrips_53 rfl (lv_at hl 0 rfl) ?_
      refine g_X0_34 C w 0 rfl rfl dX0_priceTrips_54 ?_
      refine lv_iload_n hx hb dX0_priceTrips_57 rfl (lv_at hl 3 rfl) ?_
      refine lv_iconst (v := 0) hx hb dX0_priceTrips_58 (by decide) ?_
      obtain ⟨f19, hif19, haf19, hf⟩ := wr_some hf
      refine ias C w 5 rfl hif19 haf19 (ws2 := w_X0_priceTrips g h0 h1 h2 h3 h4 h5 h6 h7 h8 h9 h10 h11 h12 h13 h14 h15 h16 v0_1 v0_8 v9_1 v9_4 v9_5 v9_6 v9_7 v15_1 v15_3 v15_4 v15_5 v15_6 v15_7 v15_8 v15_9 v15_10 v15_11 v15_12 trips0 invoicePlate1 legPrice2 trip3 tripAxles4 f19 f18 tripInvoice7 tripLength8 gantries9 classes9 tags9 classAxles10 classPercent11 linkPrice12 tagAxles13 tagPlate14 count15 gantry16) rfl dX0_priceTrips_59 (fun H locs w => ?_)
      refine lv_iinc (v := x3 + 1) (lv' := [(3, .int (x3 + 1)), (0, .ref h0), (1, .ref h9), (2, .ref h15), (4, .int x4)]) hx hb dX0_priceTrips_60 hl (k := 3) rfl rfl (by decide) rfl (fun ls hl => ?_)
      refine lv_goto (tgt := 2) hx hb dX0_priceTrips_63 (by decide) ?_
      exact ih2 (x3 + 1, f19, f18) hf _ _ _ w (lv_sub hl [1, 2, 3, 0] rfl)
    refine lv_iload_n hx hb dX0_priceTrips_2 rfl (lv_at hl 3 rfl) ?_
    refine lv_aload_n hx hb dX0_priceTrips_3 rfl (lv_at hl 0 rfl) ?_
    refine g_X0_9 C w 0 rfl rfl dX0_priceTrips_4 ?_
    refine lv_icmp_ge (tgt := 66) hx hb dX0_priceTrips_7 (by decide) (fun c20 => ?_) (fun c20 => ?_)
    · replace hf := it_t c20 hf
      refine lv_iconst (v := 0) hx hb dX0_priceTrips_66 (by decide) ?_
      refine lv_istore_n (lv' := [(3, .int 0), (0, .ref h0), (1, .ref h9), (2, .ref h15)]) hx hb dX0_priceTrips_67 rfl hl (by decide) rfl (fun ls hl => ?_)
      exact L68 (0, tripCents5, tripClassNumber6) hf _ _ _ w (lv_sub hl [1, 2, 3, 0] rfl)
    · replace hf := it_f c20 hf
      refine lv_aload_n hx hb dX0_priceTrips_10 rfl (lv_at hl 0 rfl) ?_
      refine g_X0_25 C w 0 rfl rfl dX0_priceTrips_11 ?_
      refine lv_iload_n hx hb dX0_priceTrips_14 rfl (lv_at hl 3 rfl) ?_
      obtain ⟨a21, hia21, haa21, hf⟩ := rd_some hf
      refine ial C w 4 rfl hia21 haa21 dX0_priceTrips_15 ?_
      refine lv_istore (lv' := [(4, .int a21), (0, .ref h0), (1, .ref h9), (2, .ref h15), (3, .int x3)]) hx hb dX0_priceTrips_16 hl (by decide) rfl (fun ls hl => ?_)
      refine lv_iload hx hb dX0_priceTrips_18 (lv_at hl 0 rfl) ?_
      refine lv_iconst (v := -1) hx hb dX0_priceTrips_20 (by decide) ?_
      refine lv_icmp_ne (tgt := 41) hx hb dX0_priceTrips_21 (by decide) (fun c22 => ?_) (fun c22 => ?_)
      · replace hf := it_f c22 hf
        exact b41 x3 a21 tripCents5 tripClassNumber6 _ _ _ hf w (lv_sub hl [1, 2, 3, 4, 0] rfl)
      · replace hf := it_t c22 hf
        refine lv_aload_n hx hb dX0_priceTrips_24 rfl (lv_at hl 2 rfl) ?_
        refine lv_aload_n hx hb dX0_priceTrips_25 rfl (lv_at hl 1 rfl) ?_
        refine g_X0_18 C w 0 rfl rfl dX0_priceTrips_26 ?_
        refine lv_aload_n hx hb dX0_priceTrips_29 rfl (lv_at hl 1 rfl) ?_
        refine g_X0_22 C w 0 rfl rfl dX0_priceTrips_30 ?_
        refine lv_iload_n hx hb dX0_priceTrips_33 rfl (lv_at hl 4 rfl) ?_
        obtain ⟨a23, hia23, haa23, hf⟩ := rd_some hf
        refine ial C w 7 rfl hia23 haa23 dX0_priceTrips_34 ?_
        obtain ⟨a24, hia24, haa24, hf⟩ := rd_some hf
        refine ial C w 1 rfl hia24 haa24 dX0_priceTrips_35 ?_
        obtain ⟨r25, hc26, hf⟩ := bd1_some hf
        refine ca_iN C w (wn := fun _ => w_X0_priceTrips g h0 h1 h2 h3 h4 h5 h6 h7 h8 h9 h10 h11 h12 h13 h14 h15 h16 v0_1 v0_8 v9_1 v9_4 v9_5 v9_6 v9_7 v15_1 v15_3 v15_4 v15_5 v15_6 v15_7 v15_8 v15_9 v15_10 v15_11 v15_12 trips0 invoicePlate1 legPrice2 trip3 tripAxles4 tripCents5 tripClassNumber6 tripInvoice7 tripLength8 gantries9 classes9 tags9 classAxles10 classPercent11 linkPrice12 tagAxles13 tagPlate14 count15 gantry16) (pm_k [false, false, false, false, false, false, false, false, false, true, false, false, false, true, true, false, false] rfl rfl (fun _ => Nat.le_of_ble_eq_true rfl) (fun _ => rfl)) (c_X4_axlesOfVehicle l g F h9 h13 h14 (.int gantries9) v9_1 (.int classes9) v9_4 v9_5 v9_6 v9_7 (.ref h12) (.ref h10) (.ref h11) a24 tags9 tagAxles13 tagPlate14 r25 _ hc26) k_X0_95 (rm_le (by decide) (by decide)) 9 4 rfl rfl rfl rfl hl.1 rfl (Nat.le_of_ble_eq_true rfl) dX0_priceTrips_36 ⟨Nat.le_of_ble_eq_true rfl, Nat.le_of_ble_eq_true rfl⟩ (cells2 := 0) (slots2 := 0) ⟨rfl, rfl⟩ (fun _ H locs w => ?_)
        refine lv_istore (lv' := [(4, .int r25), (0, .ref h0), (1, .ref h9), (2, .ref h15), (3, .int x3)]) hx hb dX0_priceTrips_39 hl (by decide) rfl (fun ls hl => ?_)
        exact b41 x3 r25 tripCents5 tripClassNumber6 _ _ _ hf w (lv_sub hl [1, 2, 3, 4, 0] rfl)
  refine lv_iconst (v := 0) hx hb dX0_priceTrips_0 (by decide) ?_
  refine lv_istore_n (lv' := [(3, .int 0), (0, .ref h0), (1, .ref h9), (2, .ref h15)]) hx hb dX0_priceTrips_1 rfl hl (by decide) rfl (fun ls hl => ?_)
  exact L2 (0, tripCents5, tripClassNumber6) hf _ _ _ w (lv_sub hl [1, 2, 3, 0] rfl)

theorem dX0_make_0 : decode cX0_make 0 = .ok (.aload_n 0, 1) := by decide +kernel
theorem dX0_make_1 : decode cX0_make 1 = .ok (.iconst 0, 1) := by decide +kernel
theorem dX0_make_2 : decode cX0_make 2 = .ok (.putfield 9, 3) := by decide +kernel
theorem dX0_make_5 : decode cX0_make 5 = .ok (.aload_n 0, 1) := by decide +kernel
theorem dX0_make_6 : decode cX0_make 6 = .ok (.iconst 0, 1) := by decide +kernel
theorem dX0_make_7 : decode cX0_make 7 = .ok (.putfield 15, 3) := by decide +kernel
theorem dX0_make_10 : decode cX0_make 10 = .ok (.iconst 0, 1) := by decide +kernel
theorem dX0_make_11 : decode cX0_make 11 = .ok (.istore 5, 2) := by decide +kernel
theorem dX0_make_13 : decode cX0_make 13 = .ok (.iload 5, 2) := by decide +kernel
theorem dX0_make_15 : decode cX0_make 15 = .ok (.aload_n 2, 1) := by decide +kernel
theorem dX0_make_16 : decode cX0_make 16 = .ok (.getfield 46, 3) := by decide +kernel
theorem dX0_make_19 : decode cX0_make 19 = .ok (.if_icmp .ge 68, 3) := by decide +kernel
theorem dX0_make_22 : decode cX0_make 22 = .ok (.aload_n 2, 1) := by decide +kernel
theorem dX0_make_23 : decode cX0_make 23 = .ok (.getfield 51, 3) := by decide +kernel
theorem dX0_make_26 : decode cX0_make 26 = .ok (.iload 5, 2) := by decide +kernel
theorem dX0_make_28 : decode cX0_make 28 = .ok (.iaload, 1) := by decide +kernel
theorem dX0_make_29 : decode cX0_make 29 = .ok (.ifCond .ne 18, 3) := by decide +kernel
theorem dX0_make_32 : decode cX0_make 32 = .ok (.aload_n 2, 1) := by decide +kernel
theorem dX0_make_33 : decode cX0_make 33 = .ok (.getfield 54, 3) := by decide +kernel
theorem dX0_make_36 : decode cX0_make 36 = .ok (.iload 5, 2) := by decide +kernel
theorem dX0_make_38 : decode cX0_make 38 = .ok (.iaload, 1) := by decide +kernel
theorem dX0_make_39 : decode cX0_make 39 = .ok (.iload_n 3, 1) := by decide +kernel
theorem dX0_make_40 : decode cX0_make 40 = .ok (.if_icmp .gt 7, 3) := by decide +kernel
theorem dX0_make_43 : decode cX0_make 43 = .ok (.iconst 1, 1) := by decide +kernel
theorem dX0_make_44 : decode cX0_make 44 = .ok (.goto 4, 3) := by decide +kernel
theorem dX0_make_47 : decode cX0_make 47 = .ok (.iconst 0, 1) := by decide +kernel
theorem dX0_make_48 : decode cX0_make 48 = .ok (.istore 6, 2) := by decide +kernel
theorem dX0_make_50 : decode cX0_make 50 = .ok (.aload_n 0, 1) := by decide +kernel
theorem dX0_make_51 : decode cX0_make 51 = .ok (.getfield 37, 3) := by decide +kernel
theorem dX0_make_54 : decode cX0_make 54 = .ok (.iload 5, 2) := by decide +kernel
theorem dX0_make_56 : decode cX0_make 56 = .ok (.iload 6, 2) := by decide +kernel
theorem dX0_make_58 : decode cX0_make 58 = .ok (.ifCond .eq 13, 3) := by decide +kernel
theorem dX0_make_61 : decode cX0_make 61 = .ok (.aload_n 2, 1) := by decide +kernel
theorem dX0_make_62 : decode cX0_make 62 = .ok (.iload 5, 2) := by decide +kernel
theorem dX0_make_64 : decode cX0_make 64 = .ok (.aload_n 1, 1) := by decide +kernel
theorem dX0_make_65 : decode cX0_make 65 = .ok (.invokevirtual 57, 3) := by decide +kernel
theorem dX0_make_68 : decode cX0_make 68 = .ok (.goto 4, 3) := by decide +kernel
theorem dX0_make_71 : decode cX0_make 71 = .ok (.iconst (-1), 1) := by decide +kernel
theorem dX0_make_72 : decode cX0_make 72 = .ok (.iastore, 1) := by decide +kernel
theorem dX0_make_73 : decode cX0_make 73 = .ok (.aload_n 0, 1) := by decide +kernel
theorem dX0_make_74 : decode cX0_make 74 = .ok (.getfield 40, 3) := by decide +kernel
theorem dX0_make_77 : decode cX0_make 77 = .ok (.iload 5, 2) := by decide +kernel
theorem dX0_make_79 : decode cX0_make 79 = .ok (.iconst (-1), 1) := by decide +kernel
theorem dX0_make_80 : decode cX0_make 80 = .ok (.iastore, 1) := by decide +kernel
theorem dX0_make_81 : decode cX0_make 81 = .ok (.iinc 5 1, 3) := by decide +kernel
theorem dX0_make_84 : decode cX0_make 84 = .ok (.goto (-71), 3) := by decide +kernel
theorem dX0_make_87 : decode cX0_make 87 = .ok (.iconst 0, 1) := by decide +kernel
theorem dX0_make_88 : decode cX0_make 88 = .ok (.istore 5, 2) := by decide +kernel
theorem dX0_make_90 : decode cX0_make 90 = .ok (.iload 5, 2) := by decide +kernel
theorem dX0_make_92 : decode cX0_make 92 = .ok (.aload_n 2, 1) := by decide +kernel
theorem dX0_make_93 : decode cX0_make 93 = .ok (.getfield 46, 3) := by decide +kernel
theorem dX0_make_96 : decode cX0_make 96 = .ok (.if_icmp .ge 41, 3) := by decide +kernel
theorem dX0_make_99 : decode cX0_make 99 = .ok (.aload_n 0, 1) := by decide +kernel
theorem dX0_make_100 : decode cX0_make 100 = .ok (.getfield 37, 3) := by decide +kernel
theorem dX0_make_103 : decode cX0_make 103 = .ok (.iload 5, 2) := by decide +kernel
theorem dX0_make_105 : decode cX0_make 105 = .ok (.iaload, 1) := by decide +kernel
theorem dX0_make_106 : decode cX0_make 106 = .ok (.iconst (-1), 1) := by decide +kernel
theorem dX0_make_107 : decode cX0_make 107 = .ok (.if_icmp .eq 24, 3) := by decide +kernel
theorem dX0_make_110 : decode cX0_make 110 = .ok (.aload_n 0, 1) := by decide +kernel
theorem dX0_make_111 : decode cX0_make 111 = .ok (.getfield 40, 3) := by decide +kernel
theorem dX0_make_114 : decode cX0_make 114 = .ok (.iload 5, 2) := by decide +kernel
theorem dX0_make_116 : decode cX0_make 116 = .ok (.iaload, 1) := by decide +kernel
theorem dX0_make_117 : decode cX0_make 117 = .ok (.iconst (-1), 1) := by decide +kernel
theorem dX0_make_118 : decode cX0_make 118 = .ok (.if_icmp .ne 13, 3) := by decide +kernel
theorem dX0_make_121 : decode cX0_make 121 = .ok (.aload_n 0, 1) := by decide +kernel
theorem dX0_make_122 : decode cX0_make 122 = .ok (.aload_n 1, 1) := by decide +kernel
theorem dX0_make_123 : decode cX0_make 123 = .ok (.aload_n 2, 1) := by decide +kernel
theorem dX0_make_124 : decode cX0_make 124 = .ok (.iload 5, 2) := by decide +kernel
theorem dX0_make_126 : decode cX0_make 126 = .ok (.aload 4, 2) := by decide +kernel
theorem dX0_make_128 : decode cX0_make 128 = .ok (.invokevirtual 61, 3) := by decide +kernel
theorem dX0_make_131 : decode cX0_make 131 = .ok (.iinc 5 1, 3) := by decide +kernel
theorem dX0_make_134 : decode cX0_make 134 = .ok (.goto (-44), 3) := by decide +kernel
theorem dX0_make_137 : decode cX0_make 137 = .ok (.aload_n 0, 1) := by decide +kernel
theorem dX0_make_138 : decode cX0_make 138 = .ok (.aload_n 1, 1) := by decide +kernel
theorem dX0_make_139 : decode cX0_make 139 = .ok (.aload_n 2, 1) := by decide +kernel
theorem dX0_make_140 : decode cX0_make 140 = .ok (.invokevirtual 65, 3) := by decide +kernel
theorem dX0_make_143 : decode cX0_make 143 = .ok (.return_, 1) := by decide +kernel
abbrev m_X0_make : MD := (yX0_make, cX0_make, 7, none)
theorem g_X0_51 {p : Program} {l : Launch} {e : Env} {R : Room} {s : State} {m : MethodId} {args : Array Value} {below : List Frame} {meth : Method} {c : Code} {H : Heap} {locs : List Loc} {cells slots : Nat} {Q : State → Prop} {d : MD} {g : GT} {A : Nat → Prop} {ws : va_W} {pc : Nat} {ls : Array Slot} {rest : List Value} (C : Cx p s m args meth c RX0 d g A) (w : Wd g A ws s.heap H locs) (q0 : Nat) {a : Nat} {fs : List Value} {v : Value} (he : ws[q0]? = some (a, .inr (6, fs))) (hv : fs[8]? = some v) (hd : decode d.2.1 pc = .ok (.getfield 51, 3)) (kk : W p l e R s m args below meth c H locs cells slots Q (F0 m (pc + 3) ls (v :: rest))) : W p l e R s m args below meth c H locs cells slots Q (F0 m pc ls (.ref a :: rest)) := fgN C w inX6s (ref := RX6) rfl 8 (by decide) (nw_t (w := Cond.fieldLinkNest RX0 51 RX6 (TX6 8).2.1 (TX6 8).2.2.1 "FreeFlowToll") 230 (by decide +kernel) rfl) rfl q0 he hv hd kk
theorem q_956 : Cond.code yX0_priceTrips cX0_priceTrips 6 none ∈ TS := ts_t 956 (by decide +kernel) (by decide +kernel)
theorem q_953 : Cond.methodLink RX0 65 yX0_priceTrips ∈ TS := ts_t 953 (by decide +kernel) (by decide +kernel)
theorem q_955 : Cond.instanceMethod yX0_priceTrips ∈ TS := ts_t 955 (by decide +kernel) (by decide +kernel)
theorem qs_63 : Cond.selects yX0_priceTrips.cls yX0_priceTrips yX0_priceTrips ∈ TS := ts_s 63 (by decide +kernel) (by decide +kernel)
theorem k_X0_65 : LkV RX0 65 m_X0_priceTrips 2 := ⟨q_953, q_955, qs_63, ⟨q_5, q_956, by decide, by decide, by decide +kernel⟩⟩
theorem q_945 : Cond.code yX0_addVehicle cX0_addVehicle 8 none ∈ TS := ts_t 945 (by decide +kernel) (by decide +kernel)
theorem q_942 : Cond.methodLink RX0 61 yX0_addVehicle ∈ TS := ts_t 942 (by decide +kernel) (by decide +kernel)
theorem q_944 : Cond.instanceMethod yX0_addVehicle ∈ TS := ts_t 944 (by decide +kernel) (by decide +kernel)
theorem qs_61 : Cond.selects yX0_addVehicle.cls yX0_addVehicle yX0_addVehicle ∈ TS := ts_s 61 (by decide +kernel) (by decide +kernel)
theorem k_X0_61 : LkV RX0 61 m_X0_addVehicle 4 := ⟨q_942, q_944, qs_61, ⟨q_5, q_945, by decide, by decide, by decide +kernel⟩⟩
theorem k_X0_57 : LkN RX0 57 m_X6_vehicleOf 2 := ⟨⟨"FreeFlowToll", nw_t 941 (by decide +kernel) rfl⟩, q_418, qs_4, ⟨q_7, q_419, by decide, by decide, by decide +kernel⟩⟩
abbrev w_X0_make (g : GT) (h0 h1 h2 h3 h4 h5 h6 h7 h8 h9 h10 h11 h12 h13 h14 h15 h16 h17 h18 h19 h20 h21 h22 h23 h24 h25 h26 h27 h28 : Nat) (v10_1 v10_4 v10_6 v17_1 v17_3 v17_9 : Value) (trips0 invoices0 : Int32) (invoicePlate1 legPrice2 trip3 tripAxles4 tripCents5 tripClassNumber6 tripInvoice7 tripLength8 vehicle9 : Nat → Int32) (gantries10 classes10 tags10 confidence10 : Int32) (classAxles11 classPercent12 linkMinutes13 linkPrice14 tagAxles15 tagPlate16 : Nat → Int32) (count17 : Int32) (axleReadings18 gantry19 handAxles20 handPlate21 plateSums22 readPlates23 state24 tag25 time26 : Nat → Int32) (links27 price27 : Int32) (stops28 : Nat → Int32) : va_W := [(h0, .inr (0, [.int trips0, .int invoices0, .ref h1, .ref h7, .ref h4, .ref h8, .ref h6, .ref h5, .ref h9, .ref h3, .ref h2])), (h1, aI g 80 invoicePlate1), (h2, aI g 80 legPrice2), (h3, aI g 80 trip3), (h4, aI g 80 tripAxles4), (h5, aI g 80 tripCents5), (h6, aI g 80 tripClassNumber6), (h7, aI g 80 tripInvoice7), (h8, aI g 80 tripLength8), (h9, aI g 80 vehicle9), (h10, .inr (4, [.int gantries10, v10_1, .int classes10, .int tags10, v10_4, .int confidence10, v10_6, .ref h13, .ref h14, .ref h11, .ref h12, .ref h16, .ref h15])), (h11, aI g 4 classAxles11), (h12, aI g 4 classPercent12), (h13, aI g 100 linkMinutes13), (h14, aI g 100 linkPrice14), (h15, aI g 12 tagAxles15), (h16, aI g 12 tagPlate16), (h17, .inr (6, [.int count17, v17_1, .ref h19, v17_3, .ref h26, .ref h25, .ref h21, .ref h20, .ref h24, v17_9, .ref h23, .ref h22, .ref h18])), (h18, aI g 640 axleReadings18), (h19, aI g 80 gantry19), (h20, aI g 80 handAxles20), (h21, aI g 80 handPlate21), (h22, aI g 320 plateSums22), (h23, aI g 320 readPlates23), (h24, aI g 80 state24), (h25, aI g 80 tag25), (h26, aI g 80 time26), (h27, .inr (7, [.int links27, .int price27, .ref h28])), (h28, aI g 4 stops28)]
def f_X0_make_b131 (F : Nat) (k90 : (Int32 × Int32 × Int32 × (Nat → Int32) × (Nat → Int32) × (Nat → Int32) × (Nat → Int32) × (Nat → Int32) × (Nat → Int32) × (Nat → Int32) × (Nat → Int32) × (Nat → Int32) × Int32 × Int32 × (Nat → Int32)) → Option (Int32 × Int32 × (Nat → Int32) × (Nat → Int32) × (Nat → Int32) × (Nat → Int32) × (Nat → Int32) × (Nat → Int32) × (Nat → Int32) × (Nat → Int32) × (Nat → Int32) × Int32 × Int32 × (Nat → Int32))) (gantries10 classes10 tags10 confidence10 : Int32) (classAxles11 classPercent12 linkMinutes13 linkPrice14 tagAxles15 tagPlate16 : Nat → Int32) (count17 : Int32) (axleReadings18 gantry19 handAxles20 handPlate21 plateSums22 readPlates23 state24 tag25 time26 : Nat → Int32) (x5 trips0 invoices0 : Int32) (invoicePlate1 legPrice2 trip3 tripAxles4 tripCents5 tripClassNumber6 tripInvoice7 tripLength8 vehicle9 : Nat → Int32) (links27 price27 : Int32) (stops28 : Nat → Int32) : Option (Int32 × Int32 × (Nat → Int32) × (Nat → Int32) × (Nat → Int32) × (Nat → Int32) × (Nat → Int32) × (Nat → Int32) × (Nat → Int32) × (Nat → Int32) × (Nat → Int32) × Int32 × Int32 × (Nat → Int32)) :=
  k90 (x5 + 1, trips0, invoices0, invoicePlate1, legPrice2, trip3, tripAxles4, tripCents5, tripClassNumber6, tripInvoice7, tripLength8, vehicle9, links27, price27, stops28)
def f_X0_make_h90 (F : Nat) (gantries10 classes10 tags10 confidence10 : Int32) (classAxles11 classPercent12 linkMinutes13 linkPrice14 tagAxles15 tagPlate16 : Nat → Int32) (count17 : Int32) (axleReadings18 gantry19 handAxles20 handPlate21 plateSums22 readPlates23 state24 tag25 time26 : Nat → Int32) (k90 : (Int32 × Int32 × Int32 × (Nat → Int32) × (Nat → Int32) × (Nat → Int32) × (Nat → Int32) × (Nat → Int32) × (Nat → Int32) × (Nat → Int32) × (Nat → Int32) × (Nat → Int32) × Int32 × Int32 × (Nat → Int32)) → Option (Int32 × Int32 × (Nat → Int32) × (Nat → Int32) × (Nat → Int32) × (Nat → Int32) × (Nat → Int32) × (Nat → Int32) × (Nat → Int32) × (Nat → Int32) × (Nat → Int32) × Int32 × Int32 × (Nat → Int32))) (x5 trips0 invoices0 : Int32) (invoicePlate1 legPrice2 trip3 tripAxles4 tripCents5 tripClassNumber6 tripInvoice7 tripLength8 vehicle9 : Nat → Int32) (links27 price27 : Int32) (stops28 : Nat → Int32) : Option (Int32 × Int32 × (Nat → Int32) × (Nat → Int32) × (Nat → Int32) × (Nat → Int32) × (Nat → Int32) × (Nat → Int32) × (Nat → Int32) × (Nat → Int32) × (Nat → Int32) × Int32 × Int32 × (Nat → Int32)) :=
  if count17 ≤ x5 then
    bd2 (f_X0_priceTrips F trips0 invoicePlate1 legPrice2 trip3 tripAxles4 tripCents5 tripClassNumber6 tripInvoice7 tripLength8 gantries10 classes10 tags10 classAxles11 classPercent12 linkPrice14 tagAxles15 tagPlate16 count17 gantry19) fun o2 o3 =>
    some (trips0, invoices0, invoicePlate1, legPrice2, trip3, tripAxles4, o2, o3, tripInvoice7, tripLength8, vehicle9, links27, price27, stops28)
  else
    rd vehicle9 80 x5 fun a5 =>
    if a5 = (-1) then
      f_X0_make_b131 F k90 gantries10 classes10 tags10 confidence10 classAxles11 classPercent12 linkMinutes13 linkPrice14 tagAxles15 tagPlate16 count17 axleReadings18 gantry19 handAxles20 handPlate21 plateSums22 readPlates23 state24 tag25 time26 x5 trips0 invoices0 invoicePlate1 legPrice2 trip3 tripAxles4 tripCents5 tripClassNumber6 tripInvoice7 tripLength8 vehicle9 links27 price27 stops28
    else
      rd trip3 80 x5 fun a7 =>
      if a7 = (-1) then
        bd11 (f_X0_addVehicle F x5 trips0 invoices0 invoicePlate1 legPrice2 trip3 tripAxles4 tripInvoice7 tripLength8 vehicle9 gantries10 linkMinutes13 linkPrice14 count17 axleReadings18 gantry19 handAxles20 time26 links27 price27 stops28) fun o9 o10 o11 o12 o13 o14 o15 o16 o17 o18 o19 =>
        f_X0_make_b131 F k90 gantries10 classes10 tags10 confidence10 classAxles11 classPercent12 linkMinutes13 linkPrice14 tagAxles15 tagPlate16 count17 axleReadings18 gantry19 handAxles20 handPlate21 plateSums22 readPlates23 state24 tag25 time26 x5 o9 o10 o11 o12 o13 o14 tripCents5 tripClassNumber6 o15 o16 vehicle9 o17 o18 o19
      else
        f_X0_make_b131 F k90 gantries10 classes10 tags10 confidence10 classAxles11 classPercent12 linkMinutes13 linkPrice14 tagAxles15 tagPlate16 count17 axleReadings18 gantry19 handAxles20 handPlate21 plateSums22 readPlates23 state24 tag25 time26 x5 trips0 invoices0 invoicePlate1 legPrice2 trip3 tripAxles4 tripCents5 tripClassNumber6 tripInvoice7 tripLength8 vehicle9 links27 price27 stops28
def f_X0_make_L90 (F : Nat) (gantries10 classes10 tags10 confidence10 : Int32) (classAxles11 classPercent12 linkMinutes13 linkPrice14 tagAxles15 tagPlate16 : Nat → Int32) (count17 : Int32) (axleReadings18 gantry19 handAxles20 handPlate21 plateSums22 readPlates23 state24 tag25 time26 : Nat → Int32) (z : Int32 × Int32 × Int32 × (Nat → Int32) × (Nat → Int32) × (Nat → Int32) × (Nat → Int32) × (Nat → Int32) × (Nat → Int32) × (Nat → Int32) × (Nat → Int32) × (Nat → Int32) × Int32 × Int32 × (Nat → Int32)) : Option (Int32 × Int32 × (Nat → Int32) × (Nat → Int32) × (Nat → Int32) × (Nat → Int32) × (Nat → Int32) × (Nat → Int32) × (Nat → Int32) × (Nat → Int32) × (Nat → Int32) × Int32 × Int32 × (Nat → Int32)) := lp (fun k z => f_X0_make_h90 F gantries10 classes10 tags10 confidence10 classAxles11 classPercent12 linkMinutes13 linkPrice14 tagAxles15 tagPlate16 count17 axleReadings18 gantry19 handAxles20 handPlate21 plateSums22 readPlates23 state24 tag25 time26 k z.1 z.2.1 z.2.2.1 z.2.2.2.1 z.2.2.2.2.1 z.2.2.2.2.2.1 z.2.2.2.2.2.2.1 z.2.2.2.2.2.2.2.1 z.2.2.2.2.2.2.2.2.1 z.2.2.2.2.2.2.2.2.2.1 z.2.2.2.2.2.2.2.2.2.2.1 z.2.2.2.2.2.2.2.2.2.2.2.1 z.2.2.2.2.2.2.2.2.2.2.2.2.1 z.2.2.2.2.2.2.2.2.2.2.2.2.2.1 z.2.2.2.2.2.2.2.2.2.2.2.2.2.2) F z
def f_X0_make_b72 (F : Nat) (k13 : (Int32 × Int32 × Int32 × Int32 × (Nat → Int32) × (Nat → Int32) × (Nat → Int32) × (Nat → Int32) × (Nat → Int32) × (Nat → Int32) × (Nat → Int32) × (Nat → Int32) × (Nat → Int32) × Int32 × Int32 × (Nat → Int32)) → Option (Int32 × Int32 × (Nat → Int32) × (Nat → Int32) × (Nat → Int32) × (Nat → Int32) × (Nat → Int32) × (Nat → Int32) × (Nat → Int32) × (Nat → Int32) × (Nat → Int32) × Int32 × Int32 × (Nat → Int32))) (gantries10 classes10 tags10 confidence10 : Int32) (classAxles11 classPercent12 linkMinutes13 linkPrice14 tagAxles15 tagPlate16 : Nat → Int32) (count17 : Int32) (axleReadings18 gantry19 handAxles20 handPlate21 plateSums22 readPlates23 state24 tag25 time26 : Nat → Int32) (x3 x5 s0 s1 trips0 invoices0 : Int32) (invoicePlate1 legPrice2 trip3 tripAxles4 tripCents5 tripClassNumber6 tripInvoice7 tripLength8 vehicle9 : Nat → Int32) (links27 price27 : Int32) (stops28 : Nat → Int32) : Option (Int32 × Int32 × (Nat → Int32) × (Nat → Int32) × (Nat → Int32) × (Nat → Int32) × (Nat → Int32) × (Nat → Int32) × (Nat → Int32) × (Nat → Int32) × (Nat → Int32) × Int32 × Int32 × (Nat → Int32)) :=
  wr vehicle9 80 s1 s0 fun f21 =>
  wr trip3 80 x5 (-1) fun f22 =>
  k13 (x3, x5 + 1, trips0, invoices0, invoicePlate1, legPrice2, f22, tripAxles4, tripCents5, tripClassNumber6, tripInvoice7, tripLength8, f21, links27, price27, stops28)
def f_X0_make_b48 (F : Nat) (k13 : (Int32 × Int32 × Int32 × Int32 × (Nat → Int32) × (Nat → Int32) × (Nat → Int32) × (Nat → Int32) × (Nat → Int32) × (Nat → Int32) × (Nat → Int32) × (Nat → Int32) × (Nat → Int32) × Int32 × Int32 × (Nat → Int32)) → Option (Int32 × Int32 × (Nat → Int32) × (Nat → Int32) × (Nat → Int32) × (Nat → Int32) × (Nat → Int32) × (Nat → Int32) × (Nat → Int32) × (Nat → Int32) × (Nat → Int32) × Int32 × Int32 × (Nat → Int32))) (gantries10 classes10 tags10 confidence10 : Int32) (classAxles11 classPercent12 linkMinutes13 linkPrice14 tagAxles15 tagPlate16 : Nat → Int32) (count17 : Int32) (axleReadings18 gantry19 handAxles20 handPlate21 plateSums22 readPlates23 state24 tag25 time26 : Nat → Int32) (x3 x5 s0 trips0 invoices0 : Int32) (invoicePlate1 legPrice2 trip3 tripAxles4 tripCents5 tripClassNumber6 tripInvoice7 tripLength8 vehicle9 : Nat → Int32) (links27 price27 : Int32) (stops28 : Nat → Int32) : Option (Int32 × Int32 × (Nat → Int32) × (Nat → Int32) × (Nat → Int32) × (Nat → Int32) × (Nat → Int32) × (Nat → Int32) × (Nat → Int32) × (Nat → Int32) × (Nat → Int32) × Int32 × Int32 × (Nat → Int32)) :=
  if s0 = 0 then
    f_X0_make_b72 F k13 gantries10 classes10 tags10 confidence10 classAxles11 classPercent12 linkMinutes13 linkPrice14 tagAxles15 tagPlate16 count17 axleReadings18 gantry19 handAxles20 handPlate21 plateSums22 readPlates23 state24 tag25 time26 x3 x5 (-1) x5 trips0 invoices0 invoicePlate1 legPrice2 trip3 tripAxles4 tripCents5 tripClassNumber6 tripInvoice7 tripLength8 vehicle9 links27 price27 stops28
  else
    bd1 (f_X6_vehicleOf F x5 handPlate21 plateSums22 readPlates23 tag25 tags10 confidence10 tagPlate16) fun r24 =>
    f_X0_make_b72 F k13 gantries10 classes10 tags10 confidence10 classAxles11 classPercent12 linkMinutes13 linkPrice14 tagAxles15 tagPlate16 count17 axleReadings18 gantry19 handAxles20 handPlate21 plateSums22 readPlates23 state24 tag25 time26 x3 x5 r24 x5 trips0 invoices0 invoicePlate1 legPrice2 trip3 tripAxles4 tripCents5 tripClassNumber6 tripInvoice7 tripLength8 vehicle9 links27 price27 stops28
def f_X0_make_b47 (F : Nat) (k13 : (Int32 × Int32 × Int32 × Int32 × (Nat → Int32) × (Nat → Int32) × (Nat → Int32) × (Nat → Int32) × (Nat → Int32) × (Nat → Int32) × (Nat → Int32) × (Nat → Int32) × (Nat → Int32) × Int32 × Int32 × (Nat → Int32)) → Option (Int32 × Int32 × (Nat → Int32) × (Nat → Int32) × (Nat → Int32) × (Nat → Int32) × (Nat → Int32) × (Nat → Int32) × (Nat → Int32) × (Nat → Int32) × (Nat → Int32) × Int32 × Int32 × (Nat → Int32))) (gantries10 classes10 tags10 confidence10 : Int32) (classAxles11 classPercent12 linkMinutes13 linkPrice14 tagAxles15 tagPlate16 : Nat → Int32) (count17 : Int32) (axleReadings18 gantry19 handAxles20 handPlate21 plateSums22 readPlates23 state24 tag25 time26 : Nat → Int32) (x3 x5 trips0 invoices0 : Int32) (invoicePlate1 legPrice2 trip3 tripAxles4 tripCents5 tripClassNumber6 tripInvoice7 tripLength8 vehicle9 : Nat → Int32) (links27 price27 : Int32) (stops28 : Nat → Int32) : Option (Int32 × Int32 × (Nat → Int32) × (Nat → Int32) × (Nat → Int32) × (Nat → Int32) × (Nat → Int32) × (Nat → Int32) × (Nat → Int32) × (Nat → Int32) × (Nat → Int32) × Int32 × Int32 × (Nat → Int32)) :=
  f_X0_make_b48 F k13 gantries10 classes10 tags10 confidence10 classAxles11 classPercent12 linkMinutes13 linkPrice14 tagAxles15 tagPlate16 count17 axleReadings18 gantry19 handAxles20 handPlate21 plateSums22 readPlates23 state24 tag25 time26 x3 x5 0 trips0 invoices0 invoicePlate1 legPrice2 trip3 tripAxles4 tripCents5 tripClassNumber6 tripInvoice7 tripLength8 vehicle9 links27 price27 stops28
def f_X0_make_h13 (F : Nat) (gantries10 classes10 tags10 confidence10 : Int32) (classAxles11 classPercent12 linkMinutes13 linkPrice14 tagAxles15 tagPlate16 : Nat → Int32) (count17 : Int32) (axleReadings18 gantry19 handAxles20 handPlate21 plateSums22 readPlates23 state24 tag25 time26 : Nat → Int32) (k13 : (Int32 × Int32 × Int32 × Int32 × (Nat → Int32) × (Nat → Int32) × (Nat → Int32) × (Nat → Int32) × (Nat → Int32) × (Nat → Int32) × (Nat → Int32) × (Nat → Int32) × (Nat → Int32) × Int32 × Int32 × (Nat → Int32)) → Option (Int32 × Int32 × (Nat → Int32) × (Nat → Int32) × (Nat → Int32) × (Nat → Int32) × (Nat → Int32) × (Nat → Int32) × (Nat → Int32) × (Nat → Int32) × (Nat → Int32) × Int32 × Int32 × (Nat → Int32))) (x3 x5 trips0 invoices0 : Int32) (invoicePlate1 legPrice2 trip3 tripAxles4 tripCents5 tripClassNumber6 tripInvoice7 tripLength8 vehicle9 : Nat → Int32) (links27 price27 : Int32) (stops28 : Nat → Int32) : Option (Int32 × Int32 × (Nat → Int32) × (Nat → Int32) × (Nat → Int32) × (Nat → Int32) × (Nat → Int32) × (Nat → Int32) × (Nat → Int32) × (Nat → Int32) × (Nat → Int32) × Int32 × Int32 × (Nat → Int32)) :=
  if count17 ≤ x5 then
    f_X0_make_L90 F gantries10 classes10 tags10 confidence10 classAxles11 classPercent12 linkMinutes13 linkPrice14 tagAxles15 tagPlate16 count17 axleReadings18 gantry19 handAxles20 handPlate21 plateSums22 readPlates23 state24 tag25 time26 (0, trips0, invoices0, invoicePlate1, legPrice2, trip3, tripAxles4, tripCents5, tripClassNumber6, tripInvoice7, tripLength8, vehicle9, links27, price27, stops28)
  else
    rd state24 80 x5 fun a27 =>
    if a27 = 0 then
      rd time26 80 x5 fun a29 =>
      if x3 < a29 then
        f_X0_make_b47 F k13 gantries10 classes10 tags10 confidence10 classAxles11 classPercent12 linkMinutes13 linkPrice14 tagAxles15 tagPlate16 count17 axleReadings18 gantry19 handAxles20 handPlate21 plateSums22 readPlates23 state24 tag25 time26 x3 x5 trips0 invoices0 invoicePlate1 legPrice2 trip3 tripAxles4 tripCents5 tripClassNumber6 tripInvoice7 tripLength8 vehicle9 links27 price27 stops28
      else
        f_X0_make_b48 F k13 gantries10 classes10 tags10 confidence10 classAxles11 classPercent12 linkMinutes13 linkPrice14 tagAxles15 tagPlate16 count17 axleReadings18 gantry19 handAxles20 handPlate21 plateSums22 readPlates23 state24 tag25 time26 x3 x5 1 trips0 invoices0 invoicePlate1 legPrice2 trip3 tripAxles4 tripCents5 tripClassNumber6 tripInvoice7 tripLength8 vehicle9 links27 price27 stops28
    else
      f_X0_make_b47 F k13 gantries10 classes10 tags10 confidence10 classAxles11 classPercent12 linkMinutes13 linkPrice14 tagAxles15 tagPlate16 count17 axleReadings18 gantry19 handAxles20 handPlate21 plateSums22 readPlates23 state24 tag25 time26 x3 x5 trips0 invoices0 invoicePlate1 legPrice2 trip3 tripAxles4 tripCents5 tripClassNumber6 tripInvoice7 tripLength8 vehicle9 links27 price27 stops28
def f_X0_make_L13 (F : Nat) (gantries10 classes10 tags10 confidence10 : Int32) (classAxles11 classPercent12 linkMinutes13 linkPrice14 tagAxles15 tagPlate16 : Nat → Int32) (count17 : Int32) (axleReadings18 gantry19 handAxles20 handPlate21 plateSums22 readPlates23 state24 tag25 time26 : Nat → Int32) (z : Int32 × Int32 × Int32 × Int32 × (Nat → Int32) × (Nat → Int32) × (Nat → Int32) × (Nat → Int32) × (Nat → Int32) × (Nat → Int32) × (Nat → Int32) × (Nat → Int32) × (Nat → Int32) × Int32 × Int32 × (Nat → Int32)) : Option (Int32 × Int32 × (Nat → Int32) × (Nat → Int32) × (Nat → Int32) × (Nat → Int32) × (Nat → Int32) × (Nat → Int32) × (Nat → Int32) × (Nat → Int32) × (Nat → Int32) × Int32 × Int32 × (Nat → Int32)) := lp (fun k z => f_X0_make_h13 F gantries10 classes10 tags10 confidence10 classAxles11 classPercent12 linkMinutes13 linkPrice14 tagAxles15 tagPlate16 count17 axleReadings18 gantry19 handAxles20 handPlate21 plateSums22 readPlates23 state24 tag25 time26 k z.1 z.2.1 z.2.2.1 z.2.2.2.1 z.2.2.2.2.1 z.2.2.2.2.2.1 z.2.2.2.2.2.2.1 z.2.2.2.2.2.2.2.1 z.2.2.2.2.2.2.2.2.1 z.2.2.2.2.2.2.2.2.2.1 z.2.2.2.2.2.2.2.2.2.2.1 z.2.2.2.2.2.2.2.2.2.2.2.1 z.2.2.2.2.2.2.2.2.2.2.2.2.1 z.2.2.2.2.2.2.2.2.2.2.2.2.2.1 z.2.2.2.2.2.2.2.2.2.2.2.2.2.2.1 z.2.2.2.2.2.2.2.2.2.2.2.2.2.2.2) F z
def f_X0_make (F : Nat) (p3 trips0 invoices0 : Int32) (invoicePlate1 legPrice2 trip3 tripAxles4 tripCents5 tripClassNumber6 tripInvoice7 tripLength8 vehicle9 : Nat → Int32) (gantries10 classes10 tags10 confidence10 : Int32) (classAxles11 classPercent12 linkMinutes13 linkPrice14 tagAxles15 tagPlate16 : Nat → Int32) (count17 : Int32) (axleReadings18 gantry19 handAxles20 handPlate21 plateSums22 readPlates23 state24 tag25 time26 : Nat → Int32) (links27 price27 : Int32) (stops28 : Nat → Int32) : Option (Int32 × Int32 × (Nat → Int32) × (Nat → Int32) × (Nat → Int32) × (Nat → Int32) × (Nat → Int32) × (Nat → Int32) × (Nat → Int32) × (Nat → Int32) × (Nat → Int32) × Int32 × Int32 × (Nat → Int32)) :=
  f_X0_make_L13 F gantries10 classes10 tags10 confidence10 classAxles11 classPercent12 linkMinutes13 linkPrice14 tagAxles15 tagPlate16 count17 axleReadings18 gantry19 handAxles20 handPlate21 plateSums22 readPlates23 state24 tag25 time26 (p3, 0, 0, 0, invoicePlate1, legPrice2, trip3, tripAxles4, tripCents5, tripClassNumber6, tripInvoice7, tripLength8, vehicle9, links27, price27, stops28)
set_option maxHeartbeats 4000000 in
set_option maxRecDepth 100000 in
theorem c_X0_make (l : Launch) (g : GT) (F : Nat) (h0 h1 h2 h3 h4 h5 h6 h7 h8 h9 h10 h11 h12 h13 h14 h15 h16 h17 h18 h19 h20 h21 h22 h23 h24 h25 h26 h27 h28 : Nat) (v10_1 v10_4 v10_6 v17_1 v17_3 v17_9 : Value) (p3 trips0 invoices0 : Int32) (invoicePlate1 legPrice2 trip3 tripAxles4 tripCents5 tripClassNumber6 tripInvoice7 tripLength8 vehicle9 : Nat → Int32) (gantries10 classes10 tags10 confidence10 : Int32) (classAxles11 classPercent12 linkMinutes13 linkPrice14 tagAxles15 tagPlate16 : Nat → Int32) (count17 : Int32) (axleReadings18 gantry19 handAxles20 handPlate21 plateSums22 readPlates23 state24 tag25 time26 : Nat → Int32) (links27 price27 : Int32) (stops28 : Nat → Int32) (o_trips0 o_invoices0 : Int32) (o_invoicePlate1 o_legPrice2 o_trip3 o_tripAxles4 o_tripCents5 o_tripClassNumber6 o_tripInvoice7 o_tripLength8 o_vehicle9 : Nat → Int32) (o_links27 o_price27 : Int32) (o_stops28 : Nat → Int32) (sz : Nat) (hf : f_X0_make F p3 trips0 invoices0 invoicePlate1 legPrice2 trip3 tripAxles4 tripCents5 tripClassNumber6 tripInvoice7 tripLength8 vehicle9 gantries10 classes10 tags10 confidence10 classAxles11 classPercent12 linkMinutes13 linkPrice14 tagAxles15 tagPlate16 count17 axleReadings18 gantry19 handAxles20 handPlate21 plateSums22 readPlates23 state24 tag25 time26 links27 price27 stops28 = some (o_trips0, o_invoices0, o_invoicePlate1, o_legPrice2, o_trip3, o_tripAxles4, o_tripCents5, o_tripClassNumber6, o_tripInvoice7, o_tripLength8, o_vehicle9, o_links27, o_price27, o_stops28)) : CV l m_X0_make (rml 5 0 0) g (w_X0_make g h0 h1 h2 h3 h4 h5 h6 h7 h8 h9 h10 h11 h12 h13 h14 h15 h16 h17 h18 h19 h20 h21 h22 h23 h24 h25 h26 h27 h28 v10_1 v10_4 v10_6 v17_1 v17_3 v17_9 trips0 invoices0 invoicePlate1 legPrice2 trip3 tripAxles4 tripCents5 tripClassNumber6 tripInvoice7 tripLength8 vehicle9 gantries10 classes10 tags10 confidence10 classAxles11 classPercent12 linkMinutes13 linkPrice14 tagAxles15 tagPlate16 count17 axleReadings18 gantry19 handAxles20 handPlate21 plateSums22 readPlates23 state24 tag25 time26 links27 price27 stops28) (fun _ => w_X0_make g h0 h1 h2 h3 h4 h5 h6 h7 h8 h9 h10 h11 h12 h13 h14 h15 h16 h17 h18 h19 h20 h21 h22 h23 h24 h25 h26 h27 h28 v10_1 v10_4 v10_6 v17_1 v17_3 v17_9 o_trips0 o_invoices0 o_invoicePlate1 o_legPrice2 o_trip3 o_tripAxles4 o_tripCents5 o_tripClassNumber6 o_tripInvoice7 o_tripLength8 o_vehicle9 gantries10 classes10 tags10 confidence10 classAxles11 classPercent12 linkMinutes13 linkPrice14 tagAxles15 tagPlate16 count17 axleReadings18 gantry19 handAxles20 handPlate21 plateSums22 readPlates23 state24 tag25 time26 o_links27 o_price27 o_stops28) sz [.ref h0, .ref h10, .ref h17, .int p3, .ref h27] := by
  refine en_v (by decide) (Nat.le_of_ble_eq_true rfl) (fun p e s m args below meth c A ls C w hl => ?_)
  have C : Cx p s m args meth c RX0 m_X0_make g A := C
  have hx := C.1
  have hb : c.code = cX0_make := C.2.1
  have hl : lv_has ls 7 [(0, .ref h0), (1, .ref h10), (2, .ref h17), (3, .int p3), (4, .ref h27)] := hl
  obtain ⟨Q, hQ⟩ : ∃ Q, Q = QV below args s g A (fun _ => w_X0_make g h0 h1 h2 h3 h4 h5 h6 h7 h8 h9 h10 h11 h12 h13 h14 h15 h16 h17 h18 h19 h20 h21 h22 h23 h24 h25 h26 h27 h28 v10_1 v10_4 v10_6 v17_1 v17_3 v17_9 o_trips0 o_invoices0 o_invoicePlate1 o_legPrice2 o_trip3 o_tripAxles4 o_tripCents5 o_tripClassNumber6 o_tripInvoice7 o_tripLength8 o_vehicle9 gantries10 classes10 tags10 confidence10 classAxles11 classPercent12 linkMinutes13 linkPrice14 tagAxles15 tagPlate16 count17 axleReadings18 gantry19 handAxles20 handPlate21 plateSums22 readPlates23 state24 tag25 time26 o_links27 o_price27 o_stops28) 0 0 := ⟨_, rfl⟩
  suffices hW : W p l e (rml 5 0 0) s m args below meth c s.heap [] 0 0 Q (F0 m 0 ls []) from (by rw [hQ] at hW; exact hW)
  unfold f_X0_make at hf
  have L90 : ∀ (z : Int32 × Int32 × Int32 × (Nat → Int32) × (Nat → Int32) × (Nat → Int32) × (Nat → Int32) × (Nat → Int32) × (Nat → Int32) × (Nat → Int32) × (Nat → Int32) × (Nat → Int32) × Int32 × Int32 × (Nat → Int32)), f_X0_make_L90 F gantries10 classes10 tags10 confidence10 classAxles11 classPercent12 linkMinutes13 linkPrice14 tagAxles15 tagPlate16 count17 axleReadings18 gantry19 handAxles20 handPlate21 plateSums22 readPlates23 state24 tag25 time26 z = some (o_trips0, o_invoices0, o_invoicePlate1, o_legPrice2, o_trip3, o_tripAxles4, o_tripCents5, o_tripClassNumber6, o_tripInvoice7, o_tripLength8, o_vehicle9, o_links27, o_price27, o_stops28) → ∀ (H : Heap) (locs : List Loc) (ls : Array Slot), Wd g A (w_X0_make g h0 h1 h2 h3 h4 h5 h6 h7 h8 h9 h10 h11 h12 h13 h14 h15 h16 h17 h18 h19 h20 h21 h22 h23 h24 h25 h26 h27 h28 v10_1 v10_4 v10_6 v17_1 v17_3 v17_9 z.2.1 z.2.2.1 z.2.2.2.1 z.2.2.2.2.1 z.2.2.2.2.2.1 z.2.2.2.2.2.2.1 z.2.2.2.2.2.2.2.1 z.2.2.2.2.2.2.2.2.1 z.2.2.2.2.2.2.2.2.2.1 z.2.2.2.2.2.2.2.2.2.2.1 z.2.2.2.2.2.2.2.2.2.2.2.1 gantries10 classes10 tags10 confidence10 classAxles11 classPercent12 linkMinutes13 linkPrice14 tagAxles15 tagPlate16 count17 axleReadings18 gantry19 handAxles20 handPlate21 plateSums22 readPlates23 state24 tag25 time26 z.2.2.2.2.2.2.2.2.2.2.2.2.1 z.2.2.2.2.2.2.2.2.2.2.2.2.2.1 z.2.2.2.2.2.2.2.2.2.2.2.2.2.2) s.heap H locs → lv_has ls 7 [(0, .ref h0), (1, .ref h10), (2, .ref h17), (4, .ref h27), (5, .int z.1)] → W p l e (rml 5 0 0) s m args below meth c H locs 0 0 Q (F0 m 90 ls []) := by
    intro z hf
    refine lp_W (r := (o_trips0, o_invoices0, o_invoicePlate1, o_legPrice2, o_trip3, o_tripAxles4, o_tripCents5, o_tripClassNumber6, o_tripInvoice7, o_tripLength8, o_vehicle9, o_links27, o_price27, o_stops28)) (fun (z : Int32 × Int32 × Int32 × (Nat → Int32) × (Nat → Int32) × (Nat → Int32) × (Nat → Int32) × (Nat → Int32) × (Nat → Int32) × (Nat → Int32) × (Nat → Int32) × (Nat → Int32) × Int32 × Int32 × (Nat → Int32)) => ∀ (H : Heap) (locs : List Loc) (ls : Array Slot), Wd g A (w_X0_make g h0 h1 h2 h3 h4 h5 h6 h7 h8 h9 h10 h11 h12 h13 h14 h15 h16 h17 h18 h19 h20 h21 h22 h23 h24 h25 h26 h27 h28 v10_1 v10_4 v10_6 v17_1 v17_3 v17_9 z.2.1 z.2.2.1 z.2.2.2.1 z.2.2.2.2.1 z.2.2.2.2.2.1 z.2.2.2.2.2.2.1 z.2.2.2.2.2.2.2.1 z.2.2.2.2.2.2.2.2.1 z.2.2.2.2.2.2.2.2.2.1 z.2.2.2.2.2.2.2.2.2.2.1 z.2.2.2.2.2.2.2.2.2.2.2.1 gantries10 classes10 tags10 confidence10 classAxles11 classPercent12 linkMinutes13 linkPrice14 tagAxles15 tagPlate16 count17 axleReadings18 gantry19 handAxles20 handPlate21 plateSums22 readPlates23 state24 tag25 time26 z.2.2.2.2.2.2.2.2.2.2.2.2.1 z.2.2.2.2.2.2.2.2.2.2.2.2.2.1 z.2.2.2.2.2.2.2.2.2.2.2.2.2.2) s.heap H locs → lv_has ls 7 [(0, .ref h0), (1, .ref h10), (2, .ref h17), (4, .ref h27), (5, .int z.1)] → W p l e (rml 5 0 0) s m args below meth c H locs 0 0 Q (F0 m 90 ls [])) (fun k90 z ih90 hf => ?_) F z hf
    obtain ⟨x5, trips0, invoices0, invoicePlate1, legPrice2, trip3, tripAxles4, tripCents5, tripClassNumber6, tripInvoice7, tripLength8, vehicle9, links27, price27, stops28⟩ := z
    intro H locs ls w hl
    try dsimp only at hf w hl ⊢
    unfold f_X0_make_h90 at hf
    have b131 : ∀ (x5 trips0 invoices0 : Int32) (invoicePlate1 legPrice2 trip3 tripAxles4 tripCents5 tripClassNumber6 tripInvoice7 tripLength8 vehicle9 : Nat → Int32) (links27 price27 : Int32) (stops28 : Nat → Int32) (H : Heap) (locs : List Loc) (ls : Array Slot), f_X0_make_b131 F k90 gantries10 classes10 tags10 confidence10 classAxles11 classPercent12 linkMinutes13 linkPrice14 tagAxles15 tagPlate16 count17 axleReadings18 gantry19 handAxles20 handPlate21 plateSums22 readPlates23 state24 tag25 time26 x5 trips0 invoices0 invoicePlate1 legPrice2 trip3 tripAxles4 tripCents5 tripClassNumber6 tripInvoice7 tripLength8 vehicle9 links27 price27 stops28 = some (o_trips0, o_invoices0, o_invoicePlate1, o_legPrice2, o_trip3, o_tripAxles4, o_tripCents5, o_tripClassNumber6, o_tripInvoice7, o_tripLength8, o_vehicle9, o_links27, o_price27, o_stops28) → Wd g A (w_X0_make g h0 h1 h2 h3 h4 h5 h6 h7 h8 h9 h10 h11 h12 h13 h14 h15 h16 h17 h18 h19 h20 h21 h22 h23 h24 h25 h26 h27 h28 v10_1 v10_4 v10_6 v17_1 v17_3 v17_9 trips0 invoices0 invoicePlate1 legPrice2 trip3 tripAxles4 tripCents5 tripClassNumber6 tripInvoice7 tripLength8 vehicle9 gantries10 classes10 tags10 confidence10 classAxles11 classPercent12 linkMinutes13 linkPrice14 tagAxles15 tagPlate16 count17 axleReadings18 gantry19 handAxles20 handPlate21 plateSums22 readPlates23 state24 tag25 time26 links27 price27 stops28) s.heap H locs → lv_has ls 7 [(0, .ref h0), (1, .ref h10), (2, .ref h17), (4, .ref h27), (5, .int x5)] → W p l e (rml 5 0 0) s m args below meth c H locs 0 0 Q (F0 m 131 ls []) := by
      intro x5 trips0 invoices0 invoicePlate1 legPrice2 trip3 tripAxles4 tripCents5 tripClassNumber6 tripInvoice7 tripLength8 vehicle9 links27 price27 stops28 H locs ls hf w hl
      unfold f_X0_make_b131 at hf
      refine lv_iinc (v := x5 + 1) (lv' := [(5, .int (x5 + 1)), (0, .ref h0), (1, .ref h10), (2, .ref h17), (4, .ref h27)]) hx hb dX0_make_131 hl (k := 4) rfl rfl (by decide) rfl (fun ls hl => ?_)
      refine lv_goto (tgt := 90) hx hb dX0_make_134 (by decide) ?_
      exact ih90 (x5 + 1, trips0, invoices0, invoicePlate1, legPrice2, trip3, tripAxles4, tripCents5, tripClassNumber6, tripInvoice7, tripLength8, vehicle9, links27, price27, stops28) hf _ _ _ w (lv_sub hl [1, 2, 3, 4, 0] rfl)
    refine lv_iload hx hb dX0_make_90 (lv_at hl 4 rfl) ?_
    refine lv_aload_n hx hb dX0_make_92 rfl (lv_at hl 2 rfl) ?_
    refine g_X0_46 C w 17 rfl rfl dX0_make_93 ?_
    refine lv_icmp_ge (tgt := 137) hx hb dX0_make_96 (by decide) (fun c1 => ?_) (fun c1 => ?_)
    · replace hf := it_t c1 hf
      refine lv_aload_n hx hb dX0_make_137 rfl (lv_at hl 0 rfl) ?_
      refine lv_aload_n hx hb dX0_make_138 rfl (lv_at hl 1 rfl) ?_
      refine lv_aload_n hx hb dX0_make_139 rfl (lv_at hl 2 rfl) ?_
      obtain ⟨o2, o3, hc4, hf⟩ := bd2_some hf
      refine ca_vV C w (wn := fun _ => w_X0_make g h0 h1 h2 h3 h4 h5 h6 h7 h8 h9 h10 h11 h12 h13 h14 h15 h16 h17 h18 h19 h20 h21 h22 h23 h24 h25 h26 h27 h28 v10_1 v10_4 v10_6 v17_1 v17_3 v17_9 trips0 invoices0 invoicePlate1 legPrice2 trip3 tripAxles4 o2 o3 tripInvoice7 tripLength8 vehicle9 gantries10 classes10 tags10 confidence10 classAxles11 classPercent12 linkMinutes13 linkPrice14 tagAxles15 tagPlate16 count17 axleReadings18 gantry19 handAxles20 handPlate21 plateSums22 readPlates23 state24 tag25 time26 links27 price27 stops28) (pm_k [true, true, true, true, true, true, true, true, true, false, true, true, true, false, true, true, true, true, false, true, false, false, false, false, false, false, false, false, false] rfl rfl (fun _ => Nat.le_of_ble_eq_true rfl) (fun _ => rfl)) (c_X0_priceTrips l g F h0 h1 h2 h3 h4 h5 h6 h7 h8 h10 h11 h12 h14 h15 h16 h17 h19 (.int invoices0) (.ref h9) v10_1 v10_4 (.int confidence10) v10_6 (.ref h13) v17_1 v17_3 (.ref h26) (.ref h25) (.ref h21) (.ref h20) (.ref h24) v17_9 (.ref h23) (.ref h22) (.ref h18) trips0 invoicePlate1 legPrice2 trip3 tripAxles4 tripCents5 tripClassNumber6 tripInvoice7 tripLength8 gantries10 classes10 tags10 classAxles11 classPercent12 linkPrice14 tagAxles15 tagPlate16 count17 gantry19 o2 o3 _ hc4) k_X0_65 (rm_le (by decide) (by decide)) 0 0 rfl rfl rfl rfl hl.1 rfl (Nat.le_of_ble_eq_true rfl) dX0_make_140 ⟨Nat.le_of_ble_eq_true rfl, Nat.le_of_ble_eq_true rfl⟩ (cells2 := 0) (slots2 := 0) ⟨rfl, rfl⟩ (fun _ H locs w => ?_)
      obtain ⟨e1, e2, e3, e4, e5, e6, e7, e8, e9, e10, e11, e12, e13, e14⟩ := tp14 hf
      rw [hQ]
      exact rt_v C w rfl (fun _ => 0) (by rw [← e1, ← e2, ← e3, ← e4, ← e5, ← e6, ← e7, ← e8, ← e9, ← e10, ← e11, ← e12, ← e13, ← e14]) dX0_make_143
    · replace hf := it_f c1 hf
      refine lv_aload_n hx hb dX0_make_99 rfl (lv_at hl 0 rfl) ?_
      refine g_X0_37 C w 0 rfl rfl dX0_make_100 ?_
      refine lv_iload hx hb dX0_make_103 (lv_at hl 4 rfl) ?_
      obtain ⟨a5, hia5, haa5, hf⟩ := rd_some hf
      refine ial C w 9 rfl hia5 haa5 dX0_make_105 ?_
      refine lv_iconst (v := -1) hx hb dX0_make_106 (by decide) ?_
      refine lv_icmp_eq (tgt := 131) hx hb dX0_make_107 (by decide) (fun c6 => ?_) (fun c6 => ?_)
      · replace hf := it_t c6 hf
        exact b131 x5 trips0 invoices0 invoicePlate1 legPrice2 trip3 tripAxles4 tripCents5 tripClassNumber6 tripInvoice7 tripLength8 vehicle9 links27 price27 stops28 _ _ _ hf w (lv_sub hl [0, 1, 2, 3, 4] rfl)
      · replace hf := it_f c6 hf
        refine lv_aload_n hx hb dX0_make_110 rfl (lv_at hl 0 rfl) ?_
        refine g_X0_40 C w 0 rfl rfl dX0_make_111 ?_
        refine lv_iload hx hb dX0_make_114 (lv_at hl 4 rfl) ?_
        obtain ⟨a7, hia7, haa7, hf⟩ := rd_some hf
        refine ial C w 3 rfl hia7 haa7 dX0_make_116 ?_
        refine lv_iconst (v := -1) hx hb dX0_make_117 (by decide) ?_
        refine lv_icmp_ne (tgt := 131) hx hb dX0_make_118 (by decide) (fun c8 => ?_) (fun c8 => ?_)
        · replace hf := it_f c8 hf
          exact b131 x5 trips0 invoices0 invoicePlate1 legPrice2 trip3 tripAxles4 tripCents5 tripClassNumber6 tripInvoice7 tripLength8 vehicle9 links27 price27 stops28 _ _ _ hf w (lv_sub hl [0, 1, 2, 3, 4] rfl)
        · replace hf := it_t c8 hf
          refine lv_aload_n hx hb dX0_make_121 rfl (lv_at hl 0 rfl) ?_
          refine lv_aload_n hx hb dX0_make_122 rfl (lv_at hl 1 rfl) ?_
          refine lv_aload_n hx hb dX0_make_123 rfl (lv_at hl 2 rfl) ?_
          refine lv_iload hx hb dX0_make_124 (lv_at hl 4 rfl) ?_
          refine lv_aload hx hb dX0_make_126 (lv_at hl 3 rfl) ?_
          obtain ⟨o9, o10, o11, o12, o13, o14, o15, o16, o17, o18, o19, hc20, hf⟩ := bd11_some hf
          refine ca_vV C w (wn := fun _ => w_X0_make g h0 h1 h2 h3 h4 h5 h6 h7 h8 h9 h10 h11 h12 h13 h14 h15 h16 h17 h18 h19 h20 h21 h22 h23 h24 h25 h26 h27 h28 v10_1 v10_4 v10_6 v17_1 v17_3 v17_9 o9 o10 o11 o12 o13 o14 tripCents5 tripClassNumber6 o15 o16 vehicle9 gantries10 classes10 tags10 confidence10 classAxles11 classPercent12 linkMinutes13 linkPrice14 tagAxles15 tagPlate16 count17 axleReadings18 gantry19 handAxles20 handPlate21 plateSums22 readPlates23 state24 tag25 time26 o17 o18 o19) (pm_k [true, true, true, true, true, false, false, true, true, true, true, false, false, true, true, false, false, true, true, true, true, false, false, false, false, false, true, true, true] rfl rfl (fun _ => Nat.le_of_ble_eq_true rfl) (fun _ => rfl)) (c_X0_addVehicle l g F h0 h1 h2 h3 h4 h7 h8 h9 h10 h13 h14 h17 h18 h19 h20 h26 h27 h28 (.ref h6) (.ref h5) v10_1 (.int classes10) (.int tags10) v10_4 (.int confidence10) v10_6 (.ref h11) (.ref h12) (.ref h16) (.ref h15) v17_1 v17_3 (.ref h25) (.ref h21) (.ref h24) v17_9 (.ref h23) (.ref h22) x5 trips0 invoices0 invoicePlate1 legPrice2 trip3 tripAxles4 tripInvoice7 tripLength8 vehicle9 gantries10 linkMinutes13 linkPrice14 count17 axleReadings18 gantry19 handAxles20 time26 links27 price27 stops28 o9 o10 o11 o12 o13 o14 o15 o16 o17 o18 o19 _ hc20) k_X0_61 (rm_le (by decide) (by decide)) 0 0 rfl rfl rfl rfl hl.1 rfl (Nat.le_of_ble_eq_true rfl) dX0_make_128 ⟨Nat.le_of_ble_eq_true rfl, Nat.le_of_ble_eq_true rfl⟩ (cells2 := 0) (slots2 := 0) ⟨rfl, rfl⟩ (fun _ H locs w => ?_)
          exact b131 x5 o9 o10 o11 o12 o13 o14 tripCents5 tripClassNumber6 o15 o16 vehicle9 o17 o18 o19 _ _ _ hf w (lv_sub hl [0, 1, 2, 3, 4] rfl)
  have L13 : ∀ (z : Int32 × Int32 × Int32 × Int32 × (Nat → Int32) × (Nat → Int32) × (Nat → Int32) × (Nat → Int32) × (Nat → Int32) × (Nat → Int32) × (Nat → Int32) × (Nat → Int32) × (Nat → Int32) × Int32 × Int32 × (Nat → Int32)), f_X0_make_L13 F gantries10 classes10 tags10 confidence10 classAxles11 classPercent12 linkMinutes13 linkPrice14 tagAxles15 tagPlate16 count17 axleReadings18 gantry19 handAxles20 handPlate21 plateSums22 readPlates23 state24 tag25 time26 z = some (o_trips0, o_invoices0, o_invoicePlate1, o_legPrice2, o_trip3, o_tripAxles4, o_tripCents5, o_tripClassNumber6, o_tripInvoice7, o_tripLength8, o_vehicle9, o_links27, o_price27, o_stops28) → ∀ (H : Heap) (locs : List Loc) (ls : Array Slot), Wd g A (w_X0_make g h0 h1 h2 h3 h4 h5 h6 h7 h8 h9 h10 h11 h12 h13 h14 h15 h16 h17 h18 h19 h20 h21 h22 h23 h24 h25 h26 h27 h28 v10_1 v10_4 v10_6 v17_1 v17_3 v17_9 z.2.2.1 z.2.2.2.1 z.2.2.2.2.1 z.2.2.2.2.2.1 z.2.2.2.2.2.2.1 z.2.2.2.2.2.2.2.1 z.2.2.2.2.2.2.2.2.1 z.2.2.2.2.2.2.2.2.2.1 z.2.2.2.2.2.2.2.2.2.2.1 z.2.2.2.2.2.2.2.2.2.2.2.1 z.2.2.2.2.2.2.2.2.2.2.2.2.1 gantries10 classes10 tags10 confidence10 classAxles11 classPercent12 linkMinutes13 linkPrice14 tagAxles15 tagPlate16 count17 axleReadings18 gantry19 handAxles20 handPlate21 plateSums22 readPlates23 state24 tag25 time26 z.2.2.2.2.2.2.2.2.2.2.2.2.2.1 z.2.2.2.2.2.2.2.2.2.2.2.2.2.2.1 z.2.2.2.2.2.2.2.2.2.2.2.2.2.2.2) s.heap H locs → lv_has ls 7 [(0, .ref h0), (1, .ref h10), (2, .ref h17), (3, .int z.1), (4, .ref h27), (5, .int z.2.1)] → W p l e (rml 5 0 0) s m args below meth c H locs 0 0 Q (F0 m 13 ls []) := by
    intro z hf
    refine lp_W (r := (o_trips0, o_invoices0, o_invoicePlate1, o_legPrice2, o_trip3, o_tripAxles4, o_tripCents5, o_tripClassNumber6, o_tripInvoice7, o_tripLength8, o_vehicle9, o_links27, o_price27, o_stops28)) (fun (z : Int32 × Int32 × Int32 × Int32 × (Nat → Int32) × (Nat → Int32) × (Nat → Int32) × (Nat → Int32) × (Nat → Int32) × (Nat → Int32) × (Nat → Int32) × (Nat → Int32) × (Nat → Int32) × Int32 × Int32 × (Nat → Int32)) => ∀ (H : Heap) (locs : List Loc) (ls : Array Slot), Wd g A (w_X0_make g h0 h1 h2 h3 h4 h5 h6 h7 h8 h9 h10 h11 h12 h13 h14 h15 h16 h17 h18 h19 h20 h21 h22 h23 h24 h25 h26 h27 h28 v10_1 v10_4 v10_6 v17_1 v17_3 v17_9 z.2.2.1 z.2.2.2.1 z.2.2.2.2.1 z.2.2.2.2.2.1 z.2.2.2.2.2.2.1 z.2.2.2.2.2.2.2.1 z.2.2.2.2.2.2.2.2.1 z.2.2.2.2.2.2.2.2.2.1 z.2.2.2.2.2.2.2.2.2.2.1 z.2.2.2.2.2.2.2.2.2.2.2.1 z.2.2.2.2.2.2.2.2.2.2.2.2.1 gantries10 classes10 tags10 confidence10 classAxles11 classPercent12 linkMinutes13 linkPrice14 tagAxles15 tagPlate16 count17 axleReadings18 gantry19 handAxles20 handPlate21 plateSums22 readPlates23 state24 tag25 time26 z.2.2.2.2.2.2.2.2.2.2.2.2.2.1 z.2.2.2.2.2.2.2.2.2.2.2.2.2.2.1 z.2.2.2.2.2.2.2.2.2.2.2.2.2.2.2) s.heap H locs → lv_has ls 7 [(0, .ref h0), (1, .ref h10), (2, .ref h17), (3, .int z.1), (4, .ref h27), (5, .int z.2.1)] → W p l e (rml 5 0 0) s m args below meth c H locs 0 0 Q (F0 m 13 ls [])) (fun k13 z ih13 hf => ?_) F z hf
    obtain ⟨x3, x5, trips0, invoices0, invoicePlate1, legPrice2, trip3, tripAxles4, tripCents5, tripClassNumber6, tripInvoice7, tripLength8, vehicle9, links27, price27, stops28⟩ := z
    intro H locs ls w hl
    try dsimp only at hf w hl ⊢
    unfold f_X0_make_h13 at hf
    have b72 : ∀ (x3 x5 s0 s1 trips0 invoices0 : Int32) (invoicePlate1 legPrice2 trip3 tripAxles4 tripCents5 tripClassNumber6 tripInvoice7 tripLength8 vehicle9 : Nat → Int32) (links27 price27 : Int32) (stops28 : Nat → Int32) (H : Heap) (locs : List Loc) (ls : Array Slot), f_X0_make_b72 F k13 gantries10 classes10 tags10 confidence10 classAxles11 classPercent12 linkMinutes13 linkPrice14 tagAxles15 tagPlate16 count17 axleReadings18 gantry19 handAxles20 handPlate21 plateSums22 readPlates23 state24 tag25 time26 x3 x5 s0 s1 trips0 invoices0 invoicePlate1 legPrice2 trip3 tripAxles4 tripCents5 tripClassNumber6 tripInvoice7 tripLength8 vehicle9 links27 price27 stops28 = some (o_trips0, o_invoices0, o_invoicePlate1, o_legPrice2, o_trip3, o_tripAxles4, o_tripCents5, o_tripClassNumber6, o_tripInvoice7, o_tripLength8, o_vehicle9, o_links27, o_price27, o_stops28) → Wd g A (w_X0_make g h0 h1 h2 h3 h4 h5 h6 h7 h8 h9 h10 h11 h12 h13 h14 h15 h16 h17 h18 h19 h20 h21 h22 h23 h24 h25 h26 h27 h28 v10_1 v10_4 v10_6 v17_1 v17_3 v17_9 trips0 invoices0 invoicePlate1 legPrice2 trip3 tripAxles4 tripCents5 tripClassNumber6 tripInvoice7 tripLength8 vehicle9 gantries10 classes10 tags10 confidence10 classAxles11 classPercent12 linkMinutes13 linkPrice14 tagAxles15 tagPlate16 count17 axleReadings18 gantry19 handAxles20 handPlate21 plateSums22 readPlates23 state24 tag25 time26 links27 price27 stops28) s.heap H locs → lv_has ls 7 [(0, .ref h0), (1, .ref h10), (2, .ref h17), (3, .int x3), (4, .ref h27), (5, .int x5)] → W p l e (rml 5 0 0) s m args below meth c H locs 0 0 Q (F0 m 72 ls [.int s0, .int s1, .ref h9]) := by
      intro x3 x5 s0 s1 trips0 invoices0 invoicePlate1 legPrice2 trip3 tripAxles4 tripCents5 tripClassNumber6 tripInvoice7 tripLength8 vehicle9 links27 price27 stops28 H locs ls hf w hl
      unfold f_X0_make_b72 at hf
      obtain ⟨f21, hif21, haf21, hf⟩ := wr_some hf
      refine ias C w 9 rfl hif21 haf21 (ws2 := w_X0_make g h0 h1 h2 h3 h4 h5 h6 h7 h8 h9 h10 h11 h12 h13 h14 h15 h16 h17 h18 h19 h20 h21 h22 h23 h24 h25 h26 h27 h28 v10_1 v10_4 v10_6 v17_1 v17_3 v17_9 trips0 invoices0 invoicePlate1 legPrice2 trip3 tripAxles4 tripCents5 tripClassNumber6 tripInvoice7 tripLength8 f21 gantries10 classes10 tags10 confidence10 classAxles11 classPercent12 linkMinutes13 linkPrice14 tagAxles15 tagPlate16 count17 axleReadings18 gantry19 handAxles20 handPlate21 plateSums22 readPlates23 state24 tag25 time26 links27 price27 stops28) rfl dX0_make_72 (fun H locs w => ?_)
      refine lv_aload_n hx hb dX0_make_73 rfl (lv_at hl 0 rfl) ?_
      refine g_X0_40 C w 0 rfl rfl dX0_make_74 ?_
      refine lv_iload hx hb dX0_make_77 (lv_at hl 5 rfl) ?_
      refine lv_iconst (v := -1) hx hb dX0_make_79 (by decide) ?_
      obtain ⟨f22, hif22, haf22, hf⟩ := wr_some hf
      refine ias C w 3 rfl hif22 haf22 (ws2 := w_X0_make g h0 h1 h2 h3 h4 h5 h6 h7 h8 h9 h10 h11 h12 h13 h14 h15 h16 h17 h18 h19 h20 h21 h22 h23 h24 h25 h26 h27 h28 v10_1 v10_4 v10_6 v17_1 v17_3 v17_9 trips0 invoices0 invoicePlate1 legPrice2 f22 tripAxles4 tripCents5 tripClassNumber6 tripInvoice7 tripLength8 f21 gantries10 classes10 tags10 confidence10 classAxles11 classPercent12 linkMinutes13 linkPrice14 tagAxles15 tagPlate16 count17 axleReadings18 gantry19 handAxles20 handPlate21 plateSums22 readPlates23 state24 tag25 time26 links27 price27 stops28) rfl dX0_make_80 (fun H locs w => ?_)
      refine lv_iinc (v := x5 + 1) (lv' := [(5, .int (x5 + 1)), (0, .ref h0), (1, .ref h10), (2, .ref h17), (3, .int x3), (4, .ref h27)]) hx hb dX0_make_81 hl (k := 5) rfl rfl (by decide) rfl (fun ls hl => ?_)
      refine lv_goto (tgt := 13) hx hb dX0_make_84 (by decide) ?_
      exact ih13 (x3, x5 + 1, trips0, invoices0, invoicePlate1, legPrice2, f22, tripAxles4, tripCents5, tripClassNumber6, tripInvoice7, tripLength8, f21, links27, price27, stops28) hf _ _ _ w (lv_sub hl [1, 2, 3, 4, 5, 0] rfl)
    have b48 : ∀ (x3 x5 s0 trips0 invoices0 : Int32) (invoicePlate1 legPrice2 trip3 tripAxles4 tripCents5 tripClassNumber6 tripInvoice7 tripLength8 vehicle9 : Nat → Int32) (links27 price27 : Int32) (stops28 : Nat → Int32) (H : Heap) (locs : List Loc) (ls : Array Slot), f_X0_make_b48 F k13 gantries10 classes10 tags10 confidence10 classAxles11 classPercent12 linkMinutes13 linkPrice14 tagAxles15 tagPlate16 count17 axleReadings18 gantry19 handAxles20 handPlate21 plateSums22 readPlates23 state24 tag25 time26 x3 x5 s0 trips0 invoices0 invoicePlate1 legPrice2 trip3 tripAxles4 tripCents5 tripClassNumber6 tripInvoice7 tripLength8 vehicle9 links27 price27 stops28 = some (o_trips0, o_invoices0, o_invoicePlate1, o_legPrice2, o_trip3, o_tripAxles4, o_tripCents5, o_tripClassNumber6, o_tripInvoice7, o_tripLength8, o_vehicle9, o_links27, o_price27, o_stops28) → Wd g A (w_X0_make g h0 h1 h2 h3 h4 h5 h6 h7 h8 h9 h10 h11 h12 h13 h14 h15 h16 h17 h18 h19 h20 h21 h22 h23 h24 h25 h26 h27 h28 v10_1 v10_4 v10_6 v17_1 v17_3 v17_9 trips0 invoices0 invoicePlate1 legPrice2 trip3 tripAxles4 tripCents5 tripClassNumber6 tripInvoice7 tripLength8 vehicle9 gantries10 classes10 tags10 confidence10 classAxles11 classPercent12 linkMinutes13 linkPrice14 tagAxles15 tagPlate16 count17 axleReadings18 gantry19 handAxles20 handPlate21 plateSums22 readPlates23 state24 tag25 time26 links27 price27 stops28) s.heap H locs → lv_has ls 7 [(0, .ref h0), (1, .ref h10), (2, .ref h17), (3, .int x3), (4, .ref h27), (5, .int x5)] → W p l e (rml 5 0 0) s m args below meth c H locs 0 0 Q (F0 m 48 ls [.int s0]) := by
      intro x3 x5 s0 trips0 invoices0 invoicePlate1 legPrice2 trip3 tripAxles4 tripCents5 tripClassNumber6 tripInvoice7 tripLength8 vehicle9 links27 price27 stops28 H locs ls hf w hl
      unfold f_X0_make_b48 at hf
      refine lv_istore (lv' := [(6, .int s0), (0, .ref h0), (1, .ref h10), (2, .ref h17), (3, .int x3), (4, .ref h27), (5, .int x5)]) hx hb dX0_make_48 hl (by decide) rfl (fun ls hl => ?_)
      refine lv_aload_n hx hb dX0_make_50 rfl (lv_at hl 1 rfl) ?_
      refine g_X0_37 C w 0 rfl rfl dX0_make_51 ?_
      refine lv_iload hx hb dX0_make_54 (lv_at hl 6 rfl) ?_
      refine lv_iload hx hb dX0_make_56 (lv_at hl 0 rfl) ?_
      refine lv_if_eq (tgt := 71) hx hb dX0_make_58 (by decide) (fun c23 => ?_) (fun c23 => ?_)
      · replace hf := it_t c23 hf
        refine lv_iconst (v := -1) hx hb dX0_make_71 (by decide) ?_
        exact b72 x3 x5 (-1) x5 trips0 invoices0 invoicePlate1 legPrice2 trip3 tripAxles4 tripCents5 tripClassNumber6 tripInvoice7 tripLength8 vehicle9 links27 price27 stops28 _ _ _ hf w (lv_sub hl [1, 2, 3, 4, 5, 6] rfl)
      · replace hf := it_f c23 hf
        refine lv_aload_n hx hb dX0_make_61 rfl (lv_at hl 3 rfl) ?_
        refine lv_iload hx hb dX0_make_62 (lv_at hl 6 rfl) ?_
        refine lv_aload_n hx hb dX0_make_64 rfl (lv_at hl 2 rfl) ?_
        obtain ⟨r24, hc25, hf⟩ := bd1_some hf
        refine ca_iN C w (wn := fun _ => w_X0_make g h0 h1 h2 h3 h4 h5 h6 h7 h8 h9 h10 h11 h12 h13 h14 h15 h16 h17 h18 h19 h20 h21 h22 h23 h24 h25 h26 h27 h28 v10_1 v10_4 v10_6 v17_1 v17_3 v17_9 trips0 invoices0 invoicePlate1 legPrice2 trip3 tripAxles4 tripCents5 tripClassNumber6 tripInvoice7 tripLength8 vehicle9 gantries10 classes10 tags10 confidence10 classAxles11 classPercent12 linkMinutes13 linkPrice14 tagAxles15 tagPlate16 count17 axleReadings18 gantry19 handAxles20 handPlate21 plateSums22 readPlates23 state24 tag25 time26 links27 price27 stops28) (pm_q 29 29 [17, 21, 22, 23, 25, 10, 16] [0, 1, 2, 3, 4, 5, 6, 7, 8, 9, 11, 12, 13, 14, 15, 18, 19, 20, 24, 26, 27, 28] [0, 1, 2, 3, 4, 5, 6, 7, 8, 9, 27, 10, 11, 12, 13, 14, 28, 22, 15, 16, 17, 23, 24, 25, 18, 26, 19, 20, 21] rfl (by decide +kernel) rfl (fun _ => rfl) (by decide +kernel) (fun _ => rfl)) (c_X6_vehicleOf l g F h17 h21 h22 h23 h25 h10 h16 (.int count17) v17_1 (.ref h19) v17_3 (.ref h26) (.ref h20) (.ref h24) v17_9 (.ref h18) (.int gantries10) v10_1 (.int classes10) v10_4 v10_6 (.ref h13) (.ref h14) (.ref h11) (.ref h12) (.ref h15) x5 handPlate21 plateSums22 readPlates23 tag25 tags10 confidence10 tagPlate16 r24 _ hc25) k_X0_57 (rm_le (by decide) (by decide)) 17 6 rfl rfl rfl rfl hl.1 rfl (Nat.le_of_ble_eq_true rfl) dX0_make_65 ⟨Nat.le_of_ble_eq_true rfl, Nat.le_of_ble_eq_true rfl⟩ (cells2 := 0) (slots2 := 0) ⟨rfl, rfl⟩ (fun _ H locs w => ?_)
        refine lv_goto (tgt := 72) hx hb dX0_make_68 (by decide) ?_
        exact b72 x3 x5 r24 x5 trips0 invoices0 invoicePlate1 legPrice2 trip3 tripAxles4 tripCents5 tripClassNumber6 tripInvoice7 tripLength8 vehicle9 links27 price27 stops28 _ _ _ hf w (lv_sub hl [1, 2, 3, 4, 5, 6] rfl)
    have b47 : ∀ (x3 x5 trips0 invoices0 : Int32) (invoicePlate1 legPrice2 trip3 tripAxles4 tripCents5 tripClassNumber6 tripInvoice7 tripLength8 vehicle9 : Nat → Int32) (links27 price27 : Int32) (stops28 : Nat → Int32) (H : Heap) (locs : List Loc) (ls : Array Slot), f_X0_make_b47 F k13 gantries10 classes10 tags10 confidence10 classAxles11 classPercent12 linkMinutes13 linkPrice14 tagAxles15 tagPlate16 count17 axleReadings18 gantry19 handAxles20 handPlate21 plateSums22 readPlates23 state24 tag25 time26 x3 x5 trips0 invoices0 invoicePlate1 legPrice2 trip3 tripAxles4 tripCents5 tripClassNumber6 tripInvoice7 tripLength8 vehicle9 links27 price27 stops28 = some (o_trips0, o_invoices0, o_invoicePlate1, o_legPrice2, o_trip3, o_tripAxles4, o_tripCents5, o_tripClassNumber6, o_tripInvoice7, o_tripLength8, o_vehicle9, o_links27, o_price27, o_stops28) → Wd g A (w_X0_make g h0 h1 h2 h3 h4 h5 h6 h7 h8 h9 h10 h11 h12 h13 h14 h15 h16 h17 h18 h19 h20 h21 h22 h23 h24 h25 h26 h27 h28 v10_1 v10_4 v10_6 v17_1 v17_3 v17_9 trips0 invoices0 invoicePlate1 legPrice2 trip3 tripAxles4 tripCents5 tripClassNumber6 tripInvoice7 tripLength8 vehicle9 gantries10 classes10 tags10 confidence10 classAxles11 classPercent12 linkMinutes13 linkPrice14 tagAxles15 tagPlate16 count17 axleReadings18 gantry19 handAxles20 handPlate21 plateSums22 readPlates23 state24 tag25 time26 links27 price27 stops28) s.heap H locs → lv_has ls 7 [(0, .ref h0), (1, .ref h10), (2, .ref h17), (3, .int x3), (4, .ref h27), (5, .int x5)] → W p l e (rml 5 0 0) s m args below meth c H locs 0 0 Q (F0 m 47 ls []) := by
      intro x3 x5 trips0 invoices0 invoicePlate1 legPrice2 trip3 tripAxles4 tripCents5 tripClassNumber6 tripInvoice7 tripLength8 vehicle9 links27 price27 stops28 H locs ls hf w hl
      unfold f_X0_make_b47 at hf
      refine lv_iconst (v := 0) hx hb dX0_make_47 (by decide) ?_
      exact b48 x3 x5 0 trips0 invoices0 invoicePlate1 legPrice2 trip3 tripAxles4 tripCents5 tripClassNumber6 tripInvoice7 tripLength8 vehicle9 links27 price27 stops28 _ _ _ hf w (lv_sub hl [0, 1, 2, 3, 4, 5] rfl)
    refine lv_iload hx hb dX0_make_13 (lv_at hl 5 rfl) ?_
    refine lv_aload_n hx hb dX0_make_15 rfl (lv_at hl 2 rfl) ?_
    refine g_X0_46 C w 17 rfl rfl dX0_make_16 ?_
    refine lv_icmp_ge (tgt := 87) hx hb dX0_make_19 (by decide) (fun c26 => ?_) (fun c26 => ?_)
    · replace hf := it_t c26 hf
      refine lv_iconst (v := 0) hx hb dX0_make_87 (by decide) ?_
      refine lv_istore (lv' := [(5, .int 0), (0, .ref h0), (1, .ref h10), (2, .ref h17), (3, .int x3), (4, .ref h27)]) hx hb dX0_make_88 hl (by decide) rfl (fun ls hl => ?_)
      exact L90 (0, trips0, invoices0, invoicePlate1, legPrice2, trip3, tripAxles4, tripCents5, tripClassNumber6, tripInvoice7, tripLength8, vehicle9, links27, price27, stops28) hf _ _ _ w (lv_sub hl [1, 2, 3, 5, 0] rfl)
    · replace hf := it_f c26 hf
      refine lv_aload_n hx hb dX0_make_22 rfl (lv_at hl 2 rfl) ?_
      refine g_X0_51 C w 17 rfl rfl dX0_make_23 ?_
      refine lv_iload hx hb dX0_make_26 (lv_at hl 5 rfl) ?_
      obtain ⟨a27, hia27, haa27, hf⟩ := rd_some hf
      refine ial C w 24 rfl hia27 haa27 dX0_make_28 ?_
      refine lv_if_ne (tgt := 47) hx hb dX0_make_29 (by decide) (fun c28 => ?_) (fun c28 => ?_)
      · replace hf := it_f c28 hf
        exact b47 x3 x5 trips0 invoices0 invoicePlate1 legPrice2 trip3 tripAxles4 tripCents5 tripClassNumber6 tripInvoice7 tripLength8 vehicle9 links27 price27 stops28 _ _ _ hf w (lv_sub hl [0, 1, 2, 3, 4, 5] rfl)
      · replace hf := it_t c28 hf
        refine lv_aload_n hx hb dX0_make_32 rfl (lv_at hl 2 rfl) ?_
        refine g_X0_54 C w 17 rfl rfl dX0_make_33 ?_
        refine lv_iload hx hb dX0_make_36 (lv_at hl 5 rfl) ?_
        obtain ⟨a29, hia29, haa29, hf⟩ := rd_some hf
        refine ial C w 26 rfl hia29 haa29 dX0_make_38 ?_
        refine lv_iload_n hx hb dX0_make_39 rfl (lv_at hl 3 rfl) ?_
        refine lv_icmp_gt (tgt := 47) hx hb dX0_make_40 (by decide) (fun c30 => ?_) (fun c30 => ?_)
        · replace hf := it_t c30 hf
          exact b47 x3 x5 trips0 invoices0 invoicePlate1 legPrice2 trip3 tripAxles4 tripCents5 tripClassNumber6 tripInvoice7 tripLength8 vehicle9 links27 price27 stops28 _ _ _ hf w (lv_sub hl [0, 1, 2, 3, 4, 5] rfl)
        · replace hf := it_f c30 hf
          refine lv_iconst (v := 1) hx hb dX0_make_43 (by decide) ?_
          refine lv_goto (tgt := 48) hx hb dX0_make_44 (by decide) ?_
          exact b48 x3 x5 1 trips0 invoices0 invoicePlate1 legPrice2 trip3 tripAxles4 tripCents5 tripClassNumber6 tripInvoice7 tripLength8 vehicle9 links27 price27 stops28 _ _ _ hf w (lv_sub hl [0, 1, 2, 3, 4, 5] rfl)
  refine lv_aload_n hx hb dX0_make_0 rfl (lv_at hl 0 rfl) ?_
  refine lv_iconst (v := 0) hx hb dX0_make_1 (by decide) ?_
  refine p_X0_9 C w 0 rfl (Nat.le_of_ble_eq_true rfl) (ws2 := w_X0_make g h0 h1 h2 h3 h4 h5 h6 h7 h8 h9 h10 h11 h12 h13 h14 h15 h16 h17 h18 h19 h20 h21 h22 h23 h24 h25 h26 h27 h28 v10_1 v10_4 v10_6 v17_1 v17_3 v17_9 0 invoices0 invoicePlate1 legPrice2 trip3 tripAxles4 tripCents5 tripClassNumber6 tripInvoice7 tripLength8 vehicle9 gantries10 classes10 tags10 confidence10 classAxles11 classPercent12 linkMinutes13 linkPrice14 tagAxles15 tagPlate16 count17 axleReadings18 gantry19 handAxles20 handPlate21 plateSums22 readPlates23 state24 tag25 time26 links27 price27 stops28) rfl dX0_make_2 (fun H locs w => ?_)
  refine lv_aload_n hx hb dX0_make_5 rfl (lv_at hl 0 rfl) ?_
  refine lv_iconst (v := 0) hx hb dX0_make_6 (by decide) ?_
  refine p_X0_15 C w 0 rfl (Nat.le_of_ble_eq_true rfl) (ws2 := w_X0_make g h0 h1 h2 h3 h4 h5 h6 h7 h8 h9 h10 h11 h12 h13 h14 h15 h16 h17 h18 h19 h20 h21 h22 h23 h24 h25 h26 h27 h28 v10_1 v10_4 v10_6 v17_1 v17_3 v17_9 0 0 invoicePlate1 legPrice2 trip3 tripAxles4 tripCents5 tripClassNumber6 tripInvoice7 tripLength8 vehicle9 gantries10 classes10 tags10 confidence10 classAxles11 classPercent12 linkMinutes13 linkPrice14 tagAxles15 tagPlate16 count17 axleReadings18 gantry19 handAxles20 handPlate21 plateSums22 readPlates23 state24 tag25 time26 links27 price27 stops28) rfl dX0_make_7 (fun H locs w => ?_)
  refine lv_iconst (v := 0) hx hb dX0_make_10 (by decide) ?_
  refine lv_istore (lv' := [(5, .int 0), (0, .ref h0), (1, .ref h10), (2, .ref h17), (3, .int p3), (4, .ref h27)]) hx hb dX0_make_11 hl (by decide) rfl (fun ls hl => ?_)
  exact L13 (p3, 0, 0, 0, invoicePlate1, legPrice2, trip3, tripAxles4, tripCents5, tripClassNumber6, tripInvoice7, tripLength8, vehicle9, links27, price27, stops28) hf _ _ _ w (lv_sub hl [1, 2, 3, 4, 5, 0] rfl)

theorem dX0_total_0 : decode cX0_total 0 = .ok (.iconst 0, 1) := by decide +kernel
theorem dX0_total_1 : decode cX0_total 1 = .ok (.istore_n 2, 1) := by decide +kernel
theorem dX0_total_2 : decode cX0_total 2 = .ok (.iconst 0, 1) := by decide +kernel
theorem dX0_total_3 : decode cX0_total 3 = .ok (.istore_n 3, 1) := by decide +kernel
theorem dX0_total_4 : decode cX0_total 4 = .ok (.iload_n 3, 1) := by decide +kernel
theorem dX0_total_5 : decode cX0_total 5 = .ok (.aload_n 0, 1) := by decide +kernel
theorem dX0_total_6 : decode cX0_total 6 = .ok (.getfield 15, 3) := by decide +kernel
theorem dX0_total_9 : decode cX0_total 9 = .ok (.if_icmp .ge 22, 3) := by decide +kernel
theorem dX0_total_12 : decode cX0_total 12 = .ok (.iload_n 2, 1) := by decide +kernel
theorem dX0_total_13 : decode cX0_total 13 = .ok (.aload_n 1, 1) := by decide +kernel
theorem dX0_total_14 : decode cX0_total 14 = .ok (.aload_n 0, 1) := by decide +kernel
theorem dX0_total_15 : decode cX0_total 15 = .ok (.getfield 18, 3) := by decide +kernel
theorem dX0_total_18 : decode cX0_total 18 = .ok (.iload_n 3, 1) := by decide +kernel
theorem dX0_total_19 : decode cX0_total 19 = .ok (.iaload, 1) := by decide +kernel
theorem dX0_total_20 : decode cX0_total 20 = .ok (.invokevirtual 109, 3) := by decide +kernel
theorem dX0_total_23 : decode cX0_total 23 = .ok (.iadd, 1) := by decide +kernel
theorem dX0_total_24 : decode cX0_total 24 = .ok (.istore_n 2, 1) := by decide +kernel
theorem dX0_total_25 : decode cX0_total 25 = .ok (.iinc 3 1, 3) := by decide +kernel
theorem dX0_total_28 : decode cX0_total 28 = .ok (.goto (-24), 3) := by decide +kernel
theorem dX0_total_31 : decode cX0_total 31 = .ok (.iconst 0, 1) := by decide +kernel
theorem dX0_total_32 : decode cX0_total 32 = .ok (.istore_n 3, 1) := by decide +kernel
theorem dX0_total_33 : decode cX0_total 33 = .ok (.iload_n 3, 1) := by decide +kernel
theorem dX0_total_34 : decode cX0_total 34 = .ok (.aload_n 0, 1) := by decide +kernel
theorem dX0_total_35 : decode cX0_total 35 = .ok (.getfield 9, 3) := by decide +kernel
theorem dX0_total_38 : decode cX0_total 38 = .ok (.if_icmp .ge 18, 3) := by decide +kernel
theorem dX0_total_41 : decode cX0_total 41 = .ok (.iload_n 2, 1) := by decide +kernel
theorem dX0_total_42 : decode cX0_total 42 = .ok (.aload_n 0, 1) := by decide +kernel
theorem dX0_total_43 : decode cX0_total 43 = .ok (.getfield 34, 3) := by decide +kernel
theorem dX0_total_46 : decode cX0_total 46 = .ok (.iload_n 3, 1) := by decide +kernel
theorem dX0_total_47 : decode cX0_total 47 = .ok (.iaload, 1) := by decide +kernel
theorem dX0_total_48 : decode cX0_total 48 = .ok (.iadd, 1) := by decide +kernel
theorem dX0_total_49 : decode cX0_total 49 = .ok (.istore_n 2, 1) := by decide +kernel
theorem dX0_total_50 : decode cX0_total 50 = .ok (.iinc 3 1, 3) := by decide +kernel
theorem dX0_total_53 : decode cX0_total 53 = .ok (.goto (-20), 3) := by decide +kernel
theorem dX0_total_56 : decode cX0_total 56 = .ok (.iload_n 2, 1) := by decide +kernel
theorem dX0_total_57 : decode cX0_total 57 = .ok (.ireturn, 1) := by decide +kernel
abbrev m_X0_total : MD := (yX0_total, cX0_total, 4, (some .int))
theorem k_X0_109 : LkN RX0 109 m_X4_feeFor 1 := ⟨⟨"FreeFlowToll", nw_t 982 (by decide +kernel) rfl⟩, q_471, qs_14, ⟨q_2, q_472, by decide, by decide, by decide +kernel⟩⟩
abbrev w_X0_total (g : GT) (h0 h1 h2 h3 h4 : Nat) (v0_3 v0_4 v0_5 v0_6 v0_8 v0_9 v0_10 v3_0 v3_1 v3_2 v3_4 v3_5 v3_7 v3_8 v3_9 v3_10 v3_12 : Value) (trips0 invoices0 : Int32) (invoicePlate1 tripCents2 : Nat → Int32) (tags3 fee3 : Int32) (tagPlate4 : Nat → Int32) : va_W := [(h0, .inr (0, [.int trips0, .int invoices0, .ref h1, v0_3, v0_4, v0_5, v0_6, .ref h2, v0_8, v0_9, v0_10])), (h1, aI g 80 invoicePlate1), (h2, aI g 80 tripCents2), (h3, .inr (4, [v3_0, v3_1, v3_2, .int tags3, v3_4, v3_5, .int fee3, v3_7, v3_8, v3_9, v3_10, .ref h4, v3_12])), (h4, aI g 12 tagPlate4)]
def f_X0_total_h33 (F : Nat) (trips0 invoices0 : Int32) (invoicePlate1 tripCents2 : Nat → Int32) (tags3 fee3 : Int32) (tagPlate4 : Nat → Int32) (k33 : (Int32 × Int32) → Option (Int32)) (x2 x3 : Int32) : Option (Int32) :=
  if trips0 ≤ x3 then
    some x2
  else
    rd tripCents2 80 x3 fun a2 =>
    k33 (x2 + a2, x3 + 1)
def f_X0_total_L33 (F : Nat) (trips0 invoices0 : Int32) (invoicePlate1 tripCents2 : Nat → Int32) (tags3 fee3 : Int32) (tagPlate4 : Nat → Int32) (z : Int32 × Int32) : Option (Int32) := lp (fun k z => f_X0_total_h33 F trips0 invoices0 invoicePlate1 tripCents2 tags3 fee3 tagPlate4 k z.1 z.2) F z
def f_X0_total_h4 (F : Nat) (trips0 invoices0 : Int32) (invoicePlate1 tripCents2 : Nat → Int32) (tags3 fee3 : Int32) (tagPlate4 : Nat → Int32) (k4 : (Int32 × Int32) → Option (Int32)) (x2 x3 : Int32) : Option (Int32) :=
  if invoices0 ≤ x3 then
    f_X0_total_L33 F trips0 invoices0 invoicePlate1 tripCents2 tags3 fee3 tagPlate4 (x2, 0)
  else
    rd invoicePlate1 80 x3 fun a4 =>
    bd1 (f_X4_feeFor F a4 tags3 fee3 tagPlate4) fun r5 =>
    k4 (x2 + r5, x3 + 1)
def f_X0_total_L4 (F : Nat) (trips0 invoices0 : Int32) (invoicePlate1 tripCents2 : Nat → Int32) (tags3 fee3 : Int32) (tagPlate4 : Nat → Int32) (z : Int32 × Int32) : Option (Int32) := lp (fun k z => f_X0_total_h4 F trips0 invoices0 invoicePlate1 tripCents2 tags3 fee3 tagPlate4 k z.1 z.2) F z
def f_X0_total (F : Nat) (trips0 invoices0 : Int32) (invoicePlate1 tripCents2 : Nat → Int32) (tags3 fee3 : Int32) (tagPlate4 : Nat → Int32) : Option (Int32) :=
  f_X0_total_L4 F trips0 invoices0 invoicePlate1 tripCents2 tags3 fee3 tagPlate4 (0, 0)
set_option maxHeartbeats 4000000 in
set_option maxRecDepth 100000 in
theorem c_X0_total (l : Launch) (g : GT) (F : Nat) (h0 h1 h2 h3 h4 : Nat) (v0_3 v0_4 v0_5 v0_6 v0_8 v0_9 v0_10 v3_0 v3_1 v3_2 v3_4 v3_5 v3_7 v3_8 v3_9 v3_10 v3_12 : Value) (trips0 invoices0 : Int32) (invoicePlate1 tripCents2 : Nat → Int32) (tags3 fee3 : Int32) (tagPlate4 : Nat → Int32) (r : Int32) (sz : Nat) (hf : f_X0_total F trips0 invoices0 invoicePlate1 tripCents2 tags3 fee3 tagPlate4 = some r) : CI l m_X0_total (rml 2 0 0) g (w_X0_total g h0 h1 h2 h3 h4 v0_3 v0_4 v0_5 v0_6 v0_8 v0_9 v0_10 v3_0 v3_1 v3_2 v3_4 v3_5 v3_7 v3_8 v3_9 v3_10 v3_12 trips0 invoices0 invoicePlate1 tripCents2 tags3 fee3 tagPlate4) (fun _ => w_X0_total g h0 h1 h2 h3 h4 v0_3 v0_4 v0_5 v0_6 v0_8 v0_9 v0_10 v3_0 v3_1 v3_2 v3_4 v3_5 v3_7 v3_8 v3_9 v3_10 v3_12 trips0 invoices0 invoicePlate1 tripCents2 tags3 fee3 tagPlate4) sz [.ref h0, .ref h3] r := by
  refine en_i (by decide) (Nat.le_of_ble_eq_true rfl) (fun p e s m args below meth c A ls C w hl => ?_)
  have C : Cx p s m args meth c RX0 m_X0_total g A := C
  have hx := C.1
  have hb : c.code = cX0_total := C.2.1
  have hl : lv_has ls 4 [(0, .ref h0), (1, .ref h3)] := hl
  obtain ⟨Q, hQ⟩ : ∃ Q, Q = QI below args s g A (fun _ => w_X0_total g h0 h1 h2 h3 h4 v0_3 v0_4 v0_5 v0_6 v0_8 v0_9 v0_10 v3_0 v3_1 v3_2 v3_4 v3_5 v3_7 v3_8 v3_9 v3_10 v3_12 trips0 invoices0 invoicePlate1 tripCents2 tags3 fee3 tagPlate4) r 0 0 := ⟨_, rfl⟩
  suffices hW : W p l e (rml 2 0 0) s m args below meth c s.heap [] 0 0 Q (F0 m 0 ls []) from (by rw [hQ] at hW; exact hW)
  unfold f_X0_total at hf
  have L33 : ∀ (z : Int32 × Int32), f_X0_total_L33 F trips0 invoices0 invoicePlate1 tripCents2 tags3 fee3 tagPlate4 z = some r → ∀ (H : Heap) (locs : List Loc) (ls : Array Slot), Wd g A (w_X0_total g h0 h1 h2 h3 h4 v0_3 v0_4 v0_5 v0_6 v0_8 v0_9 v0_10 v3_0 v3_1 v3_2 v3_4 v3_5 v3_7 v3_8 v3_9 v3_10 v3_12 trips0 invoices0 invoicePlate1 tripCents2 tags3 fee3 tagPlate4) s.heap H locs → lv_has ls 4 [(0, .ref h0), (2, .int z.1), (3, .int z.2)] → W p l e (rml 2 0 0) s m args below meth c H locs 0 0 Q (F0 m 33 ls []) := by
    intro z hf
    refine lp_W (r := r) (fun (z : Int32 × Int32) => ∀ (H : Heap) (locs : List Loc) (ls : Array Slot), Wd g A (w_X0_total g h0 h1 h2 h3 h4 v0_3 v0_4 v0_5 v0_6 v0_8 v0_9 v0_10 v3_0 v3_1 v3_2 v3_4 v3_5 v3_7 v3_8 v3_9 v3_10 v3_12 trips0 invoices0 invoicePlate1 tripCents2 tags3 fee3 tagPlate4) s.heap H locs → lv_has ls 4 [(0, .ref h0), (2, .int z.1), (3, .int z.2)] → W p l e (rml 2 0 0) s m args below meth c H locs 0 0 Q (F0 m 33 ls [])) (fun k33 z ih33 hf => ?_) F z hf
    obtain ⟨x2, x3⟩ := z
    intro H locs ls w hl
    try dsimp only at hf w hl ⊢
    unfold f_X0_total_h33 at hf
    refine lv_iload_n hx hb dX0_total_33 rfl (lv_at hl 2 rfl) ?_
    refine lv_aload_n hx hb dX0_total_34 rfl (lv_at hl 0 rfl) ?_
    refine g_X0_9 C w 0 rfl rfl dX0_total_35 ?_
    refine lv_icmp_ge (tgt := 56) hx hb dX0_total_38 (by decide) (fun c1 => ?_) (fun c1 => ?_)
    · replace hf := it_t c1 hf
      refine lv_iload_n hx hb dX0_total_56 rfl (lv_at hl 1 rfl) ?_
      obtain e1 := tp1 hf
      rw [hQ]
      exact rt_i C w rfl (fun _ => 0) rfl e1 dX0_total_57
    · replace hf := it_f c1 hf
      refine lv_iload_n hx hb dX0_total_41 rfl (lv_at hl 1 rfl) ?_
      refine lv_aload_n hx hb dX0_total_42 rfl (lv_at hl 0 rfl) ?_
      refine g_X0_34 C w 0 rfl rfl dX0_total_43 ?_
      refine lv_iload_n hx hb dX0_total_46 rfl (lv_at hl 2 rfl) ?_
      obtain ⟨a2, hia2, haa2, hf⟩ := rd_some hf
      refine ial C w 2 rfl hia2 haa2 dX0_total_47 ?_
      refine lv_iadd hx hb dX0_total_48 ?_
      refine lv_istore_n (lv' := [(2, .int (x2 + a2)), (0, .ref h0), (3, .int x3)]) hx hb dX0_total_49 rfl hl (by decide) rfl (fun ls hl => ?_)
      refine lv_iinc (v := x3 + 1) (lv' := [(3, .int (x3 + 1)), (2, .int (x2 + a2)), (0, .ref h0)]) hx hb dX0_total_50 hl (k := 2) rfl rfl (by decide) rfl (fun ls hl => ?_)
      refine lv_goto (tgt := 33) hx hb dX0_total_53 (by decide) ?_
      exact ih33 (x2 + a2, x3 + 1) hf _ _ _ w (lv_sub hl [2, 1, 0] rfl)
  have L4 : ∀ (z : Int32 × Int32), f_X0_total_L4 F trips0 invoices0 invoicePlate1 tripCents2 tags3 fee3 tagPlate4 z = some r → ∀ (H : Heap) (locs : List Loc) (ls : Array Slot), Wd g A (w_X0_total g h0 h1 h2 h3 h4 v0_3 v0_4 v0_5 v0_6 v0_8 v0_9 v0_10 v3_0 v3_1 v3_2 v3_4 v3_5 v3_7 v3_8 v3_9 v3_10 v3_12 trips0 invoices0 invoicePlate1 tripCents2 tags3 fee3 tagPlate4) s.heap H locs → lv_has ls 4 [(0, .ref h0), (1, .ref h3), (2, .int z.1), (3, .int z.2)] → W p l e (rml 2 0 0) s m args below meth c H locs 0 0 Q (F0 m 4 ls []) := by
    intro z hf
    refine lp_W (r := r) (fun (z : Int32 × Int32) => ∀ (H : Heap) (locs : List Loc) (ls : Array Slot), Wd g A (w_X0_total g h0 h1 h2 h3 h4 v0_3 v0_4 v0_5 v0_6 v0_8 v0_9 v0_10 v3_0 v3_1 v3_2 v3_4 v3_5 v3_7 v3_8 v3_9 v3_10 v3_12 trips0 invoices0 invoicePlate1 tripCents2 tags3 fee3 tagPlate4) s.heap H locs → lv_has ls 4 [(0, .ref h0), (1, .ref h3), (2, .int z.1), (3, .int z.2)] → W p l e (rml 2 0 0) s m args below meth c H locs 0 0 Q (F0 m 4 ls [])) (fun k4 z ih4 hf => ?_) F z hf
    obtain ⟨x2, x3⟩ := z
    intro H locs ls w hl
    try dsimp only at hf w hl ⊢
    unfold f_X0_total_h4 at hf
    refine lv_iload_n hx hb dX0_total_4 rfl (lv_at hl 3 rfl) ?_
    refine lv_aload_n hx hb dX0_total_5 rfl (lv_at hl 0 rfl) ?_
    refine g_X0_15 C w 0 rfl rfl dX0_total_6 ?_
    refine lv_icmp_ge (tgt := 31) hx hb dX0_total_9 (by decide) (fun c3 => ?_) (fun c3 => ?_)
    · replace hf := it_t c3 hf
      refine lv_iconst (v := 0) hx hb dX0_total_31 (by decide) ?_
      refine lv_istore_n (lv' := [(3, .int 0), (0, .ref h0), (1, .ref h3), (2, .int x2)]) hx hb dX0_total_32 rfl hl (by decide) rfl (fun ls hl => ?_)
      exact L33 (x2, 0) hf _ _ _ w (lv_sub hl [1, 3, 0] rfl)
    · replace hf := it_f c3 hf
      refine lv_iload_n hx hb dX0_total_12 rfl (lv_at hl 2 rfl) ?_
      refine lv_aload_n hx hb dX0_total_13 rfl (lv_at hl 1 rfl) ?_
      refine lv_aload_n hx hb dX0_total_14 rfl (lv_at hl 0 rfl) ?_
      refine g_X0_18 C w 0 rfl rfl dX0_total_15 ?_
      refine lv_iload_n hx hb dX0_total_18 rfl (lv_at hl 3 rfl) ?_
      obtain ⟨a4, hia4, haa4, hf⟩ := rd_some hf
      refine ial C w 1 rfl hia4 haa4 dX0_total_19 ?_
      obtain ⟨r5, hc6, hf⟩ := bd1_some hf
      refine ca_iN C w (wn := fun _ => w_X0_total g h0 h1 h2 h3 h4 v0_3 v0_4 v0_5 v0_6 v0_8 v0_9 v0_10 v3_0 v3_1 v3_2 v3_4 v3_5 v3_7 v3_8 v3_9 v3_10 v3_12 trips0 invoices0 invoicePlate1 tripCents2 tags3 fee3 tagPlate4) (pm_k [false, false, false, true, true] rfl rfl (fun _ => Nat.le_of_ble_eq_true rfl) (fun _ => rfl)) (c_X4_feeFor l g F h3 h4 v3_0 v3_1 v3_2 v3_4 v3_5 v3_7 v3_8 v3_9 v3_10 v3_12 a4 tags3 fee3 tagPlate4 r5 _ hc6) k_X0_109 (rm_le (by decide) (by decide)) 3 4 rfl rfl rfl rfl hl.1 rfl (Nat.le_of_ble_eq_true rfl) dX0_total_20 ⟨Nat.le_of_ble_eq_true rfl, Nat.le_of_ble_eq_true rfl⟩ (cells2 := 0) (slots2 := 0) ⟨rfl, rfl⟩ (fun _ H locs w => ?_)
      refine lv_iadd hx hb dX0_total_23 ?_
      refine lv_istore_n (lv' := [(2, .int (x2 + r5)), (0, .ref h0), (1, .ref h3), (3, .int x3)]) hx hb dX0_total_24 rfl hl (by decide) rfl (fun ls hl => ?_)
      refine lv_iinc (v := x3 + 1) (lv' := [(3, .int (x3 + 1)), (2, .int (x2 + r5)), (0, .ref h0), (1, .ref h3)]) hx hb dX0_total_25 hl (k := 3) rfl rfl (by decide) rfl (fun ls hl => ?_)
      refine lv_goto (tgt := 4) hx hb dX0_total_28 (by decide) ?_
      exact ih4 (x2 + r5, x3 + 1) hf _ _ _ w (lv_sub hl [2, 3, 1, 0] rfl)
  refine lv_iconst (v := 0) hx hb dX0_total_0 (by decide) ?_
  refine lv_istore_n (lv' := [(2, .int 0), (0, .ref h0), (1, .ref h3)]) hx hb dX0_total_1 rfl hl (by decide) rfl (fun ls hl => ?_)
  refine lv_iconst (v := 0) hx hb dX0_total_2 (by decide) ?_
  refine lv_istore_n (lv' := [(3, .int 0), (2, .int 0), (0, .ref h0), (1, .ref h3)]) hx hb dX0_total_3 rfl hl (by decide) rfl (fun ls hl => ?_)
  exact L4 (0, 0) hf _ _ _ w (lv_sub hl [2, 3, 1, 0] rfl)

theorem dX0_enter_0 : decode cX0_enter 0 = .ok (.aload_n 1, 1) := by decide +kernel
theorem dX0_enter_1 : decode cX0_enter 1 = .ok (.getfield 112, 3) := by decide +kernel
theorem dX0_enter_4 : decode cX0_enter 4 = .ok (.getfield 118, 3) := by decide +kernel
theorem dX0_enter_7 : decode cX0_enter 7 = .ok (.istore_n 2, 1) := by decide +kernel
theorem dX0_enter_8 : decode cX0_enter 8 = .ok (.aload_n 1, 1) := by decide +kernel
theorem dX0_enter_9 : decode cX0_enter 9 = .ok (.getfield 112, 3) := by decide +kernel
theorem dX0_enter_12 : decode cX0_enter 12 = .ok (.getfield 121, 3) := by decide +kernel
theorem dX0_enter_15 : decode cX0_enter 15 = .ok (.istore_n 3, 1) := by decide +kernel
theorem dX0_enter_16 : decode cX0_enter 16 = .ok (.iconst 0, 1) := by decide +kernel
theorem dX0_enter_17 : decode cX0_enter 17 = .ok (.istore 4, 2) := by decide +kernel
theorem dX0_enter_19 : decode cX0_enter 19 = .ok (.iload 4, 2) := by decide +kernel
theorem dX0_enter_21 : decode cX0_enter 21 = .ok (.aload_n 0, 1) := by decide +kernel
theorem dX0_enter_22 : decode cX0_enter 22 = .ok (.getfield 15, 3) := by decide +kernel
theorem dX0_enter_25 : decode cX0_enter 25 = .ok (.if_icmp .ge 23, 3) := by decide +kernel
theorem dX0_enter_28 : decode cX0_enter 28 = .ok (.aload_n 1, 1) := by decide +kernel
theorem dX0_enter_29 : decode cX0_enter 29 = .ok (.getfield 112, 3) := by decide +kernel
theorem dX0_enter_32 : decode cX0_enter 32 = .ok (.aload_n 0, 1) := by decide +kernel
theorem dX0_enter_33 : decode cX0_enter 33 = .ok (.getfield 18, 3) := by decide +kernel
theorem dX0_enter_36 : decode cX0_enter 36 = .ok (.iload 4, 2) := by decide +kernel
theorem dX0_enter_38 : decode cX0_enter 38 = .ok (.iaload, 1) := by decide +kernel
theorem dX0_enter_39 : decode cX0_enter 39 = .ok (.invokevirtual 122, 3) := by decide +kernel
theorem dX0_enter_42 : decode cX0_enter 42 = .ok (.iinc 4 1, 3) := by decide +kernel
theorem dX0_enter_45 : decode cX0_enter 45 = .ok (.goto (-26), 3) := by decide +kernel
theorem dX0_enter_48 : decode cX0_enter 48 = .ok (.iconst 0, 1) := by decide +kernel
theorem dX0_enter_49 : decode cX0_enter 49 = .ok (.istore 4, 2) := by decide +kernel
theorem dX0_enter_51 : decode cX0_enter 51 = .ok (.iload 4, 2) := by decide +kernel
theorem dX0_enter_53 : decode cX0_enter 53 = .ok (.aload_n 0, 1) := by decide +kernel
theorem dX0_enter_54 : decode cX0_enter 54 = .ok (.getfield 9, 3) := by decide +kernel
theorem dX0_enter_57 : decode cX0_enter 57 = .ok (.if_icmp .ge 46, 3) := by decide +kernel
theorem dX0_enter_60 : decode cX0_enter 60 = .ok (.aload_n 1, 1) := by decide +kernel
theorem dX0_enter_61 : decode cX0_enter 61 = .ok (.getfield 112, 3) := by decide +kernel
theorem dX0_enter_64 : decode cX0_enter 64 = .ok (.iload_n 2, 1) := by decide +kernel
theorem dX0_enter_65 : decode cX0_enter 65 = .ok (.aload_n 0, 1) := by decide +kernel
theorem dX0_enter_66 : decode cX0_enter 66 = .ok (.getfield 22, 3) := by decide +kernel
theorem dX0_enter_69 : decode cX0_enter 69 = .ok (.iload 4, 2) := by decide +kernel
theorem dX0_enter_71 : decode cX0_enter 71 = .ok (.iaload, 1) := by decide +kernel
theorem dX0_enter_72 : decode cX0_enter 72 = .ok (.iadd, 1) := by decide +kernel
theorem dX0_enter_73 : decode cX0_enter 73 = .ok (.aload_n 0, 1) := by decide +kernel
theorem dX0_enter_74 : decode cX0_enter 74 = .ok (.getfield 31, 3) := by decide +kernel
theorem dX0_enter_77 : decode cX0_enter 77 = .ok (.iload 4, 2) := by decide +kernel
theorem dX0_enter_79 : decode cX0_enter 79 = .ok (.iaload, 1) := by decide +kernel
theorem dX0_enter_80 : decode cX0_enter 80 = .ok (.aload_n 0, 1) := by decide +kernel
theorem dX0_enter_81 : decode cX0_enter 81 = .ok (.getfield 34, 3) := by decide +kernel
theorem dX0_enter_84 : decode cX0_enter 84 = .ok (.iload 4, 2) := by decide +kernel
theorem dX0_enter_86 : decode cX0_enter 86 = .ok (.iaload, 1) := by decide +kernel
theorem dX0_enter_87 : decode cX0_enter 87 = .ok (.aload_n 0, 1) := by decide +kernel
theorem dX0_enter_88 : decode cX0_enter 88 = .ok (.getfield 28, 3) := by decide +kernel
theorem dX0_enter_91 : decode cX0_enter 91 = .ok (.iload 4, 2) := by decide +kernel
theorem dX0_enter_93 : decode cX0_enter 93 = .ok (.iaload, 1) := by decide +kernel
theorem dX0_enter_94 : decode cX0_enter 94 = .ok (.invokevirtual 126, 3) := by decide +kernel
theorem dX0_enter_97 : decode cX0_enter 97 = .ok (.iinc 4 1, 3) := by decide +kernel
theorem dX0_enter_100 : decode cX0_enter 100 = .ok (.goto (-49), 3) := by decide +kernel
theorem dX0_enter_103 : decode cX0_enter 103 = .ok (.iconst 0, 1) := by decide +kernel
theorem dX0_enter_104 : decode cX0_enter 104 = .ok (.istore 4, 2) := by decide +kernel
theorem dX0_enter_106 : decode cX0_enter 106 = .ok (.iload 4, 2) := by decide +kernel
theorem dX0_enter_108 : decode cX0_enter 108 = .ok (.aload_n 1, 1) := by decide +kernel
theorem dX0_enter_109 : decode cX0_enter 109 = .ok (.getfield 130, 3) := by decide +kernel
theorem dX0_enter_112 : decode cX0_enter 112 = .ok (.getfield 46, 3) := by decide +kernel
theorem dX0_enter_115 : decode cX0_enter 115 = .ok (.if_icmp .ge 50, 3) := by decide +kernel
theorem dX0_enter_118 : decode cX0_enter 118 = .ok (.aload_n 0, 1) := by decide +kernel
theorem dX0_enter_119 : decode cX0_enter 119 = .ok (.getfield 40, 3) := by decide +kernel
theorem dX0_enter_122 : decode cX0_enter 122 = .ok (.iload 4, 2) := by decide +kernel
theorem dX0_enter_124 : decode cX0_enter 124 = .ok (.iaload, 1) := by decide +kernel
theorem dX0_enter_125 : decode cX0_enter 125 = .ok (.iconst (-1), 1) := by decide +kernel
theorem dX0_enter_126 : decode cX0_enter 126 = .ok (.if_icmp .eq 33, 3) := by decide +kernel
theorem dX0_enter_129 : decode cX0_enter 129 = .ok (.aload_n 1, 1) := by decide +kernel
theorem dX0_enter_130 : decode cX0_enter 130 = .ok (.getfield 130, 3) := by decide +kernel
theorem dX0_enter_133 : decode cX0_enter 133 = .ok (.getfield 51, 3) := by decide +kernel
theorem dX0_enter_136 : decode cX0_enter 136 = .ok (.iload 4, 2) := by decide +kernel
theorem dX0_enter_138 : decode cX0_enter 138 = .ok (.iconst 1, 1) := by decide +kernel
theorem dX0_enter_139 : decode cX0_enter 139 = .ok (.iastore, 1) := by decide +kernel
theorem dX0_enter_140 : decode cX0_enter 140 = .ok (.aload_n 1, 1) := by decide +kernel
theorem dX0_enter_141 : decode cX0_enter 141 = .ok (.getfield 130, 3) := by decide +kernel
theorem dX0_enter_144 : decode cX0_enter 144 = .ok (.getfield 134, 3) := by decide +kernel
theorem dX0_enter_147 : decode cX0_enter 147 = .ok (.iload 4, 2) := by decide +kernel
theorem dX0_enter_149 : decode cX0_enter 149 = .ok (.iload_n 3, 1) := by decide +kernel
theorem dX0_enter_150 : decode cX0_enter 150 = .ok (.aload_n 0, 1) := by decide +kernel
theorem dX0_enter_151 : decode cX0_enter 151 = .ok (.getfield 40, 3) := by decide +kernel
theorem dX0_enter_154 : decode cX0_enter 154 = .ok (.iload 4, 2) := by decide +kernel
theorem dX0_enter_156 : decode cX0_enter 156 = .ok (.iaload, 1) := by decide +kernel
theorem dX0_enter_157 : decode cX0_enter 157 = .ok (.iadd, 1) := by decide +kernel
theorem dX0_enter_158 : decode cX0_enter 158 = .ok (.iastore, 1) := by decide +kernel
theorem dX0_enter_159 : decode cX0_enter 159 = .ok (.iinc 4 1, 3) := by decide +kernel
theorem dX0_enter_162 : decode cX0_enter 162 = .ok (.goto (-56), 3) := by decide +kernel
theorem dX0_enter_165 : decode cX0_enter 165 = .ok (.return_, 1) := by decide +kernel
abbrev m_X0_enter : MD := (yX0_enter, cX0_enter, 5, none)
theorem inX3s : ∀ w ∈ u_ws RX3 TX3 2, w ∈ TS := by
  show ∀ w ∈ [u_lay RX3 TX3 0, u_lay RX3 TX3 1], w ∈ TS
  exact List.forall_mem_cons.mpr ⟨ts_t 316 (by decide +kernel) (by decide +kernel), List.forall_mem_cons.mpr ⟨ts_t 318 (by decide +kernel) (by decide +kernel), fun _ h => absurd h List.not_mem_nil⟩⟩
theorem g_X0_130 {p : Program} {l : Launch} {e : Env} {R : Room} {s : State} {m : MethodId} {args : Array Value} {below : List Frame} {meth : Method} {c : Code} {H : Heap} {locs : List Loc} {cells slots : Nat} {Q : State → Prop} {d : MD} {g : GT} {A : Nat → Prop} {ws : va_W} {pc : Nat} {ls : Array Slot} {rest : List Value} (C : Cx p s m args meth c RX0 d g A) (w : Wd g A ws s.heap H locs) (q0 : Nat) {a : Nat} {fs : List Value} {v : Value} (he : ws[q0]? = some (a, .inr (3, fs))) (hv : fs[0]? = some v) (hd : decode d.2.1 pc = .ok (.getfield 130, 3)) (kk : W p l e R s m args below meth c H locs cells slots Q (F0 m (pc + 3) ls (v :: rest))) : W p l e R s m args below meth c H locs cells slots Q (F0 m pc ls (.ref a :: rest)) := fgN C w inX3s (ref := RX3) rfl 0 (by decide) (nw_t (w := Cond.fieldLinkNest RX0 130 RX3 (TX3 0).2.1 (TX3 0).2.2.1 "FreeFlowToll") 311 (by decide +kernel) rfl) rfl q0 he hv hd kk
theorem g_X0_134 {p : Program} {l : Launch} {e : Env} {R : Room} {s : State} {m : MethodId} {args : Array Value} {below : List Frame} {meth : Method} {c : Code} {H : Heap} {locs : List Loc} {cells slots : Nat} {Q : State → Prop} {d : MD} {g : GT} {A : Nat → Prop} {ws : va_W} {pc : Nat} {ls : Array Slot} {rest : List Value} (C : Cx p s m args meth c RX0 d g A) (w : Wd g A ws s.heap H locs) (q0 : Nat) {a : Nat} {fs : List Value} {v : Value} (he : ws[q0]? = some (a, .inr (6, fs))) (hv : fs[9]? = some v) (hd : decode d.2.1 pc = .ok (.getfield 134, 3)) (kk : W p l e R s m args below meth c H locs cells slots Q (F0 m (pc + 3) ls (v :: rest))) : W p l e R s m args below meth c H locs cells slots Q (F0 m pc ls (.ref a :: rest)) := fgN C w inX6s (ref := RX6) rfl 9 (by decide) (nw_t (w := Cond.fieldLinkNest RX0 134 RX6 (TX6 9).2.1 (TX6 9).2.2.1 "FreeFlowToll") 233 (by decide +kernel) rfl) rfl q0 he hv hd kk
theorem g_X0_112 {p : Program} {l : Launch} {e : Env} {R : Room} {s : State} {m : MethodId} {args : Array Value} {below : List Frame} {meth : Method} {c : Code} {H : Heap} {locs : List Loc} {cells slots : Nat} {Q : State → Prop} {d : MD} {g : GT} {A : Nat → Prop} {ws : va_W} {pc : Nat} {ls : Array Slot} {rest : List Value} (C : Cx p s m args meth c RX0 d g A) (w : Wd g A ws s.heap H locs) (q0 : Nat) {a : Nat} {fs : List Value} {v : Value} (he : ws[q0]? = some (a, .inr (3, fs))) (hv : fs[1]? = some v) (hd : decode d.2.1 pc = .ok (.getfield 112, 3)) (kk : W p l e R s m args below meth c H locs cells slots Q (F0 m (pc + 3) ls (v :: rest))) : W p l e R s m args below meth c H locs cells slots Q (F0 m pc ls (.ref a :: rest)) := fgN C w inX3s (ref := RX3) rfl 1 (by decide) (nw_t (w := Cond.fieldLinkNest RX0 112 RX3 (TX3 1).2.1 (TX3 1).2.2.1 "FreeFlowToll") 314 (by decide +kernel) rfl) rfl q0 he hv hd kk
theorem g_X0_118 {p : Program} {l : Launch} {e : Env} {R : Room} {s : State} {m : MethodId} {args : Array Value} {below : List Frame} {meth : Method} {c : Code} {H : Heap} {locs : List Loc} {cells slots : Nat} {Q : State → Prop} {d : MD} {g : GT} {A : Nat → Prop} {ws : va_W} {pc : Nat} {ls : Array Slot} {rest : List Value} (C : Cx p s m args meth c RX0 d g A) (w : Wd g A ws s.heap H locs) (q0 : Nat) {a : Nat} {fs : List Value} {v : Value} (he : ws[q0]? = some (a, .inr (1, fs))) (hv : fs[1]? = some v) (hd : decode d.2.1 pc = .ok (.getfield 118, 3)) (kk : W p l e R s m args below meth c H locs cells slots Q (F0 m (pc + 3) ls (v :: rest))) : W p l e R s m args below meth c H locs cells slots Q (F0 m pc ls (.ref a :: rest)) := fgN C w inX1s (ref := RX1) rfl 1 (by decide) (nw_t (w := Cond.fieldLinkNest RX0 118 RX1 (TX1 1).2.1 (TX1 1).2.2.1 "FreeFlowToll") 275 (by decide +kernel) rfl) rfl q0 he hv hd kk
theorem g_X0_121 {p : Program} {l : Launch} {e : Env} {R : Room} {s : State} {m : MethodId} {args : Array Value} {below : List Frame} {meth : Method} {c : Code} {H : Heap} {locs : List Loc} {cells slots : Nat} {Q : State → Prop} {d : MD} {g : GT} {A : Nat → Prop} {ws : va_W} {pc : Nat} {ls : Array Slot} {rest : List Value} (C : Cx p s m args meth c RX0 d g A) (w : Wd g A ws s.heap H locs) (q0 : Nat) {a : Nat} {fs : List Value} {v : Value} (he : ws[q0]? = some (a, .inr (1, fs))) (hv : fs[0]? = some v) (hd : decode d.2.1 pc = .ok (.getfield 121, 3)) (kk : W p l e R s m args below meth c H locs cells slots Q (F0 m (pc + 3) ls (v :: rest))) : W p l e R s m args below meth c H locs cells slots Q (F0 m pc ls (.ref a :: rest)) := fgN C w inX1s (ref := RX1) rfl 0 (by decide) (nw_t (w := Cond.fieldLinkNest RX0 121 RX1 (TX1 0).2.1 (TX1 0).2.2.1 "FreeFlowToll") 272 (by decide +kernel) rfl) rfl q0 he hv hd kk
theorem q_1182 : Cond.code yX1_addTrip cX1_addTrip 5 none ∈ TS := ts_t 1182 (by decide +kernel) (by decide +kernel)
theorem q_1181 : Cond.instanceMethod yX1_addTrip ∈ TS := ts_t 1181 (by decide +kernel) (by decide +kernel)
theorem qs_80 : Cond.selects yX1_addTrip.cls yX1_addTrip yX1_addTrip ∈ TS := ts_s 80 (by decide +kernel) (by decide +kernel)
theorem k_X0_126 : LkN RX0 126 m_X1_addTrip 4 := ⟨⟨"FreeFlowToll", nw_t 1179 (by decide +kernel) rfl⟩, q_1181, qs_80, ⟨q_8, q_1182, by decide, by decide, by decide +kernel⟩⟩
theorem q_1178 : Cond.code yX1_addInvoice cX1_addInvoice 2 none ∈ TS := ts_t 1178 (by decide +kernel) (by decide +kernel)
theorem q_1177 : Cond.instanceMethod yX1_addInvoice ∈ TS := ts_t 1177 (by decide +kernel) (by decide +kernel)
theorem qs_79 : Cond.selects yX1_addInvoice.cls yX1_addInvoice yX1_addInvoice ∈ TS := ts_s 79 (by decide +kernel) (by decide +kernel)
theorem k_X0_122 : LkN RX0 122 m_X1_addInvoice 1 := ⟨⟨"FreeFlowToll", nw_t 1175 (by decide +kernel) rfl⟩, q_1177, qs_79, ⟨q_8, q_1178, by decide, by decide, by decide +kernel⟩⟩
abbrev w_X0_enter (g : GT) (h0 h1 h2 h3 h4 h5 h6 h7 h8 h9 h10 h11 h12 h13 h14 h15 h16 h17 h18 : Nat) (v0_4 v0_8 v0_10 v16_1 v16_2 v16_3 v16_4 v16_5 v16_6 v16_7 v16_10 v16_11 v16_12 : Value) (trips0 invoices0 : Int32) (invoicePlate1 trip2 tripCents3 tripClassNumber4 tripInvoice5 tripLength6 : Nat → Int32) (trips8 invoices8 : Int32) (amount9 invoice10 paid11 passages12 plate13 state14 vehicleClass15 : Nat → Int32) (count16 : Int32) (state17 trip18 : Nat → Int32) : va_W := [(h0, .inr (0, [.int trips0, .int invoices0, .ref h1, .ref h5, v0_4, .ref h6, .ref h4, .ref h3, v0_8, .ref h2, v0_10])), (h1, aI g 80 invoicePlate1), (h2, aI g 80 trip2), (h3, aI g 80 tripCents3), (h4, aI g 80 tripClassNumber4), (h5, aI g 80 tripInvoice5), (h6, aI g 80 tripLength6), (h7, .inr (3, [.ref h16, .ref h8])), (h8, .inr (1, [.int trips8, .int invoices8, .ref h9, .ref h15, .ref h12, .ref h14, .ref h10, .ref h13, .ref h11])), (h9, aI g 80 amount9), (h10, aI g 80 invoice10), (h11, aI g 40 paid11), (h12, aI g 80 passages12), (h13, aI g 40 plate13), (h14, aI g 80 state14), (h15, aI g 80 vehicleClass15), (h16, .inr (6, [.int count16, v16_1, v16_2, v16_3, v16_4, v16_5, v16_6, v16_7, .ref h17, .ref h18, v16_10, v16_11, v16_12])), (h17, aI g 80 state17), (h18, aI g 80 trip18)]
def f_X0_enter_b159 (F : Nat) (k106 : (Int32 × Int32 × Int32 × Int32 × (Nat → Int32) × (Nat → Int32) × (Nat → Int32) × (Nat → Int32) × (Nat → Int32) × (Nat → Int32) × (Nat → Int32) × (Nat → Int32) × (Nat → Int32)) → Option (Int32 × Int32 × (Nat → Int32) × (Nat → Int32) × (Nat → Int32) × (Nat → Int32) × (Nat → Int32) × (Nat → Int32) × (Nat → Int32) × (Nat → Int32) × (Nat → Int32))) (trips0 invoices0 : Int32) (invoicePlate1 trip2 tripCents3 tripClassNumber4 tripInvoice5 tripLength6 : Nat → Int32) (count16 x3 x4 trips8 invoices8 : Int32) (amount9 invoice10 paid11 passages12 plate13 state14 vehicleClass15 state17 trip18 : Nat → Int32) : Option (Int32 × Int32 × (Nat → Int32) × (Nat → Int32) × (Nat → Int32) × (Nat → Int32) × (Nat → Int32) × (Nat → Int32) × (Nat → Int32) × (Nat → Int32) × (Nat → Int32)) :=
  k106 (x3, x4 + 1, trips8, invoices8, amount9, invoice10, paid11, passages12, plate13, state14, vehicleClass15, state17, trip18)
def f_X0_enter_h106 (F : Nat) (trips0 invoices0 : Int32) (invoicePlate1 trip2 tripCents3 tripClassNumber4 tripInvoice5 tripLength6 : Nat → Int32) (count16 : Int32) (k106 : (Int32 × Int32 × Int32 × Int32 × (Nat → Int32) × (Nat → Int32) × (Nat → Int32) × (Nat → Int32) × (Nat → Int32) × (Nat → Int32) × (Nat → Int32) × (Nat → Int32) × (Nat → Int32)) → Option (Int32 × Int32 × (Nat → Int32) × (Nat → Int32) × (Nat → Int32) × (Nat → Int32) × (Nat → Int32) × (Nat → Int32) × (Nat → Int32) × (Nat → Int32) × (Nat → Int32))) (x3 x4 trips8 invoices8 : Int32) (amount9 invoice10 paid11 passages12 plate13 state14 vehicleClass15 state17 trip18 : Nat → Int32) : Option (Int32 × Int32 × (Nat → Int32) × (Nat → Int32) × (Nat → Int32) × (Nat → Int32) × (Nat → Int32) × (Nat → Int32) × (Nat → Int32) × (Nat → Int32) × (Nat → Int32)) :=
  if count16 ≤ x4 then
    some (trips8, invoices8, amount9, invoice10, paid11, passages12, plate13, state14, vehicleClass15, state17, trip18)
  else
    rd trip2 80 x4 fun a2 =>
    if a2 = (-1) then
      f_X0_enter_b159 F k106 trips0 invoices0 invoicePlate1 trip2 tripCents3 tripClassNumber4 tripInvoice5 tripLength6 count16 x3 x4 trips8 invoices8 amount9 invoice10 paid11 passages12 plate13 state14 vehicleClass15 state17 trip18
    else
      wr state17 80 x4 1 fun f4 =>
      rd trip2 80 x4 fun a5 =>
      wr trip18 80 x4 (x3 + a5) fun f6 =>
      f_X0_enter_b159 F k106 trips0 invoices0 invoicePlate1 trip2 tripCents3 tripClassNumber4 tripInvoice5 tripLength6 count16 x3 x4 trips8 invoices8 amount9 invoice10 paid11 passages12 plate13 state14 vehicleClass15 f4 f6
def f_X0_enter_L106 (F : Nat) (trips0 invoices0 : Int32) (invoicePlate1 trip2 tripCents3 tripClassNumber4 tripInvoice5 tripLength6 : Nat → Int32) (count16 : Int32) (z : Int32 × Int32 × Int32 × Int32 × (Nat → Int32) × (Nat → Int32) × (Nat → Int32) × (Nat → Int32) × (Nat → Int32) × (Nat → Int32) × (Nat → Int32) × (Nat → Int32) × (Nat → Int32)) : Option (Int32 × Int32 × (Nat → Int32) × (Nat → Int32) × (Nat → Int32) × (Nat → Int32) × (Nat → Int32) × (Nat → Int32) × (Nat → Int32) × (Nat → Int32) × (Nat → Int32)) := lp (fun k z => f_X0_enter_h106 F trips0 invoices0 invoicePlate1 trip2 tripCents3 tripClassNumber4 tripInvoice5 tripLength6 count16 k z.1 z.2.1 z.2.2.1 z.2.2.2.1 z.2.2.2.2.1 z.2.2.2.2.2.1 z.2.2.2.2.2.2.1 z.2.2.2.2.2.2.2.1 z.2.2.2.2.2.2.2.2.1 z.2.2.2.2.2.2.2.2.2.1 z.2.2.2.2.2.2.2.2.2.2.1 z.2.2.2.2.2.2.2.2.2.2.2.1 z.2.2.2.2.2.2.2.2.2.2.2.2) F z
def f_X0_enter_h51 (F : Nat) (trips0 invoices0 : Int32) (invoicePlate1 trip2 tripCents3 tripClassNumber4 tripInvoice5 tripLength6 : Nat → Int32) (count16 : Int32) (k51 : (Int32 × Int32 × Int32 × Int32 × Int32 × (Nat → Int32) × (Nat → Int32) × (Nat → Int32) × (Nat → Int32) × (Nat → Int32) × (Nat → Int32) × (Nat → Int32) × (Nat → Int32) × (Nat → Int32)) → Option (Int32 × Int32 × (Nat → Int32) × (Nat → Int32) × (Nat → Int32) × (Nat → Int32) × (Nat → Int32) × (Nat → Int32) × (Nat → Int32) × (Nat → Int32) × (Nat → Int32))) (x2 x3 x4 trips8 invoices8 : Int32) (amount9 invoice10 paid11 passages12 plate13 state14 vehicleClass15 state17 trip18 : Nat → Int32) : Option (Int32 × Int32 × (Nat → Int32) × (Nat → Int32) × (Nat → Int32) × (Nat → Int32) × (Nat → Int32) × (Nat → Int32) × (Nat → Int32) × (Nat → Int32) × (Nat → Int32)) :=
  if trips0 ≤ x4 then
    f_X0_enter_L106 F trips0 invoices0 invoicePlate1 trip2 tripCents3 tripClassNumber4 tripInvoice5 tripLength6 count16 (x3, 0, trips8, invoices8, amount9, invoice10, paid11, passages12, plate13, state14, vehicleClass15, state17, trip18)
  else
    rd tripInvoice5 80 x4 fun a8 =>
    rd tripClassNumber4 80 x4 fun a9 =>
    rd tripCents3 80 x4 fun a10 =>
    rd tripLength6 80 x4 fun a11 =>
    bd6 (f_X1_addTrip F (x2 + a8) a9 a10 a11 trips8 amount9 invoice10 passages12 state14 vehicleClass15) fun o12 o13 o14 o15 o16 o17 =>
    k51 (x2, x3, x4 + 1, o12, invoices8, o13, o14, paid11, o15, plate13, o16, o17, state17, trip18)
def f_X0_enter_L51 (F : Nat) (trips0 invoices0 : Int32) (invoicePlate1 trip2 tripCents3 tripClassNumber4 tripInvoice5 tripLength6 : Nat → Int32) (count16 : Int32) (z : Int32 × Int32 × Int32 × Int32 × Int32 × (Nat → Int32) × (Nat → Int32) × (Nat → Int32) × (Nat → Int32) × (Nat → Int32) × (Nat → Int32) × (Nat → Int32) × (Nat → Int32) × (Nat → Int32)) : Option (Int32 × Int32 × (Nat → Int32) × (Nat → Int32) × (Nat → Int32) × (Nat → Int32) × (Nat → Int32) × (Nat → Int32) × (Nat → Int32) × (Nat → Int32) × (Nat → Int32)) := lp (fun k z => f_X0_enter_h51 F trips0 invoices0 invoicePlate1 trip2 tripCents3 tripClassNumber4 tripInvoice5 tripLength6 count16 k z.1 z.2.1 z.2.2.1 z.2.2.2.1 z.2.2.2.2.1 z.2.2.2.2.2.1 z.2.2.2.2.2.2.1 z.2.2.2.2.2.2.2.1 z.2.2.2.2.2.2.2.2.1 z.2.2.2.2.2.2.2.2.2.1 z.2.2.2.2.2.2.2.2.2.2.1 z.2.2.2.2.2.2.2.2.2.2.2.1 z.2.2.2.2.2.2.2.2.2.2.2.2.1 z.2.2.2.2.2.2.2.2.2.2.2.2.2) F z
def f_X0_enter_h19 (F : Nat) (trips0 invoices0 : Int32) (invoicePlate1 trip2 tripCents3 tripClassNumber4 tripInvoice5 tripLength6 : Nat → Int32) (count16 : Int32) (k19 : (Int32 × Int32 × Int32 × Int32 × Int32 × (Nat → Int32) × (Nat → Int32) × (Nat → Int32) × (Nat → Int32) × (Nat → Int32) × (Nat → Int32) × (Nat → Int32) × (Nat → Int32) × (Nat → Int32)) → Option (Int32 × Int32 × (Nat → Int32) × (Nat → Int32) × (Nat → Int32) × (Nat → Int32) × (Nat → Int32) × (Nat → Int32) × (Nat → Int32) × (Nat → Int32) × (Nat → Int32))) (x2 x3 x4 trips8 invoices8 : Int32) (amount9 invoice10 paid11 passages12 plate13 state14 vehicleClass15 state17 trip18 : Nat → Int32) : Option (Int32 × Int32 × (Nat → Int32) × (Nat → Int32) × (Nat → Int32) × (Nat → Int32) × (Nat → Int32) × (Nat → Int32) × (Nat → Int32) × (Nat → Int32) × (Nat → Int32)) :=
  if invoices0 ≤ x4 then
    f_X0_enter_L51 F trips0 invoices0 invoicePlate1 trip2 tripCents3 tripClassNumber4 tripInvoice5 tripLength6 count16 (x2, x3, 0, trips8, invoices8, amount9, invoice10, paid11, passages12, plate13, state14, vehicleClass15, state17, trip18)
  else
    rd invoicePlate1 80 x4 fun a20 =>
    bd3 (f_X1_addInvoice F a20 invoices8 paid11 plate13) fun o21 o22 o23 =>
    k19 (x2, x3, x4 + 1, trips8, o21, amount9, invoice10, o22, passages12, o23, state14, vehicleClass15, state17, trip18)
def f_X0_enter_L19 (F : Nat) (trips0 invoices0 : Int32) (invoicePlate1 trip2 tripCents3 tripClassNumber4 tripInvoice5 tripLength6 : Nat → Int32) (count16 : Int32) (z : Int32 × Int32 × Int32 × Int32 × Int32 × (Nat → Int32) × (Nat → Int32) × (Nat → Int32) × (Nat → Int32) × (Nat → Int32) × (Nat → Int32) × (Nat → Int32) × (Nat → Int32) × (Nat → Int32)) : Option (Int32 × Int32 × (Nat → Int32) × (Nat → Int32) × (Nat → Int32) × (Nat → Int32) × (Nat → Int32) × (Nat → Int32) × (Nat → Int32) × (Nat → Int32) × (Nat → Int32)) := lp (fun k z => f_X0_enter_h19 F trips0 invoices0 invoicePlate1 trip2 tripCents3 tripClassNumber4 tripInvoice5 tripLength6 count16 k z.1 z.2.1 z.2.2.1 z.2.2.2.1 z.2.2.2.2.1 z.2.2.2.2.2.1 z.2.2.2.2.2.2.1 z.2.2.2.2.2.2.2.1 z.2.2.2.2.2.2.2.2.1 z.2.2.2.2.2.2.2.2.2.1 z.2.2.2.2.2.2.2.2.2.2.1 z.2.2.2.2.2.2.2.2.2.2.2.1 z.2.2.2.2.2.2.2.2.2.2.2.2.1 z.2.2.2.2.2.2.2.2.2.2.2.2.2) F z
def f_X0_enter (F : Nat) (trips0 invoices0 : Int32) (invoicePlate1 trip2 tripCents3 tripClassNumber4 tripInvoice5 tripLength6 : Nat → Int32) (trips8 invoices8 : Int32) (amount9 invoice10 paid11 passages12 plate13 state14 vehicleClass15 : Nat → Int32) (count16 : Int32) (state17 trip18 : Nat → Int32) : Option (Int32 × Int32 × (Nat → Int32) × (Nat → Int32) × (Nat → Int32) × (Nat → Int32) × (Nat → Int32) × (Nat → Int32) × (Nat → Int32) × (Nat → Int32) × (Nat → Int32)) :=
  f_X0_enter_L19 F trips0 invoices0 invoicePlate1 trip2 tripCents3 tripClassNumber4 tripInvoice5 tripLength6 count16 (invoices8, trips8, 0, trips8, invoices8, amount9, invoice10, paid11, passages12, plate13, state14, vehicleClass15, state17, trip18)
set_option maxHeartbeats 4000000 in
set_option maxRecDepth 100000 in
theorem c_X0_enter (l : Launch) (g : GT) (F : Nat) (h0 h1 h2 h3 h4 h5 h6 h7 h8 h9 h10 h11 h12 h13 h14 h15 h16 h17 h18 : Nat) (v0_4 v0_8 v0_10 v16_1 v16_2 v16_3 v16_4 v16_5 v16_6 v16_7 v16_10 v16_11 v16_12 : Value) (trips0 invoices0 : Int32) (invoicePlate1 trip2 tripCents3 tripClassNumber4 tripInvoice5 tripLength6 : Nat → Int32) (trips8 invoices8 : Int32) (amount9 invoice10 paid11 passages12 plate13 state14 vehicleClass15 : Nat → Int32) (count16 : Int32) (state17 trip18 : Nat → Int32) (o_trips8 o_invoices8 : Int32) (o_amount9 o_invoice10 o_paid11 o_passages12 o_plate13 o_state14 o_vehicleClass15 o_state17 o_trip18 : Nat → Int32) (sz : Nat) (hf : f_X0_enter F trips0 invoices0 invoicePlate1 trip2 tripCents3 tripClassNumber4 tripInvoice5 tripLength6 trips8 invoices8 amount9 invoice10 paid11 passages12 plate13 state14 vehicleClass15 count16 state17 trip18 = some (o_trips8, o_invoices8, o_amount9, o_invoice10, o_paid11, o_passages12, o_plate13, o_state14, o_vehicleClass15, o_state17, o_trip18)) : CV l m_X0_enter (rml 1 0 0) g (w_X0_enter g h0 h1 h2 h3 h4 h5 h6 h7 h8 h9 h10 h11 h12 h13 h14 h15 h16 h17 h18 v0_4 v0_8 v0_10 v16_1 v16_2 v16_3 v16_4 v16_5 v16_6 v16_7 v16_10 v16_11 v16_12 trips0 invoices0 invoicePlate1 trip2 tripCents3 tripClassNumber4 tripInvoice5 tripLength6 trips8 invoices8 amount9 invoice10 paid11 passages12 plate13 state14 vehicleClass15 count16 state17 trip18) (fun _ => w_X0_enter g h0 h1 h2 h3 h4 h5 h6 h7 h8 h9 h10 h11 h12 h13 h14 h15 h16 h17 h18 v0_4 v0_8 v0_10 v16_1 v16_2 v16_3 v16_4 v16_5 v16_6 v16_7 v16_10 v16_11 v16_12 trips0 invoices0 invoicePlate1 trip2 tripCents3 tripClassNumber4 tripInvoice5 tripLength6 o_trips8 o_invoices8 o_amount9 o_invoice10 o_paid11 o_passages12 o_plate13 o_state14 o_vehicleClass15 count16 o_state17 o_trip18) sz [.ref h0, .ref h7] := by
  refine en_v (by decide) (Nat.le_of_ble_eq_true rfl) (fun p e s m args below meth c A ls C w hl => ?_)
  have C : Cx p s m args meth c RX0 m_X0_enter g A := C
  have hx := C.1
  have hb : c.code = cX0_enter := C.2.1
  have hl : lv_has ls 5 [(0, .ref h0), (1, .ref h7)] := hl
  obtain ⟨Q, hQ⟩ : ∃ Q, Q = QV below args s g A (fun _ => w_X0_enter g h0 h1 h2 h3 h4 h5 h6 h7 h8 h9 h10 h11 h12 h13 h14 h15 h16 h17 h18 v0_4 v0_8 v0_10 v16_1 v16_2 v16_3 v16_4 v16_5 v16_6 v16_7 v16_10 v16_11 v16_12 trips0 invoices0 invoicePlate1 trip2 tripCents3 tripClassNumber4 tripInvoice5 tripLength6 o_trips8 o_invoices8 o_amount9 o_invoice10 o_paid11 o_passages12 o_plate13 o_state14 o_vehicleClass15 count16 o_state17 o_trip18) 0 0 := ⟨_, rfl⟩
  suffices hW : W p l e (rml 1 0 0) s m args below meth c s.heap [] 0 0 Q (F0 m 0 ls []) from (by rw [hQ] at hW; exact hW)
  unfold f_X0_enter at hf
  have L106 : ∀ (z : Int32 × Int32 × Int32 × Int32 × (Nat → Int32) × (Nat → Int32) × (Nat → Int32) × (Nat → Int32) × (Nat → Int32) × (Nat → Int32) × (Nat → Int32) × (Nat → Int32) × (Nat → Int32)), f_X0_enter_L106 F trips0 invoices0 invoicePlate1 trip2 tripCents3 tripClassNumber4 tripInvoice5 tripLength6 count16 z = some (o_trips8, o_invoices8, o_amount9, o_invoice10, o_paid11, o_passages12, o_plate13, o_state14, o_vehicleClass15, o_state17, o_trip18) → ∀ (H : Heap) (locs : List Loc) (ls : Array Slot), Wd g A (w_X0_enter g h0 h1 h2 h3 h4 h5 h6 h7 h8 h9 h10 h11 h12 h13 h14 h15 h16 h17 h18 v0_4 v0_8 v0_10 v16_1 v16_2 v16_3 v16_4 v16_5 v16_6 v16_7 v16_10 v16_11 v16_12 trips0 invoices0 invoicePlate1 trip2 tripCents3 tripClassNumber4 tripInvoice5 tripLength6 z.2.2.1 z.2.2.2.1 z.2.2.2.2.1 z.2.2.2.2.2.1 z.2.2.2.2.2.2.1 z.2.2.2.2.2.2.2.1 z.2.2.2.2.2.2.2.2.1 z.2.2.2.2.2.2.2.2.2.1 z.2.2.2.2.2.2.2.2.2.2.1 count16 z.2.2.2.2.2.2.2.2.2.2.2.1 z.2.2.2.2.2.2.2.2.2.2.2.2) s.heap H locs → lv_has ls 5 [(0, .ref h0), (1, .ref h7), (3, .int z.1), (4, .int z.2.1)] → W p l e (rml 1 0 0) s m args below meth c H locs 0 0 Q (F0 m 106 ls []) := by
    intro z hf
    refine lp_W (r := (o_trips8, o_invoices8, o_amount9, o_invoice10, o_paid11, o_passages12, o_plate13, o_state14, o_vehicleClass15, o_state17, o_trip18)) (fun (z : Int32 × Int32 × Int32 × Int32 × (Nat → Int32) × (Nat → Int32) × (Nat → Int32) × (Nat → Int32) × (Nat → Int32) × (Nat → Int32) × (Nat → Int32) × (Nat → Int32) × (Nat → Int32)) => ∀ (H : Heap) (locs : List Loc) (ls : Array Slot), Wd g A (w_X0_enter g h0 h1 h2 h3 h4 h5 h6 h7 h8 h9 h10 h11 h12 h13 h14 h15 h16 h17 h18 v0_4 v0_8 v0_10 v16_1 v16_2 v16_3 v16_4 v16_5 v16_6 v16_7 v16_10 v16_11 v16_12 trips0 invoices0 invoicePlate1 trip2 tripCents3 tripClassNumber4 tripInvoice5 tripLength6 z.2.2.1 z.2.2.2.1 z.2.2.2.2.1 z.2.2.2.2.2.1 z.2.2.2.2.2.2.1 z.2.2.2.2.2.2.2.1 z.2.2.2.2.2.2.2.2.1 z.2.2.2.2.2.2.2.2.2.1 z.2.2.2.2.2.2.2.2.2.2.1 count16 z.2.2.2.2.2.2.2.2.2.2.2.1 z.2.2.2.2.2.2.2.2.2.2.2.2) s.heap H locs → lv_has ls 5 [(0, .ref h0), (1, .ref h7), (3, .int z.1), (4, .int z.2.1)] → W p l e (rml 1 0 0) s m args below meth c H locs 0 0 Q (F0 m 106 ls [])) (fun k106 z ih106 hf => ?_) F z hf
    obtain ⟨x3, x4, trips8, invoices8, amount9, invoice10, paid11, passages12, plate13, state14, vehicleClass15, state17, trip18⟩ := z
    intro H locs ls w hl
    try dsimp only at hf w hl ⊢
    unfold f_X0_enter_h106 at hf
    have b159 : ∀ (x3 x4 trips8 invoices8 : Int32) (amount9 invoice10 paid11 passages12 plate13 state14 vehicleClass15 state17 trip18 : Nat → Int32) (H : Heap) (locs : List Loc) (ls : Array Slot), f_X0_enter_b159 F k106 trips0 invoices0 invoicePlate1 trip2 tripCents3 tripClassNumber4 tripInvoice5 tripLength6 count16 x3 x4 trips8 invoices8 amount9 invoice10 paid11 passages12 plate13 state14 vehicleClass15 state17 trip18 = some (o_trips8, o_invoices8, o_amount9, o_invoice10, o_paid11, o_passages12, o_plate13, o_state14, o_vehicleClass15, o_state17, o_trip18) → Wd g A (w_X0_enter g h0 h1 h2 h3 h4 h5 h6 h7 h8 h9 h10 h11 h12 h13 h14 h15 h16 h17 h18 v0_4 v0_8 v0_10 v16_1 v16_2 v16_3 v16_4 v16_5 v16_6 v16_7 v16_10 v16_11 v16_12 trips0 invoices0 invoicePlate1 trip2 tripCents3 tripClassNumber4 tripInvoice5 tripLength6 trips8 invoices8 amount9 invoice10 paid11 passages12 plate13 state14 vehicleClass15 count16 state17 trip18) s.heap H locs → lv_has ls 5 [(0, .ref h0), (1, .ref h7), (3, .int x3), (4, .int x4)] → W p l e (rml 1 0 0) s m args below meth c H locs 0 0 Q (F0 m 159 ls []) := by
      intro x3 x4 trips8 invoices8 amount9 invoice10 paid11 passages12 plate13 state14 vehicleClass15 state17 trip18 H locs ls hf w hl
      unfold f_X0_enter_b159 at hf
      refine lv_iinc (v := x4 + 1) (lv' := [(4, .int (x4 + 1)), (0, .ref h0), (1, .ref h7), (3, .int x3)]) hx hb dX0_enter_159 hl (k := 3) rfl rfl (by decide) rfl (fun ls hl => ?_)
      refine lv_goto (tgt := 106) hx hb dX0_enter_162 (by decide) ?_
      exact ih106 (x3, x4 + 1, trips8, invoices8, amount9, invoice10, paid11, passages12, plate13, state14, vehicleClass15, state17, trip18) hf _ _ _ w (lv_sub hl [1, 2, 3, 0] rfl)
    refine lv_iload hx hb dX0_enter_106 (lv_at hl 3 rfl) ?_
    refine lv_aload_n hx hb dX0_enter_108 rfl (lv_at hl 1 rfl) ?_
    refine g_X0_130 C w 7 rfl rfl dX0_enter_109 ?_
    refine g_X0_46 C w 16 rfl rfl dX0_enter_112 ?_
    refine lv_icmp_ge (tgt := 165) hx hb dX0_enter_115 (by decide) (fun c1 => ?_) (fun c1 => ?_)
    · replace hf := it_t c1 hf
      obtain ⟨e1, e2, e3, e4, e5, e6, e7, e8, e9, e10, e11⟩ := tp11 hf
      rw [hQ]
      exact rt_v C w rfl (fun _ => 0) (by rw [← e1, ← e2, ← e3, ← e4, ← e5, ← e6, ← e7, ← e8, ← e9, ← e10, ← e11]) dX0_enter_165
    · replace hf := it_f c1 hf
      refine lv_aload_n hx hb dX0_enter_118 rfl (lv_at hl 0 rfl) ?_
      refine g_X0_40 C w 0 rfl rfl dX0_enter_119 ?_
      refine lv_iload hx hb dX0_enter_122 (lv_at hl 3 rfl) ?_
      obtain ⟨a2, hia2, haa2, hf⟩ := rd_some hf
      refine ial C w 2 rfl hia2 haa2 dX0_enter_124 ?_
      refine lv_iconst (v := -1) hx hb dX0_enter_125 (by decide) ?_
      refine lv_icmp_eq (tgt := 159) hx hb dX0_enter_126 (by decide) (fun c3 => ?_) (fun c3 => ?_)
      · replace hf := it_t c3 hf
        exact b159 x3 x4 trips8 invoices8 amount9 invoice10 paid11 passages12 plate13 state14 vehicleClass15 state17 trip18 _ _ _ hf w (lv_sub hl [0, 1, 2, 3] rfl)
      · replace hf := it_f c3 hf
        refine lv_aload_n hx hb dX0_enter_129 rfl (lv_at hl 1 rfl) ?_
        refine g_X0_130 C w 7 rfl rfl dX0_enter_130 ?_
        refine g_X0_51 C w 16 rfl rfl dX0_enter_133 ?_
        refine lv_iload hx hb dX0_enter_136 (lv_at hl 3 rfl) ?_
        refine lv_iconst (v := 1) hx hb dX0_enter_138 (by decide) ?_
        obtain ⟨f4, hif4, haf4, hf⟩ := wr_some hf
        refine ias C w 17 rfl hif4 haf4 (ws2 := w_X0_enter g h0 h1 h2 h3 h4 h5 h6 h7 h8 h9 h10 h11 h12 h13 h14 h15 h16 h17 h18 v0_4 v0_8 v0_10 v16_1 v16_2 v16_3 v16_4 v16_5 v16_6 v16_7 v16_10 v16_11 v16_12 trips0 invoices0 invoicePlate1 trip2 tripCents3 tripClassNumber4 tripInvoice5 tripLength6 trips8 invoices8 amount9 invoice10 paid11 passages12 plate13 state14 vehicleClass15 count16 f4 trip18) rfl dX0_enter_139 (fun H locs w => ?_)
        refine lv_aload_n hx hb dX0_enter_140 rfl (lv_at hl 1 rfl) ?_
        refine g_X0_130 C w 7 rfl rfl dX0_enter_141 ?_
        refine g_X0_134 C w 16 rfl rfl dX0_enter_144 ?_
        refine lv_iload hx hb dX0_enter_147 (lv_at hl 3 rfl) ?_
        refine lv_iload_n hx hb dX0_enter_149 rfl (lv_at hl 2 rfl) ?_
        refine lv_aload_n hx hb dX0_enter_150 rfl (lv_at hl 0 rfl) ?_
        refine g_X0_40 C w 0 rfl rfl dX0_enter_151 ?_
        refine lv_iload hx hb dX0_enter_154 (lv_at hl 3 rfl) ?_
        obtain ⟨a5, hia5, haa5, hf⟩ := rd_some hf
        refine ial C w 2 rfl hia5 haa5 dX0_enter_156 ?_
        refine lv_iadd hx hb dX0_enter_157 ?_
        obtain ⟨f6, hif6, haf6, hf⟩ := wr_some hf
        refine ias C w 18 rfl hif6 haf6 (ws2 := w_X0_enter g h0 h1 h2 h3 h4 h5 h6 h7 h8 h9 h10 h11 h12 h13 h14 h15 h16 h17 h18 v0_4 v0_8 v0_10 v16_1 v16_2 v16_3 v16_4 v16_5 v16_6 v16_7 v16_10 v16_11 v16_12 trips0 invoices0 invoicePlate1 trip2 tripCents3 tripClassNumber4 tripInvoice5 tripLength6 trips8 invoices8 amount9 invoice10 paid11 passages12 plate13 state14 vehicleClass15 count16 f4 f6) rfl dX0_enter_158 (fun H locs w => ?_)
        exact b159 x3 x4 trips8 invoices8 amount9 invoice10 paid11 passages12 plate13 state14 vehicleClass15 f4 f6 _ _ _ hf w (lv_sub hl [0, 1, 2, 3] rfl)
  have L51 : ∀ (z : Int32 × Int32 × Int32 × Int32 × Int32 × (Nat → Int32) × (Nat → Int32) × (Nat → Int32) × (Nat → Int32) × (Nat → Int32) × (Nat → Int32) × (Nat → Int32) × (Nat → Int32) × (Nat → Int32)), f_X0_enter_L51 F trips0 invoices0 invoicePlate1 trip2 tripCents3 tripClassNumber4 tripInvoice5 tripLength6 count16 z = some (o_trips8, o_invoices8, o_amount9, o_invoice10, o_paid11, o_passages12, o_plate13, o_state14, o_vehicleClass15, o_state17, o_trip18) → ∀ (H : Heap) (locs : List Loc) (ls : Array Slot), Wd g A (w_X0_enter g h0 h1 h2 h3 h4 h5 h6 h7 h8 h9 h10 h11 h12 h13 h14 h15 h16 h17 h18 v0_4 v0_8 v0_10 v16_1 v16_2 v16_3 v16_4 v16_5 v16_6 v16_7 v16_10 v16_11 v16_12 trips0 invoices0 invoicePlate1 trip2 tripCents3 tripClassNumber4 tripInvoice5 tripLength6 z.2.2.2.1 z.2.2.2.2.1 z.2.2.2.2.2.1 z.2.2.2.2.2.2.1 z.2.2.2.2.2.2.2.1 z.2.2.2.2.2.2.2.2.1 z.2.2.2.2.2.2.2.2.2.1 z.2.2.2.2.2.2.2.2.2.2.1 z.2.2.2.2.2.2.2.2.2.2.2.1 count16 z.2.2.2.2.2.2.2.2.2.2.2.2.1 z.2.2.2.2.2.2.2.2.2.2.2.2.2) s.heap H locs → lv_has ls 5 [(0, .ref h0), (1, .ref h7), (2, .int z.1), (3, .int z.2.1), (4, .int z.2.2.1)] → W p l e (rml 1 0 0) s m args below meth c H locs 0 0 Q (F0 m 51 ls []) := by
    intro z hf
    refine lp_W (r := (o_trips8, o_invoices8, o_amount9, o_invoice10, o_paid11, o_passages12, o_plate13, o_state14, o_vehicleClass15, o_state17, o_trip18)) (fun (z : Int32 × Int32 × Int32 × Int32 × Int32 × (Nat → Int32) × (Nat → Int32) × (Nat → Int32) × (Nat → Int32) × (Nat → Int32) × (Nat → Int32) × (Nat → Int32) × (Nat → Int32) × (Nat → Int32)) => ∀ (H : Heap) (locs : List Loc) (ls : Array Slot), Wd g A (w_X0_enter g h0 h1 h2 h3 h4 h5 h6 h7 h8 h9 h10 h11 h12 h13 h14 h15 h16 h17 h18 v0_4 v0_8 v0_10 v16_1 v16_2 v16_3 v16_4 v16_5 v16_6 v16_7 v16_10 v16_11 v16_12 trips0 invoices0 invoicePlate1 trip2 tripCents3 tripClassNumber4 tripInvoice5 tripLength6 z.2.2.2.1 z.2.2.2.2.1 z.2.2.2.2.2.1 z.2.2.2.2.2.2.1 z.2.2.2.2.2.2.2.1 z.2.2.2.2.2.2.2.2.1 z.2.2.2.2.2.2.2.2.2.1 z.2.2.2.2.2.2.2.2.2.2.1 z.2.2.2.2.2.2.2.2.2.2.2.1 count16 z.2.2.2.2.2.2.2.2.2.2.2.2.1 z.2.2.2.2.2.2.2.2.2.2.2.2.2) s.heap H locs → lv_has ls 5 [(0, .ref h0), (1, .ref h7), (2, .int z.1), (3, .int z.2.1), (4, .int z.2.2.1)] → W p l e (rml 1 0 0) s m args below meth c H locs 0 0 Q (F0 m 51 ls [])) (fun k51 z ih51 hf => ?_) F z hf
    obtain ⟨x2, x3, x4, trips8, invoices8, amount9, invoice10, paid11, passages12, plate13, state14, vehicleClass15, state17, trip18⟩ := z
    intro H locs ls w hl
    try dsimp only at hf w hl ⊢
    unfold f_X0_enter_h51 at hf
    refine lv_iload hx hb dX0_enter_51 (lv_at hl 4 rfl) ?_
    refine lv_aload_n hx hb dX0_enter_53 rfl (lv_at hl 0 rfl) ?_
    refine g_X0_9 C w 0 rfl rfl dX0_enter_54 ?_
    refine lv_icmp_ge (tgt := 103) hx hb dX0_enter_57 (by decide) (fun c7 => ?_) (fun c7 => ?_)
    · replace hf := it_t c7 hf
      refine lv_iconst (v := 0) hx hb dX0_enter_103 (by decide) ?_
      refine lv_istore (lv' := [(4, .int 0), (0, .ref h0), (1, .ref h7), (2, .int x2), (3, .int x3)]) hx hb dX0_enter_104 hl (by decide) rfl (fun ls hl => ?_)
      exact L106 (x3, 0, trips8, invoices8, amount9, invoice10, paid11, passages12, plate13, state14, vehicleClass15, state17, trip18) hf _ _ _ w (lv_sub hl [1, 2, 4, 0] rfl)
    · replace hf := it_f c7 hf
      refine lv_aload_n hx hb dX0_enter_60 rfl (lv_at hl 1 rfl) ?_
      refine g_X0_112 C w 7 rfl rfl dX0_enter_61 ?_
      refine lv_iload_n hx hb dX0_enter_64 rfl (lv_at hl 2 rfl) ?_
      refine lv_aload_n hx hb dX0_enter_65 rfl (lv_at hl 0 rfl) ?_
      refine g_X0_22 C w 0 rfl rfl dX0_enter_66 ?_
      refine lv_iload hx hb dX0_enter_69 (lv_at hl 4 rfl) ?_
      obtain ⟨a8, hia8, haa8, hf⟩ := rd_some hf
      refine ial C w 5 rfl hia8 haa8 dX0_enter_71 ?_
      refine lv_iadd hx hb dX0_enter_72 ?_
      refine lv_aload_n hx hb dX0_enter_73 rfl (lv_at hl 0 rfl) ?_
      refine g_X0_31 C w 0 rfl rfl dX0_enter_74 ?_
      refine lv_iload hx hb dX0_enter_77 (lv_at hl 4 rfl) ?_
      obtain ⟨a9, hia9, haa9, hf⟩ := rd_some hf
      refine ial C w 4 rfl hia9 haa9 dX0_enter_79 ?_
      refine lv_aload_n hx hb dX0_enter_80 rfl (lv_at hl 0 rfl) ?_
      refine g_X0_34 C w 0 rfl rfl dX0_enter_81 ?_
      refine lv_iload hx hb dX0_enter_84 (lv_at hl 4 rfl) ?_
      obtain ⟨a10, hia10, haa10, hf⟩ := rd_some hf
      refine ial C w 3 rfl hia10 haa10 dX0_enter_86 ?_
      refine lv_aload_n hx hb dX0_enter_87 rfl (lv_at hl 0 rfl) ?_
      refine g_X0_28 C w 0 rfl rfl dX0_enter_88 ?_
      refine lv_iload hx hb dX0_enter_91 (lv_at hl 4 rfl) ?_
      obtain ⟨a11, hia11, haa11, hf⟩ := rd_some hf
      refine ial C w 6 rfl hia11 haa11 dX0_enter_93 ?_
      obtain ⟨o12, o13, o14, o15, o16, o17, hc18, hf⟩ := bd6_some hf
      refine ca_vN C w (wn := fun _ => w_X0_enter g h0 h1 h2 h3 h4 h5 h6 h7 h8 h9 h10 h11 h12 h13 h14 h15 h16 h17 h18 v0_4 v0_8 v0_10 v16_1 v16_2 v16_3 v16_4 v16_5 v16_6 v16_7 v16_10 v16_11 v16_12 trips0 invoices0 invoicePlate1 trip2 tripCents3 tripClassNumber4 tripInvoice5 tripLength6 o12 invoices8 o13 o14 paid11 o15 plate13 o16 o17 count16 state17 trip18) (pm_k [false, false, false, false, false, false, false, false, true, true, true, false, true, false, true, true, false, false, false] rfl rfl (fun _ => Nat.le_of_ble_eq_true rfl) (fun _ => rfl)) (c_X1_addTrip l g F h8 h9 h10 h12 h14 h15 (.int invoices8) (.ref h13) (.ref h11) (x2 + a8) a9 a10 a11 trips8 amount9 invoice10 passages12 state14 vehicleClass15 o12 o13 o14 o15 o16 o17 _ hc18) k_X0_126 (rm_le (by decide) (by decide)) 8 1 rfl rfl rfl rfl hl.1 rfl (Nat.le_of_ble_eq_true rfl) dX0_enter_94 ⟨Nat.le_of_ble_eq_true rfl, Nat.le_of_ble_eq_true rfl⟩ (cells2 := 0) (slots2 := 0) ⟨rfl, rfl⟩ (fun _ H locs w => ?_)
      refine lv_iinc (v := x4 + 1) (lv' := [(4, .int (x4 + 1)), (0, .ref h0), (1, .ref h7), (2, .int x2), (3, .int x3)]) hx hb dX0_enter_97 hl (k := 4) rfl rfl (by decide) rfl (fun ls hl => ?_)
      refine lv_goto (tgt := 51) hx hb dX0_enter_100 (by decide) ?_
      exact ih51 (x2, x3, x4 + 1, o12, invoices8, o13, o14, paid11, o15, plate13, o16, o17, state17, trip18) hf _ _ _ w (lv_sub hl [1, 2, 3, 4, 0] rfl)
  have L19 : ∀ (z : Int32 × Int32 × Int32 × Int32 × Int32 × (Nat → Int32) × (Nat → Int32) × (Nat → Int32) × (Nat → Int32) × (Nat → Int32) × (Nat → Int32) × (Nat → Int32) × (Nat → Int32) × (Nat → Int32)), f_X0_enter_L19 F trips0 invoices0 invoicePlate1 trip2 tripCents3 tripClassNumber4 tripInvoice5 tripLength6 count16 z = some (o_trips8, o_invoices8, o_amount9, o_invoice10, o_paid11, o_passages12, o_plate13, o_state14, o_vehicleClass15, o_state17, o_trip18) → ∀ (H : Heap) (locs : List Loc) (ls : Array Slot), Wd g A (w_X0_enter g h0 h1 h2 h3 h4 h5 h6 h7 h8 h9 h10 h11 h12 h13 h14 h15 h16 h17 h18 v0_4 v0_8 v0_10 v16_1 v16_2 v16_3 v16_4 v16_5 v16_6 v16_7 v16_10 v16_11 v16_12 trips0 invoices0 invoicePlate1 trip2 tripCents3 tripClassNumber4 tripInvoice5 tripLength6 z.2.2.2.1 z.2.2.2.2.1 z.2.2.2.2.2.1 z.2.2.2.2.2.2.1 z.2.2.2.2.2.2.2.1 z.2.2.2.2.2.2.2.2.1 z.2.2.2.2.2.2.2.2.2.1 z.2.2.2.2.2.2.2.2.2.2.1 z.2.2.2.2.2.2.2.2.2.2.2.1 count16 z.2.2.2.2.2.2.2.2.2.2.2.2.1 z.2.2.2.2.2.2.2.2.2.2.2.2.2) s.heap H locs → lv_has ls 5 [(0, .ref h0), (1, .ref h7), (2, .int z.1), (3, .int z.2.1), (4, .int z.2.2.1)] → W p l e (rml 1 0 0) s m args below meth c H locs 0 0 Q (F0 m 19 ls []) := by
    intro z hf
    refine lp_W (r := (o_trips8, o_invoices8, o_amount9, o_invoice10, o_paid11, o_passages12, o_plate13, o_state14, o_vehicleClass15, o_state17, o_trip18)) (fun (z : Int32 × Int32 × Int32 × Int32 × Int32 × (Nat → Int32) × (Nat → Int32) × (Nat → Int32) × (Nat → Int32) × (Nat → Int32) × (Nat → Int32) × (Nat → Int32) × (Nat → Int32) × (Nat → Int32)) => ∀ (H : Heap) (locs : List Loc) (ls : Array Slot), Wd g A (w_X0_enter g h0 h1 h2 h3 h4 h5 h6 h7 h8 h9 h10 h11 h12 h13 h14 h15 h16 h17 h18 v0_4 v0_8 v0_10 v16_1 v16_2 v16_3 v16_4 v16_5 v16_6 v16_7 v16_10 v16_11 v16_12 trips0 invoices0 invoicePlate1 trip2 tripCents3 tripClassNumber4 tripInvoice5 tripLength6 z.2.2.2.1 z.2.2.2.2.1 z.2.2.2.2.2.1 z.2.2.2.2.2.2.1 z.2.2.2.2.2.2.2.1 z.2.2.2.2.2.2.2.2.1 z.2.2.2.2.2.2.2.2.2.1 z.2.2.2.2.2.2.2.2.2.2.1 z.2.2.2.2.2.2.2.2.2.2.2.1 count16 z.2.2.2.2.2.2.2.2.2.2.2.2.1 z.2.2.2.2.2.2.2.2.2.2.2.2.2) s.heap H locs → lv_has ls 5 [(0, .ref h0), (1, .ref h7), (2, .int z.1), (3, .int z.2.1), (4, .int z.2.2.1)] → W p l e (rml 1 0 0) s m args below meth c H locs 0 0 Q (F0 m 19 ls [])) (fun k19 z ih19 hf => ?_) F z hf
    obtain ⟨x2, x3, x4, trips8, invoices8, amount9, invoice10, paid11, passages12, plate13, state14, vehicleClass15, state17, trip18⟩ := z
    intro H locs ls w hl
    try dsimp only at hf w hl ⊢
    unfold f_X0_enter_h19 at hf
    refine lv_iload hx hb dX0_enter_19 (lv_at hl 4 rfl) ?_
    refine lv_aload_n hx hb dX0_enter_21 rfl (lv_at hl 0 rfl) ?_
    refine g_X0_15 C w 0 rfl rfl dX0_enter_22 ?_
    refine lv_icmp_ge (tgt := 48) hx hb dX0_enter_25 (by decide) (fun c19 => ?_) (fun c19 => ?_)
    · replace hf := it_t c19 hf
      refine lv_iconst (v := 0) hx hb dX0_enter_48 (by decide) ?_
      refine lv_istore (lv' := [(4, .int 0), (0, .ref h0), (1, .ref h7), (2, .int x2), (3, .int x3)]) hx hb dX0_enter_49 hl (by decide) rfl (fun ls hl => ?_)
      exact L51 (x2, x3, 0, trips8, invoices8, amount9, invoice10, paid11, passages12, plate13, state14, vehicleClass15, state17, trip18) hf _ _ _ w (lv_sub hl [1, 2, 3, 4, 0] rfl)
    · replace hf := it_f c19 hf
      refine lv_aload_n hx hb dX0_enter_28 rfl (lv_at hl 1 rfl) ?_
      refine g_X0_112 C w 7 rfl rfl dX0_enter_29 ?_
      refine lv_aload_n hx hb dX0_enter_32 rfl (lv_at hl 0 rfl) ?_
      refine g_X0_18 C w 0 rfl rfl dX0_enter_33 ?_
      refine lv_iload hx hb dX0_enter_36 (lv_at hl 4 rfl) ?_
      obtain ⟨a20, hia20, haa20, hf⟩ := rd_some hf
      refine ial C w 1 rfl hia20 haa20 dX0_enter_38 ?_
      obtain ⟨o21, o22, o23, hc24, hf⟩ := bd3_some hf
      refine ca_vN C w (wn := fun _ => w_X0_enter g h0 h1 h2 h3 h4 h5 h6 h7 h8 h9 h10 h11 h12 h13 h14 h15 h16 h17 h18 v0_4 v0_8 v0_10 v16_1 v16_2 v16_3 v16_4 v16_5 v16_6 v16_7 v16_10 v16_11 v16_12 trips0 invoices0 invoicePlate1 trip2 tripCents3 tripClassNumber4 tripInvoice5 tripLength6 trips8 o21 amount9 invoice10 o22 passages12 o23 state14 vehicleClass15 count16 state17 trip18) (pm_k [false, false, false, false, false, false, false, false, true, false, false, true, false, true, false, false, false, false, false] rfl rfl (fun _ => Nat.le_of_ble_eq_true rfl) (fun _ => rfl)) (c_X1_addInvoice l g F h8 h11 h13 (.int trips8) (.ref h9) (.ref h15) (.ref h12) (.ref h14) (.ref h10) a20 invoices8 paid11 plate13 o21 o22 o23 _ hc24) k_X0_122 (rm_le (by decide) (by decide)) 8 1 rfl rfl rfl rfl hl.1 rfl (Nat.le_of_ble_eq_true rfl) dX0_enter_39 ⟨Nat.le_of_ble_eq_true rfl, Nat.le_of_ble_eq_true rfl⟩ (cells2 := 0) (slots2 := 0) ⟨rfl, rfl⟩ (fun _ H locs w => ?_)
      refine lv_iinc (v := x4 + 1) (lv' := [(4, .int (x4 + 1)), (0, .ref h0), (1, .ref h7), (2, .int x2), (3, .int x3)]) hx hb dX0_enter_42 hl (k := 4) rfl rfl (by decide) rfl (fun ls hl => ?_)
      refine lv_goto (tgt := 19) hx hb dX0_enter_45 (by decide) ?_
      exact ih19 (x2, x3, x4 + 1, trips8, o21, amount9, invoice10, o22, passages12, o23, state14, vehicleClass15, state17, trip18) hf _ _ _ w (lv_sub hl [1, 2, 3, 4, 0] rfl)
  refine lv_aload_n hx hb dX0_enter_0 rfl (lv_at hl 1 rfl) ?_
  refine g_X0_112 C w 7 rfl rfl dX0_enter_1 ?_
  refine g_X0_118 C w 8 rfl rfl dX0_enter_4 ?_
  refine lv_istore_n (lv' := [(2, .int invoices8), (0, .ref h0), (1, .ref h7)]) hx hb dX0_enter_7 rfl hl (by decide) rfl (fun ls hl => ?_)
  refine lv_aload_n hx hb dX0_enter_8 rfl (lv_at hl 2 rfl) ?_
  refine g_X0_112 C w 7 rfl rfl dX0_enter_9 ?_
  refine g_X0_121 C w 8 rfl rfl dX0_enter_12 ?_
  refine lv_istore_n (lv' := [(3, .int trips8), (2, .int invoices8), (0, .ref h0), (1, .ref h7)]) hx hb dX0_enter_15 rfl hl (by decide) rfl (fun ls hl => ?_)
  refine lv_iconst (v := 0) hx hb dX0_enter_16 (by decide) ?_
  refine lv_istore (lv' := [(4, .int 0), (3, .int trips8), (2, .int invoices8), (0, .ref h0), (1, .ref h7)]) hx hb dX0_enter_17 hl (by decide) rfl (fun ls hl => ?_)
  exact L19 (invoices8, trips8, 0, trips8, invoices8, amount9, invoice10, paid11, passages12, plate13, state14, vehicleClass15, state17, trip18) hf _ _ _ w (lv_sub hl [3, 4, 2, 1, 0] rfl)

theorem dX3_reset_0 : decode cX3_reset 0 = .ok (.aload_n 0, 1) := by decide +kernel
theorem dX3_reset_1 : decode cX3_reset 1 = .ok (.getfield 10, 3) := by decide +kernel
theorem dX3_reset_4 : decode cX3_reset 4 = .ok (.invokevirtual 23, 3) := by decide +kernel
theorem dX3_reset_7 : decode cX3_reset 7 = .ok (.aload_n 0, 1) := by decide +kernel
theorem dX3_reset_8 : decode cX3_reset 8 = .ok (.getfield 19, 3) := by decide +kernel
theorem dX3_reset_11 : decode cX3_reset 11 = .ok (.invokevirtual 26, 3) := by decide +kernel
theorem dX3_reset_14 : decode cX3_reset 14 = .ok (.return_, 1) := by decide +kernel
abbrev m_X3_reset : MD := (yX3_reset, cX3_reset, 1, none)
theorem g_X3_10 {p : Program} {l : Launch} {e : Env} {R : Room} {s : State} {m : MethodId} {args : Array Value} {below : List Frame} {meth : Method} {c : Code} {H : Heap} {locs : List Loc} {cells slots : Nat} {Q : State → Prop} {d : MD} {g : GT} {A : Nat → Prop} {ws : va_W} {pc : Nat} {ls : Array Slot} {rest : List Value} (C : Cx p s m args meth c RX3 d g A) (w : Wd g A ws s.heap H locs) (q0 : Nat) {a : Nat} {fs : List Value} {v : Value} (he : ws[q0]? = some (a, .inr (3, fs))) (hv : fs[0]? = some v) (hd : decode d.2.1 pc = .ok (.getfield 10, 3)) (kk : W p l e R s m args below meth c H locs cells slots Q (F0 m (pc + 3) ls (v :: rest))) : W p l e R s m args below meth c H locs cells slots Q (F0 m pc ls (.ref a :: rest)) := fg C w inX3s (ref := RX3) rfl 0 (by decide) (ts_t (w := Cond.fieldLink RX3 10 RX3 (TX3 0).2.1 (TX3 0).2.2.1) 310 (by decide +kernel) (by decide +kernel)) rfl q0 he hv hd kk
theorem g_X3_19 {p : Program} {l : Launch} {e : Env} {R : Room} {s : State} {m : MethodId} {args : Array Value} {below : List Frame} {meth : Method} {c : Code} {H : Heap} {locs : List Loc} {cells slots : Nat} {Q : State → Prop} {d : MD} {g : GT} {A : Nat → Prop} {ws : va_W} {pc : Nat} {ls : Array Slot} {rest : List Value} (C : Cx p s m args meth c RX3 d g A) (w : Wd g A ws s.heap H locs) (q0 : Nat) {a : Nat} {fs : List Value} {v : Value} (he : ws[q0]? = some (a, .inr (3, fs))) (hv : fs[1]? = some v) (hd : decode d.2.1 pc = .ok (.getfield 19, 3)) (kk : W p l e R s m args below meth c H locs cells slots Q (F0 m (pc + 3) ls (v :: rest))) : W p l e R s m args below meth c H locs cells slots Q (F0 m pc ls (.ref a :: rest)) := fg C w inX3s (ref := RX3) rfl 1 (by decide) (ts_t (w := Cond.fieldLink RX3 19 RX3 (TX3 1).2.1 (TX3 1).2.2.1) 313 (by decide +kernel) (by decide +kernel)) rfl q0 he hv hd kk
theorem q_755 : Cond.code yX6_reset cX6_reset 1 none ∈ TS := ts_t 755 (by decide +kernel) (by decide +kernel)
theorem q_754 : Cond.instanceMethod yX6_reset ∈ TS := ts_t 754 (by decide +kernel) (by decide +kernel)
theorem qs_45 : Cond.selects yX6_reset.cls yX6_reset yX6_reset ∈ TS := ts_s 45 (by decide +kernel) (by decide +kernel)
theorem k_X3_23 : LkN RX3 23 m_X6_reset 0 := ⟨⟨"FreeFlowToll", nw_t 752 (by decide +kernel) rfl⟩, q_754, qs_45, ⟨q_7, q_755, by decide, by decide, by decide +kernel⟩⟩
theorem q_759 : Cond.code yX1_reset cX1_reset 1 none ∈ TS := ts_t 759 (by decide +kernel) (by decide +kernel)
theorem q_758 : Cond.instanceMethod yX1_reset ∈ TS := ts_t 758 (by decide +kernel) (by decide +kernel)
theorem qs_46 : Cond.selects yX1_reset.cls yX1_reset yX1_reset ∈ TS := ts_s 46 (by decide +kernel) (by decide +kernel)
theorem k_X3_26 : LkN RX3 26 m_X1_reset 0 := ⟨⟨"FreeFlowToll", nw_t 756 (by decide +kernel) rfl⟩, q_758, qs_46, ⟨q_8, q_759, by decide, by decide, by decide +kernel⟩⟩
abbrev w_X3_reset (g : GT) (h0 h1 h2 : Nat) (v1_2 v1_3 v1_4 v1_5 v1_6 v1_7 v1_8 v2_2 v2_3 v2_4 v2_5 v2_6 v2_7 v2_8 v2_9 v2_10 v2_11 v2_12 : Value) (trips1 invoices1 count2 latestTime2 : Int32) : va_W := [(h0, .inr (3, [.ref h2, .ref h1])), (h1, .inr (1, [.int trips1, .int invoices1, v1_2, v1_3, v1_4, v1_5, v1_6, v1_7, v1_8])), (h2, .inr (6, [.int count2, .int latestTime2, v2_2, v2_3, v2_4, v2_5, v2_6, v2_7, v2_8, v2_9, v2_10, v2_11, v2_12]))]
def f_X3_reset (F : Nat) (trips1 invoices1 count2 latestTime2 : Int32) : Option (Int32 × Int32 × Int32 × Int32) :=
  bd2 (f_X6_reset F count2 latestTime2) fun o1 o2 =>
  bd2 (f_X1_reset F trips1 invoices1) fun o4 o5 =>
  some (o4, o5, o1, o2)
set_option maxHeartbeats 4000000 in
set_option maxRecDepth 100000 in
theorem c_X3_reset (l : Launch) (g : GT) (F : Nat) (h0 h1 h2 : Nat) (v1_2 v1_3 v1_4 v1_5 v1_6 v1_7 v1_8 v2_2 v2_3 v2_4 v2_5 v2_6 v2_7 v2_8 v2_9 v2_10 v2_11 v2_12 : Value) (trips1 invoices1 count2 latestTime2 : Int32) (o_trips1 o_invoices1 o_count2 o_latestTime2 : Int32) (sz : Nat) (hf : f_X3_reset F trips1 invoices1 count2 latestTime2 = some (o_trips1, o_invoices1, o_count2, o_latestTime2)) : CV l m_X3_reset (rml 1 0 0) g (w_X3_reset g h0 h1 h2 v1_2 v1_3 v1_4 v1_5 v1_6 v1_7 v1_8 v2_2 v2_3 v2_4 v2_5 v2_6 v2_7 v2_8 v2_9 v2_10 v2_11 v2_12 trips1 invoices1 count2 latestTime2) (fun _ => w_X3_reset g h0 h1 h2 v1_2 v1_3 v1_4 v1_5 v1_6 v1_7 v1_8 v2_2 v2_3 v2_4 v2_5 v2_6 v2_7 v2_8 v2_9 v2_10 v2_11 v2_12 o_trips1 o_invoices1 o_count2 o_latestTime2) sz [.ref h0] := by
  refine en_v (by decide) (Nat.le_of_ble_eq_true rfl) (fun p e s m args below meth c A ls C w hl => ?_)
  have C : Cx p s m args meth c RX3 m_X3_reset g A := C
  have hx := C.1
  have hb : c.code = cX3_reset := C.2.1
  have hl : lv_has ls 1 [(0, .ref h0)] := hl
  obtain ⟨Q, hQ⟩ : ∃ Q, Q = QV below args s g A (fun _ => w_X3_reset g h0 h1 h2 v1_2 v1_3 v1_4 v1_5 v1_6 v1_7 v1_8 v2_2 v2_3 v2_4 v2_5 v2_6 v2_7 v2_8 v2_9 v2_10 v2_11 v2_12 o_trips1 o_invoices1 o_count2 o_latestTime2) 0 0 := ⟨_, rfl⟩
  suffices hW : W p l e (rml 1 0 0) s m args below meth c s.heap [] 0 0 Q (F0 m 0 ls []) from (by rw [hQ] at hW; exact hW)
  unfold f_X3_reset at hf
  refine lv_aload_n hx hb dX3_reset_0 rfl (lv_at hl 0 rfl) ?_
  refine g_X3_10 C w 0 rfl rfl dX3_reset_1 ?_
  obtain ⟨o1, o2, hc3, hf⟩ := bd2_some hf
  refine ca_vN C w (wn := fun _ => w_X3_reset g h0 h1 h2 v1_2 v1_3 v1_4 v1_5 v1_6 v1_7 v1_8 v2_2 v2_3 v2_4 v2_5 v2_6 v2_7 v2_8 v2_9 v2_10 v2_11 v2_12 trips1 invoices1 o1 o2) (pm_k [false, false, true] rfl rfl (fun _ => Nat.le_of_ble_eq_true rfl) (fun _ => rfl)) (c_X6_reset l g F h2 v2_2 v2_3 v2_4 v2_5 v2_6 v2_7 v2_8 v2_9 v2_10 v2_11 v2_12 count2 latestTime2 o1 o2 _ hc3) k_X3_23 (rm_le (by decide) (by decide)) 2 6 rfl rfl rfl rfl hl.1 rfl (Nat.le_of_ble_eq_true rfl) dX3_reset_4 ⟨Nat.le_of_ble_eq_true rfl, Nat.le_of_ble_eq_true rfl⟩ (cells2 := 0) (slots2 := 0) ⟨rfl, rfl⟩ (fun _ H locs w => ?_)
  refine lv_aload_n hx hb dX3_reset_7 rfl (lv_at hl 0 rfl) ?_
  refine g_X3_19 C w 0 rfl rfl dX3_reset_8 ?_
  obtain ⟨o4, o5, hc6, hf⟩ := bd2_some hf
  refine ca_vN C w (wn := fun _ => w_X3_reset g h0 h1 h2 v1_2 v1_3 v1_4 v1_5 v1_6 v1_7 v1_8 v2_2 v2_3 v2_4 v2_5 v2_6 v2_7 v2_8 v2_9 v2_10 v2_11 v2_12 o4 o5 o1 o2) (pm_k [false, true, false] rfl rfl (fun _ => Nat.le_of_ble_eq_true rfl) (fun _ => rfl)) (c_X1_reset l g F h1 v1_2 v1_3 v1_4 v1_5 v1_6 v1_7 v1_8 trips1 invoices1 o4 o5 _ hc6) k_X3_26 (rm_le (by decide) (by decide)) 1 1 rfl rfl rfl rfl hl.1 rfl (Nat.le_of_ble_eq_true rfl) dX3_reset_11 ⟨Nat.le_of_ble_eq_true rfl, Nat.le_of_ble_eq_true rfl⟩ (cells2 := 0) (slots2 := 0) ⟨rfl, rfl⟩ (fun _ H locs w => ?_)
  obtain ⟨e1, e2, e3, e4⟩ := tp4 hf
  rw [hQ]
  exact rt_v C w rfl (fun _ => 0) (by rw [← e1, ← e2, ← e3, ← e4]) dX3_reset_14

theorem dX3_copyFrom_0 : decode cX3_copyFrom 0 = .ok (.aload_n 0, 1) := by decide +kernel
theorem dX3_copyFrom_1 : decode cX3_copyFrom 1 = .ok (.getfield 10, 3) := by decide +kernel
theorem dX3_copyFrom_4 : decode cX3_copyFrom 4 = .ok (.aload_n 1, 1) := by decide +kernel
theorem dX3_copyFrom_5 : decode cX3_copyFrom 5 = .ok (.getfield 10, 3) := by decide +kernel
theorem dX3_copyFrom_8 : decode cX3_copyFrom 8 = .ok (.invokevirtual 27, 3) := by decide +kernel
theorem dX3_copyFrom_11 : decode cX3_copyFrom 11 = .ok (.aload_n 0, 1) := by decide +kernel
theorem dX3_copyFrom_12 : decode cX3_copyFrom 12 = .ok (.getfield 19, 3) := by decide +kernel
theorem dX3_copyFrom_15 : decode cX3_copyFrom 15 = .ok (.aload_n 1, 1) := by decide +kernel
theorem dX3_copyFrom_16 : decode cX3_copyFrom 16 = .ok (.getfield 19, 3) := by decide +kernel
theorem dX3_copyFrom_19 : decode cX3_copyFrom 19 = .ok (.invokevirtual 31, 3) := by decide +kernel
theorem dX3_copyFrom_22 : decode cX3_copyFrom 22 = .ok (.return_, 1) := by decide +kernel
abbrev m_X3_copyFrom : MD := (yX3_copyFrom, cX3_copyFrom, 2, none)
theorem q_491 : Cond.code yX6_copyFrom cX6_copyFrom 2 none ∈ TS := ts_t 491 (by decide +kernel) (by decide +kernel)
theorem q_490 : Cond.instanceMethod yX6_copyFrom ∈ TS := ts_t 490 (by decide +kernel) (by decide +kernel)
theorem qs_17 : Cond.selects yX6_copyFrom.cls yX6_copyFrom yX6_copyFrom ∈ TS := ts_s 17 (by decide +kernel) (by decide +kernel)
theorem k_X3_27 : LkN RX3 27 m_X6_copyFrom 1 := ⟨⟨"FreeFlowToll", nw_t 488 (by decide +kernel) rfl⟩, q_490, qs_17, ⟨q_7, q_491, by decide, by decide, by decide +kernel⟩⟩
theorem q_498 : Cond.code yX1_copyFrom cX1_copyFrom 2 none ∈ TS := ts_t 498 (by decide +kernel) (by decide +kernel)
theorem q_497 : Cond.instanceMethod yX1_copyFrom ∈ TS := ts_t 497 (by decide +kernel) (by decide +kernel)
theorem qs_18 : Cond.selects yX1_copyFrom.cls yX1_copyFrom yX1_copyFrom ∈ TS := ts_s 18 (by decide +kernel) (by decide +kernel)
theorem k_X3_31 : LkN RX3 31 m_X1_copyFrom 1 := ⟨⟨"FreeFlowToll", nw_t 495 (by decide +kernel) rfl⟩, q_497, qs_18, ⟨q_8, q_498, by decide, by decide, by decide +kernel⟩⟩
abbrev w_X3_copyFrom (g : GT) (h0 h1 h2 h3 h4 h5 h6 h7 h8 h9 h10 h11 h12 h13 h14 h15 h16 h17 h18 h19 h20 h21 h22 h23 h24 h25 h26 h27 h28 h29 h30 h31 h32 h33 h34 h35 h36 h37 h38 h39 h40 h41 : Nat) (trips1 invoices1 : Int32) (amount2 invoice3 paid4 passages5 plate6 state7 vehicleClass8 : Nat → Int32) (count9 latestTime9 : Int32) (axleReadings10 gantry11 handAxles12 handPlate13 lane14 plateSums15 readPlates16 state17 tag18 time19 trip20 : Nat → Int32) (trips22 invoices22 : Int32) (amount23 invoice24 paid25 passages26 plate27 state28 vehicleClass29 : Nat → Int32) (count30 latestTime30 : Int32) (axleReadings31 gantry32 handAxles33 handPlate34 lane35 plateSums36 readPlates37 state38 tag39 time40 trip41 : Nat → Int32) : va_W := [(h0, .inr (3, [.ref h9, .ref h1])), (h1, .inr (1, [.int trips1, .int invoices1, .ref h2, .ref h8, .ref h5, .ref h7, .ref h3, .ref h6, .ref h4])), (h2, aI g 80 amount2), (h3, aI g 80 invoice3), (h4, aI g 40 paid4), (h5, aI g 80 passages5), (h6, aI g 40 plate6), (h7, aI g 80 state7), (h8, aI g 80 vehicleClass8), (h9, .inr (6, [.int count9, .int latestTime9, .ref h11, .ref h14, .ref h19, .ref h18, .ref h13, .ref h12, .ref h17, .ref h20, .ref h16, .ref h15, .ref h10])), (h10, aI g 640 axleReadings10), (h11, aI g 80 gantry11), (h12, aI g 80 handAxles12), (h13, aI g 80 handPlate13), (h14, aI g 80 lane14), (h15, aI g 320 plateSums15), (h16, aI g 320 readPlates16), (h17, aI g 80 state17), (h18, aI g 80 tag18), (h19, aI g 80 time19), (h20, aI g 80 trip20), (h21, .inr (3, [.ref h30, .ref h22])), (h22, .inr (1, [.int trips22, .int invoices22, .ref h23, .ref h29, .ref h26, .ref h28, .ref h24, .ref h27, .ref h25])), (h23, aI g 80 amount23), (h24, aI g 80 invoice24), (h25, aI g 40 paid25), (h26, aI g 80 passages26), (h27, aI g 40 plate27), (h28, aI g 80 state28), (h29, aI g 80 vehicleClass29), (h30, .inr (6, [.int count30, .int latestTime30, .ref h32, .ref h35, .ref h40, .ref h39, .ref h34, .ref h33, .ref h38, .ref h41, .ref h37, .ref h36, .ref h31])), (h31, aI g 640 axleReadings31), (h32, aI g 80 gantry32), (h33, aI g 80 handAxles33), (h34, aI g 80 handPlate34), (h35, aI g 80 lane35), (h36, aI g 320 plateSums36), (h37, aI g 320 readPlates37), (h38, aI g 80 state38), (h39, aI g 80 tag39), (h40, aI g 80 time40), (h41, aI g 80 trip41)]
def f_X3_copyFrom (F : Nat) (trips1 invoices1 : Int32) (amount2 invoice3 paid4 passages5 plate6 state7 vehicleClass8 : Nat → Int32) (count9 latestTime9 : Int32) (axleReadings10 gantry11 handAxles12 handPlate13 lane14 plateSums15 readPlates16 state17 tag18 time19 trip20 : Nat → Int32) (trips22 invoices22 : Int32) (amount23 invoice24 paid25 passages26 plate27 state28 vehicleClass29 : Nat → Int32) (count30 latestTime30 : Int32) (axleReadings31 gantry32 handAxles33 handPlate34 lane35 plateSums36 readPlates37 state38 tag39 time40 trip41 : Nat → Int32) : Option (Int32 × Int32 × (Nat → Int32) × (Nat → Int32) × (Nat → Int32) × (Nat → Int32) × (Nat → Int32) × (Nat → Int32) × (Nat → Int32) × Int32 × Int32 × (Nat → Int32) × (Nat → Int32) × (Nat → Int32) × (Nat → Int32) × (Nat → Int32) × (Nat → Int32) × (Nat → Int32) × (Nat → Int32) × (Nat → Int32) × (Nat → Int32) × (Nat → Int32)) :=
  bd13 (f_X6_copyFrom F count9 latestTime9 axleReadings10 gantry11 handAxles12 handPlate13 lane14 plateSums15 readPlates16 state17 tag18 time19 trip20 count30 latestTime30 axleReadings31 gantry32 handAxles33 handPlate34 lane35 plateSums36 readPlates37 state38 tag39 time40 trip41) fun o1 o2 o3 o4 o5 o6 o7 o8 o9 o10 o11 o12 o13 =>
  bd9 (f_X1_copyFrom F trips1 invoices1 amount2 invoice3 paid4 passages5 plate6 state7 vehicleClass8 trips22 invoices22 amount23 invoice24 paid25 passages26 plate27 state28 vehicleClass29) fun o15 o16 o17 o18 o19 o20 o21 o22 o23 =>
  some (o15, o16, o17, o18, o19, o20, o21, o22, o23, o1, o2, o3, o4, o5, o6, o7, o8, o9, o10, o11, o12, o13)
set_option maxHeartbeats 4000000 in
set_option maxRecDepth 100000 in
theorem c_X3_copyFrom (l : Launch) (g : GT) (F : Nat) (h0 h1 h2 h3 h4 h5 h6 h7 h8 h9 h10 h11 h12 h13 h14 h15 h16 h17 h18 h19 h20 h21 h22 h23 h24 h25 h26 h27 h28 h29 h30 h31 h32 h33 h34 h35 h36 h37 h38 h39 h40 h41 : Nat) (trips1 invoices1 : Int32) (amount2 invoice3 paid4 passages5 plate6 state7 vehicleClass8 : Nat → Int32) (count9 latestTime9 : Int32) (axleReadings10 gantry11 handAxles12 handPlate13 lane14 plateSums15 readPlates16 state17 tag18 time19 trip20 : Nat → Int32) (trips22 invoices22 : Int32) (amount23 invoice24 paid25 passages26 plate27 state28 vehicleClass29 : Nat → Int32) (count30 latestTime30 : Int32) (axleReadings31 gantry32 handAxles33 handPlate34 lane35 plateSums36 readPlates37 state38 tag39 time40 trip41 : Nat → Int32) (o_trips1 o_invoices1 : Int32) (o_amount2 o_invoice3 o_paid4 o_passages5 o_plate6 o_state7 o_vehicleClass8 : Nat → Int32) (o_count9 o_latestTime9 : Int32) (o_axleReadings10 o_gantry11 o_handAxles12 o_handPlate13 o_lane14 o_plateSums15 o_readPlates16 o_state17 o_tag18 o_time19 o_trip20 : Nat → Int32) (sz : Nat) (hf : f_X3_copyFrom F trips1 invoices1 amount2 invoice3 paid4 passages5 plate6 state7 vehicleClass8 count9 latestTime9 axleReadings10 gantry11 handAxles12 handPlate13 lane14 plateSums15 readPlates16 state17 tag18 time19 trip20 trips22 invoices22 amount23 invoice24 paid25 passages26 plate27 state28 vehicleClass29 count30 latestTime30 axleReadings31 gantry32 handAxles33 handPlate34 lane35 plateSums36 readPlates37 state38 tag39 time40 trip41 = some (o_trips1, o_invoices1, o_amount2, o_invoice3, o_paid4, o_passages5, o_plate6, o_state7, o_vehicleClass8, o_count9, o_latestTime9, o_axleReadings10, o_gantry11, o_handAxles12, o_handPlate13, o_lane14, o_plateSums15, o_readPlates16, o_state17, o_tag18, o_time19, o_trip20)) : CV l m_X3_copyFrom (rml 2 0 0) g (w_X3_copyFrom g h0 h1 h2 h3 h4 h5 h6 h7 h8 h9 h10 h11 h12 h13 h14 h15 h16 h17 h18 h19 h20 h21 h22 h23 h24 h25 h26 h27 h28 h29 h30 h31 h32 h33 h34 h35 h36 h37 h38 h39 h40 h41 trips1 invoices1 amount2 invoice3 paid4 passages5 plate6 state7 vehicleClass8 count9 latestTime9 axleReadings10 gantry11 handAxles12 handPlate13 lane14 plateSums15 readPlates16 state17 tag18 time19 trip20 trips22 invoices22 amount23 invoice24 paid25 passages26 plate27 state28 vehicleClass29 count30 latestTime30 axleReadings31 gantry32 handAxles33 handPlate34 lane35 plateSums36 readPlates37 state38 tag39 time40 trip41) (fun _ => w_X3_copyFrom g h0 h1 h2 h3 h4 h5 h6 h7 h8 h9 h10 h11 h12 h13 h14 h15 h16 h17 h18 h19 h20 h21 h22 h23 h24 h25 h26 h27 h28 h29 h30 h31 h32 h33 h34 h35 h36 h37 h38 h39 h40 h41 o_trips1 o_invoices1 o_amount2 o_invoice3 o_paid4 o_passages5 o_plate6 o_state7 o_vehicleClass8 o_count9 o_latestTime9 o_axleReadings10 o_gantry11 o_handAxles12 o_handPlate13 o_lane14 o_plateSums15 o_readPlates16 o_state17 o_tag18 o_time19 o_trip20 trips22 invoices22 amount23 invoice24 paid25 passages26 plate27 state28 vehicleClass29 count30 latestTime30 axleReadings31 gantry32 handAxles33 handPlate34 lane35 plateSums36 readPlates37 state38 tag39 time40 trip41) sz [.ref h0, .ref h21] := by
  refine en_v (by decide) (Nat.le_of_ble_eq_true rfl) (fun p e s m args below meth c A ls C w hl => ?_)
  have C : Cx p s m args meth c RX3 m_X3_copyFrom g A := C
  have hx := C.1
  have hb : c.code = cX3_copyFrom := C.2.1
  have hl : lv_has ls 2 [(0, .ref h0), (1, .ref h21)] := hl
  obtain ⟨Q, hQ⟩ : ∃ Q, Q = QV below args s g A (fun _ => w_X3_copyFrom g h0 h1 h2 h3 h4 h5 h6 h7 h8 h9 h10 h11 h12 h13 h14 h15 h16 h17 h18 h19 h20 h21 h22 h23 h24 h25 h26 h27 h28 h29 h30 h31 h32 h33 h34 h35 h36 h37 h38 h39 h40 h41 o_trips1 o_invoices1 o_amount2 o_invoice3 o_paid4 o_passages5 o_plate6 o_state7 o_vehicleClass8 o_count9 o_latestTime9 o_axleReadings10 o_gantry11 o_handAxles12 o_handPlate13 o_lane14 o_plateSums15 o_readPlates16 o_state17 o_tag18 o_time19 o_trip20 trips22 invoices22 amount23 invoice24 paid25 passages26 plate27 state28 vehicleClass29 count30 latestTime30 axleReadings31 gantry32 handAxles33 handPlate34 lane35 plateSums36 readPlates37 state38 tag39 time40 trip41) 0 0 := ⟨_, rfl⟩
  suffices hW : W p l e (rml 2 0 0) s m args below meth c s.heap [] 0 0 Q (F0 m 0 ls []) from (by rw [hQ] at hW; exact hW)
  unfold f_X3_copyFrom at hf
  refine lv_aload_n hx hb dX3_copyFrom_0 rfl (lv_at hl 0 rfl) ?_
  refine g_X3_10 C w 0 rfl rfl dX3_copyFrom_1 ?_
  refine lv_aload_n hx hb dX3_copyFrom_4 rfl (lv_at hl 1 rfl) ?_
  refine g_X3_10 C w 21 rfl rfl dX3_copyFrom_5 ?_
  obtain ⟨o1, o2, o3, o4, o5, o6, o7, o8, o9, o10, o11, o12, o13, hc14, hf⟩ := bd13_some hf
  refine ca_vN C w (wn := fun _ => w_X3_copyFrom g h0 h1 h2 h3 h4 h5 h6 h7 h8 h9 h10 h11 h12 h13 h14 h15 h16 h17 h18 h19 h20 h21 h22 h23 h24 h25 h26 h27 h28 h29 h30 h31 h32 h33 h34 h35 h36 h37 h38 h39 h40 h41 trips1 invoices1 amount2 invoice3 paid4 passages5 plate6 state7 vehicleClass8 o1 o2 o3 o4 o5 o6 o7 o8 o9 o10 o11 o12 o13 trips22 invoices22 amount23 invoice24 paid25 passages26 plate27 state28 vehicleClass29 count30 latestTime30 axleReadings31 gantry32 handAxles33 handPlate34 lane35 plateSums36 readPlates37 state38 tag39 time40 trip41) (pm_k [false, false, false, false, false, false, false, false, false, true, true, true, true, true, true, true, true, true, true, true, true, false, false, false, false, false, false, false, false, false, true, true, true, true, true, true, true, true, true, true, true, true] rfl rfl (fun _ => Nat.le_of_ble_eq_true rfl) (fun _ => rfl)) (c_X6_copyFrom l g F h9 h10 h11 h12 h13 h14 h15 h16 h17 h18 h19 h20 h30 h31 h32 h33 h34 h35 h36 h37 h38 h39 h40 h41 count9 latestTime9 axleReadings10 gantry11 handAxles12 handPlate13 lane14 plateSums15 readPlates16 state17 tag18 time19 trip20 count30 latestTime30 axleReadings31 gantry32 handAxles33 handPlate34 lane35 plateSums36 readPlates37 state38 tag39 time40 trip41 o1 o2 o3 o4 o5 o6 o7 o8 o9 o10 o11 o12 o13 _ hc14) k_X3_27 (rm_le (by decide) (by decide)) 9 6 rfl rfl rfl rfl hl.1 rfl (Nat.le_of_ble_eq_true rfl) dX3_copyFrom_8 ⟨Nat.le_of_ble_eq_true rfl, Nat.le_of_ble_eq_true rfl⟩ (cells2 := 0) (slots2 := 0) ⟨rfl, rfl⟩ (fun _ H locs w => ?_)
  refine lv_aload_n hx hb dX3_copyFrom_11 rfl (lv_at hl 0 rfl) ?_
  refine g_X3_19 C w 0 rfl rfl dX3_copyFrom_12 ?_
  refine lv_aload_n hx hb dX3_copyFrom_15 rfl (lv_at hl 1 rfl) ?_
  refine g_X3_19 C w 21 rfl rfl dX3_copyFrom_16 ?_
  obtain ⟨o15, o16, o17, o18, o19, o20, o21, o22, o23, hc24, hf⟩ := bd9_some hf
  refine ca_vN C w (wn := fun _ => w_X3_copyFrom g h0 h1 h2 h3 h4 h5 h6 h7 h8 h9 h10 h11 h12 h13 h14 h15 h16 h17 h18 h19 h20 h21 h22 h23 h24 h25 h26 h27 h28 h29 h30 h31 h32 h33 h34 h35 h36 h37 h38 h39 h40 h41 o15 o16 o17 o18 o19 o20 o21 o22 o23 o1 o2 o3 o4 o5 o6 o7 o8 o9 o10 o11 o12 o13 trips22 invoices22 amount23 invoice24 paid25 passages26 plate27 state28 vehicleClass29 count30 latestTime30 axleReadings31 gantry32 handAxles33 handPlate34 lane35 plateSums36 readPlates37 state38 tag39 time40 trip41) (pm_k [false, true, true, true, true, true, true, true, true, false, false, false, false, false, false, false, false, false, false, false, false, false, true, true, true, true, true, true, true, true, false, false, false, false, false, false, false, false, false, false, false, false] rfl rfl (fun _ => Nat.le_of_ble_eq_true rfl) (fun _ => rfl)) (c_X1_copyFrom l g F h1 h2 h3 h4 h5 h6 h7 h8 h22 h23 h24 h25 h26 h27 h28 h29 trips1 invoices1 amount2 invoice3 paid4 passages5 plate6 state7 vehicleClass8 trips22 invoices22 amount23 invoice24 paid25 passages26 plate27 state28 vehicleClass29 o15 o16 o17 o18 o19 o20 o21 o22 o23 _ hc24) k_X3_31 (rm_le (by decide) (by decide)) 1 1 rfl rfl rfl rfl hl.1 rfl (Nat.le_of_ble_eq_true rfl) dX3_copyFrom_19 ⟨Nat.le_of_ble_eq_true rfl, Nat.le_of_ble_eq_true rfl⟩ (cells2 := 0) (slots2 := 0) ⟨rfl, rfl⟩ (fun _ H locs w => ?_)
  obtain ⟨e1, e2, e3, e4, e5, e6, e7, e8, e9, e10, e11, e12, e13, e14, e15, e16, e17, e18, e19, e20, e21, e22⟩ := tp22 hf
  rw [hQ]
  exact rt_v C w rfl (fun _ => 0) (by rw [← e1, ← e2, ← e3, ← e4, ← e5, ← e6, ← e7, ← e8, ← e9, ← e10, ← e11, ← e12, ← e13, ← e14, ← e15, ← e16, ← e17, ← e18, ← e19, ← e20, ← e21, ← e22]) dX3_copyFrom_22
