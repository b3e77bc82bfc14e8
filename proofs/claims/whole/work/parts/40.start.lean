def R_law : String := "FreeFlowTollLaw"
def lw_P (b : Addr) (xs : List Int32) (args : Array Value) (s : State) : Prop := args = #[.ref b] ∧ s.IntsAt b xs ∧ xs.length ≤ 3072 ∧ (Jvm.Cond.and given_1 narrow_1).before args s = true
def lw_Q (_ : Array Value) (s : State) (o : Outcome) (t : State) : Prop := o = .returned (some (.int 1)) ∧ Framed s o t [] room_1.cells room_1.slots
def lw_Z (below : List Frame) (a : Array Value) (s : State) : State → Prop := fun t => ∃ o, t.status = .running ∧ Ended t below o ∧ lw_Q a s o t
/-- the law's own end, with 1 on the stack, nothing written that was there before, its room as the claim has it -/
theorem lw_ret {p : Program} {l : Launch} {e : Env} {s : State} {m : MethodId} {below : List Frame} {meth : Method} {c : Code} {b : Nat} (hx : p.tables.exec = Jvm.exec) (hb : c.code = code) (hr : meth.sig.returnType = ret) (hlocks : meth.locks = false) {pc : Nat} {H : Heap} {ls : Array Slot} (hdg : decode code pc = .ok (.ireturn, 1)) : W p l e room_1 s m #[Value.ref b] below meth c H [] room_1.cells room_1.slots (lw_Z below #[Value.ref b] s) (F0 m pc ls [.int 1]) := by
  intro T hT X
  obtain ⟨fs, hret, hrun, hended, hW, hframe⟩ := X.leave (v := some (.int 1)) (hlocks := hlocks) (fun h => by rw [hr] at h; cases h)
  have hmeth' : T.vm.method? m = some meth := X.method'
  refine ⟨T.setFrames fs, ?_, .returned (some (.int 1)), hrun, hended, rfl, ⟨_, rfl⟩, hW, hframe⟩
  jvm_step X.here [X.here.top, hx, hb, hdg, hmeth', hr, ret, narrow_b1]
  (try refine ⟨rfl, ?_⟩); (try refine ⟨rfl, ?_⟩)
  first | (intro acts; rw [hret _ acts rfl rfl rfl]) | rw [hret _ _ rfl rfl rfl]
  exact Steps.refl _
/-- what holds at the law's entry: the machine, the code, the tables' words (any of lw_tbl by 'hts w (by decide +kernel)'), the script of L ints xs at the cell b, what the Statement gives of the start (any of its parts by flat_of_before) -/
def lw_At (p : Program) (s : State) (m : MethodId) (meth : Method) (c : Code) (b L : Nat) (xs : Nat → Int32) : Prop :=
  p.tables.exec = Jvm.exec ∧ c.code = code ∧ meth.sig.returnType = ret ∧ c.maxLocals = 7 ∧ s.vm.findClass R_law = some m.cls ∧ (∀ w ∈ lw_tbl, w.before #[Value.ref b] s = true) ∧ va_X b L xs s s.heap ∧ b < s.heap.size ∧ meth.locks = false ∧ (Jvm.Cond.and given_1 narrow_1).before #[Value.ref b] s = true
/-! what holds all the time, at the law's entry -/
def FLc : List Cond := flatC (Jvm.Cond.and given_1 narrow_1)
def tmL : List (String × Nat) := [(RX5, 72), (RX5, 87), (RX5, 92), (RX5, 97), (RX5, 102), (RX5, 107), (RX5, 112), (RX9, 68), (RX9, 328), (RX9, 298), (RX9, 324), (RX9, 332), (RX9, 337), (RX9, 339), (RX9, 319), (RX9, 321), (RX9, 231), (RX9, 310), (RX9, 326), (RX9, 240), (RX9, 335), (RX9, 265), (RX9, 272), (RX9, 277), (RX9, 282)]
def tmS (i : Nat) : Term := Term.string (tmL.getD i ("", 0)).1 (tmL.getD i ("", 0)).2
abbrev tmV (i : Nat) : Term := .field (tmS i) "java/lang/String" "value" "[B"
theorem fm_ex : ∀ i, i < 25 → Cond.exactly (tmS i) "java/lang/String" ∈ FLc := by decide +kernel
theorem fm_co : ∀ i, i < 7 → Cond.eq (.field (tmS i) "java/lang/String" "coder" "B") (.int 0) ∈ FLc := by decide +kernel
theorem fm_ar : ∀ i, i < 7 → Cond.arrayOf (tmV i) .byte ∈ FLc := by decide +kernel
theorem fm_le : ∀ i, i < 7 → Cond.eq (.length (tmV i)) (.int (Int32.ofNat (SLEN.getD i 0))) ∈ FLc := by decide +kernel
theorem fm_el : ∀ i, i < 7 → ∀ j, j < SLEN.getD i 0 → Cond.eq (.elem (tmV i) (.int (Int32.ofNat j))) (.int ((SBYT.getD i []).getD j 0)) ∈ FLc := by decide +kernel
theorem fm_sr : ∀ q ∈ SRL, Cond.stringRef q.1 q.2.1 q.2.2.1 ∈ tables_1 := by decide +kernel
theorem fm_tm : ∀ q ∈ SRL, q.2.2.2 < 25 ∧ (Term.string q.1 q.2.1 = tmS q.2.2.2 ∨ Cond.eq (tmS q.2.2.2) (Term.string q.1 q.2.1) ∈ FLc) := by decide +kernel
theorem fm_nc : ∀ q ∈ NCL, Cond.not (.castable q.1 q.2) ∈ FLc := by decide +kernel
theorem fm_7 : ∀ i, i < 7 → ∀ j, j < 7 → SLEN.getD i 0 = SLEN.getD j 0 → (SBYT.getD i []).getD 0 0 = (SBYT.getD j []).getD 0 0 → i = j := by decide +kernel
theorem fm_p : ∀ i, i < 7 → 0 < SLEN.getD i 0 := by decide
theorem am_start {p : Program} {s : State} {m : MethodId} {meth : Method} {c : Code} {b L : Nat} {xs : Nat → Int32} (C0 : lw_At p s m meth c b L xs) : ∃ g : GT, va_K g.1 vwCl (ty g) s ∧ AM g (fun q => s.heap.size ≤ q) s s.heap := by
  obtain ⟨hx, hb, hr, hml, hown, hts, hX, hbl, hlocks, hgv⟩ := C0
  have htsT : ∀ w ∈ TS, w.before #[Value.ref b] s = true := fun w h => hts w (ts_in h)
  have hfl : ∀ w ∈ FLc, w.before #[Value.ref b] s = true := flat_of_before _ hgv
  have hA : ∀ a : Nat, a < s.heap.size → ¬ (fun q : Nat => s.heap.size ≤ q) a := fun a h => Nat.not_le.mpr h
  obtain ⟨c0, i0, k0⟩ := u_known (C := RX0) (T := TX0) (N := 11) (n := 11) htsT inX0s (hts _ (List.mem_append_right _ (List.mem_of_getElem? (i := 158) (by decide +kernel))))
  obtain ⟨c1, i1, k1⟩ := u_known (C := RX1) (T := TX1) (N := 9) (n := 9) htsT inX1s (hts _ (List.mem_append_right _ (List.mem_of_getElem? (i := 266) (by decide +kernel))))
  obtain ⟨c2, i2, k2⟩ := u_known (C := RX2) (T := TX2) (N := 3) (n := 3) htsT inX2s (hts _ (List.mem_append_right _ (List.mem_of_getElem? (i := 322) (by decide +kernel))))
  obtain ⟨c3, i3, k3⟩ := u_known (C := RX3) (T := TX3) (N := 2) (n := 2) htsT inX3s (hts _ (List.mem_append_right _ (List.mem_of_getElem? (i := 200) (by decide +kernel))))
  obtain ⟨c4, i4, k4⟩ := u_known (C := RX4) (T := TX4) (N := 13) (n := 13) htsT inX4s (hts _ (List.mem_append_right _ (List.mem_of_getElem? (i := 34) (by decide +kernel))))
  obtain ⟨c5, i5, k5⟩ := u_known (C := RX5) (T := TX5) (N := 11) (n := 11) htsT inX5s (hts _ (List.mem_append_right _ (List.mem_of_getElem? (i := 94) (by decide +kernel))))
  obtain ⟨c6, i6, k6⟩ := u_known (C := RX6) (T := TX6) (N := 13) (n := 13) htsT inX6s (hts _ (List.mem_append_right _ (List.mem_of_getElem? (i := 206) (by decide +kernel))))
  obtain ⟨c7, i7, k7⟩ := u_known (C := RX7) (T := TX7) (N := 3) (n := 3) htsT inX7s (hts _ (List.mem_append_right _ (List.mem_of_getElem? (i := 139) (by decide +kernel))))
  obtain ⟨c8, i8, k8⟩ := u_known (C := RX8) (T := TX8) (N := 2) (n := 2) htsT inX8s (hts _ (List.mem_append_right _ (List.mem_of_getElem? (i := 340) (by decide +kernel))))
  obtain ⟨c9, i9, k9⟩ := u_known (C := RX9) (T := TX9) (N := 7) (n := 7) htsT inX9s (hts _ (List.mem_append_right _ (List.mem_of_getElem? (i := 26) (by decide +kernel))))
  obtain ⟨c10, i10, k10⟩ := u_known (C := RX10) (T := TX10) (N := 38) (n := 38) htsT inX10s (hts _ (List.mem_append_right _ (List.mem_of_getElem? (i := 1213) (by decide +kernel))))
  obtain ⟨aI, kAI, coI, fI1, fI2, fI3⟩ := Cond.arrayClass_spec (hts (.arrayClass .int) (List.mem_append_right _ (List.mem_of_getElem? (i := 92) (by decide +kernel))))
  obtain ⟨aZ, kAZ, coZ, fZ1, fZ2, fZ3⟩ := Cond.arrayClass_spec (hts (.arrayClass .boolean) (List.mem_append_right _ (List.mem_of_getElem? (i := 353) (by decide +kernel))))
  obtain ⟨aB, kAB, coB, fB1, fB2, fB3⟩ := Cond.arrayClass_spec (hts (.arrayClass .byte) (List.mem_append_right _ (List.mem_of_getElem? (i := 597) (by decide +kernel))))
  obtain ⟨aJ, kAJ, coJ, fJ1, fJ2, fJ3⟩ := Cond.arrayClass_spec (hts (.arrayClass .long) (List.mem_append_right _ (List.mem_of_getElem? (i := 1775) (by decide +kernel))))
  obtain ⟨coO, aO9, kAO, fO1, fO2, fO3, fO4, fO5⟩ := Cond.arrayOver_spec (hts (.arrayOver (.object "FreeFlowToll$Ledger")) (List.mem_append_right _ (List.mem_of_getElem? (i := 328) (by decide +kernel))))
  have h0 : ∀ i : Nat, ∃ q : Nat × Nat, (i < 25 → (tmS i).eval #[Value.ref b] s none [] s = some (.ref q.1)) ∧ (i < 7 → va_O "java/lang/String" q.1 (fun q => s.heap.size ≤ q) s s.heap ∧ va_OF "java/lang/String" "coder" "B" (.int 0) q.1 (fun q => s.heap.size ≤ q) s s.heap ∧ va_OF "java/lang/String" "value" "[B" (.ref q.2) q.1 (fun q => s.heap.size ≤ q) s s.heap ∧ va_T .byte q.2 (SLEN.getD i 0) (fun j => .int ((SBYT.getD i []).getD j 0)) (fun q => s.heap.size ≤ q) s s.heap) := by
    intro i
    by_cases hi : i < 25
    · obtain ⟨a, c, cA, kA, q1, q2, q3, q4, q5, q6, -⟩ := Cond.exactly_spec (args := #[Value.ref b]) (first := s) (o := none) (s := s) (idx := []) (t := tmS i) (cls := "java/lang/String") (hfl _ (fm_ex i hi))
      by_cases h7 : i < 7
      · obtain ⟨t, ht, hT⟩ := va_Tof (f := fun j => .int ((SBYT.getD i []).getD j 0)) (A := fun q => s.heap.size ≤ q) (slen_lt i h7) (hfl _ (fm_ar i h7)) (va_eqt (hfl _ (fm_le i h7))) (fun j hj => va_eqt (hfl _ (fm_el i h7 j hj))) hA
        exact ⟨(a, t), fun _ => q1, fun _ => ⟨⟨cA, q3, q5, by rw [q6]; exact q2, hA a (Array.getElem?_eq_some_iff.mp q3).1⟩, vk_OFof q1 (va_eqt (hfl _ (fm_co i h7))) hA, vk_OFof q1 ht hA, hT⟩⟩
      · exact ⟨(a, 0), fun _ => q1, fun h => absurd h h7⟩
    · exact ⟨(0, 0), fun h => absurd h hi, fun h => absurd (Nat.lt_trans h (by decide)) hi⟩
  obtain ⟨ad, had⟩ := Classical.axiomOfChoice h0
  refine ⟨((fun k => if k = 0 then c0 else if k = 1 then c1 else if k = 2 then c2 else if k = 3 then c3 else if k = 4 then c4 else if k = 5 then c5 else if k = 6 then c6 else if k = 7 then c7 else if k = 8 then c8 else if k = 9 then c9 else c10, fun k => if k = 0 then i0 else if k = 1 then i1 else if k = 2 then i2 else if k = 3 then i3 else if k = 4 then i4 else if k = 5 then i5 else if k = 6 then i6 else if k = 7 then i7 else if k = 8 then i8 else if k = 9 then i9 else i10), (aI, aZ, aB, aO9, aJ), (fun i => (ad i).1, fun i => (ad i).2)), ⟨?_, ?_⟩, ?_⟩
  · intro k q hq
    match k, hq with
    | 0, hq => cases hq; exact k0
    | 1, hq => cases hq; exact k1
    | 2, hq => cases hq; exact k2
    | 3, hq => cases hq; exact k3
    | 4, hq => cases hq; exact k4
    | 5, hq => cases hq; exact k5
    | 6, hq => cases hq; exact k6
    | 7, hq => cases hq; exact k7
    | 8, hq => cases hq; exact k8
    | 9, hq => cases hq; exact k9
    | 10, hq => cases hq; exact k10
    | k + 11, hq => simp [vwCl] at hq
  · intro k q hq
    match k, hq with
    | 0, hq => cases hq; exact ⟨fun n z => ⟨fun k h => (by cases h), kAI, fI2, coI, fI3⟩, fI1⟩
    | 1, hq => cases hq; exact ⟨fun n z => ⟨fun k h => (by cases h), kAZ, fZ2, coZ, fZ3⟩, fZ1⟩
    | 2, hq => cases hq; exact ⟨fun n z => ⟨fun k h => (by cases h), kAB, fB2, coB, fB3⟩, fB1⟩
    | 3, hq => cases hq; exact ⟨fun n z => ⟨fun k h => (by cases h), kAO, fO3, coO, fO4⟩, kAO, coO, fO3, fO4, fO1, fO5⟩
    | 4, hq => cases hq; exact ⟨fun n z => ⟨fun k h => (by cases h), kAJ, fJ2, coJ, fJ3⟩, fJ1⟩
    | k + 5, hq => simp at hq
  · refine ⟨?_, ?_, ?_, ?_, ⟨fun i hi => (had i).2 hi, ?_⟩, ?_, ?_, ?_, ?_⟩
    · intro w hw
      have h1 := (List.mem_filter.mp hw).1
      have h2 := (List.mem_filter.mp hw).2
      have h3 := hts w (List.mem_append_right _ h1)
      cases w <;> first | exact va_Nw.of rfl h3 | (simp [isNest] at h2)
    · exact vx_Zqof (hts _ (List.mem_append_right _ (List.mem_of_getElem? (i := 557) (by decide +kernel)))) (hts _ (List.mem_append_right _ (List.mem_of_getElem? (i := 12) (by decide +kernel)))) (hfl _ (by decide +kernel)) hA
    · exact vx_Zqof (hts _ (List.mem_append_right _ (List.mem_of_getElem? (i := 559) (by decide +kernel)))) (hts _ (List.mem_append_right _ (List.mem_of_getElem? (i := 12) (by decide +kernel)))) (hfl _ (by decide +kernel)) hA
    · intro q hq
      obtain ⟨h25, he⟩ := fm_tm q hq
      have ev := (had q.2.2.2).1 h25
      refine vk_R.of (hts _ (List.mem_append_right _ (fm_sr q hq))) ?_
      rcases he with he | he
      · rw [he]; exact ev
      · obtain ⟨y, e1, e2⟩ := Cond.eq_one (hfl _ he)
        exact e2.trans (e1.symm.trans ev)
    · intro i j hi hj e
      obtain ⟨-, -, ⟨cf, k, fi, f, cell, g1, g2, g3, g4, g5, -⟩, ⟨ca, t1, t2, t3, t4, t5, t6, -⟩⟩ := (had i).2 hi
      obtain ⟨-, -, ⟨cf', k', fi', f', cell', g1', g2', g3', g4', g5', -⟩, ⟨ca', t1', t2', t3', t4', t5', t6', -⟩⟩ := (had j).2 hj
      have e : (ad i).1 = (ad j).1 := e
      cases g1.symm.trans g1'
      rw [e] at g3
      cases g3.symm.trans g3'
      have ev : (ad i).2 = (ad j).2 := by
        have := Option.some.inj (g5.symm.trans g5')
        simpa using this
      rw [ev] at t1
      cases t1.symm.trans t1'
      refine fm_7 i hi j hj ?_ ?_
      · have h := t5.symm.trans t5'
        exact (nI_eq (slen_lt i hi) (slen_lt j hj)).mp h
      · have h := (t6 0 (fm_p i hi)).symm.trans (t6' 0 (fm_p j hj))
        simpa using h
    · exact va_Zof (hts _ (List.mem_append_right _ (List.mem_of_getElem? (i := 637) (by decide +kernel)))) (hts _ (List.mem_append_right _ (List.mem_of_getElem? (i := 18) (by decide +kernel)))) (va_eqi (hfl _ (by decide +kernel))) hA
    · exact va_Zqof (hts _ (List.mem_append_right _ (List.mem_of_getElem? (i := 653) (by decide +kernel)))) (hts _ (List.mem_append_right _ (List.mem_of_getElem? (i := 20) (by decide +kernel)))) (hfl _ (by decide +kernel)) hA
    · exact va_AO.of (hts _ (List.mem_append_right _ (List.mem_of_getElem? (i := 328) (by decide +kernel))))
    · exact fun q hq => va_Nc.of (hfl _ (fm_nc q hq))
