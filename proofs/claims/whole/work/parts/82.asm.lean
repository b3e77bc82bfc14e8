/-! worlds up to order -/
theorem PM.pre {ws ws' wc : va_W} {wc' wn : (Nat → Nat) → va_W} (h : ws.Perm ws') (P : PM ws' wc wc' wn) : PM ws wc wc' wn := by
  obtain ⟨wr, p1, p2⟩ := P
  exact ⟨wr, h.trans p1, p2⟩
theorem PM.app {ws wc : va_W} {wc' wn : (Nat → Nat) → va_W} (P : PM ws wc wc' wn) (r : va_W) : PM (ws ++ r) wc wc' (fun u => wn u ++ r) := by
  obtain ⟨wr, p1, p2⟩ := P
  refine ⟨wr ++ r, ?_, fun u => ?_⟩
  · refine (p1.append_right r).trans ?_
    rw [List.append_assoc, List.append_assoc]
    exact List.Perm.append_left wr List.perm_append_comm
  · refine List.Perm.trans ?_ ((p2 u).append_right r)
    rw [List.append_assoc, List.append_assoc]
    exact List.Perm.append_left wr List.perm_append_comm
theorem PM.ins {ws wc : va_W} {A B W wn : (Nat → Nat) → va_W} (P : PM ws wc (fun u => A u ++ B u) wn) : PM ws wc (fun u => A u ++ W u ++ B u) (fun u => wn u ++ W u) := by
  obtain ⟨wr, p1, p2⟩ := P
  refine ⟨wr, p1, fun u => ?_⟩
  refine List.Perm.trans ?_ ((p2 u).append_right (W u))
  show List.Perm (wr ++ (A u ++ W u ++ B u)) (wr ++ (A u ++ B u) ++ W u)
  rw [List.append_assoc wr, List.append_assoc (A u), List.append_assoc (A u)]
  exact List.Perm.append_left wr (List.Perm.append_left (A u) List.perm_append_comm)
theorem PM.post {ws wc : va_W} {wc' wn wn' : (Nat → Nat) → va_W} (P : PM ws wc wc' wn) (h : ∀ u, (wn u).Perm (wn' u)) : PM ws wc wc' wn' := by
  obtain ⟨wr, p1, p2⟩ := P
  exact ⟨wr, p1, fun u => (p2 u).trans (h u)⟩
/-- cells laid in behind the first k -/
def insW (k : Nat) (row b : va_W) : va_W := b.take k ++ row ++ b.drop k
theorem insW_perm (k : Nat) (row b rest : va_W) : (b ++ (row ++ rest)).Perm (insW k row b ++ rest) := by
  unfold insW
  have h1 : (b ++ (row ++ rest)).Perm (row ++ (b ++ rest)) := by
    rw [← List.append_assoc, ← List.append_assoc]
    exact List.Perm.append_right rest List.perm_append_comm
  refine h1.trans ?_
  have h2 : b ++ rest = b.take k ++ (b.drop k ++ rest) := by rw [← List.append_assoc, List.take_append_drop]
  rw [h2]
  have h3 : b.take k ++ row ++ b.drop k ++ rest = b.take k ++ (row ++ (b.drop k ++ rest)) := by simp [List.append_assoc]
  rw [h3]
  rw [← List.append_assoc row, ← List.append_assoc (b.take k)]
  exact List.Perm.append_right _ List.perm_append_comm
/-- a row of the history or of the snapshots -/
def rowW (g : GT) (u : Nat → Nat) (z : LT) : va_W :=
  [(u 0, .inr (3, [.ref (u 1), .ref (u 13)])), (u 13, .inr (1, [.int z.1, .int z.2.1, .ref (u 14), .ref (u 15), .ref (u 16), .ref (u 17), .ref (u 18), .ref (u 19), .ref (u 20)])), (u 14, aI g 80 z.2.2.1), (u 18, aI g 80 z.2.2.2.1), (u 20, aI g 40 z.2.2.2.2.1), (u 16, aI g 80 z.2.2.2.2.2.1), (u 19, aI g 40 z.2.2.2.2.2.2.1), (u 17, aI g 80 z.2.2.2.2.2.2.2.1), (u 15, aI g 80 z.2.2.2.2.2.2.2.2.1), (u 1, .inr (6, [.int z.2.2.2.2.2.2.2.2.2.1, .int z.2.2.2.2.2.2.2.2.2.2.1, .ref (u 2), .ref (u 3), .ref (u 4), .ref (u 5), .ref (u 6), .ref (u 7), .ref (u 8), .ref (u 9), .ref (u 10), .ref (u 11), .ref (u 12)])), (u 12, aI g 640 z.2.2.2.2.2.2.2.2.2.2.2.1), (u 2, aI g 80 z.2.2.2.2.2.2.2.2.2.2.2.2.1), (u 7, aI g 80 z.2.2.2.2.2.2.2.2.2.2.2.2.2.1), (u 6, aI g 80 z.2.2.2.2.2.2.2.2.2.2.2.2.2.2.1), (u 3, aI g 80 z.2.2.2.2.2.2.2.2.2.2.2.2.2.2.2.1), (u 11, aI g 320 z.2.2.2.2.2.2.2.2.2.2.2.2.2.2.2.2.1), (u 10, aI g 320 z.2.2.2.2.2.2.2.2.2.2.2.2.2.2.2.2.2.1), (u 8, aI g 80 z.2.2.2.2.2.2.2.2.2.2.2.2.2.2.2.2.2.2.1), (u 5, aI g 80 z.2.2.2.2.2.2.2.2.2.2.2.2.2.2.2.2.2.2.2.1), (u 4, aI g 80 z.2.2.2.2.2.2.2.2.2.2.2.2.2.2.2.2.2.2.2.2.1), (u 9, aI g 80 z.2.2.2.2.2.2.2.2.2.2.2.2.2.2.2.2.2.2.2.2.2)]
theorem rowW_perm (g : GT) (u : Nat → Nat) (z : LT) : (wl_X3 g u z.1 z.2.1 z.2.2.1 z.2.2.2.1 z.2.2.2.2.1 z.2.2.2.2.2.1 z.2.2.2.2.2.2.1 z.2.2.2.2.2.2.2.1 z.2.2.2.2.2.2.2.2.1 z.2.2.2.2.2.2.2.2.2.1 z.2.2.2.2.2.2.2.2.2.2.1 z.2.2.2.2.2.2.2.2.2.2.2.1 z.2.2.2.2.2.2.2.2.2.2.2.2.1 z.2.2.2.2.2.2.2.2.2.2.2.2.2.1 z.2.2.2.2.2.2.2.2.2.2.2.2.2.2.1 z.2.2.2.2.2.2.2.2.2.2.2.2.2.2.2.1 z.2.2.2.2.2.2.2.2.2.2.2.2.2.2.2.2.1 z.2.2.2.2.2.2.2.2.2.2.2.2.2.2.2.2.2.1 z.2.2.2.2.2.2.2.2.2.2.2.2.2.2.2.2.2.2.1 z.2.2.2.2.2.2.2.2.2.2.2.2.2.2.2.2.2.2.2.1 z.2.2.2.2.2.2.2.2.2.2.2.2.2.2.2.2.2.2.2.2.1 z.2.2.2.2.2.2.2.2.2.2.2.2.2.2.2.2.2.2.2.2.2).Perm (rowW g u z) := by
  have h := pm_q 21 21 [0, 13, 14, 18, 20, 16, 19, 17, 15, 1, 12, 2, 7, 6, 3, 11, 10, 8, 5, 4, 9] [] (List.range 21) (ws := wl_X3 g u z.1 z.2.1 z.2.2.1 z.2.2.2.1 z.2.2.2.2.1 z.2.2.2.2.2.1 z.2.2.2.2.2.2.1 z.2.2.2.2.2.2.2.1 z.2.2.2.2.2.2.2.2.1 z.2.2.2.2.2.2.2.2.2.1 z.2.2.2.2.2.2.2.2.2.2.1 z.2.2.2.2.2.2.2.2.2.2.2.1 z.2.2.2.2.2.2.2.2.2.2.2.2.1 z.2.2.2.2.2.2.2.2.2.2.2.2.2.1 z.2.2.2.2.2.2.2.2.2.2.2.2.2.2.1 z.2.2.2.2.2.2.2.2.2.2.2.2.2.2.2.1 z.2.2.2.2.2.2.2.2.2.2.2.2.2.2.2.2.1 z.2.2.2.2.2.2.2.2.2.2.2.2.2.2.2.2.2.1 z.2.2.2.2.2.2.2.2.2.2.2.2.2.2.2.2.2.2.1 z.2.2.2.2.2.2.2.2.2.2.2.2.2.2.2.2.2.2.2.1 z.2.2.2.2.2.2.2.2.2.2.2.2.2.2.2.2.2.2.2.2.1 z.2.2.2.2.2.2.2.2.2.2.2.2.2.2.2.2.2.2.2.2.2) (wc := rowW g u z) (wc' := fun _ => rowW g u z) (wn := fun _ => rowW g u z) rfl (by decide) rfl (fun _ => rfl) (by decide) (fun _ => rfl)
  obtain ⟨wr, p1, p2⟩ := h
  exact p1.trans (p2 (fun _ => 0))
def rw1 (g : GT) (o : Option Nat) (u : Nat → Nat) (z : LT) : va_W := match o with
  | none => []
  | some _ => rowW g u z
def RW (g : GT) (k : Nat) (f : Nat → Option Nat) (u : Nat → Nat → Nat) (z : Nat → LT) : va_W := (List.range k).flatMap (fun i => rw1 g (f i) (u i) (z i))
def RWx (g : GT) (k x : Nat) (f : Nat → Option Nat) (u : Nat → Nat → Nat) (z : Nat → LT) : va_W := ((List.range k).erase x).flatMap (fun i => rw1 g (f i) (u i) (z i))
theorem RW_x {g : GT} {k x : Nat} {f : Nat → Option Nat} {u : Nat → Nat → Nat} {z : Nat → LT} (hx : x < k) : (RW g k f u z).Perm (rw1 g (f x) (u x) (z x) ++ RWx g k x f u z) :=
  (List.Perm.flatMap_right _ (List.perm_cons_erase (List.mem_range.mpr hx))).trans (by rw [List.flatMap_cons]; exact List.Perm.refl _)
theorem RWx_cg {g : GT} {k x : Nat} {f f' : Nat → Option Nat} {u u' : Nat → Nat → Nat} {z z' : Nat → LT} (h : ∀ i, i ≠ x → f' i = f i ∧ u' i = u i ∧ z' i = z i) : RWx g k x f' u' z' = RWx g k x f u z := by
  unfold RWx
  have hm : ∀ i ∈ (List.range k).erase x, i ≠ x := fun i hi => ((List.Nodup.mem_erase_iff List.nodup_range).mp hi).1
  generalize (List.range k).erase x = l at hm
  induction l with
  | nil => rfl
  | cons a l ih =>
    rw [List.flatMap_cons, List.flatMap_cons, ih (fun i hi => hm i (List.mem_cons_of_mem _ hi))]
    obtain ⟨h1, h2, h3⟩ := h a (hm a List.mem_cons_self)
    rw [h1, h2, h3]
