/-! two functions side by side -/
def Ok2 {ρ ρ' : Type} (x : Option ρ) (y : Option ρ') (Q : ρ → ρ' → Prop) : Prop := ∃ r r', x = some r ∧ y = some r' ∧ Q r r'
theorem lp_two {σ σ' ρ ρ' : Type} {body : (σ → Option ρ) → σ → Option ρ} {body' : (σ' → Option ρ') → σ' → Option ρ'} {Q : ρ → ρ' → Prop} (I : Nat → σ → σ' → Prop) (n : Nat)
    (hstep : ∀ i z z' k k', i < n → I i z z' → (∀ w w', I (i + 1) w w' → Ok2 (k w) (k' w') Q) → Ok2 (body k z) (body' k' z') Q) (hend : ∀ z z' k k', I n z z' → Ok2 (body k z) (body' k' z') Q) :
    ∀ {i : Nat} {F F' : Nat} {z : σ} {z' : σ'}, i ≤ n → n < F + i → n < F' + i → I i z z' → Ok2 (lp body F z) (lp body' F' z') Q := by
  have h : ∀ d i F F' z z', i + d = n → d < F → d < F' → I i z z' → Ok2 (lp body F z) (lp body' F' z') Q := by
    intro d
    induction d with
    | zero => intro i F F' z z' hi hF hF' hz; cases F with
      | zero => omega
      | succ F => cases F' with
        | zero => omega
        | succ F' => have : i = n := by omega
                     subst this; exact hend z z' _ _ hz
    | succ d ih => intro i F F' z z' hi hF hF' hz; cases F with
      | zero => omega
      | succ F => cases F' with
        | zero => omega
        | succ F' => exact hstep i z z' _ _ (by omega) hz (fun w w' hw => ih (i + 1) F F' w w' (by omega) (by omega) (by omega) hw)
  intro i F F' z z' hi hF hF' hz
  exact h (n - i) i _ _ _ _ (by omega) (by omega) (by omega) hz
theorem cnt1_congr {Q Q' : Nat → Prop} {d : ∀ k, Decidable (Q k)} {d' : ∀ k, Decidable (Q' k)} : ∀ {n : Nat}, (∀ k, k < n → (Q' k ↔ Q k)) → cnt1 Q' d' n = cnt1 Q d n
  | 0, _ => rfl
  | n + 1, h => by
    show cnt1 Q' d' n + (if Q' n then 1 else 0) = cnt1 Q d n + (if Q n then 1 else 0)
    rw [cnt1_congr (n := n) (fun k hk => h k (by omega))]
    by_cases hq : Q n
    · rw [if_pos hq, if_pos ((h n (by omega)).mpr hq)]
    · rw [if_neg hq, if_neg (fun w => hq ((h n (by omega)).mp w))]
theorem cnt1_mono {Q Q' : Nat → Prop} {d : ∀ k, Decidable (Q k)} {d' : ∀ k, Decidable (Q' k)} : ∀ {n : Nat}, (∀ k, k < n → Q k → Q' k) → cnt1 Q d n ≤ cnt1 Q' d' n
  | 0, _ => Nat.le_refl 0
  | n + 1, h => by
    have ih := cnt1_mono (d := d) (d' := d') (n := n) (fun k hk => h k (by omega))
    show cnt1 Q d n + (if Q n then 1 else 0) ≤ cnt1 Q' d' n + (if Q' n then 1 else 0)
    by_cases hq : Q n
    · rw [if_pos hq, if_pos (h n (by omega) hq)]; omega
    · rw [if_neg hq]; omega
theorem cnt1_upd {Q Q' : Nat → Prop} {d : ∀ k, Decidable (Q k)} {d' : ∀ k, Decidable (Q' k)} {p : Nat} (h0 : ¬ Q p) (h1 : Q' p) (h : ∀ q, q ≠ p → (Q' q ↔ Q q)) : ∀ {n : Nat}, p < n → cnt1 Q' d' n = cnt1 Q d n + 1
  | 0, hp => by omega
  | n + 1, hp => by
    show cnt1 Q' d' n + (if Q' n then 1 else 0) = cnt1 Q d n + (if Q n then 1 else 0) + 1
    by_cases e : n = p
    · subst e
      rw [if_pos h1, if_neg h0, cnt1_congr (n := n) (fun k hk => h k (by omega))]
    · have ih := cnt1_upd (d := d) (d' := d') h0 h1 h (n := n) (by omega)
      rw [ih]
      by_cases hq : Q n
      · rw [if_pos hq, if_pos ((h n e).mpr hq)]
      · rw [if_neg hq, if_neg (fun w => hq ((h n e).mp w))]
theorem cnt1_all {Q : Nat → Prop} {d : ∀ k, Decidable (Q k)} {p : Nat} (h0 : ¬ Q p) : ∀ {n : Nat}, p < n → cnt1 Q d n < n
  | 0, hp => by omega
  | n + 1, hp => by
    show cnt1 Q d n + (if Q n then 1 else 0) < n + 1
    by_cases e : n = p
    · subst e
      rw [if_neg h0]
      have := cnt1_le (Q := Q) (d := d) n
      omega
    · have := cnt1_all (d := d) h0 (n := n) (by omega)
      split <;> omega
theorem upd_upd (f : Nat → Int32) (k : Nat) (x y : Int32) : upd (upd f k x) k y = upd f k y := by
  funext j
  simp only [upd_at]
  split <;> rfl
theorem mx_1 {a b : Int32} : a ≤ (if a < b then b else a) := by
  split
  · rename_i h; rw [i32_lt] at h; rw [i32_le]; omega
  · rw [i32_le]; omega
theorem mx_2 {a b : Int32} : b ≤ (if a < b then b else a) := by
  split
  · rw [i32_le]; omega
  · rename_i h; exact i32_nlt.mp h
theorem i32_tr {a b c : Int32} (h : a ≤ b) (h2 : b ≤ c) : a ≤ c := by rw [i32_le] at *; omega
theorem i32_rf {a : Int32} : a ≤ a := by rw [i32_le]; omega
theorem i32_as {a b : Int32} (h : a ≤ b) (h2 : b ≤ a) : a = b := by rw [i32_le] at *; exact Int32.toInt_inj.mp (by omega)
/-! the plan of a billing: trips laid side by side -/
def JP (v : Nat → Int32) (rt : Nat → Nat → Int32) (tN : Nat) (lp tr : Nat → Int32) (p : Nat) : Prop :=
  tr p = -1 ∨ (v p ≠ -1 ∧ ∃ t, t < tN ∧ tr p = nI t ∧ ((lp p = -1 ∧ ∀ q, q < p → tr q ≠ nI t) ∨ (∃ b, b < p ∧ tr b = nI t ∧ (∀ q, b < q → q < p → tr q ≠ nI t) ∧ rt b p ≠ -1 ∧ lp p = rt b p)))
def cnI (tr : Nat → Int32) (t c : Nat) : Nat := cnt1 (fun p => tr p = nI t) (fun _ => inferInstance) c
def JT (c iN : Nat) (av tr ta tI tl ni np : Nat → Int32) (t : Nat) : Prop :=
  ni t = tI t ∧ (∃ a, a < iN ∧ tI t = nI a) ∧ np t = tl t ∧ tl t = nI (cnI tr t c) ∧ (∀ p, p < c → tr p = nI t → av p ≤ ta t) ∧ -1 ≤ ta t ∧ (ta t = -1 ∨ ∃ p, p < c ∧ tr p = nI t ∧ av p = ta t)
def JI (T : Nat) (tp ip nv : Nat → Int32) (i : Nat) : Prop := (∃ a, 1 ≤ a ∧ a ≤ 9999 ∧ ip i = nI a) ∧ nv i = phi T tp (ip i)
def JB (c : Nat) (v : Nat → Int32) (rt : Nat → Nat → Int32) (av : Nat → Int32) (T : Nat) (tp : Nat → Int32) (tN iN : Nat) (ip lp tr ta tI tl ni np nv tf : Nat → Int32) : Prop :=
  tN ≤ cnt1 (fun p => tr p ≠ -1) (fun _ => inferInstance) c ∧ (∀ p, p < c → tf p = tr p ∧ JP v rt tN lp tr p) ∧ (∀ t, t < tN → JT c iN av tr ta tI tl ni np t) ∧ (∀ i, i < iN → JI T tp ip nv i)
section
variable {c : Nat} {v : Nat → Int32} {rt : Nat → Nat → Int32} {av : Nat → Int32} {T : Nat} {tp : Nat → Int32} {tN iN p : Nat} {ip lp tr ta tI tl ni np nv tf : Nat → Int32}
theorem JB.lt (h : JB c v rt av T tp tN iN ip lp tr ta tI tl ni np nv tf) (hp : p < c) (htr : tr p = -1) : tN < c :=
  Nat.lt_of_le_of_lt h.1 (cnt1_all (p := p) (fun w => w htr) hp)
theorem JB.lec (h : JB c v rt av T tp tN iN ip lp tr ta tI tl ni np nv tf) : tN ≤ c := Nat.le_trans h.1 (cnt1_le c)
theorem jb_new (h : JB c v rt av T tp tN (iN + 1) ip lp tr ta tI tl ni np nv tf) (hc : c ≤ 80) (hp : p < c) (htr : tr p = -1) (hv : v p ≠ -1) (hav : -1 ≤ av p) :
    JB c v rt av T tp (tN + 1) (iN + 1) ip (upd lp p (-1)) (upd tr p (nI tN)) (upd ta tN (if -1 < av p then av p else -1)) (upd tI tN (nI iN)) (upd tl tN 1) (upd ni tN (nI iN)) (upd np tN 1) nv (upd tf p (nI tN)) := by
  have htc := h.lt hp htr
  obtain ⟨h1, h2, h3, h4⟩ := h
  have hne : ∀ t : Nat, t < 100 → ¬ nI t = -1 := fun t ht => nI_nm (by omega)
  have hold : ∀ q, q < c → tr q ≠ nI tN := by
    intro q hq e
    rcases (h2 q hq).2 with w | ⟨-, t, ht, w, -⟩
    · exact hne tN (by omega) (e.symm.trans w)
    · have := (nI_eq (by omega) (by omega)).mp (e.symm.trans w); omega
  have hu : ∀ q, q ≠ p → upd tr p (nI tN) q = tr q := fun q hq => by rw [upd_at, if_neg hq]
  have hup : upd tr p (nI tN) p = nI tN := by rw [upd_at, if_pos rfl]
  have hcnt : ∀ t, t < tN → cnI (upd tr p (nI tN)) t c = cnI tr t c := fun t ht => cnt1_congr (fun q hq => by
    by_cases e : q = p
    · subst e
      rw [hup, htr]
      exact ⟨fun w => absurd ((nI_eq (by omega) (by omega)).mp w) (by omega), fun w => absurd w.symm (hne t (by omega))⟩
    · rw [hu q e])
  refine ⟨?_, fun q hq => ?_, fun t ht => ?_, h4⟩
  · rw [cnt1_upd (Q := fun p => tr p ≠ -1) (d := fun _ => inferInstance) (p := p) (fun w => w htr) (by rw [hup]; exact hne tN (by omega)) (fun q hq => by rw [hu q hq]) hp]
    omega
  · by_cases e : q = p
    · subst e
      refine ⟨by rw [hup, upd_at, if_pos rfl], .inr ⟨hv, tN, by omega, hup, .inl ⟨by rw [upd_at, if_pos rfl], fun q' hq' => ?_⟩⟩⟩
      rw [hu q' (by omega)]
      exact hold q' (by omega)
    · refine ⟨by rw [hu q e, upd_at, if_neg e]; exact (h2 q hq).1, ?_⟩
      rcases (h2 q hq).2 with w | ⟨w1, t, ht, w2, w3⟩
      · exact .inl (by rw [hu q e]; exact w)
      · refine .inr ⟨w1, t, by omega, by rw [hu q e]; exact w2, ?_⟩
        have hnt : nI tN ≠ nI t := fun w => by have := (nI_eq (by omega) (by omega)).mp w; omega
        rcases w3 with ⟨w3, w4⟩ | ⟨b, b1, b2, b3, b4, b5⟩
        · refine .inl ⟨by rw [upd_at, if_neg e]; exact w3, fun q' hq' => ?_⟩
          by_cases e' : q' = p
          · subst e'; rw [hup]; exact hnt
          · rw [hu q' e']; exact w4 q' hq'
        · have eb : b ≠ p := fun w => hne t (by omega) (b2.symm.trans (by rw [w]; exact htr))
          refine .inr ⟨b, b1, by rw [hu b eb]; exact b2, fun q' g1 g2 => ?_, b4, by rw [upd_at, if_neg e]; exact b5⟩
          by_cases e' : q' = p
          · subst e'; rw [hup]; exact hnt
          · rw [hu q' e']; exact b3 q' g1 g2
  · by_cases e : t = tN
    · subst e
      have hz : cnI tr t c = 0 := by
        have : cnI tr t c = cnt1 (fun _ => False) (fun _ => inferInstance) c := cnt1_congr (fun q hq => ⟨fun w => hold q hq w, False.elim⟩)
        rw [this]
        have : ∀ n, cnt1 (fun _ => False) (fun _ => inferInstance) n = 0 := by
          intro n
          induction n with
          | zero => rfl
          | succ n ih => show cnt1 _ _ n + (if False then 1 else 0) = 0; rw [ih]; rfl
        exact this c
      refine ⟨by rw [upd_at, upd_at, if_pos rfl, if_pos rfl], ⟨iN, by omega, by rw [upd_at, if_pos rfl]⟩, by rw [upd_at, upd_at, if_pos rfl, if_pos rfl], ?_, fun q hq w => ?_, ?_, ?_⟩
      · rw [upd_at, if_pos rfl]
        have : cnI (upd tr p (nI t)) t c = cnI tr t c + 1 := cnt1_upd (p := p) (by rw [htr]; exact fun w => hne t (by omega) w.symm) hup (fun q hq => by rw [hu q hq]) hp
        rw [this, hz]
        rfl
      · rw [upd_at, if_pos rfl]
        by_cases e' : q = p
        · subst e'; exact mx_2
        · rw [hu q e'] at w; exact absurd w (hold q hq)
      · rw [upd_at, if_pos rfl]; exact mx_1
      · rw [upd_at, if_pos rfl]
        by_cases hx : -1 < av p
        · rw [if_pos hx]; exact .inr ⟨p, hp, hup, rfl⟩
        · rw [if_neg hx]; exact .inl rfl
    · obtain ⟨g1, g2, g3, g4, g5, g6, g7⟩ := h3 t (by omega)
      refine ⟨by rw [upd_at, upd_at, if_neg e, if_neg e]; exact g1, by rw [upd_at, if_neg e]; exact g2, by rw [upd_at, upd_at, if_neg e, if_neg e]; exact g3, by rw [upd_at, if_neg e, hcnt t (by omega)]; exact g4, fun q hq w => ?_, by rw [upd_at, if_neg e]; exact g6, ?_⟩
      · rw [upd_at, if_neg e]
        by_cases e' : q = p
        · subst e'; rw [hup] at w
          exact absurd ((nI_eq (by omega) (by omega)).mp w) (by omega)
        · rw [hu q e'] at w; exact g5 q hq w
      · rw [upd_at, if_neg e]
        rcases g7 with w | ⟨q, q1, q2, q3⟩
        · exact .inl w
        · refine .inr ⟨q, q1, ?_, q3⟩
          have : q ≠ p := fun w => hne t (by omega) (q2.symm.trans (by rw [w]; exact htr))
          rw [hu q this]; exact q2
theorem jb_old {b : Nat} (h : JB c v rt av T tp (tN + 1) iN ip lp tr ta tI tl ni np nv tf) (hc : c ≤ 80) (hp : p < c) (htr : tr p = -1) (hv : v p ≠ -1) (hb : b < p) (htb : tr b = nI tN) (hmax : ∀ q, q < c → tr q = nI tN → q ≤ b) (hrt : rt b p ≠ -1) :
    JB c v rt av T tp (tN + 1) iN ip (upd lp p (rt b p)) (upd tr p (nI tN)) (upd ta tN (if ta tN < av p then av p else ta tN)) tI (upd tl tN (tl tN + 1)) ni (upd np tN (np tN + 1)) nv (upd tf p (nI tN)) := by
  have htc := h.lt hp htr
  obtain ⟨h1, h2, h3, h4⟩ := h
  have hne : ∀ t : Nat, t < 100 → ¬ nI t = -1 := fun t ht => nI_nm (by omega)
  have hu : ∀ q, q ≠ p → upd tr p (nI tN) q = tr q := fun q hq => by rw [upd_at, if_neg hq]
  have hup : upd tr p (nI tN) p = nI tN := by rw [upd_at, if_pos rfl]
  refine ⟨?_, fun q hq => ?_, fun t ht => ?_, h4⟩
  · exact Nat.le_trans h1 (cnt1_mono (fun q hq w => by
      by_cases e : q = p
      · subst e; exact absurd htr w
      · show upd tr p (nI tN) q ≠ -1
        rw [hu q e]; exact w))
  · by_cases e : q = p
    · subst e
      refine ⟨by rw [hup, upd_at, if_pos rfl], .inr ⟨hv, tN, by omega, hup, .inr ⟨b, hb, by rw [hu b (by omega)]; exact htb, fun q' g1 g2 w => ?_, hrt, by rw [upd_at, if_pos rfl]⟩⟩⟩
      rw [hu q' (by omega)] at w
      have := hmax q' (by omega) w
      omega
    · refine ⟨by rw [hu q e, upd_at, if_neg e]; exact (h2 q hq).1, ?_⟩
      rcases (h2 q hq).2 with w | ⟨w1, t, ht, w2, w3⟩
      · exact .inl (by rw [hu q e]; exact w)
      · refine .inr ⟨w1, t, ht, by rw [hu q e]; exact w2, ?_⟩
        have hnt : p < q → nI tN ≠ nI t := fun hpq w => by
          have := hmax q hq (w2.trans w.symm)
          omega
        rcases w3 with ⟨w3, w4⟩ | ⟨b', b1, b2, b3, b4, b5⟩
        · refine .inl ⟨by rw [upd_at, if_neg e]; exact w3, fun q' hq' => ?_⟩
          by_cases e' : q' = p
          · subst e'; rw [hup]; exact hnt hq'
          · rw [hu q' e']; exact w4 q' hq'
        · have eb : b' ≠ p := fun w => hne t (by omega) (b2.symm.trans (by rw [w]; exact htr))
          refine .inr ⟨b', b1, by rw [hu b' eb]; exact b2, fun q' g1 g2 => ?_, b4, by rw [upd_at, if_neg e]; exact b5⟩
          by_cases e' : q' = p
          · subst e'; rw [hup]; exact hnt g2
          · rw [hu q' e']; exact b3 q' g1 g2
  · obtain ⟨g1, g2, g3, g4, g5, g6, g7⟩ := h3 t ht
    by_cases e : t = tN
    · subst e
      refine ⟨g1, g2, by rw [upd_at, upd_at, if_pos rfl, if_pos rfl, g3], ?_, fun q hq w => ?_, ?_, ?_⟩
      · rw [upd_at, if_pos rfl, g4]
        have : cnI (upd tr p (nI t)) t c = cnI tr t c + 1 := cnt1_upd (p := p) (by rw [htr]; exact fun w => hne t (by omega) w.symm) hup (fun q hq => by rw [hu q hq]) hp
        rw [this]
        exact nI_add _ 1
      · rw [upd_at, if_pos rfl]
        by_cases e' : q = p
        · subst e'; exact mx_2
        · rw [hu q e'] at w; exact i32_tr (g5 q hq w) mx_1
      · rw [upd_at, if_pos rfl]; exact i32_tr g6 mx_1
      · rw [upd_at, if_pos rfl]
        by_cases hx : ta t < av p
        · rw [if_pos hx]; exact .inr ⟨p, hp, hup, rfl⟩
        · rw [if_neg hx]
          rcases g7 with w | ⟨q, q1, q2, q3⟩
          · exact .inl w
          · refine .inr ⟨q, q1, ?_, q3⟩
            have : q ≠ p := fun w => hne t (by omega) (q2.symm.trans (by rw [w]; exact htr))
            rw [hu q this]; exact q2
    · have hcnt : cnI (upd tr p (nI tN)) t c = cnI tr t c := cnt1_congr (fun q hq => by
        by_cases e : q = p
        · subst e
          rw [hup, htr]
          exact ⟨fun w => absurd ((nI_eq (by omega) (by omega)).mp w) (by omega), fun w => absurd w.symm (hne t (by omega))⟩
        · rw [hu q e])
      refine ⟨g1, g2, by rw [upd_at, upd_at, if_neg e, if_neg e]; exact g3, by rw [upd_at, if_neg e, hcnt]; exact g4, fun q hq w => ?_, by rw [upd_at, if_neg e]; exact g6, ?_⟩
      · rw [upd_at, if_neg e]
        by_cases e' : q = p
        · subst e'; rw [hup] at w
          exact absurd ((nI_eq (by omega) (by omega)).mp w) (by omega)
        · rw [hu q e'] at w; exact g5 q hq w
      · rw [upd_at, if_neg e]
        rcases g7 with w | ⟨q, q1, q2, q3⟩
        · exact .inl w
        · refine .inr ⟨q, q1, ?_, q3⟩
          have : q ≠ p := fun w => hne t (by omega) (q2.symm.trans (by rw [w]; exact htr))
          rw [hu q this]; exact q2
end
