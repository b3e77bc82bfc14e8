/-! what a function answers: Ok; loops with an invariant -/
def Ok {ρ : Type} (x : Option ρ) (Q : ρ → Prop) : Prop := ∃ r, x = some r ∧ Q r
theorem Ok.mono {ρ : Type} {x : Option ρ} {Q Q' : ρ → Prop} (h : Ok x Q) (hq : ∀ r, Q r → Q' r) : Ok x Q' := by
  obtain ⟨r, e, q⟩ := h
  exact ⟨r, e, hq r q⟩
theorem lp_inv {σ ρ : Type} {body : (σ → Option ρ) → σ → Option ρ} {Q : ρ → Prop} (I : Nat → σ → Prop) (n : Nat)
    (hstep : ∀ i z k, i < n → I i z → (∀ z', I (i + 1) z' → Ok (k z') Q) → Ok (body k z) Q) (hend : ∀ z k, I n z → Ok (body k z) Q) :
    ∀ {F : Nat} {z : σ}, n < F → I 0 z → Ok (lp body F z) Q := by
  have h : ∀ d i F z, i + d = n → d < F → I i z → Ok (lp body F z) Q := by
    intro d
    induction d with
    | zero => intro i F z hi hF hz; cases F with
      | zero => omega
      | succ F => have : i = n := by omega
                  subst this; exact hend z _ hz
    | succ d ih => intro i F z hi hF hz; cases F with
      | zero => omega
      | succ F => exact hstep i z _ (by omega) hz (fun z' hz' => ih (i + 1) F z' (by omega) (by omega) hz')
  intro F z hF hz
  exact h n 0 _ _ (by omega) hF hz
/-- the same, for loops whose end may come at any time: d is what is left -/
theorem lp_dec {σ ρ : Type} {body : (σ → Option ρ) → σ → Option ρ} {Q : ρ → Prop} (I : Nat → σ → Prop)
    (hstep : ∀ d z k, I d z → (∀ d' z', d' < d → I d' z' → Ok (k z') Q) → Ok (body k z) Q) :
    ∀ {F d : Nat} {z : σ}, d < F → I d z → Ok (lp body F z) Q := by
  have h : ∀ n d F z, d ≤ n → d < F → I d z → Ok (lp body F z) Q := by
    intro n
    induction n with
    | zero => intro d F z hd hF hz; cases F with
      | zero => omega
      | succ F => exact hstep d z _ hz (fun d' z' hd' => by omega)
    | succ n ih => intro d F z hd hF hz; cases F with
      | zero => omega
      | succ F => exact hstep d z _ hz (fun d' z' hd' hz' => ih d' F z' (by omega) (by omega) hz')
  intro F d z hF hz
  exact h _ _ _ _ (Nat.le_refl _) hF hz
/-! the routes -/
def NM (G L : Nat) (M P : Nat → Nat → Nat) (lf lt lm lq mM mP : Nat → Int32) : Prop :=
  (∀ a b, a < G → b < G → mM (a * 10 + b) = nI (M a b) ∧ mP (a * 10 + b) = nI (P a b) ∧ M a b ≤ 120 ∧ P a b ≤ 5000 ∧ (M a b = 0 ↔ P a b = 0)) ∧
  (∀ k, k < L → ∃ a b, a < G ∧ b < G ∧ 0 < M a b ∧ lf k = nI a ∧ lt k = nI b ∧ lm k = nI (M a b) ∧ lq k = nI (P a b)) ∧
  (∀ a b, a < G → b < G → 0 < M a b → ∃ k, k < L ∧ lf k = nI a ∧ lt k = nI b)
def COs (P : Nat → Nat → Nat) (f t l b c : Nat) : Nat := if l = 1 then P f t else if l = 2 then P f b + P b t else P f b + P b c + P c t
def KY (P : Nat → Nat → Nat) (f t l b c : Nat) : Nat := l * 100000000 + COs P f t l b c * 100 + b * 10 + c
def ST (f t l b c : Nat) (s : Nat → Int32) : Prop := s 0 = nI f ∧ (l = 1 → s 1 = nI t) ∧ (l = 2 → s 1 = nI b ∧ s 2 = nI t) ∧ (l = 3 → s 1 = nI b ∧ s 2 = nI c ∧ s 3 = nI t)
def BE (P : Nat → Nat → Nat) (f t : Nat) (V : Nat → Nat → Nat → Prop) (lk pr : Int32) (s : Nat → Int32) : Prop :=
  ∃ l b c, V l b c ∧ lk = nI l ∧ pr = nI (COs P f t l b c) ∧ ST f t l b c s ∧ ∀ l' b' c', V l' b' c' → KY P f t l b c ≤ KY P f t l' b' c'
def NF (P : Nat → Nat → Nat) (f t l b c : Nat) : Prop := 1 ≤ l ∧ l ≤ 3 ∧ b < 10 ∧ c < 10 ∧ (l = 1 → b = 0 ∧ c = 0) ∧ (l = 2 → c = 0) ∧ COs P f t l b c ≤ 15000
section
variable {P M : Nat → Nat → Nat} {f t : Nat} {V V' : Nat → Nat → Nat → Prop} {lk pr lk' pr' : Int32} {s s' : Nat → Int32}
theorem be_iff (h : BE P f t V lk pr s) (hV : ∀ l b c, V' l b c ↔ V l b c) : BE P f t V' lk pr s := by
  obtain ⟨l, b, c, h1, h2, h3, h4, h5⟩ := h
  exact ⟨l, b, c, (hV _ _ _).mpr h1, h2, h3, h4, fun l' b' c' h => h5 _ _ _ ((hV _ _ _).mp h)⟩
theorem be_old {l1 b1 c1 : Nat} (h : BE P f t V lk pr s) (hV : ∀ l b c, V' l b c ↔ V l b c ∨ (l = l1 ∧ b = b1 ∧ c = c1))
    (hk : ∀ l b c, V l b c → lk = nI l → pr = nI (COs P f t l b c) → ST f t l b c s → KY P f t l b c ≤ KY P f t l1 b1 c1) : BE P f t V' lk pr s := by
  obtain ⟨l, b, c, h1, h2, h3, h4, h5⟩ := h
  refine ⟨l, b, c, (hV _ _ _).mpr (.inl h1), h2, h3, h4, fun l' b' c' h => ?_⟩
  rcases (hV _ _ _).mp h with h | ⟨rfl, rfl, rfl⟩
  · exact h5 _ _ _ h
  · exact hk _ _ _ h1 h2 h3 h4
theorem be_new {l1 b1 c1 : Nat} (hV : ∀ l b c, V' l b c ↔ V l b c ∨ (l = l1 ∧ b = b1 ∧ c = c1)) (hs : ST f t l1 b1 c1 s)
    (hk : ∀ l b c, V l b c → KY P f t l1 b1 c1 ≤ KY P f t l b c) : BE P f t V' (nI l1) (nI (COs P f t l1 b1 c1)) s := by
  refine ⟨l1, b1, c1, (hV _ _ _).mpr (.inr ⟨rfl, rfl, rfl⟩), rfl, rfl, hs, fun l' b' c' h => ?_⟩
  rcases (hV _ _ _).mp h with h | ⟨rfl, rfl, rfl⟩
  · exact hk _ _ _ h
  · exact Nat.le_refl _
theorem be_uniq (hn : ∀ l b c, V l b c → NF P f t l b c) (h : BE P f t V lk pr s) (h' : BE P f t V lk' pr' s') : lk = lk' ∧ pr = pr' ∧ ∃ l, 1 ≤ l ∧ l ≤ 3 ∧ lk = nI l ∧ (∃ q, 1 ≤ l → q ≤ 15000 ∧ pr = nI q) ∧ ∀ i, i ≤ l → s i = s' i := by
  obtain ⟨l, b, c, h1, h2, h3, h4, h5⟩ := h
  obtain ⟨l', b', c', h1', h2', h3', h4', h5'⟩ := h'
  have n1 := hn _ _ _ h1
  have n2 := hn _ _ _ h1'
  have k1 := h5 _ _ _ h1'
  have k2 := h5' _ _ _ h1
  unfold KY at k1 k2
  unfold NF at n1 n2
  have e1 : l = l' := by omega
  subst e1
  have e2 : COs P f t l b c = COs P f t l b' c' := by omega
  have e3 : b = b' := by omega
  have e4 : c = c' := by omega
  subst e3 e4
  refine ⟨h2.trans h2'.symm, h3.trans h3'.symm, l, n1.1, n1.2.1, h2, ⟨_, fun _ => ⟨n1.2.2.2.2.2.2, h3⟩⟩, fun i hi => ?_⟩
  unfold ST at h4 h4'
  have hl : l = 1 ∨ l = 2 ∨ l = 3 := by omega
  have hi' : i = 0 ∨ i = 1 ∨ i = 2 ∨ i = 3 := by omega
  rcases hl with rfl | rfl | rfl <;> rcases hi' with rfl | rfl | rfl | rfl <;> first | omega | simp_all
end
