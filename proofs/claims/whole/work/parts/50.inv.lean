/-! What holds between the calls: class and reference. -/
def lowS (s s' : St) : Prop := ∀ a j, 94 ≤ a → s' a j = s a j
def higS (s s' : St) : Prop := ∀ a j, a < 94 → s' a j = s a j
/-- a character that can stand in a line -/
def chK (c : Int32) : Prop := (cDig c ∨ cVar c ∨ cInp c) ∨ 0 < pcn c
/-- the equations: where they lie, what both hold of them -/
def IE (s : St) (N : Nat → Nat) (isT : Nat → Nat → Bool) (en : Nat → Nat → Nat) (ip : Nat → Nat → Bool) : Prop :=
  isE (dfA s) ∧ (∀ k, k < 8 → isE (eqA s k) ∧ eqA s k ≠ dfA s) ∧ (∀ k j, k < 8 → j < 8 → eqA s k = eqA s j → k = j) ∧
  ∀ v, v < 8 → s 97 v = nI (N v) ∧ N v ≤ 24 ∧ s (eqA s v) 1 = nI (N v) ∧ (0 < N v → EqOK s (eqA s v) (N v) (isT v) (en v) (ip v) ∧ RF s v (N v) (isT v) (en v) ∧ ∀ i, i < N v → tR s v i = s (eqA s v + 1) i)
/-- line, bad place, ready, CLOCKS, inputs -/
def IL (s : St) : Prop :=
  (∃ n, n ≤ 24 ∧ s 1 1 = nI n ∧ s 94 1 = nI n ∧ ∀ i, i < n → s 95 i = s 2 i ∧ chK (s 2 i)) ∧ s 94 2 = s 1 2 ∧ (s 1 7 = 0 ∨ s 1 7 = 1) ∧ s 94 15 = s 1 7 ∧ (∀ k, k < 8 → s 105 k = s 5 k ∧ clk (s 5 k)) ∧ (∀ k, k < 4 → s 106 k = s 81 k)
/-- not ready: nothing has run -/
def IZ (s : St) : Prop := s 80 6 = 0 ∧ (∀ k, k < 8 → s 83 k = 0) ∧ s 80 9 = 0
/-- the CLOCKS of TERMS, what is NEEDED, the order -/
def IC_ (s : St) (N : Nat → Nat) (isT : Nat → Nat → Bool) (en : Nat → Nat → Nat) (ip : Nat → Nat → Bool) : Prop :=
  (∀ v, v < 8 → 0 < N v → CK (tR s v) (isT v) (en v) (s 105) (s 105 v) (fun j => s 99 (24 * v + j)) (N v) ∧ ∀ i, i < N v → isT v i = true → s (eqA s v + 6) i = s 99 (24 * v + i) ∧ fP (tR s v) (en v) (s 105) i (s 99 (24 * v + i))) ∧
  (∀ v u, D109 s v u → 0 < N v ∧ 0 < N u) ∧ (∀ v u, v < 8 → u < 8 → 0 < N v → s 105 v = nI u → D109 s v u) ∧
  (∀ v i u, v < 8 → u < 8 → i < N v → isT v i = true → (cVar (tR s v i) ∨ tR s v i = 87 ∨ tR s v i = 67) → nmF (tR s v) (en v) i = nI u → 0 < N u ∧ (ip v i = false → D109 s v u)) ∧
  r8 s ∧ (∀ v u, B79 s v u ↔ Rch (D109 s) v u) ∧ (∀ v, ¬ B79 s v v) ∧ ordI (rk s) s 8 0
/-- the run, after M INSTANTS -/
def IR (s : St) (N : Nat → Nat) (isT : Nat → Nat → Bool) (M : Nat) : Prop :=
  s 94 16 = nI M ∧ s 80 9 = nI M ∧
  (∀ v i, v < 8 → i < N v → isT v i = true → (tR s v i = 80 ∨ tR s v i = 67) → s 102 (24 * v + i) = s (eqA s v + 8) i) ∧
  (∀ v, v < 8 → (0 < N v → s 111 v = s 83 v) ∧ (N v = 0 → s 83 v = 0)) ∧
  (∀ k, k < 9 → ∃ m, m ≤ M ∧ s 112 k = nI m ∧ (bt (s 80 8) k = true ↔ 0 < m)) ∧
  (M = 0 → s 80 6 = 0) ∧ s8 (s 80 6) ∧
  (0 < M → ∀ v, v < 8 → (bt (s 80 6) v = true ↔ 0 < N v ∧ ¬ s 107 v = 0) ∧ (bt (s 80 6) v = true → s 110 v = s 82 v))
def Inv (s : St) (c : Nat) : Prop := ∃ N isT en ip, IE s N isT en ip ∧ IL s ∧ (s 1 7 = 0 → IZ s) ∧ (¬ s 1 7 = 0 → IC_ s N isT en ip ∧ ∃ M, M ≤ 20 * c ∧ IR s N isT M)
/-! type -/
theorem opc_R (c : Int32) : isOpc c = true ↔ cPr c ∨ (c = 33 ∨ c = 63 ∨ c = 80 ∨ c = 70 ∨ c = 87 ∨ c = 67) := by
  unfold isOpc cPr
  simp
  constructor
  · intro h
    rcases h with h | h | h | h | h | h | h | h | h | h | h | h <;> simp [h]
  · intro h
    rcases h with (h | h | h | h | h | h) | (h | h | h | h | h | h) <;> simp [h]
theorem ofL_R (c : Int32) : ofL c ↔ ofR c := by
  unfold ofL ofR
  rw [opc_R]
theorem ofR_ch {c : Int32} (h : ofR c) : chK c := by
  rcases h with h | h | h | h | h
  · exact Or.inl (Or.inl h)
  · exact Or.inl (Or.inr (Or.inl h))
  · exact Or.inl (Or.inr (Or.inr h))
  · refine Or.inr ?_
    unfold pcn
    rw [pR2 h]
    decide
  · refine Or.inr ?_
    rcases h with rfl | rfl | rfl | rfl | rfl | rfl <;> decide
