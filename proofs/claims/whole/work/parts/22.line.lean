/-! A line that was read: which places are TERMS, where each TERM ends; what an equation's rows hold of it. -/
def cVar (c : Int32) : Prop := ¬ c < 97 ∧ c < 105
def cInp (c : Int32) : Prop := ¬ c < 112 ∧ c < 116
def cDig (c : Int32) : Prop := ¬ c < 48 ∧ ¬ 57 < c
def pcn (c : Int32) : Nat := (pcN c).toNatClampNeg
theorem pcN_vals (c : Int32) : pcN c = 0 ∨ pcN c = 1 ∨ pcN c = 2 ∨ pcN c = 3 := by
  unfold pcN
  repeat' split
  all_goals simp
theorem pcN_pcn (c : Int32) : pcN c = nI (pcn c) ∧ pcn c ≤ 3 := by
  unfold pcn
  rcases pcN_vals c with h | h | h | h <;> rw [h] <;> decide
/-- where the TERMS in the TERM at i begin -/
def c0 (t : Nat → Int32) (i : Nat) : Nat := if t i = 67 then i + 2 else i + 1
def ch (t : Nat → Int32) (en : Nat → Nat) (i : Nat) : Nat → Nat
  | 0 => c0 t i
  | k + 1 => en (ch t en i k)
/-- the variable of a TERM's name, or of the name that belongs to a W or C -/
def nmF (t : Nat → Int32) (en : Nat → Nat) (i : Nat) : Int32 := if ¬ t i < 97 ∧ t i < 105 then t i - 97 else if t i = 87 then t (en i - 1) - 97 else if t i = 67 then t (i + 1) - 97 else -1
def bI (b : Bool) : Int32 := if b = true then 1 else 0
theorem bI_1 (b : Bool) : bI b &&& 1 = bI b := by cases b <;> rfl
theorem bI_0 (b : Bool) : bI b = 0 ↔ b = false := by cases b <;> decide
def LineOK (t : Nat → Int32) (n : Nat) (isT : Nat → Bool) (en : Nat → Nat) : Prop :=
  0 < n ∧ n ≤ 24 ∧ isT 0 = true ∧ en 0 = n ∧
  (∀ i, i < n → isT i = false → cVar (t i) ∧ ∃ o, o < n ∧ isT o = true ∧ ((t o = 67 ∧ i = o + 1) ∨ (t o = 87 ∧ i = en o - 1))) ∧
  (∀ i, i < n → isT i = true → (∀ k, k < pcn (t i) → ch t en i k < n ∧ isT (ch t en i k) = true) ∧ i < en i ∧ en i ≤ n ∧ en i = ch t en i (pcn (t i)) + (if t i = 87 then 1 else 0) ∧
    (t i = 67 → i + 1 < n ∧ isT (i + 1) = false) ∧ (t i = 87 → isT (en i - 1) = false) ∧ (cVar (t i) ∨ cInp (t i) ∨ cDig (t i) ∨ 0 < pcn (t i)))
/-- an equation's rows: the line, its places, what each TERM is made of -/
def EqOK (s : St) (e n : Nat) (isT : Nat → Bool) (en : Nat → Nat) (ip : Nat → Bool) : Prop :=
  isE e ∧ s e 1 = nI n ∧ LineOK (s (e + 1)) n isT en ∧ (∀ i, i < n → s (e + 4) i = bI (isT i)) ∧ (∀ i, i < n → isT i = true → s (e + 5) i = bI (ip i)) ∧
  (∀ i, i < n → s (e + 3) i = if isT i = true then nmF (s (e + 1)) en i else -1) ∧
  (∀ i k, i < n → k < 3 → s (e + 2) (3 * i + k) = if isT i = true ∧ k < pcn (s (e + 1) i) then nI (ch (s (e + 1)) en i k) else -1) ∧
  ip 0 = false ∧ (∀ i k, i < n → isT i = true → k < pcn (s (e + 1) i) → ip (ch (s (e + 1)) en i k) = (ip i || decide (s (e + 1) i = 80)))
/-! numbers -/
theorem m3 (i k : Nat) : nI i * 3 + nI k = nI (3 * i + k) := by
  show nI i * nI 3 + nI k = _
  rw [pk_mul, nI_add, Nat.mul_comm]
theorem m3_0 (i : Nat) : nI i * 3 + 0 = nI (3 * i + 0) := m3 i 0
theorem m3_1 (i : Nat) : nI i * 3 + 1 = nI (3 * i + 1) := m3 i 1
theorem m3_2 (i : Nat) : nI i * 3 + 2 = nI (3 * i + 2) := m3 i 2
theorem nI_m1 {j : Nat} (h : j < 2147483648) : ¬ nI j = -1 := fun e => by
  have h1 := nI_pos h
  rw [e] at h1
  exact h1 (by decide)
/-- a letter less 'a' -/
theorem var_k {c : Int32} (h : ¬ c < 97 ∧ c < 105) : ∃ k, k < 8 ∧ c - 97 = nI k := by
  have hb : c.toInt - 97 < 8 ∧ 0 ≤ c.toInt - 97 := by
    have h1 := Int32.not_lt.mp h.1
    have h2 := h.2
    rw [Int32.le_iff_toInt_le] at h1
    rw [Int32.lt_iff_toInt_lt] at h2
    have e1 : (97 : Int32).toInt = 97 := by decide
    have e2 : (105 : Int32).toInt = 105 := by decide
    omega
  refine ⟨(c.toInt - 97).toNat, by omega, ?_⟩
  apply Int32.toInt_inj.mp
  rw [nI_toInt (by omega), Int32.toInt_sub]
  have e1 : (97 : Int32).toInt = 97 := by decide
  rw [e1, Int.toNat_of_nonneg (by omega)]
  apply Int.bmod_eq_of_le <;> omega
theorem inp_k {c : Int32} (h : ¬ c < 112 ∧ c < 116) : ∃ k, k < 4 ∧ c - 112 = nI k := by
  have hb : c.toInt - 112 < 4 ∧ 0 ≤ c.toInt - 112 := by
    have h1 := Int32.not_lt.mp h.1
    have h2 := h.2
    rw [Int32.le_iff_toInt_le] at h1
    rw [Int32.lt_iff_toInt_lt] at h2
    have e1 : (112 : Int32).toInt = 112 := by decide
    have e2 : (116 : Int32).toInt = 116 := by decide
    omega
  refine ⟨(c.toInt - 112).toNat, by omega, ?_⟩
  apply Int32.toInt_inj.mp
  rw [nI_toInt (by omega), Int32.toInt_sub]
  have e1 : (112 : Int32).toInt = 112 := by decide
  rw [e1, Int.toNat_of_nonneg (by omega)]
  apply Int.bmod_eq_of_le <;> omega
