/-! The least with a fault. -/
noncomputable def fI (o : Option Nat) : Int32 := match o with
  | some k => nI k
  | none => -1
theorem fst_lt {P : Nat → Prop} : ∀ (r k j : Nat), fst_ P r k = some j → k ≤ j ∧ j < k + r ∧ P j
  | 0, k, j, h => absurd h (by simp [fst_])
  | r + 1, k, j, h => by
    unfold fst_ at h
    by_cases q : P k
    · rw [if_pos q] at h
      have : k = j := Option.some.inj h
      subst this
      exact ⟨Nat.le_refl k, by omega, q⟩
    · rw [if_neg q] at h
      obtain ⟨a, b, c⟩ := fst_lt r (k + 1) j h
      exact ⟨by omega, by omega, c⟩
theorem fst_none {P : Nat → Prop} : ∀ (r k : Nat), fst_ P r k = none → ∀ j, k ≤ j → j < k + r → ¬ P j
  | 0, k, _, j, h1, h2 => by omega
  | r + 1, k, h, j, h1, h2 => by
    unfold fst_ at h
    by_cases q : P k
    · rw [if_pos q] at h
      exact absurd h (by simp)
    · rw [if_neg q] at h
      by_cases z : j = k
      · subst z; exact q
      · exact fst_none r (k + 1) h j (by omega) (by omega)
theorem fst_congr {P Q : Nat → Prop} : ∀ (r k : Nat), (∀ j, k ≤ j → j < k + r → (P j ↔ Q j)) → fst_ P r k = fst_ Q r k
  | 0, _, _ => rfl
  | r + 1, k, h => by
    unfold fst_
    rw [fst_congr r (k + 1) (fun j a b => h j (by omega) (by omega))]
    have hk := h k (Nat.le_refl k) (by omega)
    by_cases q : P k
    · rw [if_pos q, if_pos (hk.mp q)]
    · rw [if_neg q, if_neg (fun z => q (hk.mpr z))]
theorem fst_p {P : Nat → Prop} {r k : Nat} (h : P k) : fst_ P (r + 1) k = some k := if_pos h
theorem fst_n {P : Nat → Prop} {r k : Nat} (h : ¬ P k) : fst_ P (r + 1) k = fst_ P r (k + 1) := if_neg h
theorem lmF_fst {s : St} {w : Int32} : ∀ (r k : Nat), k + r = 8 → lmF s w r k = fI (fst_ (fun j => bt w j = true ∧ ¬ 0 < s (eqA s j) 1) r k)
  | 0, _, _ => rfl
  | r + 1, k, hk => by
    rw [lmF, lmF_fst r (k + 1) (by omega)]
    by_cases q : bt w k = true ∧ ¬ 0 < s (eqA s k) 1
    · rw [if_pos (show ¬ (w >>> (nI k &&& 31)) &&& 1 = 0 ∧ ¬ 0 < s (eqA s k) 1 from ⟨(bt_shN w (by omega)).mpr q.1, q.2⟩), fst_p q]
      rfl
    · rw [if_neg (show ¬ (¬ (w >>> (nI k &&& 31)) &&& 1 = 0 ∧ ¬ 0 < s (eqA s k) 1) from fun z => q ⟨(bt_shN w (by omega)).mp z.1, z.2⟩), fst_n q]
theorem lrF_fst {s : St} : ∀ (r k : Nat), lrF s r k = fI (fst_ (fun j => 0 < s (eqA s j) 1 ∧ cbL s (nI j) 7 (s 5 j) = nI j) r k)
  | 0, _ => rfl
  | r + 1, k => by
    rw [lrF, lrF_fst r (k + 1)]
    by_cases q : 0 < s (eqA s k) 1 ∧ cbL s (nI k) 7 (s 5 k) = nI k
    · rw [if_pos q, fst_p q]
      rfl
    · rw [if_neg q, fst_n q]
theorem lnF_fst {s : St} : ∀ (r k : Nat), k + r = 8 → lnF s r k = fI (fst_ (fun j => bt (s 79 j) j = true) r k)
  | 0, _, _ => rfl
  | r + 1, k, hk => by
    rw [lnF, lnF_fst r (k + 1) (by omega)]
    by_cases q : bt (s 79 k) k = true
    · rw [if_pos ((bt_shN (s 79 k) (by omega)).mpr q), fst_p q]
      rfl
    · rw [if_neg (fun z => q ((bt_shN (s 79 k) (by omega)).mp z)), fst_n q]
