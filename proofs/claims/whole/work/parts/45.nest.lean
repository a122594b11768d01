/-! TERMS lie in one another. -/
section NEST
variable {t : Nat → Int32} {n : Nat} {isT : Nat → Bool} {en : Nat → Nat}
theorem LK_kid (h : LineOK t n isT en) {i k : Nat} (hi : i < n) (ht : isT i = true) (hk : k < pcn (t i)) : ch t en i k < n ∧ isT (ch t en i k) = true := (h.2.2.2.2.2 i hi ht).1 k hk
theorem LK_en (h : LineOK t n isT en) {i : Nat} (hi : i < n) (ht : isT i = true) : i < en i ∧ en i ≤ n := ⟨(h.2.2.2.2.2 i hi ht).2.1, (h.2.2.2.2.2 i hi ht).2.2.1⟩
theorem LK_c0 (t : Nat → Int32) (i : Nat) : i < c0 t i := by
  unfold c0
  split <;> omega
theorem LK_mono (h : LineOK t n isT en) {i : Nat} (hi : i < n) (ht : isT i = true) : ∀ k, k ≤ pcn (t i) → i < ch t en i k ∧ ∀ m, m ≤ k → ch t en i m ≤ ch t en i k
  | 0, _ => ⟨LK_c0 t i, fun m hm => by have : m = 0 := by omega
                                       subst this; exact Nat.le_refl _⟩
  | k + 1, hk => by
    obtain ⟨a, b⟩ := LK_mono h hi ht k (by omega)
    have c := LK_kid h hi ht (show k < pcn (t i) by omega)
    have d := (LK_en h c.1 c.2).1
    have e : ch t en i (k + 1) = en (ch t en i k) := rfl
    refine ⟨by omega, fun m hm => ?_⟩
    by_cases z : m = k + 1
    · subst z; exact Nat.le_refl _
    · have := b m (by omega)
      omega
theorem LK_last (h : LineOK t n isT en) {i : Nat} (hi : i < n) (ht : isT i = true) : en i = ch t en i (pcn (t i)) + (if t i = 87 then 1 else 0) := (h.2.2.2.2.2 i hi ht).2.2.2.1
theorem LK_kle (h : LineOK t n isT en) {i k : Nat} (hi : i < n) (ht : isT i = true) (hk : k < pcn (t i)) : i < ch t en i k ∧ ch t en i k < en (ch t en i k) ∧ en (ch t en i k) ≤ en i := by
  have a := LK_mono h hi ht (pcn (t i)) (Nat.le_refl _)
  have b := LK_mono h hi ht k (by omega)
  have c := LK_kid h hi ht hk
  have d := (LK_en h c.1 c.2).1
  have e : ch t en i (k + 1) = en (ch t en i k) := rfl
  have f := a.2 (k + 1) hk
  have g := LK_last h hi ht
  refine ⟨b.1, d, ?_⟩
  rw [← e]
  omega
theorem LK_cov {i j : Nat} : ∀ K, c0 t i ≤ j → j < ch t en i K → ∃ k, k < K ∧ ch t en i k ≤ j ∧ j < en (ch t en i k)
  | 0, h1, h2 => by
    have : ch t en i 0 = c0 t i := rfl
    omega
  | K + 1, h1, h2 => by
    by_cases z : j < ch t en i K
    · obtain ⟨k, a, b, c⟩ := LK_cov K h1 z
      exact ⟨k, by omega, b, c⟩
    · exact ⟨K, by omega, by omega, h2⟩
theorem LK_desc (h : LineOK t n isT en) {i j : Nat} (hi : i < n) (ht : isT i = true) (h1 : i < j) (h2 : j < en i) (hj : isT j = true) : ∃ k, k < pcn (t i) ∧ ch t en i k ≤ j ∧ j < en (ch t en i k) := by
  have g := LK_last h hi ht
  have a := h.2.2.2.2.2 i hi ht
  refine LK_cov (pcn (t i)) ?_ ?_
  · apply Classical.byContradiction
    intro z
    have z67 : t i = 67 := by
      apply Classical.byContradiction
      intro y
      unfold c0 at z
      rw [if_neg y] at z
      omega
    unfold c0 at z
    rw [if_pos z67] at z
    have e1 : j = i + 1 := by omega
    subst e1
    rw [(a.2.2.2.2.1 z67).2] at hj
    exact absurd hj (by decide)
  · apply Classical.byContradiction
    intro z
    have z87 : t i = 87 := by
      apply Classical.byContradiction
      intro y
      rw [if_neg y] at g
      omega
    rw [if_pos z87] at g
    have e1 : j = en i - 1 := by omega
    have := a.2.2.2.2.2.1 z87
    rw [← e1, hj] at this
    exact absurd this (by decide)
theorem LK_nest (h : LineOK t n isT en) {b : Nat} (hb : isT b = true) : ∀ D a, en a - a ≤ D → a < n → isT a = true → a ≤ b → b < en a → en b ≤ en a
  | 0, a, hD, hn, ha, h1, h2 => by omega
  | D + 1, a, hD, hn, ha, h1, h2 => by
    by_cases z : a = b
    · subst z; exact Nat.le_refl _
    · obtain ⟨k, k1, k2, k3⟩ := LK_desc h hn ha (by omega) h2 hb
      have c := LK_kid h hn ha k1
      have e := LK_kle h hn ha k1
      have := LK_nest h hb D (ch t en a k) (by omega) c.1 c.2 k2 k3
      omega
theorem LK_par (h : LineOK t n isT en) {j : Nat} (hj : isT j = true) : ∀ D a, en a - a ≤ D → a < n → isT a = true → a < j → j < en a → ∃ o k, a ≤ o ∧ o < j ∧ isT o = true ∧ k < pcn (t o) ∧ j = ch t en o k
  | 0, a, hD, hn, ha, h1, h2 => by omega
  | D + 1, a, hD, hn, ha, h1, h2 => by
    obtain ⟨k, k1, k2, k3⟩ := LK_desc h hn ha h1 h2 hj
    have c := LK_kid h hn ha k1
    have e := LK_kle h hn ha k1
    by_cases z : j = ch t en a k
    · exact ⟨a, k, Nat.le_refl a, h1, ha, k1, z⟩
    · obtain ⟨o, m, o1, o2, o3, o4, o5⟩ := LK_par h hj D (ch t en a k) (by omega) c.1 c.2 (by omega) k3
      exact ⟨o, m, by omega, o2, o3, o4, o5⟩
/-- every TERM but the first is in another -/
theorem LK_parent (h : LineOK t n isT en) {j : Nat} (hj : isT j = true) (hn : j < n) (h0 : 0 < j) : ∃ o k, o < j ∧ isT o = true ∧ k < pcn (t o) ∧ j = ch t en o k := by
  have e0 := h.2.2.2.1
  obtain ⟨o, k, _, a, b, c, d⟩ := LK_par h hj (en 0 - 0) 0 (Nat.le_refl _) h.1 h.2.2.1 h0 (by omega)
  exact ⟨o, k, a, b, c, d⟩
theorem LK_lt1 (h : LineOK t n isT en) {i i' k k' : Nat} (hi : i < n) (ht : isT i = true) (hk : k < pcn (t i)) (hi' : i' < n) (ht' : isT i' = true) (hk' : k' < pcn (t i')) (he : ch t en i k = ch t en i' k') : ¬ i < i' := by
  intro hlt
  have a := LK_kle h hi ht hk
  have a' := LK_kle h hi' ht' hk'
  obtain ⟨m, m1, m2, m3⟩ := LK_desc h hi ht hlt (by omega) ht'
  have c := LK_kid h hi ht m1
  have mono := LK_mono h hi ht (pcn (t i)) (Nat.le_refl _)
  have hmk : m < k := by
    apply Classical.byContradiction
    intro z
    have := (LK_mono h hi ht m (by omega)).2 k (by omega)
    omega
  have hstep : ch t en i (m + 1) = en (ch t en i m) := rfl
  have h3 := (LK_mono h hi ht k (by omega)).2 (m + 1) (by omega)
  have h4 := LK_nest h ht' (en (ch t en i m) - ch t en i m) (ch t en i m) (Nat.le_refl _) c.1 c.2 m2 m3
  omega
/-- and in no two -/
theorem LK_inj (h : LineOK t n isT en) {i i' k k' : Nat} (hi : i < n) (ht : isT i = true) (hk : k < pcn (t i)) (hi' : i' < n) (ht' : isT i' = true) (hk' : k' < pcn (t i')) (he : ch t en i k = ch t en i' k') : i = i' := by
  have a := LK_lt1 h hi ht hk hi' ht' hk' he
  have b := LK_lt1 h hi' ht' hk' hi ht hk he.symm
  omega
/-- a name belongs to one TERM -/
theorem LK_own (h : LineOK t n isT en) {i : Nat} (hi : i < n) (ht : isT i = false) : cVar (t i) ∧ ∃ o, o < n ∧ isT o = true ∧ ((t o = 67 ∧ i = o + 1) ∨ (t o = 87 ∧ i = en o - 1)) := h.2.2.2.2.1 i hi ht
end NEST
