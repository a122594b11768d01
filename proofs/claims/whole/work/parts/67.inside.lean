/-! Inside a P: rows of both; direct needs. -/
theorem MK_ip {t : Nat → Int32} {n : Nat} {isT : Nat → Bool} {en : Nat → Nat} {D : Nat → Int32} {ip : Nat → Bool} (hL : LineOK t n isT en) (hM : MK t isT en D n) (h0 : ip 0 = false) (hp : ∀ i k, i < n → isT i = true → k < pcn (t i) → ip (ch t en i k) = (ip i || decide (t i = 80))) : ∀ m j, j ≤ m → j < n → isT j = true → ∃ d, d ≤ j ∧ D j = nI d ∧ (d = 0 ↔ ip j = false)
  | 0, j, hj, hn, ht => by
    have : j = 0 := by omega
    subst this
    exact ⟨0, by omega, hM.1, ⟨fun _ => h0, fun _ => rfl⟩⟩
  | m + 1, j, hj, hn, ht => by
    by_cases z : j = 0
    · subst z
      exact ⟨0, by omega, hM.1, ⟨fun _ => h0, fun _ => rfl⟩⟩
    · obtain ⟨o, k, o1, o2, o3, o4⟩ := LK_parent hL ht hn (by omega)
      obtain ⟨d, d1, d2, d3⟩ := MK_ip hL hM h0 hp m o (by omega) (by omega) o2
      have a := (hM.2 o (by omega) o2).1 k o3
      have b := hp o k (by omega) o2 o3
      rw [← o4] at a b
      rw [d2] at a
      by_cases q : t o = 80
      · rw [if_pos q, nI_1] at a
        refine ⟨d + 1, by omega, a, ⟨fun y => absurd y (by omega), fun y => ?_⟩⟩
        rw [b, decide_eq_true q, Bool.or_true] at y
        exact absurd y (by decide)
      · rw [if_neg q, Int32.add_zero] at a
        refine ⟨d, by omega, a, ?_⟩
        rw [b, decide_eq_false q, Bool.or_false]
        exact d3
/-- direct needs, by the class's rows -/
def Dc (s : St) (N : Nat → Nat) (v u : Nat) : Prop := v < 8 ∧ u < 8 ∧ 0 < N v ∧ ((∃ j, j < N v ∧ s (eqA s v + 3) j = nI u ∧ s (eqA s v + 5) j = 0) ∨ s 5 v = nI u)
