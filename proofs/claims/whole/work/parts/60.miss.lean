/-! THE CHECK: what is missing; rings of CLOCKS. -/
/-- names as rows have them -/
def nmR (s : St) (e n : Nat) : Prop := ∀ j, j < n → s (e + 3) j = -1 ∨ ∃ u, u < 8 ∧ s (e + 3) j = nI u
theorem anL_ok {s : St} {e n u : Nat} (hr : nmR s e n) (hu : u < 8) : ∀ (r i : Nat) (w : Int32), i + r = n → (bt (anL s e r i w) u = true ↔ bt w u = true ∨ ∃ j, i ≤ j ∧ j < n ∧ s (e + 3) j = nI u)
  | 0, i, w, hi => ⟨fun h => Or.inl h, fun h => h.elim id (fun ⟨j, a, b, _⟩ => by omega)⟩
  | r + 1, i, w, hi => by
    rw [anL, anL_ok hr hu r (i + 1) _ (by omega)]
    rcases hr i (by omega) with h | ⟨k, hk, h⟩
    · rw [if_pos h]
      refine ⟨fun z => z.elim Or.inl (fun ⟨j, a, b, c⟩ => Or.inr ⟨j, by omega, b, c⟩), fun z => z.elim Or.inl (fun ⟨j, a, b, c⟩ => ?_)⟩
      by_cases y : j = i
      · subst y
        rw [h] at c
        exact absurd c.symm (nI_m1 (by omega))
      · exact Or.inr ⟨j, by omega, b, c⟩
    · rw [if_neg (by rw [h]; exact nI_m1 (by omega)), h, bt_or, bt_1 (by omega) (by omega), Bool.or_eq_true, decide_eq_true_iff]
      constructor
      · rintro ((z | z) | ⟨j, a, b, c⟩)
        · exact Or.inl z
        · subst z
          exact Or.inr ⟨i, Nat.le_refl i, by omega, h⟩
        · exact Or.inr ⟨j, by omega, b, c⟩
      · rintro (z | ⟨j, a, b, c⟩)
        · exact Or.inl (Or.inl z)
        · by_cases y : j = i
          · subst y
            rw [h] at c
            exact Or.inl (Or.inr ((nI_eq (by omega) (by omega)).mp c).symm)
          · exact Or.inr ⟨j, by omega, b, c⟩
theorem noL_ok {s : St} {e n u : Nat} (hr : nmR s e n) (hu : u < 8) : ∀ (r i : Nat) (w : Int32), i + r = n → (bt (noL s e r i w) u = true ↔ bt w u = true ∨ ∃ j, i ≤ j ∧ j < n ∧ s (e + 3) j = nI u ∧ s (e + 5) j = 0)
  | 0, i, w, hi => ⟨fun h => Or.inl h, fun h => h.elim id (fun ⟨j, a, b, _⟩ => by omega)⟩
  | r + 1, i, w, hi => by
    rw [noL, noL_ok hr hu r (i + 1) _ (by omega)]
    by_cases hq : s (e + 3) i = -1 ∨ ¬ s (e + 5) i = 0
    · rw [if_pos hq]
      refine ⟨fun z => z.elim Or.inl (fun ⟨j, a, b, c⟩ => Or.inr ⟨j, by omega, b, c⟩), fun z => z.elim Or.inl (fun ⟨j, a, b, c⟩ => ?_)⟩
      by_cases y : j = i
      · subst y
        rcases hq with h | h
        · have := c.1
          rw [h] at this
          exact absurd this.symm (nI_m1 (by omega))
        · exact absurd c.2 h
      · exact Or.inr ⟨j, by omega, b, c⟩
    · rw [if_neg hq]
      have h5 : s (e + 5) i = 0 := Classical.byContradiction (fun z => hq (Or.inr z))
      obtain ⟨k, hk, h⟩ := (hr i (by omega)).resolve_left (fun z => hq (Or.inl z))
      rw [h, bt_or, bt_1 (by omega) (by omega), Bool.or_eq_true, decide_eq_true_iff]
      constructor
      · rintro ((z | z) | ⟨j, a, b, c⟩)
        · exact Or.inl z
        · subst z
          exact Or.inr ⟨i, Nat.le_refl i, by omega, h, h5⟩
        · exact Or.inr ⟨j, by omega, b, c⟩
      · rintro (z | ⟨j, a, b, c⟩)
        · exact Or.inl (Or.inl z)
        · by_cases y : j = i
          · subst y
            have c1 := c.1
            rw [h] at c1
            exact Or.inl (Or.inr ((nI_eq (by omega) (by omega)).mp c1).symm)
          · exact Or.inr ⟨j, by omega, b, c⟩
theorem ckS_ok {s : St} {k u : Nat} (hc : clk (s 5 k)) (hu : u < 8) : bt (ckS s k) u = true ↔ s 5 k = nI u := by
  unfold ckS
  rcases hc with h | ⟨j, hj, h⟩
  · rw [if_pos h, bt_0, h]
    exact ⟨fun z => absurd z (by decide), fun z => absurd z.symm (nI_m1 (by omega))⟩
  · rw [if_neg (by rw [h]; exact nI_m1 (by omega)), h, bt_1 (by omega) (by omega), decide_eq_true_iff]
    exact ⟨fun z => by rw [z], fun z => ((nI_eq (by omega) (by omega)).mp z).symm⟩
/-- the ring: seven moves and eight looks -/
theorem ring_ok {s : St} {v : Nat} (hv : v < 8) (hc : ∀ k, k < 8 → s 105 k = s 5 k ∧ clk (s 5 k)) : ∀ (r : Nat) (a : Int32), clk a → (cbL s (nI v) r a = nI v ↔ crR s v (r + 1) a)
  | 0, a, ha => by
    show a = nI v ↔ (¬ a < 0 ∧ (a = nI v ∨ False))
    refine ⟨fun z => ⟨by rw [z]; exact nI_pos (by omega), Or.inl z⟩, fun z => z.2.elim id False.elim⟩
  | r + 1, a, ha => by
    show (if a = -1 ∨ a = nI v then a else cbL s (nI v) r (s 5 a.toNatClampNeg)) = nI v ↔ (¬ a < 0 ∧ (a = nI v ∨ crR s v (r + 1) (s 105 a.toNatClampNeg)))
    by_cases q : a = nI v
    · rw [if_pos (Or.inr q)]
      exact ⟨fun _ => ⟨by rw [q]; exact nI_pos (by omega), Or.inl q⟩, fun _ => q⟩
    · rcases ha with h | ⟨j, hj, h⟩
      · rw [if_pos (Or.inl h)]
        exact ⟨fun z => absurd z q, fun z => absurd (by rw [h]; decide) z.1⟩
      · have hm : ¬ a = -1 := by rw [h]; exact nI_m1 (by omega)
        rw [if_neg (fun z => z.elim hm q)]
        have ej : a.toNatClampNeg = j := by rw [h, nI_clamp (by omega)]
        rw [ej, (hc j hj).1, ring_ok hv hc r (s 5 j) (hc j hj).2]
        exact ⟨fun z => ⟨by rw [h]; exact nI_pos (by omega), Or.inr z⟩, fun z => z.2.resolve_left q⟩
