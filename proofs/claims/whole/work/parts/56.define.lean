/-! define -/
theorem Inv_qd {s s' : St} {c : Nat} (h : Inv s c) (hq : ∀ a j, ¬ qt a j → (¬ ∃ i, i < 9 ∧ a = dfA s + i) → s' a j = s a j) (hl : IL s') : Inv s' (c + 1) := by
  obtain ⟨N, isT, en, ip, h1, h2, h3, h4⟩ := h
  have nd : ∀ a, a < 6 ∨ (78 ≤ a ∧ a ≤ 84) ∨ 94 ≤ a → ¬ ∃ i, i < 9 ∧ a = dfA s + i := fun a ha ⟨i, hi, e⟩ => by have := isE_rng h1.1 hi e; omega
  have e4 : ∀ k, s' 4 k = s 4 k := fun k => hq 4 k (by unfold qt; omega) (nd 4 (by omega))
  have eE : ∀ k i j, k < 8 → i < 9 → s' (eqA s k + i) j = s (eqA s k + i) j := fun k i j hk hi => by
    have := isE_rng (h1.2.1 k hk).1 hi rfl
    exact hq _ _ (by unfold qt; omega) (fun ⟨i', hi', e⟩ => (h1.2.1 k hk).2 (isE_ne (h1.2.1 k hk).1 h1.1 hi hi' e).1)
  have e17 : s' 1 7 = s 1 7 := hq 1 7 (by unfold qt; omega) (nd 1 (by omega))
  refine ⟨N, isT, en, ip, IE_of h1 (hq 1 6 (by unfold qt; omega) (nd 1 (by omega))) e4 (fun a j ha => hq a j (by unfold qt; omega) (nd a (by omega))) (fun k hk => ⟨eE k 0 1 hk (by decide), fun i j _ hi => eE k i j hk (by omega)⟩), hl, fun z => ?_, fun z => ?_⟩
  · rw [e17] at z
    obtain ⟨z1, z2, z3⟩ := h3 z
    exact ⟨by rw [hq 80 6 (by unfold qt; omega) (nd 80 (by omega))]; exact z1, fun k hk => by rw [hq 83 k (by unfold qt; omega) (nd 83 (by omega))]; exact z2 k hk, by rw [hq 80 9 (by unfold qt; omega) (nd 80 (by omega))]; exact z3⟩
  · rw [e17] at z
    obtain ⟨z1, M, z2, z3⟩ := h4 z
    refine ⟨IC_of z1 e4 (fun a j ha => hq a j (by unfold qt; omega) (nd a (by omega))) (hq 80 5 (by unfold qt; omega) (nd 80 (by omega))) (fun k hk => ⟨eE k 0 1 hk (by decide), fun j => eE k 6 j hk (by decide)⟩), M, by omega, IR_of z3 e4 (fun a j ha => hq a j (by unfold qt; omega) (nd a (by omega))) (fun k j hk => eE k 8 j hk (by decide))⟩
/-- what a bad line leaves -/
theorem def_bad {s : St} {c n : Nat} (h : Inv s c) (hn : n ≤ 24) (hl : s 1 1 = nI n) {s1 sr' : St} (hs1 : ∀ a j, ¬ (a = 1 ∧ (j = 1 ∨ j = 2)) → (¬ ∃ i, i < 9 ∧ a = dfA s + i) → s1 a j = s a j) (h11 : s1 1 1 = 0) (hr : rfr s1 sr' 0 0 24) (h2 : sr' 94 2 = s1 1 2) : Inv (sU sr' 94 1 0) (c + 1) := by
  have hI := h.IL
  have nd : ∀ a, a < 6 ∨ (78 ≤ a ∧ a ≤ 84) ∨ 94 ≤ a → ¬ ∃ i, i < 9 ∧ a = dfA s + i := by
    obtain ⟨N, isT, en, ip, h1, _⟩ := h
    exact fun a ha ⟨i, hi, e⟩ => by have := isE_rng h1.1 hi e; omega
  have oo : ∀ a j, ¬ qt a j → (¬ ∃ i, i < 9 ∧ a = dfA s + i) → sU sr' 94 1 0 a j = s a j := fun a j hq hd => by
    unfold qt at hq
    rw [sU_n (by omega), hr a j (by omega) (by omega) (by omega)]
    exact hs1 a j (by omega) hd
  have lo : ∀ a j, a < 94 → sU sr' 94 1 0 a j = s1 a j := fun a j ha => by
    rw [sU_n (by omega), hr a j (by omega) (by omega) (by omega)]
  refine Inv_qd h oo ?_
  obtain ⟨⟨m, m1, m2, m3, m4⟩, i2, i3, i4, i5, i6⟩ := hI
  have e17 : sU sr' 94 1 0 1 7 = s 1 7 := oo 1 7 (by unfold qt; omega) (nd 1 (by omega))
  refine ⟨⟨0, by omega, by rw [lo 1 1 (by omega), h11]; rfl, by rw [sU_same]; rfl, fun i hi => absurd hi (by omega)⟩, ?_, by rw [e17]; exact i3, ?_, fun k hk => ?_, fun k hk => ?_⟩
  · rw [sU_n (by omega), h2, lo 1 2 (by omega)]
  · rw [e17, oo 94 15 (by unfold qt; omega) (nd 94 (by omega))]; exact i4
  · rw [oo 105 k (by unfold qt; omega) (nd 105 (by omega)), oo 5 k (by unfold qt; omega) (nd 5 (by omega))]; exact i5 k hk
  · have e1 : sU sr' 94 1 0 106 k = s 106 k := by
      rw [sU_n (by omega), hr 106 k (by omega) (by omega) (by omega)]
      exact hs1 106 k (by omega) (nd 106 (by omega))
    have e2 : sU sr' 94 1 0 81 k = s 81 k := by
      rw [lo 81 k (by omega)]
      exact hs1 81 k (by omega) (nd 81 (by omega))
    rw [e1, e2]
    exact i6 k hk
