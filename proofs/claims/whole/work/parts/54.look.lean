/-! The calls that only look. -/
theorem nI_z {n : Nat} (h : n < 2147483648) : nI n = 0 ↔ n = 0 := nI_eq (b := 0) h (by decide)
theorem nI_p {n : Nat} (h : n < 2147483648) : 0 < nI n ↔ 0 < n := nI_ltI (a := 0) (by decide) h
/-- who is seen -/
theorem seen_rel {s : St} {c : Nat} (h : Inv s c) (hc : 20 * c < 2147483648) {k : Nat} (hk : k < 8) : (bt (s 80 6) k = true ↔ snR s k) ∧ (snR s k → s 110 k = s 82 k) := by
  obtain ⟨N, isT, en, ip, h1, h2, h3, h4⟩ := h
  obtain ⟨b1, b2, b3, b4⟩ := h1.2.2.2 k hk
  have e15 := h2.2.2.2.1
  by_cases q : s 1 7 = 0
  · have z := (h3 q).1
    rw [z, bt_0]
    have : ¬ snR s k := fun y => y.1 (by rw [e15]; exact q)
    exact ⟨⟨fun y => absurd y (by decide), fun y => absurd y this⟩, fun y => absurd y this⟩
  · obtain ⟨_, M, hM, hR⟩ := h4 q
    obtain ⟨r1, r2, r3, r4, r5, r6, r7, r8⟩ := hR
    by_cases hM0 : 0 < M
    · obtain ⟨s1, s2⟩ := r8 hM0 k hk
      have key : bt (s 80 6) k = true ↔ snR s k := by
        rw [s1]
        unfold snR
        rw [e15, r1, b1, nI_p (by omega), nI_p (by omega)]
        exact ⟨fun z => ⟨q, hM0, z.1, z.2⟩, fun z => ⟨z.2.2.1, z.2.2.2⟩⟩
      exact ⟨key, fun z => s2 (key.mpr z)⟩
    · have hM1 : M = 0 := by omega
      rw [r6 hM1, bt_0]
      have : ¬ snR s k := fun y => by
        have := y.2.1
        rw [r1, nI_p (by omega)] at this
        omega
      exact ⟨⟨fun y => absurd y (by decide), fun y => absurd y this⟩, fun y => absurd y this⟩
theorem c_value (d L : Nat) {s : St} {c : Nat} (h : Inv s c) (hc : 20 * c < 2147483648) (v : Int32) : ∃ a s1 s2, rn (d + 15) 59 0 [some (.ref 1), some (.int v)] [] (hH L s) = some (some (.long a), hH L s1) ∧ rn (d + 15) 92 0 [some (.ref 94), some (.int v)] [] (hH L s1) = some (some (.long a), hH L s2) ∧ Inv s2 (c + 1) := by
  rcases in_n v 8 (by decide) with hv | ⟨k, hk, rfl⟩
  · exact ⟨_, _, _, m_valueN (d + 13) L s hv, r_valueN (d + 14) L s hv, h.up⟩
  · obtain ⟨a, b⟩ := seen_rel h hc hk
    refine ⟨_, _, _, m_value (d + 13) L s hk, ?_, h.up⟩
    rw [r_value (d + 14) L s hk]
    by_cases q : snR s k
    · have q2 := a.mpr q
      have q3 : ¬ (s 80 6 >>> (nI k &&& 31)) &&& 1 = 0 := (bt_shN _ (by omega)).mpr q2
      rw [if_pos q, if_neg q3, b q]
    · have q3 : (s 80 6 >>> (nI k &&& 31)) &&& 1 = 0 := by
        apply Classical.byContradiction
        intro z
        exact q (a.mp ((bt_shN _ (by omega)).mp z))
      rw [if_neg q, if_pos q3]
theorem c_present (d L : Nat) {s : St} {c : Nat} (h : Inv s c) (v : Int32) : ∃ a s1 s2, rn (d + 15) 61 0 [some (.ref 1), some (.int v)] [] (hH L s) = some (some (.int a), hH L s1) ∧ rn (d + 15) 94 0 [some (.ref 94), some (.int v)] [] (hH L s1) = some (some (.int a), hH L s2) ∧ Inv s2 (c + 1) := by
  rcases in_n v 8 (by decide) with hv | ⟨k, hk, rfl⟩
  · exact ⟨_, _, _, m_presentN (d + 14) L s hv, r_presentN (d + 15) L s hv, h.up⟩
  · refine ⟨_, _, _, m_present (d + 14) L s hk, ?_, h.up⟩
    rw [r_present (d + 15) L s hk]
    obtain ⟨N, isT, en, ip, h1, h2, h3, h4⟩ := h
    obtain ⟨b1, b2, b3, b4⟩ := h1.2.2.2 k hk
    have e15 := h2.2.2.2.1
    by_cases q : s 1 7 = 0
    · rw [if_neg (fun y => y.1 (by rw [e15]; exact q)), (h3 q).2.1 k hk]
    · obtain ⟨_, M, hM, hR⟩ := h4 q
      have r4 := hR.2.2.2.1 k hk
      by_cases hN : 0 < N k
      · rw [if_pos ⟨by rw [e15]; exact q, by rw [b1, nI_p (by omega)]; exact hN⟩, r4.1 hN]
      · rw [if_neg (fun y => by have := y.2; rw [b1, nI_p (by omega)] at this; exact hN this), r4.2 (by omega)]
theorem c_memory (d L : Nat) {s : St} {c : Nat} (h : Inv s c) (v i : Int32) : ∃ a s1 s2, rn (d + 15) 62 0 [some (.ref 1), some (.int v), some (.int i), none] [] (hH L s) = some (some (.long a), hH L s1) ∧ rn (d + 15) 95 0 [some (.ref 94), some (.int v), some (.int i), none] [] (hH L s1) = some (some (.long a), hH L s2) ∧ Inv s2 (c + 1) := by
  rcases in_n v 8 (by decide) with hv | ⟨k, hk, rfl⟩
  · exact ⟨_, _, _, m_memoryN (d + 13) L s hv i, r_memoryN (d + 15) L s hv i, h.up⟩
  · have h' := h
    obtain ⟨N, isT, en, ip, h1, h2, h3, h4⟩ := h
    obtain ⟨b1, b2, b3, b4⟩ := h1.2.2.2 k hk
    have e15 := h2.2.2.2.1
    refine ⟨_, _, _, m_memory (d + 13) L s h1.ok hk b2 b3 i, ?_, h'.up⟩
    rw [r_memory (d + 15) L s hk b2 b1 i, e15]
    rcases in_n i (N k) (by omega) with hi | ⟨j, hj, rfl⟩
    · rw [if_pos (Or.inr (Or.inl hi)), if_pos (Or.inr (Or.inl hi))]
    · have ej : (nI j).toNatClampNeg = j := nI_clamp (by omega)
      have hin : ¬ nI j < 0 ∧ nI j < nI (N k) := in_nI hj (by omega)
      obtain ⟨d1, d2, d3⟩ := b4 (by omega)
      have et : s 96 (24 * k + j) = s (eqA s k + 1) j := d3 j hj
      rw [ej, et]
      by_cases q : s 1 7 = 0
      · rw [if_pos (Or.inl q), if_pos (Or.inl q)]
      · by_cases q2 : s (eqA s k + 1) j = 80 ∨ s (eqA s k + 1) j = 67
        · have hn : ¬ (s 1 7 = 0 ∨ ¬ (¬ nI j < 0 ∧ nI j < nI (N k)) ∨ ¬ (s (eqA s k + 1) j = 80 ∨ s (eqA s k + 1) j = 67)) := fun z => z.elim q (fun z => z.elim (fun y => y hin) (fun y => y q2))
          rw [if_neg hn, if_neg hn]
          obtain ⟨_, M, hM, hR⟩ := h4 q
          have tj : isT k j = true := by
            cases z : isT k j with
            | true => rfl
            | false =>
              have cv : ¬ s (eqA s k + 1) j < 97 ∧ s (eqA s k + 1) j < 105 := (LK_own d1.2.2.1 hj z).1
              rcases q2 with y | y <;> (rw [y] at cv; exact absurd cv (by decide))
          rw [hR.2.2.1 k j hk hj tj (by show s 96 (24 * k + j) = 80 ∨ s 96 (24 * k + j) = 67; rw [et]; exact q2)]
        · rw [if_pos (Or.inr (Or.inr q2)), if_pos (Or.inr (Or.inr q2))]
