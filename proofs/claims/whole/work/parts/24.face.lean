/-! The face of the class: the calls that don't read or check. -/
theorem m_type (d L : Nat) (s : St) (c : Int32) {n : Nat} (hn : n ≤ 24) (hl : s 1 1 = nI n) : rn (d + 7) 5 0 [some (.ref 1), some (.int c)] [] (hH L s) =
    if ¬ ((¬ c < 48 ∧ ¬ 57 < c) ∨ (¬ c < 97 ∧ c < 105) ∨ (¬ c < 112 ∧ c < 116) ∨ isOpc c = true) then some (some (.int (-1)), hH L s) else
    if n = 24 then some (some (.int (-2)), hH L s) else some (some (.int (nI (n + 1))), hH L (sU (sU s 2 n c) 1 1 (nI (n + 1)))) := by
  simp only [e5_0, e5_1, e5_4, e5_7, e5_8, e5_9, e5_10, e5_13, e5_15, e5_18, e5_20, e5_21, e5_22, e5_25, e5_26, e5_29, e5_30, e5_31, e5_32, e5_33, e5_36, e5_37, e5_38, e5_41, e5_42, e5_45, cq_1, fg_1_0, fg_1_1, fp_1_1, fg_1_2, fp_1_2, fg_1_3, fg_1_4, fg_1_5, fg_1_6, fg_1_7, fp_1_7_0, fp_1_7_1, cq_78, fg_78_0, fg_78_1, cq_3, fg_3_0, fg_3_1, cq_80, fg_80_0, fg_80_1, fg_80_2, fg_80_3, fg_80_4, fg_80_5, fp_80_5, fg_80_6, fp_80_6, fg_80_7, fp_80_7, fg_80_8, fp_80_8, fg_80_9, fp_80_9, cq_94, fg_94_0, fg_94_1, fp_94_1, fg_94_2, fp_94_2, fg_94_3, fp_94_3, fg_94_4, fg_94_5, fg_94_6, fg_94_7, fg_94_8, fg_94_9, fg_94_10, fg_94_11, fg_94_12, fg_94_13, fg_94_14, fg_94_15, fp_94_15_0, fp_94_15_1, fg_94_16, fp_94_16, fg_94_17, fg_94_18, fg_94_19, fg_94_20, fg_94_21, fg_94_22, fg_94_23, fp_1_6, ob, tl1, m_isOfLine, bz_eq0, hl]
  by_cases q : ¬ ((¬ c < 48 ∧ ¬ 57 < c) ∨ (¬ c < 97 ∧ c < 105) ∨ (¬ c < 112 ∧ c < 116) ∨ isOpc c = true)
  · rw [if_pos q, if_pos q]
  · rw [if_neg q, if_neg q]
    by_cases h24 : n = 24
    · subst h24
      rw [if_pos rfl, if_neg (show ¬ nI 24 < 24 by decide)]
    · have h1 : n < 24 := by omega
      rw [if_neg h24, if_pos (show nI n < 24 from nI_lt h1 (by decide))]
      simp only [e5_0, e5_1, e5_4, e5_7, e5_8, e5_9, e5_10, e5_13, e5_15, e5_18, e5_20, e5_21, e5_22, e5_25, e5_26, e5_29, e5_30, e5_31, e5_32, e5_33, e5_36, e5_37, e5_38, e5_41, e5_42, e5_45, cq_1, fg_1_0, fg_1_1, fp_1_1, fg_1_2, fp_1_2, fg_1_3, fg_1_4, fg_1_5, fg_1_6, fg_1_7, fp_1_7_0, fp_1_7_1, cq_78, fg_78_0, fg_78_1, cq_3, fg_3_0, fg_3_1, cq_80, fg_80_0, fg_80_1, fg_80_2, fg_80_3, fg_80_4, fg_80_5, fp_80_5, fg_80_6, fp_80_6, fg_80_7, fp_80_7, fg_80_8, fp_80_8, fg_80_9, fp_80_9, cq_94, fg_94_0, fg_94_1, fp_94_1, fg_94_2, fp_94_2, fg_94_3, fp_94_3, fg_94_4, fg_94_5, fg_94_6, fg_94_7, fg_94_8, fg_94_9, fg_94_10, fg_94_11, fg_94_12, fg_94_13, fg_94_14, fg_94_15, fp_94_15_0, fp_94_15_1, fg_94_16, fp_94_16, fg_94_17, fg_94_18, fg_94_19, fg_94_20, fg_94_21, fg_94_22, fg_94_23, fp_1_6, ob, pi_2 L s h1, sU_a s n 1 c (show 1 ≠ 2 by decide), hl, nI_1, sU_same]
theorem okE_U {s : St} {a j : Nat} {x : Int32} (hs : okE s) (ha : 4 ≠ a) : okE (sU s a j x) := fun i hi => by
  show isE (sU s a j x 4 i).toNatClampNeg
  rw [sU_a s j i x ha]
  exact hs i hi
theorem m_becomeUnready (d L : Nat) (s : St) (hs : okE s) : rn (d + 2) 22 0 [some (.ref 1)] [] (hH L s) = some (none, hH L (sRst (sU s 1 7 0))) := by
  simp only [e22_0, e22_1, e22_2, e22_5, e22_6, e22_9, e22_12, cq_1, fg_1_0, fg_1_1, fp_1_1, fg_1_2, fp_1_2, fg_1_3, fg_1_4, fg_1_5, fg_1_6, fg_1_7, fp_1_7_0, fp_1_7_1, cq_78, fg_78_0, fg_78_1, cq_3, fg_3_0, fg_3_1, cq_80, fg_80_0, fg_80_1, fg_80_2, fg_80_3, fg_80_4, fg_80_5, fp_80_5, fg_80_6, fp_80_6, fg_80_7, fp_80_7, fg_80_8, fp_80_8, fg_80_9, fp_80_9, cq_94, fg_94_0, fg_94_1, fp_94_1, fg_94_2, fp_94_2, fg_94_3, fp_94_3, fg_94_4, fg_94_5, fg_94_6, fg_94_7, fg_94_8, fg_94_9, fg_94_10, fg_94_11, fg_94_12, fg_94_13, fg_94_14, fg_94_15, fp_94_15_0, fp_94_15_1, fg_94_16, fp_94_16, fg_94_17, fg_94_18, fg_94_19, fg_94_20, fg_94_21, fg_94_22, fg_94_23, fp_1_6, cq_80, eq_self, ob, tl0, m_restart d L _ (okE_U hs (show 4 ≠ 1 by decide))]
theorem m_drop (d L : Nat) (s : St) (hs : okE s) {k : Nat} (hk : k < 8) : rn (d + 4) 24 0 [some (.ref 1), some (.int (nI k))] [] (hH L s) = if 0 < s (eqA s k) 1 then some (some (.int 0), hH L (sRst (sU (sU s (eqA s k) 1 0) 1 7 0))) else some (some (.int (-1)), hH L s) := by
  have he := hs k hk
  have hr := isE_ge he
  have ho : okE (sU s (eqA s k) 1 0) := okE_U hs (by omega)
  simp only [e24_0, e24_1, e24_4, e24_5, e24_8, e24_11, e24_12, e24_13, e24_14, e24_17, e24_20, e24_21, e24_22, e24_23, e24_26, e24_27, e24_30, e24_31, cq_1, fg_1_0, fg_1_1, fp_1_1, fg_1_2, fp_1_2, fg_1_3, fg_1_4, fg_1_5, fg_1_6, fg_1_7, fp_1_7_0, fp_1_7_1, cq_78, fg_78_0, fg_78_1, cq_3, fg_3_0, fg_3_1, cq_80, fg_80_0, fg_80_1, fg_80_2, fg_80_3, fg_80_4, fg_80_5, fp_80_5, fg_80_6, fp_80_6, fg_80_7, fp_80_7, fg_80_8, fp_80_8, fg_80_9, fp_80_9, cq_94, fg_94_0, fg_94_1, fp_94_1, fg_94_2, fp_94_2, fg_94_3, fp_94_3, fg_94_4, fg_94_5, fg_94_6, fg_94_7, fg_94_8, fg_94_9, fg_94_10, fg_94_11, fg_94_12, fg_94_13, fg_94_14, fg_94_15, fp_94_15_0, fp_94_15_1, fg_94_16, fp_94_16, fg_94_17, fg_94_18, fg_94_19, fg_94_20, fg_94_21, fg_94_22, fg_94_23, fp_1_6, cq_3, cq_1, cq_80, eq_self, ob, tl1, tl0, m_defines (d := d + 2) L s hs hk, bz_eq0, gr_4 L s hk, va_rf, fp_E_1 L s he, m_becomeUnready (d + 1) L _ ho]
  by_cases q : 0 < s (eqA s k) 1
  · rw [if_neg (Classical.not_not.mpr q), if_pos q]
  · rw [if_pos q, if_neg q]
theorem m_dropN (d L : Nat) (s : St) {v : Int32} (hv : ¬ (¬ v < 0 ∧ v < 8)) : rn (d + 4) 24 0 [some (.ref 1), some (.int v)] [] (hH L s) = some (some (.int (-1)), hH L s) := by
  simp only [e24_0, e24_1, e24_4, e24_5, e24_8, e24_11, e24_12, e24_13, e24_14, e24_17, e24_20, e24_21, e24_22, e24_23, e24_26, e24_27, e24_30, e24_31, cq_1, fg_1_0, fg_1_1, fp_1_1, fg_1_2, fp_1_2, fg_1_3, fg_1_4, fg_1_5, fg_1_6, fg_1_7, fp_1_7_0, fp_1_7_1, cq_78, fg_78_0, fg_78_1, cq_3, fg_3_0, fg_3_1, cq_80, fg_80_0, fg_80_1, fg_80_2, fg_80_3, fg_80_4, fg_80_5, fp_80_5, fg_80_6, fp_80_6, fg_80_7, fp_80_7, fg_80_8, fp_80_8, fg_80_9, fp_80_9, cq_94, fg_94_0, fg_94_1, fp_94_1, fg_94_2, fp_94_2, fg_94_3, fp_94_3, fg_94_4, fg_94_5, fg_94_6, fg_94_7, fg_94_8, fg_94_9, fg_94_10, fg_94_11, fg_94_12, fg_94_13, fg_94_14, fg_94_15, fp_94_15_0, fp_94_15_1, fg_94_16, fp_94_16, fg_94_17, fg_94_18, fg_94_19, fg_94_20, fg_94_21, fg_94_22, fg_94_23, fp_1_6, cq_3, eq_self, ob, tl1, m_definesN (d := d + 2) L s hv, if_true]
theorem m_clock (d L : Nat) (s : St) (hs : okE s) {k : Nat} (hk : k < 8) {c : Int32} (hc : c = -1 ∨ (¬ c < 0 ∧ c < 8)) : rn (d + 4) 26 0 [some (.ref 1), some (.int (nI k)), some (.int c)] [] (hH L s) = some (some (.int 0), hH L (sRst (sU (sU s 5 k c) 1 7 0))) := by
  have hv : ¬ nI k < 0 ∧ nI k < 8 := in_nI hk (by decide)
  have ho : okE (sU s 5 k c) := okE_U hs (by decide)
  simp only [e26_0, e26_1, e26_4, e26_7, e26_8, e26_9, e26_12, e26_13, e26_16, e26_19, e26_20, e26_21, e26_22, e26_25, e26_28, e26_29, e26_30, e26_31, e26_32, e26_35, e26_36, cq_1, fg_1_0, fg_1_1, fp_1_1, fg_1_2, fp_1_2, fg_1_3, fg_1_4, fg_1_5, fg_1_6, fg_1_7, fp_1_7_0, fp_1_7_1, cq_78, fg_78_0, fg_78_1, cq_3, fg_3_0, fg_3_1, cq_80, fg_80_0, fg_80_1, fg_80_2, fg_80_3, fg_80_4, fg_80_5, fp_80_5, fg_80_6, fp_80_6, fg_80_7, fp_80_7, fg_80_8, fp_80_8, fg_80_9, fp_80_9, cq_94, fg_94_0, fg_94_1, fp_94_1, fg_94_2, fp_94_2, fg_94_3, fp_94_3, fg_94_4, fg_94_5, fg_94_6, fg_94_7, fg_94_8, fg_94_9, fg_94_10, fg_94_11, fg_94_12, fg_94_13, fg_94_14, fg_94_15, fp_94_15_0, fp_94_15_1, fg_94_16, fp_94_16, fg_94_17, fg_94_18, fg_94_19, fg_94_20, fg_94_21, fg_94_22, fg_94_23, fp_1_6, cq_1, cq_80, eq_self, ob, tl1, tl0, m_isVariable, bz_eq0, hv, not_true, not_false_eq_true, and_self, if_false, if_true, pi_5 L s hk, m_becomeUnready (d + 1) L _ ho]
  rcases hc with h | h
  · rw [if_pos h]
  · by_cases h1 : c = -1
    · rw [if_pos h1]
    · simp only [h1, h, not_true, not_false_eq_true, and_self, if_false]
theorem m_clockN (d L : Nat) (s : St) {v c : Int32} (h : ¬ (¬ v < 0 ∧ v < 8) ∨ ¬ (c = -1 ∨ (¬ c < 0 ∧ c < 8))) : rn (d + 4) 26 0 [some (.ref 1), some (.int v), some (.int c)] [] (hH L s) = some (some (.int (-1)), hH L s) := by
  simp only [e26_0, e26_1, e26_4, e26_7, e26_8, e26_9, e26_12, e26_13, e26_16, e26_19, e26_20, ob, tl1, m_isVariable, bz_eq0]
  by_cases q : ¬ (¬ v < 0 ∧ v < 8)
  · rw [if_pos q]
  · rw [if_neg q]
    have h2 := h.resolve_left q
    rw [if_neg (fun z => h2 (Or.inl z)), if_pos (fun z => h2 (Or.inr z))]
theorem m_input (d L : Nat) (s : St) {k : Nat} (hk : k < 4) (x : Int32) : rn d 27 0 [some (.ref 1), some (.int (nI k)), some (.int x)] [] (hH L s) = some (some (.int 0), hH L (sU s 81 k x)) := by
  have c1 : nI k < 4 := nI_lt hk (by decide)
  simp only [e27_0, e27_1, e27_4, e27_5, e27_6, e27_9, e27_10, e27_11, e27_12, e27_15, e27_18, e27_19, e27_20, e27_21, e27_22, cq_1, fg_1_0, fg_1_1, fp_1_1, fg_1_2, fp_1_2, fg_1_3, fg_1_4, fg_1_5, fg_1_6, fg_1_7, fp_1_7_0, fp_1_7_1, cq_78, fg_78_0, fg_78_1, cq_3, fg_3_0, fg_3_1, cq_80, fg_80_0, fg_80_1, fg_80_2, fg_80_3, fg_80_4, fg_80_5, fp_80_5, fg_80_6, fp_80_6, fg_80_7, fp_80_7, fg_80_8, fp_80_8, fg_80_9, fp_80_9, cq_94, fg_94_0, fg_94_1, fp_94_1, fg_94_2, fp_94_2, fg_94_3, fp_94_3, fg_94_4, fg_94_5, fg_94_6, fg_94_7, fg_94_8, fg_94_9, fg_94_10, fg_94_11, fg_94_12, fg_94_13, fg_94_14, fg_94_15, fp_94_15_0, fp_94_15_1, fg_94_16, fp_94_16, fg_94_17, fg_94_18, fg_94_19, fg_94_20, fg_94_21, fg_94_22, fg_94_23, fp_1_6, ob, nI_n0 (show k < 2147483648 by omega), c1, if_true, if_false, pi_81 L s hk]
theorem m_inputN (d L : Nat) (s : St) {v : Int32} (hv : ¬ (¬ v < 0 ∧ v < 4)) (x : Int32) : rn d 27 0 [some (.ref 1), some (.int v), some (.int x)] [] (hH L s) = some (some (.int (-1)), hH L s) := by
  simp only [e27_0, e27_1, e27_4, e27_5, e27_6, e27_9, e27_10]
  by_cases h1 : v < 0
  · simp only [h1, if_true]
  · have h2 : ¬ v < 4 := fun z => hv ⟨h1, z⟩
    simp only [h1, h2, if_false]
theorem m_value (d L : Nat) (s : St) {k : Nat} (hk : k < 8) : rn (d + 2) 59 0 [some (.ref 1), some (.int (nI k))] [] (hH L s) = some (some (.long (if (s 80 6 >>> (nI k &&& 31)) &&& 1 = 0 then -1000000000000 else (s 82 k).toInt64)), hH L s) := by
  have hv : ¬ nI k < 0 ∧ nI k < 8 := in_nI hk (by decide)
  simp only [e59_0, e59_1, e59_4, e59_7, e59_8, e59_11, e59_12, e59_15, e59_18, e59_21, e59_22, e59_23, e59_26, e59_29, e59_30, e59_31, e59_32, cq_1, fg_1_0, fg_1_1, fp_1_1, fg_1_2, fp_1_2, fg_1_3, fg_1_4, fg_1_5, fg_1_6, fg_1_7, fp_1_7_0, fp_1_7_1, cq_78, fg_78_0, fg_78_1, cq_3, fg_3_0, fg_3_1, cq_80, fg_80_0, fg_80_1, fg_80_2, fg_80_3, fg_80_4, fg_80_5, fp_80_5, fg_80_6, fp_80_6, fg_80_7, fp_80_7, fg_80_8, fp_80_8, fg_80_9, fp_80_9, cq_94, fg_94_0, fg_94_1, fp_94_1, fg_94_2, fp_94_2, fg_94_3, fp_94_3, fg_94_4, fg_94_5, fg_94_6, fg_94_7, fg_94_8, fg_94_9, fg_94_10, fg_94_11, fg_94_12, fg_94_13, fg_94_14, fg_94_15, fp_94_15_0, fp_94_15_1, fg_94_16, fp_94_16, fg_94_17, fg_94_18, fg_94_19, fg_94_20, fg_94_21, fg_94_22, fg_94_23, fp_1_6, cq_80, eq_self, ob, tl1, m_isVariable, bz_eq0, hv, not_true, not_false_eq_true, and_self, if_false, m_isPresent, gi_82 L s hk, Classical.not_not]
  by_cases q : (s 80 6 >>> (nI k &&& 31)) &&& 1 = 0 <;> simp only [q, if_true, if_false]
theorem m_valueN (d L : Nat) (s : St) {v : Int32} (hv : ¬ (¬ v < 0 ∧ v < 8)) : rn (d + 2) 59 0 [some (.ref 1), some (.int v)] [] (hH L s) = some (some (.long (-1000000000000)), hH L s) := by
  simp only [e59_0, e59_1, e59_4, e59_7, e59_8, e59_11, e59_12, e59_15, e59_18, e59_21, e59_22, e59_23, e59_26, e59_29, e59_30, e59_31, e59_32, cq_1, fg_1_0, fg_1_1, fp_1_1, fg_1_2, fp_1_2, fg_1_3, fg_1_4, fg_1_5, fg_1_6, fg_1_7, fp_1_7_0, fp_1_7_1, cq_78, fg_78_0, fg_78_1, cq_3, fg_3_0, fg_3_1, cq_80, fg_80_0, fg_80_1, fg_80_2, fg_80_3, fg_80_4, fg_80_5, fp_80_5, fg_80_6, fp_80_6, fg_80_7, fp_80_7, fg_80_8, fp_80_8, fg_80_9, fp_80_9, cq_94, fg_94_0, fg_94_1, fp_94_1, fg_94_2, fp_94_2, fg_94_3, fp_94_3, fg_94_4, fg_94_5, fg_94_6, fg_94_7, fg_94_8, fg_94_9, fg_94_10, fg_94_11, fg_94_12, fg_94_13, fg_94_14, fg_94_15, fp_94_15_0, fp_94_15_1, fg_94_16, fp_94_16, fg_94_17, fg_94_18, fg_94_19, fg_94_20, fg_94_21, fg_94_22, fg_94_23, fp_1_6, ob, tl1, m_isVariable, bz_eq0, hv, not_false_eq_true, if_true]
theorem m_present (d L : Nat) (s : St) {k : Nat} (hk : k < 8) : rn (d + 1) 61 0 [some (.ref 1), some (.int (nI k))] [] (hH L s) = some (some (.int (s 83 k)), hH L s) := by
  have hv : ¬ nI k < 0 ∧ nI k < 8 := in_nI hk (by decide)
  simp only [e61_0, e61_1, e61_4, e61_7, e61_8, e61_9, e61_10, e61_13, e61_16, e61_17, e61_18, cq_1, fg_1_0, fg_1_1, fp_1_1, fg_1_2, fp_1_2, fg_1_3, fg_1_4, fg_1_5, fg_1_6, fg_1_7, fp_1_7_0, fp_1_7_1, cq_78, fg_78_0, fg_78_1, cq_3, fg_3_0, fg_3_1, cq_80, fg_80_0, fg_80_1, fg_80_2, fg_80_3, fg_80_4, fg_80_5, fp_80_5, fg_80_6, fp_80_6, fg_80_7, fp_80_7, fg_80_8, fp_80_8, fg_80_9, fp_80_9, cq_94, fg_94_0, fg_94_1, fp_94_1, fg_94_2, fp_94_2, fg_94_3, fp_94_3, fg_94_4, fg_94_5, fg_94_6, fg_94_7, fg_94_8, fg_94_9, fg_94_10, fg_94_11, fg_94_12, fg_94_13, fg_94_14, fg_94_15, fp_94_15_0, fp_94_15_1, fg_94_16, fp_94_16, fg_94_17, fg_94_18, fg_94_19, fg_94_20, fg_94_21, fg_94_22, fg_94_23, fp_1_6, ob, tl1, m_isVariable, bz_eq0, hv, not_true, not_false_eq_true, and_self, if_false, gi_83 L s hk]
theorem m_presentN (d L : Nat) (s : St) {v : Int32} (hv : ¬ (¬ v < 0 ∧ v < 8)) : rn (d + 1) 61 0 [some (.ref 1), some (.int v)] [] (hH L s) = some (some (.int (-1)), hH L s) := by
  simp only [e61_0, e61_1, e61_4, e61_7, e61_8, e61_9, e61_10, e61_13, e61_16, e61_17, e61_18, cq_1, fg_1_0, fg_1_1, fp_1_1, fg_1_2, fp_1_2, fg_1_3, fg_1_4, fg_1_5, fg_1_6, fg_1_7, fp_1_7_0, fp_1_7_1, cq_78, fg_78_0, fg_78_1, cq_3, fg_3_0, fg_3_1, cq_80, fg_80_0, fg_80_1, fg_80_2, fg_80_3, fg_80_4, fg_80_5, fp_80_5, fg_80_6, fp_80_6, fg_80_7, fp_80_7, fg_80_8, fp_80_8, fg_80_9, fp_80_9, cq_94, fg_94_0, fg_94_1, fp_94_1, fg_94_2, fp_94_2, fg_94_3, fp_94_3, fg_94_4, fg_94_5, fg_94_6, fg_94_7, fg_94_8, fg_94_9, fg_94_10, fg_94_11, fg_94_12, fg_94_13, fg_94_14, fg_94_15, fp_94_15_0, fp_94_15_1, fg_94_16, fp_94_16, fg_94_17, fg_94_18, fg_94_19, fg_94_20, fg_94_21, fg_94_22, fg_94_23, fp_1_6, ob, tl1, m_isVariable, bz_eq0, hv, not_false_eq_true, if_true]
theorem m_memory (d L : Nat) (s : St) (hs : okE s) {k n : Nat} (hk : k < 8) (hn : n ≤ 24) (hl : s (eqA s k) 1 = nI n) (i : Int32) : rn (d + 2) 62 0 [some (.ref 1), some (.int (nI k)), some (.int i), none] [] (hH L s) =
    some (some (.long (if s 1 7 = 0 ∨ ¬ (¬ i < 0 ∧ i < nI n) ∨ ¬ (s (eqA s k + 1) i.toNatClampNeg = 80 ∨ s (eqA s k + 1) i.toNatClampNeg = 67) then -1000000000000 else (s (eqA s k + 8) i.toNatClampNeg).toInt64)), hH L s) := by
  have he := hs k hk
  by_cases q : s 1 7 = 0
  · simp only [e62_0, e62_1, e62_4, e62_7, e62_8, e62_11, e62_12, e62_15, e62_18, e62_21, e62_22, e62_23, e62_26, e62_29, e62_30, e62_31, e62_32, e62_33, e62_36, e62_37, e62_38, e62_41, e62_44, e62_45, e62_46, e62_49, e62_52, e62_55, e62_56, e62_57, e62_60, e62_61, e62_62, e62_63, cq_1, fg_1_0, fg_1_1, fp_1_1, fg_1_2, fp_1_2, fg_1_3, fg_1_4, fg_1_5, fg_1_6, fg_1_7, fp_1_7_0, fp_1_7_1, cq_78, fg_78_0, fg_78_1, cq_3, fg_3_0, fg_3_1, cq_80, fg_80_0, fg_80_1, fg_80_2, fg_80_3, fg_80_4, fg_80_5, fp_80_5, fg_80_6, fp_80_6, fg_80_7, fp_80_7, fg_80_8, fp_80_8, fg_80_9, fp_80_9, cq_94, fg_94_0, fg_94_1, fp_94_1, fg_94_2, fp_94_2, fg_94_3, fp_94_3, fg_94_4, fg_94_5, fg_94_6, fg_94_7, fg_94_8, fg_94_9, fg_94_10, fg_94_11, fg_94_12, fg_94_13, fg_94_14, fg_94_15, fp_94_15_0, fp_94_15_1, fg_94_16, fp_94_16, fg_94_17, fg_94_18, fg_94_19, fg_94_20, fg_94_21, fg_94_22, fg_94_23, fp_1_6, ob, q, if_true, true_or]
  · rcases in_n i n (by omega) with hi | ⟨j, hj, rfl⟩
    · simp only [e62_0, e62_1, e62_4, e62_7, e62_8, e62_11, e62_12, e62_15, e62_18, e62_21, e62_22, e62_23, e62_26, e62_29, e62_30, e62_31, e62_32, e62_33, e62_36, e62_37, e62_38, e62_41, e62_44, e62_45, e62_46, e62_49, e62_52, e62_55, e62_56, e62_57, e62_60, e62_61, e62_62, e62_63, cq_1, fg_1_0, fg_1_1, fp_1_1, fg_1_2, fp_1_2, fg_1_3, fg_1_4, fg_1_5, fg_1_6, fg_1_7, fp_1_7_0, fp_1_7_1, cq_78, fg_78_0, fg_78_1, cq_3, fg_3_0, fg_3_1, cq_80, fg_80_0, fg_80_1, fg_80_2, fg_80_3, fg_80_4, fg_80_5, fp_80_5, fg_80_6, fp_80_6, fg_80_7, fp_80_7, fg_80_8, fp_80_8, fg_80_9, fp_80_9, cq_94, fg_94_0, fg_94_1, fp_94_1, fg_94_2, fp_94_2, fg_94_3, fp_94_3, fg_94_4, fg_94_5, fg_94_6, fg_94_7, fg_94_8, fg_94_9, fg_94_10, fg_94_11, fg_94_12, fg_94_13, fg_94_14, fg_94_15, fp_94_15_0, fp_94_15_1, fg_94_16, fp_94_16, fg_94_17, fg_94_18, fg_94_19, fg_94_20, fg_94_21, fg_94_22, fg_94_23, fp_1_6, cq_3, eq_self, ob, tl1, q, if_false, m_defines (d := d) L s hs hk, bz_eq0, gr_4 L s hk, va_rf, fg_E_1 L s he, hl, cq_E L s he]
      have hz : (False ∨ ¬ (¬ i < 0 ∧ i < nI n) ∨ ¬ (s (eqA s k + 1) i.toNatClampNeg = 80 ∨ s (eqA s k + 1) i.toNatClampNeg = 67)) := Or.inr (Or.inl hi)
      rw [if_pos hz]
      by_cases q1 : 0 < nI n
      · rw [if_neg (Classical.not_not.mpr q1)]
        by_cases q2 : i < 0
        · rw [if_pos q2]
        · rw [if_neg q2, if_neg (fun z => hi ⟨q2, z⟩)]
      · rw [if_pos q1]
    · have h24 : j < 24 := by omega
      have q1 : 0 < nI n := nI_lt (a := 0) (by omega) (by omega)
      have ej : (nI j).toNatClampNeg = j := nI_clamp (by omega)
      have hin : ¬ nI j < 0 ∧ nI j < nI n := in_nI hj (by omega)
      simp only [e62_0, e62_1, e62_4, e62_7, e62_8, e62_11, e62_12, e62_15, e62_18, e62_21, e62_22, e62_23, e62_26, e62_29, e62_30, e62_31, e62_32, e62_33, e62_36, e62_37, e62_38, e62_41, e62_44, e62_45, e62_46, e62_49, e62_52, e62_55, e62_56, e62_57, e62_60, e62_61, e62_62, e62_63, cq_1, fg_1_0, fg_1_1, fp_1_1, fg_1_2, fp_1_2, fg_1_3, fg_1_4, fg_1_5, fg_1_6, fg_1_7, fp_1_7_0, fp_1_7_1, cq_78, fg_78_0, fg_78_1, cq_3, fg_3_0, fg_3_1, cq_80, fg_80_0, fg_80_1, fg_80_2, fg_80_3, fg_80_4, fg_80_5, fp_80_5, fg_80_6, fp_80_6, fg_80_7, fp_80_7, fg_80_8, fp_80_8, fg_80_9, fp_80_9, cq_94, fg_94_0, fg_94_1, fp_94_1, fg_94_2, fp_94_2, fg_94_3, fp_94_3, fg_94_4, fg_94_5, fg_94_6, fg_94_7, fg_94_8, fg_94_9, fg_94_10, fg_94_11, fg_94_12, fg_94_13, fg_94_14, fg_94_15, fp_94_15_0, fp_94_15_1, fg_94_16, fp_94_16, fg_94_17, fg_94_18, fg_94_19, fg_94_20, fg_94_21, fg_94_22, fg_94_23, fp_1_6, cq_3, eq_self, ob, tl1, q, if_false, m_defines (d := d) L s hs hk, bz_eq0, gr_4 L s hk, va_rf, fg_E_1 L s he, hl, cq_E L s he, q1, not_true, hin, and_self, not_false_eq_true, if_true, m_remembersAt (d + 1) L s he h24, fg_E_10 L s he, gi_E8 L s he h24, ej, false_or]
      by_cases q3 : s (eqA s k + 1) j = 80 ∨ s (eqA s k + 1) j = 67
      · rw [if_neg (Classical.not_not.mpr q3), if_neg (Classical.not_not.mpr q3)]
      · rw [if_pos q3, if_pos q3]
theorem m_memoryN (d L : Nat) (s : St) {v : Int32} (hv : ¬ (¬ v < 0 ∧ v < 8)) (i : Int32) : rn (d + 2) 62 0 [some (.ref 1), some (.int v), some (.int i), none] [] (hH L s) = some (some (.long (-1000000000000)), hH L s) := by
  by_cases q : s 1 7 = 0
  · simp only [e62_0, e62_1, e62_4, e62_7, e62_8, e62_11, e62_12, e62_15, e62_18, e62_21, e62_22, e62_23, e62_26, e62_29, e62_30, e62_31, e62_32, e62_33, e62_36, e62_37, e62_38, e62_41, e62_44, e62_45, e62_46, e62_49, e62_52, e62_55, e62_56, e62_57, e62_60, e62_61, e62_62, e62_63, cq_1, fg_1_0, fg_1_1, fp_1_1, fg_1_2, fp_1_2, fg_1_3, fg_1_4, fg_1_5, fg_1_6, fg_1_7, fp_1_7_0, fp_1_7_1, cq_78, fg_78_0, fg_78_1, cq_3, fg_3_0, fg_3_1, cq_80, fg_80_0, fg_80_1, fg_80_2, fg_80_3, fg_80_4, fg_80_5, fp_80_5, fg_80_6, fp_80_6, fg_80_7, fp_80_7, fg_80_8, fp_80_8, fg_80_9, fp_80_9, cq_94, fg_94_0, fg_94_1, fp_94_1, fg_94_2, fp_94_2, fg_94_3, fp_94_3, fg_94_4, fg_94_5, fg_94_6, fg_94_7, fg_94_8, fg_94_9, fg_94_10, fg_94_11, fg_94_12, fg_94_13, fg_94_14, fg_94_15, fp_94_15_0, fp_94_15_1, fg_94_16, fp_94_16, fg_94_17, fg_94_18, fg_94_19, fg_94_20, fg_94_21, fg_94_22, fg_94_23, fp_1_6, ob, q, if_true]
  · simp only [e62_0, e62_1, e62_4, e62_7, e62_8, e62_11, e62_12, e62_15, e62_18, e62_21, e62_22, e62_23, e62_26, e62_29, e62_30, e62_31, e62_32, e62_33, e62_36, e62_37, e62_38, e62_41, e62_44, e62_45, e62_46, e62_49, e62_52, e62_55, e62_56, e62_57, e62_60, e62_61, e62_62, e62_63, cq_1, fg_1_0, fg_1_1, fp_1_1, fg_1_2, fp_1_2, fg_1_3, fg_1_4, fg_1_5, fg_1_6, fg_1_7, fp_1_7_0, fp_1_7_1, cq_78, fg_78_0, fg_78_1, cq_3, fg_3_0, fg_3_1, cq_80, fg_80_0, fg_80_1, fg_80_2, fg_80_3, fg_80_4, fg_80_5, fp_80_5, fg_80_6, fp_80_6, fg_80_7, fp_80_7, fg_80_8, fp_80_8, fg_80_9, fp_80_9, cq_94, fg_94_0, fg_94_1, fp_94_1, fg_94_2, fp_94_2, fg_94_3, fp_94_3, fg_94_4, fg_94_5, fg_94_6, fg_94_7, fg_94_8, fg_94_9, fg_94_10, fg_94_11, fg_94_12, fg_94_13, fg_94_14, fg_94_15, fp_94_15_0, fp_94_15_1, fg_94_16, fp_94_16, fg_94_17, fg_94_18, fg_94_19, fg_94_20, fg_94_21, fg_94_22, fg_94_23, fp_1_6, cq_3, eq_self, ob, tl1, q, if_false, m_definesN (d := d) L s hv, if_true]
/-- Integer.bitCount, as the JDK counts -/
def bcV (x : Int32) : Int32 :=
  let a := x - ((x.toUInt32 >>> (Int32.toUInt32 1 &&& Int32.toUInt32 31)).toInt32 &&& 1431655765)
  let b := (a &&& 858993459) + ((a.toUInt32 >>> (Int32.toUInt32 2 &&& Int32.toUInt32 31)).toInt32 &&& 858993459)
  let c := (b + (b.toUInt32 >>> (Int32.toUInt32 4 &&& Int32.toUInt32 31)).toInt32) &&& 252645135
  let e := c + (c.toUInt32 >>> (Int32.toUInt32 8 &&& Int32.toUInt32 31)).toInt32
  let f := e + (e.toUInt32 >>> (Int32.toUInt32 16 &&& Int32.toUInt32 31)).toInt32
  f &&& 63
theorem m_bitCount (d : Nat) (x : Int32) (h : MH) : rn d 45 0 [some (.int x)] [] h = some (some (.int (bcV x)), h) := by
  simp only [e45_0, e45_1, e45_2, e45_3, e45_4, e45_7, e45_8, e45_9, e45_10, e45_11, e45_14, e45_15, e45_16, e45_17, e45_18, e45_21, e45_22, e45_23, e45_24, e45_25, e45_26, e45_27, e45_28, e45_29, e45_32, e45_33, e45_34, e45_35, e45_36, e45_38, e45_39, e45_40, e45_41, e45_42, e45_43, e45_45, e45_46, e45_47, e45_48, e45_49, e45_51, e45_52, bcV]
theorem m_info (d L : Nat) (s : St) (hs : okE s) (w : Int32) : rn (d + 3) 63 0 [some (.ref 1), some (.int w)] [] (hH L s) =
    some (some (.int (if w = 0 then s 1 1 else if w = 1 then s 1 2 else if w = 2 then cntE s 8 0 else if w = 3 then (if s 1 7 = 0 then 0 else 1) else if w = 4 then s 80 9 else if w = 5 then cntC s 8 0 else if w = 6 then bcV (s 80 6) else -1)), hH L s) := by
  simp only [e63_0, e63_1, e63_44, e63_45, e63_48, e63_49, e63_50, e63_53, e63_54, e63_55, e63_58, e63_61, e63_62, e63_63, e63_66, e63_69, e63_70, e63_73, e63_74, e63_75, e63_76, e63_79, e63_82, e63_83, e63_84, e63_87, e63_90, e63_91, e63_92, e63_95, e63_98, e63_101, e63_102, e63_103, cq_1, fg_1_0, fg_1_1, fp_1_1, fg_1_2, fp_1_2, fg_1_3, fg_1_4, fg_1_5, fg_1_6, fg_1_7, fp_1_7_0, fp_1_7_1, cq_78, fg_78_0, fg_78_1, cq_3, fg_3_0, fg_3_1, cq_80, fg_80_0, fg_80_1, fg_80_2, fg_80_3, fg_80_4, fg_80_5, fp_80_5, fg_80_6, fp_80_6, fg_80_7, fp_80_7, fg_80_8, fp_80_8, fg_80_9, fp_80_9, cq_94, fg_94_0, fg_94_1, fp_94_1, fg_94_2, fp_94_2, fg_94_3, fp_94_3, fg_94_4, fg_94_5, fg_94_6, fg_94_7, fg_94_8, fg_94_9, fg_94_10, fg_94_11, fg_94_12, fg_94_13, fg_94_14, fg_94_15, fp_94_15_0, fp_94_15_1, fg_94_16, fp_94_16, fg_94_17, fg_94_18, fg_94_19, fg_94_20, fg_94_21, fg_94_22, fg_94_23, fp_1_6, cq_3, eq_self, ob, tl1, m_definedCount d L s hs, m_characterCount _ L s hs, m_bitCount]
  by_cases h0 : w = 0
  · rw [if_pos h0, if_pos h0]
  · rw [if_neg h0, if_neg h0]
    by_cases h1 : w = 1
    · rw [if_pos h1, if_pos h1]
    · rw [if_neg h1, if_neg h1]
      by_cases h2 : w = 2
      · rw [if_pos h2, if_pos h2]
      · rw [if_neg h2, if_neg h2]
        by_cases h3 : w = 3
        · rw [if_pos h3, if_pos h3]
          split <;> rfl
        · rw [if_neg h3, if_neg h3]
          by_cases h4 : w = 4
          · rw [if_pos h4, if_pos h4]
          · rw [if_neg h4, if_neg h4]
            by_cases h5 : w = 5
            · rw [if_pos h5, if_pos h5]
            · rw [if_neg h5, if_neg h5]
              by_cases h6 : w = 6
              · rw [if_pos h6, if_pos h6]
              · rw [if_neg h6, if_neg h6]
