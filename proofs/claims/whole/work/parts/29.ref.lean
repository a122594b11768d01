/-! The reference: its small methods. -/
theorem m24 (v i : Nat) : nI v * 24 + nI i = nI (24 * v + i) := by
  show nI v * nI 24 + nI i = _
  rw [pk_mul, nI_add, Nat.mul_comm]
theorem m24_0 (v : Nat) : nI v * 24 = nI (24 * v) := by
  show nI v * nI 24 = _
  rw [pk_mul, Nat.mul_comm]
theorem m8 (v i : Nat) : nI v * 8 + nI i = nI (8 * v + i) := by
  show nI v * nI 8 + nI i = _
  rw [pk_mul, nI_add, Nat.mul_comm]
theorem g104 (c : Int32) : (104 < c) = ¬ c < 105 := propext (by
  rw [Int32.lt_iff_toInt_lt, Int32.lt_iff_toInt_lt]
  have e1 : (104 : Int32).toInt = 104 := by decide
  have e2 : (105 : Int32).toInt = 105 := by decide
  omega)
theorem g115 (c : Int32) : (115 < c) = ¬ c < 116 := propext (by
  rw [Int32.lt_iff_toInt_lt, Int32.lt_iff_toInt_lt]
  have e1 : (115 : Int32).toInt = 115 := by decide
  have e2 : (116 : Int32).toInt = 116 := by decide
  omega)
theorem g7 (c : Int32) : (7 < c) = ¬ c < 8 := propext (by
  rw [Int32.lt_iff_toInt_lt, Int32.lt_iff_toInt_lt]
  have e1 : (7 : Int32).toInt = 7 := by decide
  have e2 : (8 : Int32).toInt = 8 := by decide
  omega)
theorem g3 (c : Int32) : (3 < c) = ¬ c < 4 := propext (by
  rw [Int32.lt_iff_toInt_lt, Int32.lt_iff_toInt_lt]
  have e1 : (3 : Int32).toInt = 3 := by decide
  have e2 : (4 : Int32).toInt = 4 := by decide
  omega)
theorem r_digit (d : Nat) (c : Int32) (h : MH) : rn d 67 0 [some (.int c)] [] h = some (some (.int (bz (¬ c < 48 ∧ ¬ 57 < c))), h) := by
  simp only [e67_0, e67_1, e67_3, e67_6, e67_7, e67_9, e67_12, e67_13, e67_16, e67_17, e67_17q0, e67_17q1, z0, z1, eq_self]
  by_cases h1 : c < 48 <;> by_cases h2 : 57 < c <;> simp [h1, h2, bz]
theorem r_variable (d : Nat) (c : Int32) (h : MH) : rn d 68 0 [some (.int c)] [] h = some (some (.int (bz (¬ c < 97 ∧ c < 105))), h) := by
  simp only [e68_0, e68_1, e68_3, e68_6, e68_7, e68_9, e68_12, e68_13, e68_16, e68_17, e68_17q0, e68_17q1, z0, z1, eq_self, g104]
  by_cases h1 : c < 97 <;> by_cases h2 : c < 105 <;> simp [h1, h2, bz]
theorem r_isInput (d : Nat) (c : Int32) (h : MH) : rn d 69 0 [some (.int c)] [] h = some (some (.int (bz (¬ c < 112 ∧ c < 116))), h) := by
  simp only [e69_0, e69_1, e69_3, e69_6, e69_7, e69_9, e69_12, e69_13, e69_16, e69_17, e69_17q0, e69_17q1, z0, z1, eq_self, g115]
  by_cases h1 : c < 112 <;> by_cases h2 : c < 116 <;> simp [h1, h2, bz]
/-- the six that take two -/
abbrev cPr (c : Int32) : Prop := c = 43 ∨ c = 45 ∨ c = 42 ∨ c = 60 ∨ c = 61 ∨ c = 38
theorem r_pair (d : Nat) (c : Int32) (h : MH) : rn d 70 0 [some (.int c)] [] h = some (some (.int (bz (cPr c))), h) := by
  simp only [e70_0, e70_1, e70_3, e70_6, e70_7, e70_9, e70_12, e70_13, e70_15, e70_18, e70_19, e70_21, e70_24, e70_25, e70_27, e70_30, e70_31, e70_33, e70_36, e70_37, e70_40, e70_41, e70_41q0, e70_41q1, z0, z1, eq_self, cPr]
  by_cases h1 : c = 43
  · simp [h1, bz]
  · by_cases h2 : c = 45
    · simp [h2, bz]
    · by_cases h3 : c = 42
      · simp [h3, bz]
      · by_cases h4 : c = 60
        · simp [h4, bz]
        · by_cases h5 : c = 61
          · simp [h5, bz]
          · by_cases h6 : c = 38
            · simp [h6, bz]
            · simp [h1, h2, h3, h4, h5, h6, bz]
def ofR (c : Int32) : Prop := (¬ c < 48 ∧ ¬ 57 < c) ∨ (¬ c < 97 ∧ c < 105) ∨ (¬ c < 112 ∧ c < 116) ∨ cPr c ∨ (c = 33 ∨ c = 63 ∨ c = 80 ∨ c = 70 ∨ c = 87 ∨ c = 67)
def lenR (s : St) : Prop := ∃ n, n ≤ 24 ∧ s 94 1 = nI n
noncomputable def tpR (s : St) (c : Int32) : Int32 × St := @ite _ (¬ ofR c) (Classical.propDecidable _) (-1, s) (if s 94 1 = 24 then (-2, s) else (s 94 1 + 1, sU (sU s 95 (s 94 1).toNatClampNeg c) 94 1 (s 94 1 + 1)))
theorem r_type (d L : Nat) (s : St) (c : Int32) (h : lenR s) : rn (d + 1) 66 0 [some (.ref 94), some (.int c), none] [] (hH L s) = some (some (.int (tpR s c).1), hH L (tpR s c).2) := by
  obtain ⟨n, hn, hl⟩ := h
  have key : rn (d + 1) 66 0 [some (.ref 94), some (.int c), none] [] (hH L s) = rn (d + 1) 66 42 [some (.ref 94), some (.int c), some (.int (bz (c = 33 ∨ c = 63 ∨ c = 80 ∨ c = 70 ∨ c = 87 ∨ c = 67)))] [] (hH L s) := by
    simp only [e66_0, e66_1, e66_3, e66_6, e66_7, e66_9, e66_12, e66_13, e66_15, e66_18, e66_19, e66_21, e66_24, e66_25, e66_27, e66_30, e66_31, e66_33, e66_36, e66_37, e66_40, e66_41]
    by_cases h1 : c = 33
    · simp [h1, bz]
    · by_cases h2 : c = 63
      · simp [h2, bz]
      · by_cases h3 : c = 80
        · simp [h3, bz]
        · by_cases h4 : c = 70
          · simp [h4, bz]
          · by_cases h5 : c = 87
            · simp [h5, bz]
            · by_cases h6 : c = 67
              · simp [h6, bz]
              · simp [h1, h2, h3, h4, h5, h6, bz]
  rw [key]
  have key2 : rn (d + 1) 66 42 [some (.ref 94), some (.int c), some (.int (bz (c = 33 ∨ c = 63 ∨ c = 80 ∨ c = 70 ∨ c = 87 ∨ c = 67)))] [] (hH L s) = @ite _ (ofR c) (Classical.propDecidable _) (rn (d + 1) 66 76 [some (.ref 94), some (.int c), some (.int (bz (c = 33 ∨ c = 63 ∨ c = 80 ∨ c = 70 ∨ c = 87 ∨ c = 67)))] [] (hH L s)) (some (some (.int (-1)), hH L s)) := by
    simp only [e66_42, e66_43, e66_46, e66_49, e66_50, e66_53, e66_56, e66_57, e66_60, e66_63, e66_64, e66_67, e66_70, e66_71, e66_74, e66_75, ob, tl1, r_digit, r_variable, r_isInput, r_pair, bz_eq0]
    by_cases h1 : (¬ c < 48 ∧ ¬ 57 < c)
    · rw [if_neg (Classical.not_not.mpr h1), if_pos (show ofR c from Or.inl h1)]
    · rw [if_pos h1]
      by_cases h2 : (¬ c < 97 ∧ c < 105)
      · rw [if_neg (Classical.not_not.mpr h2), if_pos (show ofR c from Or.inr (Or.inl h2))]
      · rw [if_pos h2]
        by_cases h3 : (¬ c < 112 ∧ c < 116)
        · rw [if_neg (Classical.not_not.mpr h3), if_pos (show ofR c from Or.inr (Or.inr (Or.inl h3)))]
        · rw [if_pos h3]
          by_cases h4 : cPr c
          · rw [if_neg (Classical.not_not.mpr h4), if_pos (show ofR c from Or.inr (Or.inr (Or.inr (Or.inl h4))))]
          · rw [if_pos h4]
            by_cases h5 : (c = 33 ∨ c = 63 ∨ c = 80 ∨ c = 70 ∨ c = 87 ∨ c = 67)
            · rw [if_neg (Classical.not_not.mpr h5), if_pos (show ofR c from Or.inr (Or.inr (Or.inr (Or.inr h5))))]
            · rw [if_pos h5, if_neg (show ¬ ofR c from fun z => z.elim h1 (fun z => z.elim h2 (fun z => z.elim h3 (fun z => z.elim h4 h5))))]
  rw [key2]
  unfold tpR
  by_cases q : ofR c
  · rw [if_pos q, if_neg (Classical.not_not.mpr q)]
    simp only [e66_76, e66_77, e66_80, e66_82, e66_85, e66_87, e66_88, e66_89, e66_92, e66_93, e66_96, e66_97, e66_98, e66_99, e66_100, e66_103, e66_104, e66_105, e66_108, e66_109, e66_112, cq_1, fg_1_0, fg_1_1, fp_1_1, fg_1_2, fp_1_2, fg_1_3, fg_1_4, fg_1_5, fg_1_6, fg_1_7, fp_1_7_0, fp_1_7_1, cq_78, fg_78_0, fg_78_1, cq_3, fg_3_0, fg_3_1, cq_80, fg_80_0, fg_80_1, fg_80_2, fg_80_3, fg_80_4, fg_80_5, fp_80_5, fg_80_6, fp_80_6, fg_80_7, fp_80_7, fg_80_8, fp_80_8, fg_80_9, fp_80_9, cq_94, fg_94_0, fg_94_1, fp_94_1, fg_94_2, fp_94_2, fg_94_3, fp_94_3, fg_94_4, fg_94_5, fg_94_6, fg_94_7, fg_94_8, fg_94_9, fg_94_10, fg_94_11, fg_94_12, fg_94_13, fg_94_14, fg_94_15, fp_94_15_0, fp_94_15_1, fg_94_16, fp_94_16, fg_94_17, fg_94_18, fg_94_19, fg_94_20, fg_94_21, fg_94_22, fg_94_23, fp_1_6, ob, hl]
    by_cases h24 : nI n = 24
    · rw [if_pos h24, if_pos h24]
    · have h1 : n < 24 := by
        apply Classical.byContradiction
        intro h9
        have : n = 24 := by omega
        subst this
        exact h24 rfl
      rw [if_neg h24, if_neg h24]
      simp only [e66_76, e66_77, e66_80, e66_82, e66_85, e66_87, e66_88, e66_89, e66_92, e66_93, e66_96, e66_97, e66_98, e66_99, e66_100, e66_103, e66_104, e66_105, e66_108, e66_109, e66_112, cq_1, fg_1_0, fg_1_1, fp_1_1, fg_1_2, fp_1_2, fg_1_3, fg_1_4, fg_1_5, fg_1_6, fg_1_7, fp_1_7_0, fp_1_7_1, cq_78, fg_78_0, fg_78_1, cq_3, fg_3_0, fg_3_1, cq_80, fg_80_0, fg_80_1, fg_80_2, fg_80_3, fg_80_4, fg_80_5, fp_80_5, fg_80_6, fp_80_6, fg_80_7, fp_80_7, fg_80_8, fp_80_8, fg_80_9, fp_80_9, cq_94, fg_94_0, fg_94_1, fp_94_1, fg_94_2, fp_94_2, fg_94_3, fp_94_3, fg_94_4, fg_94_5, fg_94_6, fg_94_7, fg_94_8, fg_94_9, fg_94_10, fg_94_11, fg_94_12, fg_94_13, fg_94_14, fg_94_15, fp_94_15_0, fp_94_15_1, fg_94_16, fp_94_16, fg_94_17, fg_94_18, fg_94_19, fg_94_20, fg_94_21, fg_94_22, fg_94_23, fp_1_6, ob, pi_95 L s h1, sU_a s n 1 c (show 94 ≠ 95 by decide), hl, nI_1, sU_same, nI_clamp (show n < 2 ^ 31 by omega)]
  · rw [if_neg q, if_pos q]
theorem lenR_tpR {s : St} {c : Int32} (h : lenR s) : lenR (tpR s c).2 := by
  obtain ⟨n, hn, hl⟩ := h
  unfold tpR
  split
  · exact ⟨n, hn, hl⟩
  · split
    · exact ⟨n, hn, hl⟩
    · next h24 =>
      refine ⟨n + 1, ?_, ?_⟩
      · apply Classical.byContradiction
        intro h9
        have : n = 24 := by omega
        subst this
        exact h24 hl
      · show sU (sU s 95 (s 94 1).toNatClampNeg c) 94 1 (s 94 1 + 1) 94 1 = _
        rw [sU_same, hl, nI_1]
noncomputable def tyR (e : Int64) : Nat → St → Int32 × St
  | 0, s => (s 94 1, s)
  | k + 1, s => if byt e k = 0 then tyR e k s else if (tpR s (byt e k)).1 < 0 then tpR s (byt e k) else tyR e k (tpR s (byt e k)).2
theorem lr_types (d L : Nat) (e : Int64) : ∀ (k : Nat) (s : St) (a4 a5 : Option Value), k ≤ 8 → lenR s → rn (d + 2) 71 3 [some (.ref 94), some (.long e), mSec, some (.int (nI (8 * k) + (-8))), a4, a5] [] (hH L s) = some (some (.int (tyR e k s).1), hH L (tyR e k s).2) := by
  intro k
  induction k with
  | zero =>
    intro s a4 a5 hk hs
    have h0 : nI (8 * 0) + (-8) < 0 := by decide
    rw [e71_3]
    simp only [e71_0, e71_2, e71_4, e71_7, e71_8, e71_9, e71_10, e71_11, e71_14, e71_15, e71_17, e71_19, e71_22, e71_25, e71_26, e71_28, e71_31, e71_33, e71_35, e71_38, e71_40, e71_41, e71_44, e71_47, e71_48, e71_51, cq_1, fg_1_0, fg_1_1, fp_1_1, fg_1_2, fp_1_2, fg_1_3, fg_1_4, fg_1_5, fg_1_6, fg_1_7, fp_1_7_0, fp_1_7_1, cq_78, fg_78_0, fg_78_1, cq_3, fg_3_0, fg_3_1, cq_80, fg_80_0, fg_80_1, fg_80_2, fg_80_3, fg_80_4, fg_80_5, fp_80_5, fg_80_6, fp_80_6, fg_80_7, fp_80_7, fg_80_8, fp_80_8, fg_80_9, fp_80_9, cq_94, fg_94_0, fg_94_1, fp_94_1, fg_94_2, fp_94_2, fg_94_3, fp_94_3, fg_94_4, fg_94_5, fg_94_6, fg_94_7, fg_94_8, fg_94_9, fg_94_10, fg_94_11, fg_94_12, fg_94_13, fg_94_14, fg_94_15, fp_94_15_0, fp_94_15_1, fg_94_16, fp_94_16, fg_94_17, fg_94_18, fg_94_19, fg_94_20, fg_94_21, fg_94_22, fg_94_23, fp_1_6, ob, h0, if_true, tyR]
  | succ k ih =>
    intro s a4 a5 hk hs
    have h0 : ¬ nI (8 * k) < 0 := nI_pos (by omega)
    have hb : (e.toUInt64 >>> ((nI (8 * k)).toInt64.toUInt64 &&& Int64.toUInt64 63)).toInt64.toInt32 &&& 255 = byt e k := rfl
    rw [nI_m8, e71_3]
    simp only [e71_0, e71_2, e71_4, e71_7, e71_8, e71_9, e71_10, e71_11, e71_14, e71_15, e71_17, e71_19, e71_22, e71_25, e71_26, e71_28, e71_31, e71_33, e71_35, e71_38, e71_40, e71_41, e71_44, e71_47, e71_48, e71_51, cq_1, fg_1_0, fg_1_1, fp_1_1, fg_1_2, fp_1_2, fg_1_3, fg_1_4, fg_1_5, fg_1_6, fg_1_7, fp_1_7_0, fp_1_7_1, cq_78, fg_78_0, fg_78_1, cq_3, fg_3_0, fg_3_1, cq_80, fg_80_0, fg_80_1, fg_80_2, fg_80_3, fg_80_4, fg_80_5, fp_80_5, fg_80_6, fp_80_6, fg_80_7, fp_80_7, fg_80_8, fp_80_8, fg_80_9, fp_80_9, cq_94, fg_94_0, fg_94_1, fp_94_1, fg_94_2, fp_94_2, fg_94_3, fp_94_3, fg_94_4, fg_94_5, fg_94_6, fg_94_7, fg_94_8, fg_94_9, fg_94_10, fg_94_11, fg_94_12, fg_94_13, fg_94_14, fg_94_15, fp_94_15_0, fp_94_15_1, fg_94_16, fp_94_16, fg_94_17, fg_94_18, fg_94_19, fg_94_20, fg_94_21, fg_94_22, fg_94_23, fp_1_6, cq_94, eq_self, ob, h0, if_false, hb, tl1, r_type d L s (byt e k) hs, tyR]
    by_cases q : byt e k = 0
    · rw [if_pos q, if_pos q]
      exact ih s _ _ (by omega) hs
    · rw [if_neg q, if_neg q]
      by_cases q2 : (tpR s (byt e k)).1 < 0
      · rw [if_pos q2, if_pos q2]
      · rw [if_neg q2, if_neg q2]
        exact ih _ _ _ (by omega) (lenR_tpR hs)
theorem r_types (d L : Nat) (e : Int64) (s : St) (hs : lenR s) : rn (d + 2) 71 0 [some (.ref 94), some (.long e), mSec, none, none, none] [] (hH L s) = some (some (.int (tyR e 8 s).1), hH L (tyR e 8 s).2) := by
  simp only [e71_0, e71_2]
  exact lr_types d L e 8 s none none (Nat.le_refl 8) hs
theorem r_drop (d L : Nat) (s : St) {k : Nat} (hk : k < 8) : rn d 75 0 [some (.ref 94), some (.int (nI k))] [] (hH L s) = if s 97 k = 0 then some (some (.int (-1)), hH L s) else some (some (.int 0), hH L (sU (sU s 97 k 0) 94 15 0)) := by
  have c2 : nI k < 8 := nI_lt hk (by decide)
  simp only [e75_0, e75_1, e75_4, e75_5, e75_7, e75_10, e75_11, e75_14, e75_15, e75_16, e75_19, e75_20, e75_21, e75_22, e75_25, e75_26, e75_27, e75_28, e75_29, e75_30, e75_33, e75_34, cq_1, fg_1_0, fg_1_1, fp_1_1, fg_1_2, fp_1_2, fg_1_3, fg_1_4, fg_1_5, fg_1_6, fg_1_7, fp_1_7_0, fp_1_7_1, cq_78, fg_78_0, fg_78_1, cq_3, fg_3_0, fg_3_1, cq_80, fg_80_0, fg_80_1, fg_80_2, fg_80_3, fg_80_4, fg_80_5, fp_80_5, fg_80_6, fp_80_6, fg_80_7, fp_80_7, fg_80_8, fp_80_8, fg_80_9, fp_80_9, cq_94, fg_94_0, fg_94_1, fp_94_1, fg_94_2, fp_94_2, fg_94_3, fp_94_3, fg_94_4, fg_94_5, fg_94_6, fg_94_7, fg_94_8, fg_94_9, fg_94_10, fg_94_11, fg_94_12, fg_94_13, fg_94_14, fg_94_15, fp_94_15_0, fp_94_15_1, fg_94_16, fp_94_16, fg_94_17, fg_94_18, fg_94_19, fg_94_20, fg_94_21, fg_94_22, fg_94_23, fp_1_6, ob, nI_n0 (show k < 2147483648 by omega), if_false, g7, c2, not_true, gi_97 L s hk, pi_97 L s hk]
theorem r_dropN (d L : Nat) (s : St) {v : Int32} (hv : ¬ (¬ v < 0 ∧ v < 8)) : rn d 75 0 [some (.ref 94), some (.int v)] [] (hH L s) = some (some (.int (-1)), hH L s) := by
  simp only [e75_0, e75_1, e75_4, e75_5, e75_7, e75_10, e75_11, e75_14, e75_15, e75_16, e75_19, e75_20, g7]
  by_cases h1 : v < 0
  · simp only [h1, if_true]
  · have h2 : ¬ v < 8 := fun z => hv ⟨h1, z⟩
    simp only [h1, h2, if_false, not_false_eq_true, if_true]
theorem clk_lo {c : Int32} (hc : c = -1 ∨ (¬ c < 0 ∧ c < 8)) : ¬ c < -1 ∧ c < 8 := by
  rcases hc with rfl | h
  · decide
  · refine ⟨fun z => h.1 (Int32.lt_trans z (by decide)), h.2⟩
theorem clk_hi {c : Int32} (hc : ¬ (c = -1 ∨ (¬ c < 0 ∧ c < 8))) : c < -1 ∨ ¬ c < 8 := by
  by_cases h1 : c < 8
  · left
    have h2 : ¬ c = -1 := fun z => hc (Or.inl z)
    have h3 : c < 0 := Classical.byContradiction (fun z => hc (Or.inr ⟨z, h1⟩))
    rw [← Int32.toInt_inj] at h2
    rw [Int32.lt_iff_toInt_lt] at h3 ⊢
    have e1 : (-1 : Int32).toInt = -1 := by decide
    have e2 : (0 : Int32).toInt = 0 := by decide
    omega
  · exact Or.inr h1
theorem r_clock (d L : Nat) (s : St) {k : Nat} (hk : k < 8) {c : Int32} (hc : c = -1 ∨ (¬ c < 0 ∧ c < 8)) : rn d 76 0 [some (.ref 94), some (.int (nI k)), some (.int c)] [] (hH L s) = some (some (.int 0), hH L (sU (sU s 105 k c) 94 15 0)) := by
  have c2 : nI k < 8 := nI_lt hk (by decide)
  have c3 := clk_lo hc
  simp only [e76_0, e76_1, e76_4, e76_5, e76_7, e76_10, e76_11, e76_12, e76_15, e76_16, e76_18, e76_21, e76_22, e76_23, e76_24, e76_27, e76_28, e76_29, e76_30, e76_31, e76_32, e76_35, e76_36, cq_1, fg_1_0, fg_1_1, fp_1_1, fg_1_2, fp_1_2, fg_1_3, fg_1_4, fg_1_5, fg_1_6, fg_1_7, fp_1_7_0, fp_1_7_1, cq_78, fg_78_0, fg_78_1, cq_3, fg_3_0, fg_3_1, cq_80, fg_80_0, fg_80_1, fg_80_2, fg_80_3, fg_80_4, fg_80_5, fp_80_5, fg_80_6, fp_80_6, fg_80_7, fp_80_7, fg_80_8, fp_80_8, fg_80_9, fp_80_9, cq_94, fg_94_0, fg_94_1, fp_94_1, fg_94_2, fp_94_2, fg_94_3, fp_94_3, fg_94_4, fg_94_5, fg_94_6, fg_94_7, fg_94_8, fg_94_9, fg_94_10, fg_94_11, fg_94_12, fg_94_13, fg_94_14, fg_94_15, fp_94_15_0, fp_94_15_1, fg_94_16, fp_94_16, fg_94_17, fg_94_18, fg_94_19, fg_94_20, fg_94_21, fg_94_22, fg_94_23, fp_1_6, ob, nI_n0 (show k < 2147483648 by omega), if_false, g7, c2, c3, not_true, not_false_eq_true, pi_105 L s hk]
theorem r_clockN (d L : Nat) (s : St) {v c : Int32} (h : ¬ (¬ v < 0 ∧ v < 8) ∨ ¬ (c = -1 ∨ (¬ c < 0 ∧ c < 8))) : rn d 76 0 [some (.ref 94), some (.int v), some (.int c)] [] (hH L s) = some (some (.int (-1)), hH L s) := by
  simp only [e76_0, e76_1, e76_4, e76_5, e76_7, e76_10, e76_11, e76_12, e76_15, e76_16, e76_18, e76_21, e76_22, g7]
  by_cases h1 : v < 0
  · simp only [h1, if_true]
  · by_cases h2 : v < 8
    · rcases clk_hi (h.resolve_left (fun z => z ⟨h1, h2⟩)) with h3 | h3
      · simp only [h1, h2, h3, if_true, if_false, not_true]
      · by_cases h4 : c < -1 <;> simp only [h1, h2, h3, h4, if_true, if_false, not_true, not_false_eq_true]
    · simp only [h1, h2, if_false, not_false_eq_true, if_true]
theorem r_input (d L : Nat) (s : St) {k : Nat} (hk : k < 4) (x : Int32) : rn d 77 0 [some (.ref 94), some (.int (nI k)), some (.int x)] [] (hH L s) = some (some (.int 0), hH L (sU s 106 k x)) := by
  have c1 : nI k < 4 := nI_lt hk (by decide)
  simp only [e77_0, e77_1, e77_4, e77_5, e77_6, e77_9, e77_10, e77_11, e77_12, e77_15, e77_16, e77_17, e77_18, e77_19, cq_1, fg_1_0, fg_1_1, fp_1_1, fg_1_2, fp_1_2, fg_1_3, fg_1_4, fg_1_5, fg_1_6, fg_1_7, fp_1_7_0, fp_1_7_1, cq_78, fg_78_0, fg_78_1, cq_3, fg_3_0, fg_3_1, cq_80, fg_80_0, fg_80_1, fg_80_2, fg_80_3, fg_80_4, fg_80_5, fp_80_5, fg_80_6, fp_80_6, fg_80_7, fp_80_7, fg_80_8, fp_80_8, fg_80_9, fp_80_9, cq_94, fg_94_0, fg_94_1, fp_94_1, fg_94_2, fp_94_2, fg_94_3, fp_94_3, fg_94_4, fg_94_5, fg_94_6, fg_94_7, fg_94_8, fg_94_9, fg_94_10, fg_94_11, fg_94_12, fg_94_13, fg_94_14, fg_94_15, fp_94_15_0, fp_94_15_1, fg_94_16, fp_94_16, fg_94_17, fg_94_18, fg_94_19, fg_94_20, fg_94_21, fg_94_22, fg_94_23, fp_1_6, ob, nI_n0 (show k < 2147483648 by omega), g3, c1, not_true, if_false, pi_106 L s hk]
theorem r_inputN (d L : Nat) (s : St) {v : Int32} (hv : ¬ (¬ v < 0 ∧ v < 4)) (x : Int32) : rn d 77 0 [some (.ref 94), some (.int v), some (.int x)] [] (hH L s) = some (some (.int (-1)), hH L s) := by
  simp only [e77_0, e77_1, e77_4, e77_5, e77_6, e77_9, e77_10, g3]
  by_cases h1 : v < 0
  · simp only [h1, if_true]
  · have h2 : ¬ v < 4 := fun z => hv ⟨h1, z⟩
    simp only [h1, h2, if_false, not_false_eq_true, if_true]
/-- seen -/
abbrev snR (s : St) (k : Nat) : Prop := ¬ s 94 15 = 0 ∧ 0 < s 94 16 ∧ 0 < s 97 k ∧ ¬ s 107 k = 0
theorem r_seen (d L : Nat) (s : St) {k : Nat} (hk : k < 8) : rn d 93 0 [some (.ref 94), some (.int (nI k))] [] (hH L s) = some (some (.int (bz (snR s k))), hH L s) := by
  have c2 : nI k < 8 := nI_lt hk (by decide)
  simp only [e93_0, e93_1, e93_4, e93_5, e93_7, e93_10, e93_11, e93_14, e93_17, e93_18, e93_21, e93_24, e93_25, e93_28, e93_29, e93_30, e93_33, e93_34, e93_37, e93_38, e93_39, e93_42, e93_43, e93_46, e93_47, e93_47q0, e93_47q1, cq_1, fg_1_0, fg_1_1, fp_1_1, fg_1_2, fp_1_2, fg_1_3, fg_1_4, fg_1_5, fg_1_6, fg_1_7, fp_1_7_0, fp_1_7_1, cq_78, fg_78_0, fg_78_1, cq_3, fg_3_0, fg_3_1, cq_80, fg_80_0, fg_80_1, fg_80_2, fg_80_3, fg_80_4, fg_80_5, fp_80_5, fg_80_6, fp_80_6, fg_80_7, fp_80_7, fg_80_8, fp_80_8, fg_80_9, fp_80_9, cq_94, fg_94_0, fg_94_1, fp_94_1, fg_94_2, fp_94_2, fg_94_3, fp_94_3, fg_94_4, fg_94_5, fg_94_6, fg_94_7, fg_94_8, fg_94_9, fg_94_10, fg_94_11, fg_94_12, fg_94_13, fg_94_14, fg_94_15, fp_94_15_0, fp_94_15_1, fg_94_16, fp_94_16, fg_94_17, fg_94_18, fg_94_19, fg_94_20, fg_94_21, fg_94_22, fg_94_23, fp_1_6, ob, nI_n0 (show k < 2147483648 by omega), if_false, c2, if_true, gi_97 L s hk, gi_107 L s hk, snR]
  by_cases h1 : s 94 15 = 0
  · simp [h1, bz]
  · by_cases h2 : 0 < s 94 16
    · by_cases h3 : 0 < s 97 k
      · by_cases h4 : s 107 k = 0 <;> simp [h1, h2, h3, h4, bz]
      · simp [h1, h2, h3, bz]
    · simp [h1, h2, bz]
theorem r_seenN (d L : Nat) (s : St) {v : Int32} (hv : ¬ (¬ v < 0 ∧ v < 8)) : rn d 93 0 [some (.ref 94), some (.int v)] [] (hH L s) = some (some (.int 0), hH L s) := by
  simp only [e93_0, e93_1, e93_4, e93_5, e93_7, e93_10, e93_11, e93_14, e93_17, e93_18, e93_21, e93_24, e93_25, e93_28, e93_29, e93_30, e93_33, e93_34, e93_37, e93_38, e93_39, e93_42, e93_43, e93_46, e93_47, e93_47q0, e93_47q1]
  by_cases h1 : v < 0
  · simp only [h1, if_true]
  · have h2 : ¬ v < 8 := fun z => hv ⟨h1, z⟩
    simp only [h1, h2, if_false]
theorem r_value (d L : Nat) (s : St) {k : Nat} (hk : k < 8) : rn (d + 1) 92 0 [some (.ref 94), some (.int (nI k))] [] (hH L s) = some (some (.long (if snR s k then (s 110 k).toInt64 else -1000000000000)), hH L s) := by
  simp only [e92_0, e92_1, e92_2, e92_5, e92_8, e92_9, e92_12, e92_13, e92_14, e92_15, e92_18, e92_21, cq_1, fg_1_0, fg_1_1, fp_1_1, fg_1_2, fp_1_2, fg_1_3, fg_1_4, fg_1_5, fg_1_6, fg_1_7, fp_1_7_0, fp_1_7_1, cq_78, fg_78_0, fg_78_1, cq_3, fg_3_0, fg_3_1, cq_80, fg_80_0, fg_80_1, fg_80_2, fg_80_3, fg_80_4, fg_80_5, fp_80_5, fg_80_6, fp_80_6, fg_80_7, fp_80_7, fg_80_8, fp_80_8, fg_80_9, fp_80_9, cq_94, fg_94_0, fg_94_1, fp_94_1, fg_94_2, fp_94_2, fg_94_3, fp_94_3, fg_94_4, fg_94_5, fg_94_6, fg_94_7, fg_94_8, fg_94_9, fg_94_10, fg_94_11, fg_94_12, fg_94_13, fg_94_14, fg_94_15, fp_94_15_0, fp_94_15_1, fg_94_16, fp_94_16, fg_94_17, fg_94_18, fg_94_19, fg_94_20, fg_94_21, fg_94_22, fg_94_23, fp_1_6, cq_94, eq_self, ob, tl1, r_seen d L s hk, bz_eq0, gi_110 L s hk]
  by_cases q : snR s k
  · rw [if_neg (Classical.not_not.mpr q), if_pos q]
  · rw [if_pos q, if_neg q]
theorem r_valueN (d L : Nat) (s : St) {v : Int32} (hv : ¬ (¬ v < 0 ∧ v < 8)) : rn (d + 1) 92 0 [some (.ref 94), some (.int v)] [] (hH L s) = some (some (.long (-1000000000000)), hH L s) := by
  simp only [e92_0, e92_1, e92_2, e92_5, e92_8, e92_9, e92_12, e92_13, e92_14, e92_15, e92_18, e92_21, cq_1, fg_1_0, fg_1_1, fp_1_1, fg_1_2, fp_1_2, fg_1_3, fg_1_4, fg_1_5, fg_1_6, fg_1_7, fp_1_7_0, fp_1_7_1, cq_78, fg_78_0, fg_78_1, cq_3, fg_3_0, fg_3_1, cq_80, fg_80_0, fg_80_1, fg_80_2, fg_80_3, fg_80_4, fg_80_5, fp_80_5, fg_80_6, fp_80_6, fg_80_7, fp_80_7, fg_80_8, fp_80_8, fg_80_9, fp_80_9, cq_94, fg_94_0, fg_94_1, fp_94_1, fg_94_2, fp_94_2, fg_94_3, fp_94_3, fg_94_4, fg_94_5, fg_94_6, fg_94_7, fg_94_8, fg_94_9, fg_94_10, fg_94_11, fg_94_12, fg_94_13, fg_94_14, fg_94_15, fp_94_15_0, fp_94_15_1, fg_94_16, fp_94_16, fg_94_17, fg_94_18, fg_94_19, fg_94_20, fg_94_21, fg_94_22, fg_94_23, fp_1_6, cq_94, eq_self, ob, tl1, r_seenN d L s hv, if_true]
theorem r_present (d L : Nat) (s : St) {k : Nat} (hk : k < 8) : rn d 94 0 [some (.ref 94), some (.int (nI k))] [] (hH L s) = some (some (.int (if ¬ s 94 15 = 0 ∧ 0 < s 97 k then s 111 k else 0)), hH L s) := by
  have c2 : nI k < 8 := nI_lt hk (by decide)
  simp only [e94_0, e94_1, e94_4, e94_5, e94_7, e94_10, e94_11, e94_12, e94_13, e94_16, e94_19, e94_20, e94_23, e94_24, e94_25, e94_28, e94_29, e94_32, e94_33, e94_34, e94_37, e94_38, cq_1, fg_1_0, fg_1_1, fp_1_1, fg_1_2, fp_1_2, fg_1_3, fg_1_4, fg_1_5, fg_1_6, fg_1_7, fp_1_7_0, fp_1_7_1, cq_78, fg_78_0, fg_78_1, cq_3, fg_3_0, fg_3_1, cq_80, fg_80_0, fg_80_1, fg_80_2, fg_80_3, fg_80_4, fg_80_5, fp_80_5, fg_80_6, fp_80_6, fg_80_7, fp_80_7, fg_80_8, fp_80_8, fg_80_9, fp_80_9, cq_94, fg_94_0, fg_94_1, fp_94_1, fg_94_2, fp_94_2, fg_94_3, fp_94_3, fg_94_4, fg_94_5, fg_94_6, fg_94_7, fg_94_8, fg_94_9, fg_94_10, fg_94_11, fg_94_12, fg_94_13, fg_94_14, fg_94_15, fp_94_15_0, fp_94_15_1, fg_94_16, fp_94_16, fg_94_17, fg_94_18, fg_94_19, fg_94_20, fg_94_21, fg_94_22, fg_94_23, fp_1_6, ob, nI_n0 (show k < 2147483648 by omega), if_false, g7, c2, not_true, gi_97 L s hk, gi_111 L s hk]
  by_cases h1 : s 94 15 = 0
  · simp [h1]
  · by_cases h2 : 0 < s 97 k <;> simp [h1, h2]
theorem r_presentN (d L : Nat) (s : St) {v : Int32} (hv : ¬ (¬ v < 0 ∧ v < 8)) : rn d 94 0 [some (.ref 94), some (.int v)] [] (hH L s) = some (some (.int (-1)), hH L s) := by
  simp only [e94_0, e94_1, e94_4, e94_5, e94_7, e94_10, e94_11, g7]
  by_cases h1 : v < 0
  · simp only [h1, if_true]
  · have h2 : ¬ v < 8 := fun z => hv ⟨h1, z⟩
    simp only [h1, h2, if_false, not_false_eq_true, if_true]
theorem r_memory (d L : Nat) (s : St) {k n : Nat} (hk : k < 8) (hn : n ≤ 24) (hl : s 97 k = nI n) (i : Int32) : rn d 95 0 [some (.ref 94), some (.int (nI k)), some (.int i), none] [] (hH L s) =
    some (some (.long (if s 94 15 = 0 ∨ ¬ (¬ i < 0 ∧ i < nI n) ∨ ¬ (s 96 (24 * k + i.toNatClampNeg) = 80 ∨ s 96 (24 * k + i.toNatClampNeg) = 67) then -1000000000000 else (s 102 (24 * k + i.toNatClampNeg)).toInt64)), hH L s) := by
  have c2 : nI k < 8 := nI_lt hk (by decide)
  rcases in_n i n (by omega) with hi | ⟨j, hj, rfl⟩
  · rw [if_pos (Or.inr (Or.inl hi))]
    simp only [e95_0, e95_1, e95_4, e95_5, e95_7, e95_10, e95_11, e95_14, e95_15, e95_16, e95_19, e95_20, e95_21, e95_24, e95_25, e95_28, e95_31, e95_34, cq_1, fg_1_0, fg_1_1, fp_1_1, fg_1_2, fp_1_2, fg_1_3, fg_1_4, fg_1_5, fg_1_6, fg_1_7, fp_1_7_0, fp_1_7_1, cq_78, fg_78_0, fg_78_1, cq_3, fg_3_0, fg_3_1, cq_80, fg_80_0, fg_80_1, fg_80_2, fg_80_3, fg_80_4, fg_80_5, fp_80_5, fg_80_6, fp_80_6, fg_80_7, fp_80_7, fg_80_8, fp_80_8, fg_80_9, fp_80_9, cq_94, fg_94_0, fg_94_1, fp_94_1, fg_94_2, fp_94_2, fg_94_3, fp_94_3, fg_94_4, fg_94_5, fg_94_6, fg_94_7, fg_94_8, fg_94_9, fg_94_10, fg_94_11, fg_94_12, fg_94_13, fg_94_14, fg_94_15, fp_94_15_0, fp_94_15_1, fg_94_16, fp_94_16, fg_94_17, fg_94_18, fg_94_19, fg_94_20, fg_94_21, fg_94_22, fg_94_23, fp_1_6, ob, nI_n0 (show k < 2147483648 by omega), if_false, g7, c2, not_true, gi_97 L s hk, hl]
    by_cases q2 : i < 0
    · rw [if_pos q2]
    · rw [if_neg q2, if_neg (fun z => hi ⟨q2, z⟩)]
  · have ej : (nI j).toNatClampNeg = j := nI_clamp (by omega)
    have hin : ¬ nI j < 0 ∧ nI j < nI n := in_nI hj (by omega)
    simp only [e95_0, e95_1, e95_4, e95_5, e95_7, e95_10, e95_11, e95_14, e95_15, e95_16, e95_19, e95_20, e95_21, e95_24, e95_25, e95_28, e95_31, e95_34, e95_35, e95_36, e95_39, e95_40, e95_42, e95_43, e95_44, e95_45, e95_46, e95_47, e95_48, e95_50, e95_53, e95_54, e95_56, e95_59, e95_60, e95_63, e95_64, e95_66, e95_67, e95_68, e95_69, e95_70, e95_71, e95_74, e95_77, cq_1, fg_1_0, fg_1_1, fp_1_1, fg_1_2, fp_1_2, fg_1_3, fg_1_4, fg_1_5, fg_1_6, fg_1_7, fp_1_7_0, fp_1_7_1, cq_78, fg_78_0, fg_78_1, cq_3, fg_3_0, fg_3_1, cq_80, fg_80_0, fg_80_1, fg_80_2, fg_80_3, fg_80_4, fg_80_5, fp_80_5, fg_80_6, fp_80_6, fg_80_7, fp_80_7, fg_80_8, fp_80_8, fg_80_9, fp_80_9, cq_94, fg_94_0, fg_94_1, fp_94_1, fg_94_2, fp_94_2, fg_94_3, fp_94_3, fg_94_4, fg_94_5, fg_94_6, fg_94_7, fg_94_8, fg_94_9, fg_94_10, fg_94_11, fg_94_12, fg_94_13, fg_94_14, fg_94_15, fp_94_15_0, fp_94_15_1, fg_94_16, fp_94_16, fg_94_17, fg_94_18, fg_94_19, fg_94_20, fg_94_21, fg_94_22, fg_94_23, fp_1_6, ob, nI_n0 (show k < 2147483648 by omega), if_false, g7, c2, not_true, gi_97 L s hk, hl, hin, and_self, not_true, not_false_eq_true, if_true, m24, gi_96 L s (show 24 * k + j < 192 by omega), gi_102 L s (show 24 * k + j < 192 by omega), ej, false_or]
    by_cases q : s 94 15 = 0
    · rw [if_pos q, if_pos (Or.inl q)]
    · rw [if_neg q]
      by_cases q3 : s 96 (24 * k + j) = 80
      · rw [if_pos q3, if_neg (fun z => z.elim q (fun y => y (Or.inl q3)))]
      · rw [if_neg q3]
        by_cases q4 : s 96 (24 * k + j) = 67
        · rw [if_pos q4, if_neg (fun z => z.elim q (fun y => y (Or.inr q4)))]
        · rw [if_neg q4, if_pos (Or.inr (fun z => z.elim q3 q4))]
theorem r_memoryN (d L : Nat) (s : St) {v : Int32} (hv : ¬ (¬ v < 0 ∧ v < 8)) (i : Int32) : rn d 95 0 [some (.ref 94), some (.int v), some (.int i), none] [] (hH L s) = some (some (.long (-1000000000000)), hH L s) := by
  simp only [e95_0, e95_1, e95_4, e95_5, e95_7, e95_10, e95_11, e95_14, e95_15, e95_16, e95_19, e95_20, e95_21, e95_24, e95_25, e95_28, e95_31, e95_34, g7]
  by_cases h1 : v < 0
  · simp only [h1, if_true]
  · have h2 : ¬ v < 8 := fun z => hv ⟨h1, z⟩
    simp only [h1, h2, if_false, not_false_eq_true, if_true]
/-- info -/
def ifR (s : St) (w : Int32) : Nat → Nat → Int32 → Int32
  | 0, _, a => a
  | r + 1, k, a => ifR s w r (k + 1) ((if (w = 2 ∧ 0 < s 97 k) ∨ (w = 6 ∧ snR s k) then a + 1 else a) + (if w = 5 then s 97 k else 0))
theorem lr_info (d L : Nat) (s : St) (w : Int32) : ∀ (r k : Nat) (a : Int32), k + r = 8 → rn (d + 1) 96 76 [some (.ref 94), some (.int w), some (.int a), some (.int (nI k))] [] (hH L s) = some (some (.int (ifR s w r k a)), hH L s) := by
  intro r
  induction r with
  | zero =>
    intro k a hk
    have hk : k = 8 := by omega
    subst hk
    rw [e96_76]
    simp only [e96_77, e96_79, e96_82, e96_83, e96_84, e96_87, e96_88, e96_91, e96_92, e96_93, e96_96, e96_97, e96_99, e96_102, e96_103, e96_104, e96_107, e96_110, e96_113, e96_114, e96_115, e96_118, e96_119, e96_120, e96_123, e96_124, e96_125, e96_126, e96_127, e96_130, e96_133, e96_134, nI_lt8 (show 8 < 2147483648 by decide), Nat.lt_irrefl, if_false, ifR]
  | succ r ih =>
    intro k a hk
    have h1 : k < 8 := by omega
    have tail : ∀ a, rn (d + 1) 96 113 [some (.ref 94), some (.int w), some (.int a), some (.int (nI k))] [] (hH L s) = some (some (.int (ifR s w r (k + 1) (a + (if w = 5 then s 97 k else 0)))), hH L s) := by
      intro a
      simp only [e96_113, e96_114, e96_115, e96_118, e96_119, e96_120, e96_123, e96_124, e96_125, e96_126, e96_127, e96_130, cq_1, fg_1_0, fg_1_1, fp_1_1, fg_1_2, fp_1_2, fg_1_3, fg_1_4, fg_1_5, fg_1_6, fg_1_7, fp_1_7_0, fp_1_7_1, cq_78, fg_78_0, fg_78_1, cq_3, fg_3_0, fg_3_1, cq_80, fg_80_0, fg_80_1, fg_80_2, fg_80_3, fg_80_4, fg_80_5, fp_80_5, fg_80_6, fp_80_6, fg_80_7, fp_80_7, fg_80_8, fp_80_8, fg_80_9, fp_80_9, cq_94, fg_94_0, fg_94_1, fp_94_1, fg_94_2, fp_94_2, fg_94_3, fp_94_3, fg_94_4, fg_94_5, fg_94_6, fg_94_7, fg_94_8, fg_94_9, fg_94_10, fg_94_11, fg_94_12, fg_94_13, fg_94_14, fg_94_15, fp_94_15_0, fp_94_15_1, fg_94_16, fp_94_16, fg_94_17, fg_94_18, fg_94_19, fg_94_20, fg_94_21, fg_94_22, fg_94_23, fp_1_6, ob, gi_97 L s h1, nI_1]
      by_cases q : w = 5
      · rw [if_pos q, if_pos q]
        exact ih (k + 1) _ (by omega)
      · rw [if_neg q, if_neg q, Int32.add_zero]
        exact ih (k + 1) _ (by omega)
    rw [e96_76]
    simp only [e96_77, e96_79, e96_82, e96_83, e96_84, e96_87, e96_88, e96_91, e96_92, e96_93, e96_96, e96_97, e96_99, e96_102, e96_103, e96_104, e96_107, e96_110, cq_1, fg_1_0, fg_1_1, fp_1_1, fg_1_2, fp_1_2, fg_1_3, fg_1_4, fg_1_5, fg_1_6, fg_1_7, fp_1_7_0, fp_1_7_1, cq_78, fg_78_0, fg_78_1, cq_3, fg_3_0, fg_3_1, cq_80, fg_80_0, fg_80_1, fg_80_2, fg_80_3, fg_80_4, fg_80_5, fp_80_5, fg_80_6, fp_80_6, fg_80_7, fp_80_7, fg_80_8, fp_80_8, fg_80_9, fp_80_9, cq_94, fg_94_0, fg_94_1, fp_94_1, fg_94_2, fp_94_2, fg_94_3, fp_94_3, fg_94_4, fg_94_5, fg_94_6, fg_94_7, fg_94_8, fg_94_9, fg_94_10, fg_94_11, fg_94_12, fg_94_13, fg_94_14, fg_94_15, fp_94_15_0, fp_94_15_1, fg_94_16, fp_94_16, fg_94_17, fg_94_18, fg_94_19, fg_94_20, fg_94_21, fg_94_22, fg_94_23, fp_1_6, cq_94, eq_self, nI_lt8 (show k < 2147483648 by omega), h1, if_true, ob, tl1, gi_97 L s h1, r_seen d L s h1, bz_eq0, tail, ifR]
    by_cases q2 : w = 2
    · have q6 : ¬ w = 6 := by subst q2; decide
      rw [if_pos q2, if_neg q6]
      by_cases q3 : 0 < s 97 k
      · rw [if_pos q3, if_pos (Or.inl ⟨q2, q3⟩)]
      · rw [if_neg q3, if_neg (show ¬ ((w = 2 ∧ 0 < s 97 k) ∨ (w = 6 ∧ snR s k)) from fun z => z.elim (fun y => q3 y.2) (fun y => q6 y.1))]
    · rw [if_neg q2]
      by_cases q6 : w = 6
      · rw [if_pos q6]
        by_cases q3 : snR s k
        · rw [if_neg (Classical.not_not.mpr q3), if_pos (Or.inr ⟨q6, q3⟩)]
        · rw [if_pos q3, if_neg (show ¬ ((w = 2 ∧ 0 < s 97 k) ∨ (w = 6 ∧ snR s k)) from fun z => z.elim (fun y => q2 y.1) (fun y => q3 y.2))]
      · rw [if_neg q6, if_neg (show ¬ ((w = 2 ∧ 0 < s 97 k) ∨ (w = 6 ∧ snR s k)) from fun z => z.elim (fun y => q2 y.1) (fun y => q6 y.1))]
theorem r_info (d L : Nat) (s : St) (w : Int32) : rn (d + 1) 96 0 [some (.ref 94), some (.int w), none, none] [] (hH L s) =
    some (some (.int (if w < 0 ∨ 6 < w then -1 else if w = 0 then s 94 1 else if w < 2 then s 94 2 else if w = 3 then (if s 94 15 = 0 then 0 else 1) else if w = 4 then (if s 94 15 = 0 then 0 else s 94 16) else ifR s w 8 0 0)), hH L s) := by
  have hl := lr_info d L s w 8 0 0 (by decide)
  have hl' : rn (d + 1) 96 76 [some (.ref 94), some (.int w), some (.int 0), some (.int 0)] [] (hH L s) = some (some (.int (ifR s w 8 0 0)), hH L s) := hl
  simp only [e96_0, e96_1, e96_4, e96_5, e96_7, e96_10, e96_11, e96_12, e96_13, e96_14, e96_17, e96_18, e96_21, e96_22, e96_25, e96_28, e96_29, e96_32, e96_33, e96_34, e96_35, e96_38, e96_39, e96_42, e96_45, e96_46, e96_49, e96_50, e96_51, e96_52, e96_53, e96_56, e96_57, e96_60, e96_63, e96_64, e96_67, e96_70, e96_71, e96_72, e96_73, e96_74, e96_75, cq_1, fg_1_0, fg_1_1, fp_1_1, fg_1_2, fp_1_2, fg_1_3, fg_1_4, fg_1_5, fg_1_6, fg_1_7, fp_1_7_0, fp_1_7_1, cq_78, fg_78_0, fg_78_1, cq_3, fg_3_0, fg_3_1, cq_80, fg_80_0, fg_80_1, fg_80_2, fg_80_3, fg_80_4, fg_80_5, fp_80_5, fg_80_6, fp_80_6, fg_80_7, fp_80_7, fg_80_8, fp_80_8, fg_80_9, fp_80_9, cq_94, fg_94_0, fg_94_1, fp_94_1, fg_94_2, fp_94_2, fg_94_3, fp_94_3, fg_94_4, fg_94_5, fg_94_6, fg_94_7, fg_94_8, fg_94_9, fg_94_10, fg_94_11, fg_94_12, fg_94_13, fg_94_14, fg_94_15, fp_94_15_0, fp_94_15_1, fg_94_16, fp_94_16, fg_94_17, fg_94_18, fg_94_19, fg_94_20, fg_94_21, fg_94_22, fg_94_23, fp_1_6, ob, hl']
  by_cases h1 : w < 0
  · rw [if_pos h1, if_pos (Or.inl h1)]
  · rw [if_neg h1]
    by_cases h2 : 6 < w
    · rw [if_pos h2, if_pos (Or.inr h2)]
    · rw [if_neg h2, if_neg (show ¬ (w < 0 ∨ 6 < w) from fun z => z.elim h1 h2)]
      by_cases h3 : w < 2
      · rw [if_pos h3]
        by_cases h4 : w = 0
        · rw [if_pos h4, if_pos h4]
        · rw [if_neg h4, if_neg h4, if_pos h3]
      · have h4 : ¬ w = 0 := fun z => h3 (by rw [z]; decide)
        rw [if_neg h3, if_neg h4, if_neg h3]
        by_cases h5 : w = 3
        · rw [if_pos h5, if_pos h5]
          split <;> rfl
        · rw [if_neg h5, if_neg h5]
          by_cases h6 : w = 4
          · rw [if_pos h6, if_pos h6]
            split <;> rfl
          · rw [if_neg h6, if_neg h6]
