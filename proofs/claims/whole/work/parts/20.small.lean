/-! The small methods of the class. -/
theorem z0 : (0 : Int32) &&& 1 = 0 := rfl
theorem z1 : (1 : Int32) &&& 1 = 1 := rfl
theorem ob {α β : Type} (a : α) (f : α → Option β) : (some a).bind f = f a := rfl
theorem tl1 {α : Type} (a : α) (l : List α) : (some a).toList ++ l = a :: l := rfl
theorem tl0 {α : Type} (l : List α) : (none : Option α).toList ++ l = l := rfl
/-- a truth value as the machine has it -/
def bz (p : Prop) [Decidable p] : Int32 := if p then 1 else 0
theorem bz_1 (p : Prop) [Decidable p] : bz p &&& 1 = bz p := by unfold bz; split <;> rfl
theorem bz_eq0 (p : Prop) [Decidable p] : bz p = 0 ↔ ¬ p := by
  unfold bz
  by_cases h : p <;> simp [h]
theorem i10 : ((1 : Int32) = 0) = False := eq_false (by decide)
theorem m_isVariable (d : Nat) (c : Int32) (h : MH) : rn d 12 0 [some (.int c)] [] h = some (some (.int (bz (¬ c < 0 ∧ c < 8))), h) := by
  simp only [e12_0, e12_1, e12_4, e12_5, e12_7, e12_10, e12_11, e12_14, e12_15, e12_15q0, e12_15q1, z0, z1, eq_self]
  by_cases h1 : c < 0 <;> by_cases h2 : c < 8 <;> simp [h1, h2, bz]
theorem m_isDigit (d : Nat) (c : Int32) (h : MH) : rn d 7 0 [some (.int c)] [] h = some (some (.int (bz (¬ c < 48 ∧ ¬ 57 < c))), h) := by
  simp only [e7_0, e7_1, e7_3, e7_6, e7_7, e7_9, e7_12, e7_13, e7_16, e7_17, e7_17q0, e7_17q1, z0, z1, eq_self]
  by_cases h1 : c < 48 <;> by_cases h2 : 57 < c <;> simp [h1, h2, bz]
theorem m_isVariableName (d : Nat) (c : Int32) (h : MH) : rn d 8 0 [some (.int c)] [] h = some (some (.int (bz (¬ c < 97 ∧ c < 105))), h) := by
  simp only [e8_0, e8_1, e8_3, e8_6, e8_7, e8_9, e8_12, e8_13, e8_16, e8_17, e8_17q0, e8_17q1, z0, z1, eq_self]
  by_cases h1 : c < 97 <;> by_cases h2 : c < 105 <;> simp [h1, h2, bz]
theorem m_isInputName (d : Nat) (c : Int32) (h : MH) : rn d 9 0 [some (.int c)] [] h = some (some (.int (bz (¬ c < 112 ∧ c < 116))), h) := by
  simp only [e9_0, e9_1, e9_3, e9_6, e9_7, e9_9, e9_12, e9_13, e9_16, e9_17, e9_17q0, e9_17q1, z0, z1, eq_self]
  by_cases h1 : c < 112 <;> by_cases h2 : c < 116 <;> simp [h1, h2, bz]
theorem m_contains (d : Nat) (w v : Int32) (h : MH) : rn d 33 0 [some (.int w), some (.int v)] [] h = some (some (.int (bz (¬ (w >>> (v &&& 31)) &&& 1 = 0))), h) := by
  simp only [e33_0, e33_1, e33_2, e33_3, e33_4, e33_5, e33_8, e33_9, e33_12, e33_13, e33_13q0, e33_13q1, z0, z1, eq_self]
  by_cases h1 : (w >>> (v &&& 31)) &&& 1 = 0 <;> simp [h1, bz]
theorem m_isActive (d L : Nat) (k : Int32) (s : St) : rn d 50 0 [some (.ref 80), some (.int k)] [] (hH L s) = some (some (.int (bz (¬ (s 80 7 >>> ((k + 1) &&& 31)) &&& 1 = 0))), hH L s) := by
  simp only [e50_0, e50_1, e50_4, e50_5, e50_6, e50_7, e50_8, e50_9, e50_10, e50_13, e50_14, e50_17, e50_18, e50_18q0, e50_18q1, cq_1, fg_1_0, fg_1_1, fp_1_1, fg_1_2, fp_1_2, fg_1_3, fg_1_4, fg_1_5, fg_1_6, fg_1_7, fp_1_7_0, fp_1_7_1, cq_78, fg_78_0, fg_78_1, cq_3, fg_3_0, fg_3_1, cq_80, fg_80_0, fg_80_1, fg_80_2, fg_80_3, fg_80_4, fg_80_5, fp_80_5, fg_80_6, fp_80_6, fg_80_7, fp_80_7, fg_80_8, fp_80_8, fg_80_9, fp_80_9, cq_94, fg_94_0, fg_94_1, fp_94_1, fg_94_2, fp_94_2, fg_94_3, fp_94_3, fg_94_4, fg_94_5, fg_94_6, fg_94_7, fg_94_8, fg_94_9, fg_94_10, fg_94_11, fg_94_12, fg_94_13, fg_94_14, fg_94_15, fp_94_15_0, fp_94_15_1, fg_94_16, fp_94_16, fg_94_17, fg_94_18, fg_94_19, fg_94_20, fg_94_21, fg_94_22, fg_94_23, fp_1_6, ob, z0, z1, eq_self]
  by_cases h1 : (s 80 7 >>> ((k + 1) &&& 31)) &&& 1 = 0 <;> simp [h1, bz]
theorem m_hasBegun (d L : Nat) (k : Int32) (s : St) : rn d 55 0 [some (.ref 80), some (.int k)] [] (hH L s) = some (some (.int (bz (¬ (s 80 8 >>> ((k + 1) &&& 31)) &&& 1 = 0))), hH L s) := by
  simp only [e55_0, e55_1, e55_4, e55_5, e55_6, e55_7, e55_8, e55_9, e55_10, e55_13, e55_14, e55_17, e55_18, e55_18q0, e55_18q1, cq_1, fg_1_0, fg_1_1, fp_1_1, fg_1_2, fp_1_2, fg_1_3, fg_1_4, fg_1_5, fg_1_6, fg_1_7, fp_1_7_0, fp_1_7_1, cq_78, fg_78_0, fg_78_1, cq_3, fg_3_0, fg_3_1, cq_80, fg_80_0, fg_80_1, fg_80_2, fg_80_3, fg_80_4, fg_80_5, fp_80_5, fg_80_6, fp_80_6, fg_80_7, fp_80_7, fg_80_8, fp_80_8, fg_80_9, fp_80_9, cq_94, fg_94_0, fg_94_1, fp_94_1, fg_94_2, fp_94_2, fg_94_3, fp_94_3, fg_94_4, fg_94_5, fg_94_6, fg_94_7, fg_94_8, fg_94_9, fg_94_10, fg_94_11, fg_94_12, fg_94_13, fg_94_14, fg_94_15, fp_94_15_0, fp_94_15_1, fg_94_16, fp_94_16, fg_94_17, fg_94_18, fg_94_19, fg_94_20, fg_94_21, fg_94_22, fg_94_23, fp_1_6, ob, z0, z1, eq_self]
  by_cases h1 : (s 80 8 >>> ((k + 1) &&& 31)) &&& 1 = 0 <;> simp [h1, bz]
theorem m_isPresent (d L : Nat) (v : Int32) (s : St) : rn (d + 1) 60 0 [some (.ref 80), some (.int v)] [] (hH L s) = some (some (.int (bz (¬ (s 80 6 >>> (v &&& 31)) &&& 1 = 0))), hH L s) := by
  simp only [e60_0, e60_1, e60_4, e60_5, e60_8, e60_8q0, e60_8q1, cq_1, fg_1_0, fg_1_1, fp_1_1, fg_1_2, fp_1_2, fg_1_3, fg_1_4, fg_1_5, fg_1_6, fg_1_7, fp_1_7_0, fp_1_7_1, cq_78, fg_78_0, fg_78_1, cq_3, fg_3_0, fg_3_1, cq_80, fg_80_0, fg_80_1, fg_80_2, fg_80_3, fg_80_4, fg_80_5, fp_80_5, fg_80_6, fp_80_6, fg_80_7, fp_80_7, fg_80_8, fp_80_8, fg_80_9, fp_80_9, cq_94, fg_94_0, fg_94_1, fp_94_1, fg_94_2, fp_94_2, fg_94_3, fp_94_3, fg_94_4, fg_94_5, fg_94_6, fg_94_7, fg_94_8, fg_94_9, fg_94_10, fg_94_11, fg_94_12, fg_94_13, fg_94_14, fg_94_15, fp_94_15_0, fp_94_15_1, fg_94_16, fp_94_16, fg_94_17, fg_94_18, fg_94_19, fg_94_20, fg_94_21, fg_94_22, fg_94_23, fp_1_6, ob, m_contains, tl1, bz_1, eq_self]
theorem m_isOfLine (d : Nat) (c : Int32) (h : MH) : rn (d + 6) 6 0 [some (.int c)] [] h = some (some (.int (bz ((¬ c < 48 ∧ ¬ 57 < c) ∨ (¬ c < 97 ∧ c < 105) ∨ (¬ c < 112 ∧ c < 116) ∨ isOpc c = true))), h) := by
  simp only [e6_0, e6_1, e6_4, e6_7, e6_8, e6_11, e6_14, e6_15, e6_18, e6_21, e6_22, e6_25, e6_28, e6_29, e6_32, e6_33, e6_33q0, e6_33q1, cq_1, fg_1_0, fg_1_1, fp_1_1, fg_1_2, fp_1_2, fg_1_3, fg_1_4, fg_1_5, fg_1_6, fg_1_7, fp_1_7_0, fp_1_7_1, cq_78, fg_78_0, fg_78_1, cq_3, fg_3_0, fg_3_1, cq_80, fg_80_0, fg_80_1, fg_80_2, fg_80_3, fg_80_4, fg_80_5, fp_80_5, fg_80_6, fp_80_6, fg_80_7, fp_80_7, fg_80_8, fp_80_8, fg_80_9, fp_80_9, cq_94, fg_94_0, fg_94_1, fp_94_1, fg_94_2, fp_94_2, fg_94_3, fp_94_3, fg_94_4, fg_94_5, fg_94_6, fg_94_7, fg_94_8, fg_94_9, fg_94_10, fg_94_11, fg_94_12, fg_94_13, fg_94_14, fg_94_15, fp_94_15_0, fp_94_15_1, fg_94_16, fp_94_16, fg_94_17, fg_94_18, fg_94_19, fg_94_20, fg_94_21, fg_94_22, fg_94_23, fp_1_6, ob, m_isDigit, m_isVariableName, m_isInputName, tl1, z0, z1, bz_eq0, eq_self]
  by_cases h1 : (¬ c < 48 ∧ ¬ 57 < c) <;> by_cases h2 : (¬ c < 97 ∧ c < 105) <;> by_cases h3 : (¬ c < 112 ∧ c < 116) <;> by_cases h4 : isOpc c = true <;> simp only [h1, h2, h3, h4, bz, not_true, not_false_eq_true, if_true, if_false, or_true, true_or, or_false, or_self, and_self, Classical.not_not, ite_self, Bool.false_eq_true, i10]
/-- how many TERMS stand in one that begins so -/
def pcN (c : Int32) : Int32 := if c = 33 then 1 else if c = 38 then 2 else if c = 42 then 2 else if c = 43 then 2 else if c = 45 then 2 else if c = 60 then 2 else if c = 61 then 2 else if c = 63 then 3 else if c = 67 then 1 else if c = 70 then 2 else if c = 80 then 1 else if c = 87 then 1 else 0
theorem m_partCount (d : Nat) (c : Int32) (h : MH) : rn d 17 0 [some (.int c)] [] h = some (some (.int (pcN c)), h) := by
  simp only [e17_0, e17_1, e17_108, e17_109, e17_110, e17_111, e17_112, e17_113, e17_114, e17_115, pcN]
  by_cases h0 : c = 33
  · rw [if_pos h0, if_pos h0]
  · rw [if_neg h0, if_neg h0]
    by_cases h1 : c = 38
    · rw [if_pos h1, if_pos h1]
    · rw [if_neg h1, if_neg h1]
      by_cases h2 : c = 42
      · rw [if_pos h2, if_pos h2]
      · rw [if_neg h2, if_neg h2]
        by_cases h3 : c = 43
        · rw [if_pos h3, if_pos h3]
        · rw [if_neg h3, if_neg h3]
          by_cases h4 : c = 45
          · rw [if_pos h4, if_pos h4]
          · rw [if_neg h4, if_neg h4]
            by_cases h5 : c = 60
            · rw [if_pos h5, if_pos h5]
            · rw [if_neg h5, if_neg h5]
              by_cases h6 : c = 61
              · rw [if_pos h6, if_pos h6]
              · rw [if_neg h6, if_neg h6]
                by_cases h7 : c = 63
                · rw [if_pos h7, if_pos h7]
                · rw [if_neg h7, if_neg h7]
                  by_cases h8 : c = 67
                  · rw [if_pos h8, if_pos h8]
                  · rw [if_neg h8, if_neg h8]
                    by_cases h9 : c = 70
                    · rw [if_pos h9, if_pos h9]
                    · rw [if_neg h9, if_neg h9]
                      by_cases h10 : c = 80
                      · rw [if_pos h10, if_pos h10]
                      · rw [if_neg h10, if_neg h10]
                        by_cases h11 : c = 87
                        · rw [if_pos h11, if_pos h11]
                        · rw [if_neg h11, if_neg h11]
theorem m_faultAnswer (d : Nat) (a b : Int32) (h : MH) : rn d 34 0 [some (.int a), some (.int b)] [] h = some (some (.int (-100 * a - b)), h) := by
  simp only [e34_0, e34_2, e34_3, e34_4, e34_5, e34_6]
theorem m_max (d : Nat) (a b : Int32) (h : MH) : rn d 18 0 [some (.int a), some (.int b)] [] h = some (some (.int (if a < b then b else a)), h) := by
  simp only [e18_0, e18_1, e18_2, e18_5, e18_6, e18_9, e18_10]
  by_cases h1 : a < b <;> simp [h1]
