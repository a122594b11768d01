/-! Running: the class. -/
/-- a CLOCK is ACTIVE now; was so at an INSTANT before -/
abbrev act (s : St) (k : Int32) : Prop := ¬ (s 80 7 >>> ((k + 1) &&& 31)) &&& 1 = 0
abbrev bgn (s : St) (k : Int32) : Prop := ¬ (s 80 8 >>> ((k + 1) &&& 31)) &&& 1 = 0
/-- the value of the k-th TERM in the one at i, as the rows have it -/
def pv (s : St) (e i k : Nat) : Int32 := if s (e + 2) (3 * i + k) = -1 then 0 else s (e + 7) (s (e + 2) (3 * i + k)).toNatClampNeg
def ptOK (s : St) (e i k : Nat) : Prop := s (e + 2) (3 * i + k) = -1 ∨ ∃ j, j < 24 ∧ s (e + 2) (3 * i + k) = nI j
theorem m_partValue (d L : Nat) (s : St) {e i k : Nat} (he : isE e) (hi : i < 24) (hk : k < 3) (hp : ptOK s e i k) {x : Int32} (hx : nI i * 3 + x = nI (3 * i + k)) : rn d 54 0 [some (.ref e), some (.int (nI i)), some (.int x), none] [] (hH L s) = some (some (.int (pv s e i k)), hH L s) := by
  simp only [e54_0, e54_1, e54_4, e54_5, e54_6, e54_7, e54_8, e54_9, e54_10, e54_11, e54_12, e54_13, e54_16, e54_17, e54_20, e54_21, e54_24, e54_25, e54_26, cq_1, fg_1_0, fg_1_1, fp_1_1, fg_1_2, fp_1_2, fg_1_3, fg_1_4, fg_1_5, fg_1_6, fg_1_7, fp_1_7_0, fp_1_7_1, cq_78, fg_78_0, fg_78_1, cq_3, fg_3_0, fg_3_1, cq_80, fg_80_0, fg_80_1, fg_80_2, fg_80_3, fg_80_4, fg_80_5, fp_80_5, fg_80_6, fp_80_6, fg_80_7, fp_80_7, fg_80_8, fp_80_8, fg_80_9, fp_80_9, cq_94, fg_94_0, fg_94_1, fp_94_1, fg_94_2, fp_94_2, fg_94_3, fp_94_3, fg_94_4, fg_94_5, fg_94_6, fg_94_7, fg_94_8, fg_94_9, fg_94_10, fg_94_11, fg_94_12, fg_94_13, fg_94_14, fg_94_15, fp_94_15_0, fp_94_15_1, fg_94_16, fp_94_16, fg_94_17, fg_94_18, fg_94_19, fg_94_20, fg_94_21, fg_94_22, fg_94_23, fp_1_6, ob, fg_E_4 L s he, fg_E_9 L s he, hx, gi_E2 L s he (show 3 * i + k < 72 by omega)]
  rcases hp with h1 | ⟨j, hj, h1⟩
  · simp only [h1, if_true, pv]
  · have hm := nI_m1 (show j < 2147483648 by omega)
    simp only [h1, hm, if_false, gi_E7 L s he hj, ob, pv, nI_clamp (show j < 2 ^ 31 by omega)]
def opW (s : St) (e i : Nat) (f g h : Int32) : Int32 :=
  if s (e + 1) i = 33 then bz (f = 0) else
  if s (e + 1) i = 38 then bz (¬ f = 0 ∧ ¬ g = 0) else
  if s (e + 1) i = 42 then f * g else
  if s (e + 1) i = 43 then f + g else
  if s (e + 1) i = 45 then f - g else
  if s (e + 1) i = 60 then bz (f < g) else
  if s (e + 1) i = 61 then bz (f = g) else
  if s (e + 1) i = 63 then (if f = 0 then h else g) else
  if s (e + 1) i = 67 then (if act s (s (e + 3) i) then f else s (e + 8) i) else
  if s (e + 1) i = 70 then (if bgn s (s (e + 6) i) then g else f) else
  if s (e + 1) i = 80 then s (e + 8) i else
  if s (e + 1) i = 87 then f else
  0
def opV (s : St) (e i : Nat) : Int32 := opW s e i (pv s e i 0) (pv s e i 1) (pv s e i 2)
theorem m_operatorValue (d L : Nat) (s : St) {e i : Nat} (he : isE e) (hi : i < 24) (h0 : ptOK s e i 0) (h1 : ptOK s e i 1) (h2 : ptOK s e i 2) : rn (d + 1) 53 0 [some (.ref 80), some (.ref e), some (.int (nI i)), none, none, none] [] (hH L s) = some (some (.int (opV s e i)), hH L s) := by
  have p0 := m_partValue d L s he hi (by decide) h0 (m3_0 i)
  have p1 := m_partValue d L s he hi (by decide) h1 (m3_1 i)
  have p2 := m_partValue d L s he hi (by decide) h2 (m3_2 i)
  simp only [e53_0, e53_1, e53_2, e53_3, e53_6, e53_7, e53_8, e53_9, e53_10, e53_13, e53_15, e53_16, e53_17, e53_18, e53_21, e53_23, e53_24, e53_27, e53_28, e53_29, e53_136, e53_137, e53_139, e53_140, e53_141, e53_142, e53_144, e53_145, e53_146, e53_147, e53_149, e53_150, e53_151, e53_152, e53_154, e53_157, e53_158, e53_161, e53_162, e53_163, e53_164, e53_166, e53_169, e53_170, e53_173, e53_174, e53_175, e53_176, e53_179, e53_181, e53_184, e53_185, e53_188, e53_189, e53_190, e53_191, e53_194, e53_195, e53_198, e53_199, e53_200, e53_201, e53_204, e53_206, e53_209, e53_211, e53_212, e53_213, e53_216, e53_217, e53_218, e53_219, e53_220, e53_221, e53_224, e53_225, e53_226, e53_229, e53_232, e53_234, e53_237, e53_238, e53_239, e53_240, e53_241, e53_242, e53_243, e53_246, e53_247, e53_248, e53_251, e53_254, e53_255, e53_258, e53_259, e53_262, e53_263, e53_264, e53_265, e53_266, cq_1, fg_1_0, fg_1_1, fp_1_1, fg_1_2, fp_1_2, fg_1_3, fg_1_4, fg_1_5, fg_1_6, fg_1_7, fp_1_7_0, fp_1_7_1, cq_78, fg_78_0, fg_78_1, cq_3, fg_3_0, fg_3_1, cq_80, fg_80_0, fg_80_1, fg_80_2, fg_80_3, fg_80_4, fg_80_5, fp_80_5, fg_80_6, fp_80_6, fg_80_7, fp_80_7, fg_80_8, fp_80_8, fg_80_9, fp_80_9, cq_94, fg_94_0, fg_94_1, fp_94_1, fg_94_2, fp_94_2, fg_94_3, fp_94_3, fg_94_4, fg_94_5, fg_94_6, fg_94_7, fg_94_8, fg_94_9, fg_94_10, fg_94_11, fg_94_12, fg_94_13, fg_94_14, fg_94_15, fp_94_15_0, fp_94_15_1, fg_94_16, fp_94_16, fg_94_17, fg_94_18, fg_94_19, fg_94_20, fg_94_21, fg_94_22, fg_94_23, fp_1_6, cq_E L s he, eq_self, ob, tl1, p0, p1, p2, fg_E_0 L s he, fg_E_5 L s he, fg_E_8 L s he, fg_E_10 L s he, gi_E1 L s he hi, gi_E3 L s he hi, gi_E6 L s he hi, gi_E8 L s he hi, m_isActive, m_hasBegun, bz_eq0, opV, opW]
  by_cases h0 : s (e + 1) i = 33
  · simp only [if_pos h0]
    by_cases q : pv s e i 0 = 0 <;> simp [q, bz]
  · simp only [if_neg h0]
    by_cases h1 : s (e + 1) i = 38
    · simp only [if_pos h1]
      by_cases q : pv s e i 0 = 0 <;> by_cases q2 : pv s e i 1 = 0 <;> simp [q, q2, bz]
    · simp only [if_neg h1]
      by_cases h2 : s (e + 1) i = 42
      · simp only [if_pos h2]
      · simp only [if_neg h2]
        by_cases h3 : s (e + 1) i = 43
        · simp only [if_pos h3]
        · simp only [if_neg h3]
          by_cases h4 : s (e + 1) i = 45
          · simp only [if_pos h4]
          · simp only [if_neg h4]
            by_cases h5 : s (e + 1) i = 60
            · simp only [if_pos h5]
              by_cases q : pv s e i 0 < pv s e i 1 <;> simp [q, bz]
            · simp only [if_neg h5]
              by_cases h6 : s (e + 1) i = 61
              · simp only [if_pos h6]
                by_cases q : pv s e i 0 = pv s e i 1 <;> simp [q, bz]
              · simp only [if_neg h6]
                by_cases h7 : s (e + 1) i = 63
                · simp only [if_pos h7]
                  by_cases q : pv s e i 0 = 0 <;> simp [q]
                · simp only [if_neg h7]
                  by_cases h8 : s (e + 1) i = 67
                  · simp only [if_pos h8]
                    by_cases q : act s (s (e + 3) i)
                    · rw [if_neg (Classical.not_not.mpr q), if_pos q]
                    · rw [if_pos q, if_neg q]
                  · simp only [if_neg h8]
                    by_cases h9 : s (e + 1) i = 70
                    · simp only [if_pos h9]
                      by_cases q : bgn s (s (e + 6) i)
                      · rw [if_neg (Classical.not_not.mpr q), if_pos q]
                      · rw [if_pos q, if_neg q]
                    · simp only [if_neg h9]
                      by_cases h10 : s (e + 1) i = 80
                      · simp only [if_pos h10]
                      · simp only [if_neg h10]
                        by_cases h11 : s (e + 1) i = 87
                        · simp only [if_pos h11]
                        · simp only [if_neg h11]
/-- the value at a place -/
def vA (s : St) (e i : Nat) : Int32 := if ¬ s (e + 1) i < 48 ∧ ¬ 57 < s (e + 1) i then s (e + 1) i - 48 else if ¬ s (e + 1) i < 97 ∧ s (e + 1) i < 105 then s 82 (s (e + 1) i - 97).toNatClampNeg else if ¬ s (e + 1) i < 112 ∧ s (e + 1) i < 116 then s 81 (s (e + 1) i - 112).toNatClampNeg else opV s e i
theorem m_valueAt (d L : Nat) (s : St) {e i : Nat} (he : isE e) (hi : i < 24) (h0 : ptOK s e i 0) (h1 : ptOK s e i 1) (h2 : ptOK s e i 2) : rn (d + 2) 52 0 [some (.ref 80), some (.ref e), some (.int (nI i)), none] [] (hH L s) = some (some (.int (vA s e i)), hH L s) := by
  simp only [e52_0, e52_1, e52_4, e52_5, e52_6, e52_7, e52_8, e52_11, e52_14, e52_15, e52_17, e52_18, e52_19, e52_20, e52_23, e52_26, e52_27, e52_30, e52_31, e52_33, e52_34, e52_35, e52_36, e52_37, e52_40, e52_43, e52_44, e52_47, e52_48, e52_50, e52_51, e52_52, e52_53, e52_54, e52_55, e52_56, e52_59, cq_1, fg_1_0, fg_1_1, fp_1_1, fg_1_2, fp_1_2, fg_1_3, fg_1_4, fg_1_5, fg_1_6, fg_1_7, fp_1_7_0, fp_1_7_1, cq_78, fg_78_0, fg_78_1, cq_3, fg_3_0, fg_3_1, cq_80, fg_80_0, fg_80_1, fg_80_2, fg_80_3, fg_80_4, fg_80_5, fp_80_5, fg_80_6, fp_80_6, fg_80_7, fp_80_7, fg_80_8, fp_80_8, fg_80_9, fp_80_9, cq_94, fg_94_0, fg_94_1, fp_94_1, fg_94_2, fp_94_2, fg_94_3, fp_94_3, fg_94_4, fg_94_5, fg_94_6, fg_94_7, fg_94_8, fg_94_9, fg_94_10, fg_94_11, fg_94_12, fg_94_13, fg_94_14, fg_94_15, fp_94_15_0, fp_94_15_1, fg_94_16, fp_94_16, fg_94_17, fg_94_18, fg_94_19, fg_94_20, fg_94_21, fg_94_22, fg_94_23, fp_1_6, eq_self, ob, tl1, fg_E_0 L s he, gi_E1 L s he hi, m_isDigit, m_isVariableName, m_isInputName, bz_eq0, m_operatorValue d L s he hi h0 h1 h2, vA]
  by_cases q1 : ¬ s (e + 1) i < 48 ∧ ¬ 57 < s (e + 1) i
  · simp only [if_neg (Classical.not_not.mpr q1), if_pos q1]
  · simp only [if_pos q1, if_neg q1]
    by_cases q2 : ¬ s (e + 1) i < 97 ∧ s (e + 1) i < 105
    · obtain ⟨k, hk, ek⟩ := var_k q2
      simp only [if_neg (Classical.not_not.mpr q2), if_pos q2, ek, gi_82 L s hk, ob, nI_clamp (show k < 2 ^ 31 by omega)]
    · simp only [if_pos q2, if_neg q2]
      by_cases q3 : ¬ s (e + 1) i < 112 ∧ s (e + 1) i < 116
      · obtain ⟨k, hk, ek⟩ := inp_k q3
        simp only [if_neg (Classical.not_not.mpr q3), if_pos q3, ek, gi_81 L s hk, ob, nI_clamp (show k < 2 ^ 31 by omega)]
      · simp only [if_pos q3, if_neg q3]
/-- rows that can be evaluated -/
def PK (s : St) (e n : Nat) : Prop := isE e ∧ s e 1 = nI n ∧ n ≤ 24 ∧ ∀ i k, i < n → k < 3 → ptOK s e i k
def evL (s : St) (e : Nat) : Nat → St
  | 0 => s
  | i + 1 => evL (sU s (e + 7) i (vA s e i)) e i
theorem ptOK_U {s : St} {e i k a j : Nat} {x : Int32} (h : ptOK s e i k) (ha : e + 2 ≠ a) : ptOK (sU s a j x) e i k := by
  unfold ptOK at h ⊢
  rw [sU_a s j _ x ha]
  exact h
theorem PK_U {s : St} {e n a j : Nat} {x : Int32} (h : PK s e n) (h1 : e ≠ a) (h2 : e + 2 ≠ a) : PK (sU s a j x) e n :=
  ⟨h.1, by rw [sU_a s j _ x h1]; exact h.2.1, h.2.2.1, fun i k hi hk => ptOK_U (h.2.2.2 i k hi hk) h2⟩
theorem m1_nI (i : Nat) : nI (i + 1) + (-1) = nI i := pk_m1 i
theorem l_evaluate (d L : Nat) : ∀ (i : Nat) (s : St) (e n : Nat), PK s e n → i ≤ n → rn (d + 3) 51 7 [some (.ref 80), some (.ref e), some (.int (nI i + (-1)))] [] (hH L s) = some (none, hH L (evL s e i)) := by
  intro i
  induction i with
  | zero =>
    intro s e n hp hn
    have h0 : (nI 0 + (-1) : Int32) < 0 := by decide
    rw [e51_7]
    simp only [e51_0, e51_1, e51_4, e51_5, e51_6, e51_8, e51_11, e51_12, e51_15, e51_16, e51_17, e51_18, e51_19, e51_22, e51_23, e51_26, e51_29, h0, if_true, evL]
  | succ i ih =>
    intro s e n hp hn
    have hi : i < 24 := by have := hp.2.2.1; omega
    rw [m1_nI, e51_7]
    simp only [e51_0, e51_1, e51_4, e51_5, e51_6, e51_8, e51_11, e51_12, e51_15, e51_16, e51_17, e51_18, e51_19, e51_22, e51_23, e51_26, e51_29, cq_1, fg_1_0, fg_1_1, fp_1_1, fg_1_2, fp_1_2, fg_1_3, fg_1_4, fg_1_5, fg_1_6, fg_1_7, fp_1_7_0, fp_1_7_1, cq_78, fg_78_0, fg_78_1, cq_3, fg_3_0, fg_3_1, cq_80, fg_80_0, fg_80_1, fg_80_2, fg_80_3, fg_80_4, fg_80_5, fp_80_5, fg_80_6, fp_80_6, fg_80_7, fp_80_7, fg_80_8, fp_80_8, fg_80_9, fp_80_9, cq_94, fg_94_0, fg_94_1, fp_94_1, fg_94_2, fp_94_2, fg_94_3, fp_94_3, fg_94_4, fg_94_5, fg_94_6, fg_94_7, fg_94_8, fg_94_9, fg_94_10, fg_94_11, fg_94_12, fg_94_13, fg_94_14, fg_94_15, fp_94_15_0, fp_94_15_1, fg_94_16, fp_94_16, fg_94_17, fg_94_18, fg_94_19, fg_94_20, fg_94_21, fg_94_22, fg_94_23, fp_1_6, nI_n0 (show i < 2147483648 by omega), if_false, ob, tl1, fg_E_9 L s hp.1, m_valueAt d L s hp.1 hi (hp.2.2.2 i 0 (by omega) (by decide)) (hp.2.2.2 i 1 (by omega) (by decide)) (hp.2.2.2 i 2 (by omega) (by decide)), pi_E7 L s hp.1 hi, eq_self, cq_E L s hp.1]
    rw [ih _ e n (PK_U hp (by omega) (by omega)) (by omega), evL]
theorem m_evaluate (d L : Nat) (s : St) {e n : Nat} (hp : PK s e n) : rn (d + 3) 51 0 [some (.ref 80), some (.ref e), none] [] (hH L s) = some (none, hH L (evL s e n)) := by
  simp only [e51_0, e51_1, e51_4, e51_5, e51_6, ob, fg_E_1 L s hp.1, hp.2.1]
  have h1 : nI n - 1 = nI n + (-1) := Int32.sub_eq_add_neg ..
  rw [h1]
  exact l_evaluate d L n s e n hp (Nat.le_refl n)
theorem m_remembersAt (d L : Nat) (s : St) {e i : Nat} (he : isE e) (hi : i < 24) : rn d 57 0 [some (.ref e), some (.int (nI i))] [] (hH L s) = some (some (.int (bz (s (e + 1) i = 80 ∨ s (e + 1) i = 67))), hH L s) := by
  simp only [e57_0, e57_1, e57_4, e57_5, e57_6, e57_8, e57_11, e57_12, e57_15, e57_16, e57_17, e57_19, e57_22, e57_23, e57_26, e57_27, e57_27q0, e57_27q1, ob, fg_E_0 L s he, gi_E1 L s he hi]
  by_cases q1 : s (e + 1) i = 80 <;> by_cases q2 : s (e + 1) i = 67 <;> simp [q1, q2, bz]
def rck (s : St) (e i : Nat) : Int32 := if s (e + 1) i = 67 then s (e + 3) i else s (e + 6) i
theorem m_rememberingClock (d L : Nat) (s : St) {e i : Nat} (he : isE e) (hi : i < 24) : rn d 58 0 [some (.ref 80), some (.ref e), some (.int (nI i))] [] (hH L s) = some (some (.int (rck s e i)), hH L s) := by
  simp only [e58_0, e58_1, e58_4, e58_5, e58_6, e58_8, e58_11, e58_12, e58_15, e58_16, e58_17, e58_20, e58_21, e58_24, e58_25, e58_26, ob, fg_E_0 L s he, fg_E_5 L s he, fg_E_8 L s he, gi_E1 L s he hi, gi_E3 L s he hi, gi_E6 L s he hi, rck]
  by_cases q2 : s (e + 1) i = 67 <;> simp [q2]
/-- what a P or C takes up -/
def rm1 (s : St) (e i : Nat) : St := if (s (e + 1) i = 80 ∨ s (e + 1) i = 67) ∧ act s (rck s e i) then sU s (e + 8) i (pv s e i 0) else s
def rmL (s : St) (e : Nat) : Nat → Nat → St
  | 0, _ => s
  | r + 1, i => rmL (rm1 s e i) e r (i + 1)
theorem PK_rm1 {s : St} {e n i : Nat} (h : PK s e n) : PK (rm1 s e i) e n := by
  unfold rm1
  split
  · exact PK_U h (by omega) (by omega)
  · exact h
theorem l_remember (d L : Nat) : ∀ (r i : Nat) (s : St) (e n : Nat), PK s e n → i + r = n → rn (d + 1) 56 7 [some (.ref 80), some (.ref e), some (.int (nI i))] [] (hH L s) = some (none, hH L (rmL s e r i)) := by
  intro r
  induction r with
  | zero =>
    intro i s e n hp hn
    have hi : i = n := by omega
    subst hi
    have h24 := hp.2.2.1
    rw [e56_7]
    simp only [e56_0, e56_1, e56_2, e56_5, e56_6, e56_8, e56_9, e56_12, e56_15, e56_16, e56_17, e56_20, e56_23, e56_24, e56_25, e56_26, e56_27, e56_30, e56_33, e56_36, e56_37, e56_40, e56_41, e56_42, e56_43, e56_44, e56_47, e56_48, e56_51, e56_54, ob, fg_E_1 L s hp.1, hp.2.1, nI_ltP (show i < 2147483648 by omega) (show i < 2147483648 by omega), Nat.lt_irrefl, if_false, rmL]
  | succ r ih =>
    intro i s e n hp hn
    have h24 := hp.2.2.1
    have hi : i < 24 := by omega
    have hin : i < n := by omega
    have p0 := m_partValue d L s hp.1 hi (by decide) (hp.2.2.2 i 0 hin (by decide)) (m3_0 i)
    rw [e56_7]
    simp only [e56_0, e56_1, e56_2, e56_5, e56_6, e56_8, e56_9, e56_12, e56_15, e56_16, e56_17, e56_20, e56_23, e56_24, e56_25, e56_26, e56_27, e56_30, e56_33, e56_36, e56_37, e56_40, e56_41, e56_42, e56_43, e56_44, e56_47, e56_48, e56_51, e56_54, cq_1, fg_1_0, fg_1_1, fp_1_1, fg_1_2, fp_1_2, fg_1_3, fg_1_4, fg_1_5, fg_1_6, fg_1_7, fp_1_7_0, fp_1_7_1, cq_78, fg_78_0, fg_78_1, cq_3, fg_3_0, fg_3_1, cq_80, fg_80_0, fg_80_1, fg_80_2, fg_80_3, fg_80_4, fg_80_5, fp_80_5, fg_80_6, fp_80_6, fg_80_7, fp_80_7, fg_80_8, fp_80_8, fg_80_9, fp_80_9, cq_94, fg_94_0, fg_94_1, fp_94_1, fg_94_2, fp_94_2, fg_94_3, fp_94_3, fg_94_4, fg_94_5, fg_94_6, fg_94_7, fg_94_8, fg_94_9, fg_94_10, fg_94_11, fg_94_12, fg_94_13, fg_94_14, fg_94_15, fp_94_15_0, fp_94_15_1, fg_94_16, fp_94_16, fg_94_17, fg_94_18, fg_94_19, fg_94_20, fg_94_21, fg_94_22, fg_94_23, fp_1_6, ob, tl1, fg_E_1 L s hp.1, hp.2.1, nI_ltP (show i < 2147483648 by omega) (show n < 2147483648 by omega), hin, if_true, m_remembersAt d L s hp.1 hi, cq_E L s hp.1, eq_self, bz_eq0, m_rememberingClock d L s hp.1 hi, m_isActive, fg_E_10 L s hp.1, p0, pi_E8 L s hp.1 hi, nI_1]
    have key : rmL s e (r + 1) i = rmL (rm1 s e i) e r (i + 1) := rfl
    rw [key]
    by_cases q1 : s (e + 1) i = 80 ∨ s (e + 1) i = 67
    · by_cases q2 : act s (rck s e i)
      · have e1 : rm1 s e i = sU s (e + 8) i (pv s e i 0) := if_pos ⟨q1, q2⟩
        simp only [if_neg (Classical.not_not.mpr q1), if_neg (Classical.not_not.mpr q2)]
        rw [e1]
        exact ih (i + 1) _ e n (PK_U hp (by omega) (by omega)) (by omega)
      · have e1 : rm1 s e i = s := if_neg (fun z => q2 z.2)
        simp only [if_neg (Classical.not_not.mpr q1), if_pos q2]
        rw [e1]
        exact ih (i + 1) _ e n hp (by omega)
    · have e1 : rm1 s e i = s := if_neg (fun z => q1 z.1)
      simp only [if_pos q1]
      rw [e1]
      exact ih (i + 1) _ e n hp (by omega)
theorem PK_evL : ∀ (i : Nat) {s : St} {e n : Nat}, PK s e n → PK (evL s e i) e n
  | 0, _, _, _, h => h
  | i + 1, _, _, _, h => PK_evL i (PK_U h (by omega) (by omega))
theorem m_remember (d L : Nat) (s : St) {e n : Nat} (hp : PK s e n) : rn (d + 4) 56 0 [some (.ref 80), some (.ref e), none] [] (hH L s) = some (none, hH L (rmL (evL s e n) e n 0)) := by
  simp only [e56_0, e56_1, e56_2, e56_5, e56_6, cq_80, eq_self, ob, tl0, m_evaluate d L s hp]
  exact l_remember (d + 3) L n 0 _ e n (PK_evL n hp) (by omega)
/-- a variable's turn at an INSTANT -/
def ln_ (s : St) (e : Nat) : Nat := (s e 1).toNatClampNeg
def stl (s : St) (k : Nat) : St := if act s (s 5 k) then
    (let s1 := evL s (eqA s k) (ln_ s (eqA s k))
     let s2 := sU s1 82 k (s1 (eqA s k + 7) 0)
     let s3 := sU s2 80 6 (s2 80 6 ||| (1 <<< (nI k &&& 31)))
     let s4 := sU s3 83 k (s3 83 k + 1)
     if s4 82 k = 0 then s4 else sU s4 80 7 (s4 80 7 ||| (1 <<< ((nI k + 1) &&& 31))))
  else s
theorem evL_off {e b j : Nat} (hb : b ≠ e + 7) : ∀ (i : Nat) (s : St), evL s e i b j = s b j
  | 0, _ => rfl
  | i + 1, s => by
    rw [evL, evL_off hb i, sU_a s i j _ hb]
theorem PK_ln {s : St} {e n : Nat} (h : PK s e n) : ln_ s e = n := by
  unfold ln_
  rw [h.2.1, nI_clamp (by have := h.2.2.1; omega)]
theorem m_settle (d L : Nat) (s : St) {k n : Nat} (hk : k < 8) (hp : PK s (eqA s k) n) : rn (d + 4) 49 0 [some (.ref 80), some (.int (nI k)), none] [] (hH L s) = some (none, hH L (stl s k)) := by
  simp only [e49_0, e49_1, e49_2, e49_5, e49_8, e49_9, e49_10, e49_13, e49_16, e49_17, e49_18, e49_21, e49_24, e49_25, e49_26, e49_27, e49_28, e49_29, e49_32, e49_33, e49_36, e49_37, e49_38, e49_41, e49_42, e49_43, e49_44, e49_45, e49_46, e49_49, e49_50, e49_51, e49_52, e49_53, e49_56, e49_57, e49_60, e49_61, e49_62, e49_63, e49_64, e49_65, e49_66, e49_67, e49_70, e49_71, e49_72, e49_75, e49_76, e49_77, e49_80, e49_81, e49_82, e49_83, e49_84, e49_85, e49_86, e49_89, cq_1, fg_1_0, fg_1_1, fp_1_1, fg_1_2, fp_1_2, fg_1_3, fg_1_4, fg_1_5, fg_1_6, fg_1_7, fp_1_7_0, fp_1_7_1, cq_78, fg_78_0, fg_78_1, cq_3, fg_3_0, fg_3_1, cq_80, fg_80_0, fg_80_1, fg_80_2, fg_80_3, fg_80_4, fg_80_5, fp_80_5, fg_80_6, fp_80_6, fg_80_7, fp_80_7, fg_80_8, fp_80_8, fg_80_9, fp_80_9, cq_94, fg_94_0, fg_94_1, fp_94_1, fg_94_2, fp_94_2, fg_94_3, fp_94_3, fg_94_4, fg_94_5, fg_94_6, fg_94_7, fg_94_8, fg_94_9, fg_94_10, fg_94_11, fg_94_12, fg_94_13, fg_94_14, fg_94_15, fp_94_15_0, fp_94_15_1, fg_94_16, fp_94_16, fg_94_17, fg_94_18, fg_94_19, fg_94_20, fg_94_21, fg_94_22, fg_94_23, fp_1_6, cq_80, eq_self, ob, tl1, tl0, gi_5 L s hk, m_isActive, bz_eq0, gr_4 L s hk, va_rf, m_evaluate d L s hp, fg_E_9 L _ hp.1, stl, PK_ln hp]
  by_cases q : act s (s 5 k)
  · rw [if_neg (Classical.not_not.mpr q), if_pos q]
    have g7 : ∀ s', ageti (hH L s') 0 (eqA s k + 7) 0 = some (s' (eqA s k + 7) 0) := fun s' => gi_E7 L s' hp.1 (k := 0) (by decide)
    simp only [e49_0, e49_1, e49_2, e49_5, e49_8, e49_9, e49_10, e49_13, e49_16, e49_17, e49_18, e49_21, e49_24, e49_25, e49_26, e49_27, e49_28, e49_29, e49_32, e49_33, e49_36, e49_37, e49_38, e49_41, e49_42, e49_43, e49_44, e49_45, e49_46, e49_49, e49_50, e49_51, e49_52, e49_53, e49_56, e49_57, e49_60, e49_61, e49_62, e49_63, e49_64, e49_65, e49_66, e49_67, e49_70, e49_71, e49_72, e49_75, e49_76, e49_77, e49_80, e49_81, e49_82, e49_83, e49_84, e49_85, e49_86, e49_89, cq_1, fg_1_0, fg_1_1, fp_1_1, fg_1_2, fp_1_2, fg_1_3, fg_1_4, fg_1_5, fg_1_6, fg_1_7, fp_1_7_0, fp_1_7_1, cq_78, fg_78_0, fg_78_1, cq_3, fg_3_0, fg_3_1, cq_80, fg_80_0, fg_80_1, fg_80_2, fg_80_3, fg_80_4, fg_80_5, fp_80_5, fg_80_6, fp_80_6, fg_80_7, fp_80_7, fg_80_8, fp_80_8, fg_80_9, fp_80_9, cq_94, fg_94_0, fg_94_1, fp_94_1, fg_94_2, fp_94_2, fg_94_3, fp_94_3, fg_94_4, fg_94_5, fg_94_6, fg_94_7, fg_94_8, fg_94_9, fg_94_10, fg_94_11, fg_94_12, fg_94_13, fg_94_14, fg_94_15, fp_94_15_0, fp_94_15_1, fg_94_16, fp_94_16, fg_94_17, fg_94_18, fg_94_19, fg_94_20, fg_94_21, fg_94_22, fg_94_23, fp_1_6, g7, ob, pi_82 L _ hk, gi_83 L _ hk, pi_83 L _ hk, gi_82 L _ hk]
    split <;> rfl
  · rw [if_pos q, if_neg q]
/-- an INSTANT -/
def psL (s : St) : Nat → Nat → St
  | 0, _ => s
  | r + 1, i => psL (stl s (s 84 i).toNatClampNeg) r (i + 1)
def rsL (s : St) : Nat → Nat → St
  | 0, _ => s
  | r + 1, i => rsL (rmL (evL s (eqA s (s 84 i).toNatClampNeg) (ln_ s (eqA s (s 84 i).toNatClampNeg))) (eqA s (s 84 i).toNatClampNeg) (ln_ s (eqA s (s 84 i).toNatClampNeg)) 0) r (i + 1)
def psI (s : St) : St :=
  let s1 := psL (sU (sU s 80 6 0) 80 7 1) (s 80 5).toNatClampNeg 0
  let s2 := rsL s1 (s 80 5).toNatClampNeg 0
  let s3 := sU s2 80 8 (s2 80 8 ||| s2 80 7)
  sU s3 80 9 (s3 80 9 + 1)
/-- what stands still while the equations run -/
def stc (a j : Nat) : Prop := a = 4 ∨ a = 5 ∨ a = 81 ∨ a = 84 ∨ (a = 80 ∧ j = 5) ∨ ∃ e i, isE e ∧ i < 7 ∧ a = e + i
def sto (s s' : St) : Prop := ∀ a j, stc a j → s' a j = s a j
theorem sto.rf (s : St) : sto s s := fun _ _ _ => rfl
theorem sto.tr {s s' s'' : St} (h1 : sto s s') (h2 : sto s' s'') : sto s s'' := fun a j h => (h2 a j h).trans (h1 a j h)
theorem sto_U {s : St} {a j : Nat} {x : Int32} (h : ¬ stc a j) : sto s (sU s a j x) := by
  intro b k hb
  unfold sU
  rw [if_neg]
  rintro ⟨rfl, rfl⟩
  exact h hb
theorem isE_ne {e e' i j : Nat} (h : isE e) (h' : isE e') (hi : i < 9) (hj : j < 9) (hq : e + i = e' + j) : e = e' ∧ i = j := by
  rcases h with rfl | rfl | rfl | rfl | rfl | rfl | rfl | rfl | rfl <;> rcases h' with rfl | rfl | rfl | rfl | rfl | rfl | rfl | rfl | rfl <;> omega
theorem isE_rng {e i a : Nat} (h : isE e) (hi : i < 9) (ha : a = e + i) : (6 ≤ a ∧ a ≤ 77) ∨ (85 ≤ a ∧ a ≤ 93) := by
  rcases h with rfl | rfl | rfl | rfl | rfl | rfl | rfl | rfl | rfl <;> omega
theorem nst_E {e i j : Nat} (h : isE e) (h7 : 7 ≤ i) (h9 : i < 9) : ¬ stc (e + i) j := by
  intro hs
  have hr := isE_rng h h9 rfl
  rcases hs with h1 | h1 | h1 | h1 | ⟨h1, -⟩ | ⟨e', i', he', hi', h1⟩
  · omega
  · omega
  · omega
  · omega
  · omega
  · have := isE_ne h he' h9 (by omega) h1
    omega
theorem nst_c {a j : Nat} (h : (a = 82 ∨ a = 83) ∨ (a = 80 ∧ j ≠ 5)) : ¬ stc a j := by
  intro hs
  rcases hs with h1 | h1 | h1 | h1 | ⟨h1, h2⟩ | ⟨e', i', he', hi', h1⟩
  · omega
  · omega
  · omega
  · omega
  · omega
  · have := isE_rng he' (show i' < 9 by omega) h1
    omega
theorem sto_eqA {s s' : St} (h : sto s s') (k : Nat) : eqA s' k = eqA s k := by
  unfold eqA
  rw [h 4 k (Or.inl rfl)]
theorem sto_PK {s s' : St} (h : sto s s') {e n : Nat} (hp : PK s e n) : PK s' e n := by
  refine ⟨hp.1, ?_, hp.2.2.1, fun i k hi hk => ?_⟩
  · rw [h e 1 (Or.inr (Or.inr (Or.inr (Or.inr (Or.inr ⟨e, 0, hp.1, by decide, rfl⟩)))))]
    exact hp.2.1
  · have := hp.2.2.2 i k hi hk
    unfold ptOK at this ⊢
    rw [h (e + 2) _ (Or.inr (Or.inr (Or.inr (Or.inr (Or.inr ⟨e, 2, hp.1, by decide, rfl⟩)))))]
    exact this
theorem sto_evL {e : Nat} (he : isE e) : ∀ (i : Nat) (s : St), sto s (evL s e i)
  | 0, s => sto.rf s
  | i + 1, s => (sto_U (nst_E he (by decide) (by decide))).tr (sto_evL he i _)
theorem sto_rmL {e : Nat} (he : isE e) : ∀ (r i : Nat) (s : St), sto s (rmL s e r i)
  | 0, _, s => sto.rf s
  | r + 1, i, s => by
    refine sto.tr ?_ (sto_rmL he r (i + 1) _)
    unfold rm1
    split
    · exact sto_U (nst_E he (by decide) (by decide))
    · exact sto.rf s
theorem sto_stl {s : St} {k : Nat} (he : isE (eqA s k)) : sto s (stl s k) := by
  unfold stl
  split
  · have h1 := sto_evL he (ln_ s (eqA s k)) s
    have h2 := h1.tr (sto_U (a := 82) (j := k) (x := evL s (eqA s k) (ln_ s (eqA s k)) (eqA s k + 7) 0) (nst_c (Or.inl (Or.inl rfl))))
    refine sto.tr h2 ?_
    dsimp only
    split
    · exact (sto_U (nst_c (Or.inr ⟨rfl, by decide⟩))).tr (sto_U (nst_c (Or.inl (Or.inr rfl))))
    · exact ((sto_U (nst_c (Or.inr ⟨rfl, by decide⟩))).tr (sto_U (nst_c (Or.inl (Or.inr rfl))))).tr (sto_U (nst_c (Or.inr ⟨rfl, by decide⟩)))
  · exact sto.rf s
/-- the order is a list of variables with equations that can be evaluated -/
def okR (s : St) (m : Nat) : Prop := s 80 5 = nI m ∧ m ≤ 8 ∧ ∀ i, i < m → ∃ k n, k < 8 ∧ s 84 i = nI k ∧ PK s (eqA s k) n
theorem okR_sto {s s' : St} {m : Nat} (h : okR s m) (hs : sto s s') : okR s' m := by
  refine ⟨by rw [hs 80 5 (Or.inr (Or.inr (Or.inr (Or.inr (Or.inl ⟨rfl, rfl⟩)))))]; exact h.1, h.2.1, fun i hi => ?_⟩
  obtain ⟨k, n, h1, h2, h3⟩ := h.2.2 i hi
  exact ⟨k, n, h1, by rw [hs 84 i (Or.inr (Or.inr (Or.inr (Or.inl rfl))))]; exact h2, by rw [sto_eqA hs]; exact sto_PK hs h3⟩
theorem l_pass1 (d L m : Nat) : ∀ (r i : Nat) (s : St), okR s m → i + r = m → rn (d + 5) 48 12 [some (.ref 80), some (.int (nI i))] [] (hH L s) = rn (d + 5) 48 36 [some (.ref 80), some (.int (nI m))] [] (hH L (psL s r i)) ∧ sto s (psL s r i) := by
  intro r
  induction r with
  | zero =>
    intro i s hr hi
    have hi : i = m := by omega
    subst hi
    have h8 := hr.2.1
    refine ⟨?_, sto.rf s⟩
    rw [e48_12]
    simp only [e48_13, e48_14, e48_17, cq_1, fg_1_0, fg_1_1, fp_1_1, fg_1_2, fp_1_2, fg_1_3, fg_1_4, fg_1_5, fg_1_6, fg_1_7, fp_1_7_0, fp_1_7_1, cq_78, fg_78_0, fg_78_1, cq_3, fg_3_0, fg_3_1, cq_80, fg_80_0, fg_80_1, fg_80_2, fg_80_3, fg_80_4, fg_80_5, fp_80_5, fg_80_6, fp_80_6, fg_80_7, fp_80_7, fg_80_8, fp_80_8, fg_80_9, fp_80_9, cq_94, fg_94_0, fg_94_1, fp_94_1, fg_94_2, fp_94_2, fg_94_3, fp_94_3, fg_94_4, fg_94_5, fg_94_6, fg_94_7, fg_94_8, fg_94_9, fg_94_10, fg_94_11, fg_94_12, fg_94_13, fg_94_14, fg_94_15, fp_94_15_0, fp_94_15_1, fg_94_16, fp_94_16, fg_94_17, fg_94_18, fg_94_19, fg_94_20, fg_94_21, fg_94_22, fg_94_23, fp_1_6, ob, hr.1, nI_ltP (show i < 2147483648 by omega) (show i < 2147483648 by omega), Nat.lt_irrefl, if_false, psL]
  | succ r ih =>
    intro i s hr hi
    have h8 := hr.2.1
    obtain ⟨k, n, hk, e1, hp⟩ := hr.2.2 i (by omega)
    have ek : (nI k).toNatClampNeg = k := nI_clamp (by omega)
    have hst := sto_stl hp.1
    obtain ⟨h1, h2⟩ := ih (i + 1) (stl s k) (okR_sto hr hst) (by omega)
    rw [e48_12]
    simp only [e48_13, e48_14, e48_17, e48_20, e48_21, e48_22, e48_25, e48_26, e48_27, e48_30, e48_33, cq_1, fg_1_0, fg_1_1, fp_1_1, fg_1_2, fp_1_2, fg_1_3, fg_1_4, fg_1_5, fg_1_6, fg_1_7, fp_1_7_0, fp_1_7_1, cq_78, fg_78_0, fg_78_1, cq_3, fg_3_0, fg_3_1, cq_80, fg_80_0, fg_80_1, fg_80_2, fg_80_3, fg_80_4, fg_80_5, fp_80_5, fg_80_6, fp_80_6, fg_80_7, fp_80_7, fg_80_8, fp_80_8, fg_80_9, fp_80_9, cq_94, fg_94_0, fg_94_1, fp_94_1, fg_94_2, fp_94_2, fg_94_3, fp_94_3, fg_94_4, fg_94_5, fg_94_6, fg_94_7, fg_94_8, fg_94_9, fg_94_10, fg_94_11, fg_94_12, fg_94_13, fg_94_14, fg_94_15, fp_94_15_0, fp_94_15_1, fg_94_16, fp_94_16, fg_94_17, fg_94_18, fg_94_19, fg_94_20, fg_94_21, fg_94_22, fg_94_23, fp_1_6, ob, hr.1, nI_ltP (show i < 2147483648 by omega) (show m < 2147483648 by omega), show i < m by omega, if_true, gi_84 L s (show i < 8 by omega), e1, cq_80, eq_self, m_settle (d := d) L s hk hp, tl0, nI_1, psL, ek]
    exact ⟨h1, hst.tr h2⟩
theorem l_pass2 (d L m : Nat) : ∀ (r i : Nat) (s : St), okR s m → i + r = m → rn (d + 5) 48 38 [some (.ref 80), some (.int (nI i))] [] (hH L s) = rn (d + 5) 48 70 [some (.ref 80), some (.int (nI m))] [] (hH L (rsL s r i)) ∧ sto s (rsL s r i) := by
  intro r
  induction r with
  | zero =>
    intro i s hr hi
    have hi : i = m := by omega
    subst hi
    have h8 := hr.2.1
    refine ⟨?_, sto.rf s⟩
    rw [e48_38]
    simp only [e48_39, e48_40, e48_43, cq_1, fg_1_0, fg_1_1, fp_1_1, fg_1_2, fp_1_2, fg_1_3, fg_1_4, fg_1_5, fg_1_6, fg_1_7, fp_1_7_0, fp_1_7_1, cq_78, fg_78_0, fg_78_1, cq_3, fg_3_0, fg_3_1, cq_80, fg_80_0, fg_80_1, fg_80_2, fg_80_3, fg_80_4, fg_80_5, fp_80_5, fg_80_6, fp_80_6, fg_80_7, fp_80_7, fg_80_8, fp_80_8, fg_80_9, fp_80_9, cq_94, fg_94_0, fg_94_1, fp_94_1, fg_94_2, fp_94_2, fg_94_3, fp_94_3, fg_94_4, fg_94_5, fg_94_6, fg_94_7, fg_94_8, fg_94_9, fg_94_10, fg_94_11, fg_94_12, fg_94_13, fg_94_14, fg_94_15, fp_94_15_0, fp_94_15_1, fg_94_16, fp_94_16, fg_94_17, fg_94_18, fg_94_19, fg_94_20, fg_94_21, fg_94_22, fg_94_23, fp_1_6, ob, hr.1, nI_ltP (show i < 2147483648 by omega) (show i < 2147483648 by omega), Nat.lt_irrefl, if_false, rsL]
  | succ r ih =>
    intro i s hr hi
    have h8 := hr.2.1
    obtain ⟨k, n, hk, e1, hp⟩ := hr.2.2 i (by omega)
    have ek : (nI k).toNatClampNeg = k := nI_clamp (by omega)
    have hst := (sto_evL hp.1 n s).tr (sto_rmL hp.1 n 0 _)
    obtain ⟨h1, h2⟩ := ih (i + 1) _ (okR_sto hr hst) (by omega)
    rw [e48_38]
    simp only [e48_39, e48_40, e48_43, e48_46, e48_47, e48_48, e48_51, e48_54, e48_55, e48_58, e48_59, e48_60, e48_61, e48_64, e48_67, cq_1, fg_1_0, fg_1_1, fp_1_1, fg_1_2, fp_1_2, fg_1_3, fg_1_4, fg_1_5, fg_1_6, fg_1_7, fp_1_7_0, fp_1_7_1, cq_78, fg_78_0, fg_78_1, cq_3, fg_3_0, fg_3_1, cq_80, fg_80_0, fg_80_1, fg_80_2, fg_80_3, fg_80_4, fg_80_5, fp_80_5, fg_80_6, fp_80_6, fg_80_7, fp_80_7, fg_80_8, fp_80_8, fg_80_9, fp_80_9, cq_94, fg_94_0, fg_94_1, fp_94_1, fg_94_2, fp_94_2, fg_94_3, fp_94_3, fg_94_4, fg_94_5, fg_94_6, fg_94_7, fg_94_8, fg_94_9, fg_94_10, fg_94_11, fg_94_12, fg_94_13, fg_94_14, fg_94_15, fp_94_15_0, fp_94_15_1, fg_94_16, fp_94_16, fg_94_17, fg_94_18, fg_94_19, fg_94_20, fg_94_21, fg_94_22, fg_94_23, fp_1_6, ob, hr.1, nI_ltP (show i < 2147483648 by omega) (show m < 2147483648 by omega), show i < m by omega, if_true, gi_84 L s (show i < 8 by omega), e1, gr_4 L s hk, va_rf, cq_80, eq_self, m_remember (d := d) L s hp, tl0, nI_1, rsL, ek, PK_ln hp]
    exact ⟨h1, hst.tr h2⟩
theorem m_passInstant (d L m : Nat) (s : St) (hr : okR s m) : rn (d + 5) 48 0 [some (.ref 80), none] [] (hH L s) = some (none, hH L (psI s)) ∧ sto s (psI s) := by
  have h8 := hr.2.1
  have hs0 : sto s (sU (sU s 80 6 0) 80 7 1) := (sto_U (nst_c (Or.inr ⟨rfl, by decide⟩))).tr (sto_U (nst_c (Or.inr ⟨rfl, by decide⟩)))
  obtain ⟨a1, a2⟩ := l_pass1 d L m m 0 _ (okR_sto hr hs0) (by omega)
  obtain ⟨b1, b2⟩ := l_pass2 d L m m 0 _ (okR_sto hr (hs0.tr a2)) (by omega)
  have em : (s 80 5).toNatClampNeg = m := by rw [hr.1]; exact nI_clamp (by omega)
  have hn : (0 : Int32) = nI 0 := rfl
  refine ⟨?_, ?_⟩
  · simp only [e48_0, e48_1, e48_2, e48_5, e48_6, e48_7, e48_10, e48_11, cq_1, fg_1_0, fg_1_1, fp_1_1, fg_1_2, fp_1_2, fg_1_3, fg_1_4, fg_1_5, fg_1_6, fg_1_7, fp_1_7_0, fp_1_7_1, cq_78, fg_78_0, fg_78_1, cq_3, fg_3_0, fg_3_1, cq_80, fg_80_0, fg_80_1, fg_80_2, fg_80_3, fg_80_4, fg_80_5, fp_80_5, fg_80_6, fp_80_6, fg_80_7, fp_80_7, fg_80_8, fp_80_8, fg_80_9, fp_80_9, cq_94, fg_94_0, fg_94_1, fp_94_1, fg_94_2, fp_94_2, fg_94_3, fp_94_3, fg_94_4, fg_94_5, fg_94_6, fg_94_7, fg_94_8, fg_94_9, fg_94_10, fg_94_11, fg_94_12, fg_94_13, fg_94_14, fg_94_15, fp_94_15_0, fp_94_15_1, fg_94_16, fp_94_16, fg_94_17, fg_94_18, fg_94_19, fg_94_20, fg_94_21, fg_94_22, fg_94_23, fp_1_6, ob, psI, em]
    refine Eq.trans a1 ?_
    simp only [e48_36, e48_37]
    refine Eq.trans b1 ?_
    simp only [e48_70, e48_71, e48_72, e48_75, e48_76, e48_79, e48_80, e48_83, e48_84, e48_85, e48_88, e48_89, e48_90, e48_93, cq_1, fg_1_0, fg_1_1, fp_1_1, fg_1_2, fp_1_2, fg_1_3, fg_1_4, fg_1_5, fg_1_6, fg_1_7, fp_1_7_0, fp_1_7_1, cq_78, fg_78_0, fg_78_1, cq_3, fg_3_0, fg_3_1, cq_80, fg_80_0, fg_80_1, fg_80_2, fg_80_3, fg_80_4, fg_80_5, fp_80_5, fg_80_6, fp_80_6, fg_80_7, fp_80_7, fg_80_8, fp_80_8, fg_80_9, fp_80_9, cq_94, fg_94_0, fg_94_1, fp_94_1, fg_94_2, fp_94_2, fg_94_3, fp_94_3, fg_94_4, fg_94_5, fg_94_6, fg_94_7, fg_94_8, fg_94_9, fg_94_10, fg_94_11, fg_94_12, fg_94_13, fg_94_14, fg_94_15, fp_94_15_0, fp_94_15_1, fg_94_16, fp_94_16, fg_94_17, fg_94_18, fg_94_19, fg_94_20, fg_94_21, fg_94_22, fg_94_23, fp_1_6, ob]
  · unfold psI
    rw [em]
    exact ((hs0.tr a2).tr b2).tr ((sto_U (nst_c (Or.inr ⟨rfl, by decide⟩))).tr (sto_U (nst_c (Or.inr ⟨rfl, by decide⟩))))
def stN (s : St) : Nat → St
  | 0 => s
  | r + 1 => stN (psI s) r
theorem l_step (d L m : Nat) (x : Int32) : ∀ (r i : Nat) (s : St), okR s m → i + r < 2147483648 → x = nI (i + r) → rn (d + 6) 47 25 [some (.ref 1), some (.int x), some (.int (nI i))] [] (hH L s) = some (some (.int (stN s r 80 9)), hH L (stN s r)) ∧ sto s (stN s r) := by
  intro r
  induction r with
  | zero =>
    intro i s hr hi ex
    subst ex
    refine ⟨?_, sto.rf s⟩
    rw [e47_25]
    simp only [e47_0, e47_1, e47_2, e47_5, e47_6, e47_8, e47_11, e47_12, e47_13, e47_14, e47_17, e47_20, e47_22, e47_23, e47_24, e47_26, e47_27, e47_30, e47_31, e47_34, e47_37, e47_40, e47_43, e47_44, e47_47, e47_50, cq_1, fg_1_0, fg_1_1, fp_1_1, fg_1_2, fp_1_2, fg_1_3, fg_1_4, fg_1_5, fg_1_6, fg_1_7, fp_1_7_0, fp_1_7_1, cq_78, fg_78_0, fg_78_1, cq_3, fg_3_0, fg_3_1, cq_80, fg_80_0, fg_80_1, fg_80_2, fg_80_3, fg_80_4, fg_80_5, fp_80_5, fg_80_6, fp_80_6, fg_80_7, fp_80_7, fg_80_8, fp_80_8, fg_80_9, fp_80_9, cq_94, fg_94_0, fg_94_1, fp_94_1, fg_94_2, fp_94_2, fg_94_3, fp_94_3, fg_94_4, fg_94_5, fg_94_6, fg_94_7, fg_94_8, fg_94_9, fg_94_10, fg_94_11, fg_94_12, fg_94_13, fg_94_14, fg_94_15, fp_94_15_0, fp_94_15_1, fg_94_16, fp_94_16, fg_94_17, fg_94_18, fg_94_19, fg_94_20, fg_94_21, fg_94_22, fg_94_23, fp_1_6, ob, nI_ltP (show i < 2147483648 by omega) (show i < 2147483648 by omega), Nat.add_zero, Nat.lt_irrefl, if_false, stN]
  | succ r ih =>
    intro i s hr hi ex
    obtain ⟨p1, p2⟩ := m_passInstant d L m s hr
    obtain ⟨h1, h2⟩ := ih (i + 1) (psI s) (okR_sto hr p2) (by omega) (by rw [ex]; congr 1; omega)
    subst ex
    refine ⟨?_, p2.tr h2⟩
    rw [e47_25]
    simp only [e47_0, e47_1, e47_2, e47_5, e47_6, e47_8, e47_11, e47_12, e47_13, e47_14, e47_17, e47_20, e47_22, e47_23, e47_24, e47_26, e47_27, e47_30, e47_31, e47_34, e47_37, e47_40, e47_43, e47_44, e47_47, e47_50, cq_1, fg_1_0, fg_1_1, fp_1_1, fg_1_2, fp_1_2, fg_1_3, fg_1_4, fg_1_5, fg_1_6, fg_1_7, fp_1_7_0, fp_1_7_1, cq_78, fg_78_0, fg_78_1, cq_3, fg_3_0, fg_3_1, cq_80, fg_80_0, fg_80_1, fg_80_2, fg_80_3, fg_80_4, fg_80_5, fp_80_5, fg_80_6, fp_80_6, fg_80_7, fp_80_7, fg_80_8, fp_80_8, fg_80_9, fp_80_9, cq_94, fg_94_0, fg_94_1, fp_94_1, fg_94_2, fp_94_2, fg_94_3, fp_94_3, fg_94_4, fg_94_5, fg_94_6, fg_94_7, fg_94_8, fg_94_9, fg_94_10, fg_94_11, fg_94_12, fg_94_13, fg_94_14, fg_94_15, fp_94_15_0, fp_94_15_1, fg_94_16, fp_94_16, fg_94_17, fg_94_18, fg_94_19, fg_94_20, fg_94_21, fg_94_22, fg_94_23, fp_1_6, ob, nI_ltP (show i < 2147483648 by omega) (show i + (r + 1) < 2147483648 by omega), show i < i + (r + 1) by omega, if_true, cq_80, eq_self, p1, tl0, nI_1, stN]
    exact h1
/-- step -/
theorem m_step (d L m : Nat) (s : St) {k : Nat} (hk : 1 ≤ k) (hk2 : k ≤ 20) (hr : ¬ s 1 7 = 0 → okR s m) : rn (d + 6) 47 0 [some (.ref 1), some (.int (nI k)), none] [] (hH L s) = if s 1 7 = 0 then some (some (.int (-4)), hH L s) else some (some (.int (stN s k 80 9)), hH L (stN s k)) := by
  have c1 : ¬ nI k < 1 := nI_nlt (b := 1) hk (by omega)
  have c2 : ¬ (20 : Int32) < nI k := nI_nlt (a := 20) (b := k) hk2 (by decide)
  by_cases q : s 1 7 = 0
  · simp only [e47_0, e47_1, e47_2, e47_5, e47_6, e47_8, e47_11, e47_12, e47_13, e47_14, e47_17, e47_20, e47_22, cq_1, fg_1_0, fg_1_1, fp_1_1, fg_1_2, fp_1_2, fg_1_3, fg_1_4, fg_1_5, fg_1_6, fg_1_7, fp_1_7_0, fp_1_7_1, cq_78, fg_78_0, fg_78_1, cq_3, fg_3_0, fg_3_1, cq_80, fg_80_0, fg_80_1, fg_80_2, fg_80_3, fg_80_4, fg_80_5, fp_80_5, fg_80_6, fp_80_6, fg_80_7, fp_80_7, fg_80_8, fp_80_8, fg_80_9, fp_80_9, cq_94, fg_94_0, fg_94_1, fp_94_1, fg_94_2, fp_94_2, fg_94_3, fp_94_3, fg_94_4, fg_94_5, fg_94_6, fg_94_7, fg_94_8, fg_94_9, fg_94_10, fg_94_11, fg_94_12, fg_94_13, fg_94_14, fg_94_15, fp_94_15_0, fp_94_15_1, fg_94_16, fp_94_16, fg_94_17, fg_94_18, fg_94_19, fg_94_20, fg_94_21, fg_94_22, fg_94_23, fp_1_6, ob, c1, c2, q, if_true, if_false]
  · simp only [e47_0, e47_1, e47_2, e47_5, e47_6, e47_8, e47_11, e47_12, e47_13, e47_14, e47_17, e47_20, e47_22, e47_23, e47_24, cq_1, fg_1_0, fg_1_1, fp_1_1, fg_1_2, fp_1_2, fg_1_3, fg_1_4, fg_1_5, fg_1_6, fg_1_7, fp_1_7_0, fp_1_7_1, cq_78, fg_78_0, fg_78_1, cq_3, fg_3_0, fg_3_1, cq_80, fg_80_0, fg_80_1, fg_80_2, fg_80_3, fg_80_4, fg_80_5, fp_80_5, fg_80_6, fp_80_6, fg_80_7, fp_80_7, fg_80_8, fp_80_8, fg_80_9, fp_80_9, cq_94, fg_94_0, fg_94_1, fp_94_1, fg_94_2, fp_94_2, fg_94_3, fp_94_3, fg_94_4, fg_94_5, fg_94_6, fg_94_7, fg_94_8, fg_94_9, fg_94_10, fg_94_11, fg_94_12, fg_94_13, fg_94_14, fg_94_15, fp_94_15_0, fp_94_15_1, fg_94_16, fp_94_16, fg_94_17, fg_94_18, fg_94_19, fg_94_20, fg_94_21, fg_94_22, fg_94_23, fp_1_6, ob, c1, c2, q, if_true, if_false]
    exact (l_step d L m (nI k) k 0 s (hr q) (by omega) (by rw [Nat.zero_add])).1
theorem m_stepN (d L : Nat) (s : St) {x : Int32} (hx : x < 1 ∨ 20 < x) : rn (d + 6) 47 0 [some (.ref 1), some (.int x), none] [] (hH L s) = some (some (.int (-1)), hH L s) := by
  simp only [e47_0, e47_1, e47_2, e47_5, e47_6, e47_8, e47_11, e47_12]
  rcases hx with h | h
  · simp only [h, if_true]
  · by_cases h1 : x < 1 <;> simp only [h1, h, if_true, if_false]
