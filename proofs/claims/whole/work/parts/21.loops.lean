/-! Numbers; filling; counting. -/
theorem nI_ltP {a b : Nat} (ha : a < 2147483648) (hb : b < 2147483648) : (nI a < nI b) = (a < b) := propext (nI_ltI ha hb)
theorem nI_lt8 {a : Nat} (ha : a < 2147483648) : (nI a < 8) = (a < 8) := nI_ltP (b := 8) ha (by decide)
theorem nI_lt24 {a : Nat} (ha : a < 2147483648) : (nI a < 24) = (a < 24) := nI_ltP (b := 24) ha (by decide)
theorem nI_n0 {a : Nat} (ha : a < 2147483648) : (nI a < 0) = False := eq_false (nI_pos ha)
/-- in range, or not -/
theorem in_n (x : Int32) (n : Nat) (hn : n < 2147483648) : (¬ (¬ x < 0 ∧ x < nI n)) ∨ ∃ j, j < n ∧ x = nI j := by
  rcases pk_ix x hn with h | h | h
  · exact Or.inl (fun z => z.1 h)
  · exact Or.inl (fun z => absurd z.2 (Int32.not_lt.mpr h))
  · exact Or.inr h
theorem in_nI {j n : Nat} (hj : j < n) (hn : n < 2147483648) : ¬ nI j < 0 ∧ nI j < nI n := ⟨nI_pos (by omega), nI_lt hj hn⟩
/-- an array filled from k on -/
def sF (s : St) (a k n : Nat) (x : Int32) : St := fun b j => if b = a ∧ k ≤ j ∧ j < n then x else s b j
theorem sF_step {s : St} {a k n : Nat} {x : Int32} (hk : k < n) : sF (sU s a k x) a (k + 1) n x = sF s a k n x := by
  funext b j
  unfold sF sU
  by_cases h1 : b = a
  · by_cases h2 : k + 1 ≤ j ∧ j < n
    · rw [if_pos ⟨h1, h2⟩, if_pos ⟨h1, by omega, by omega⟩]
    · rw [if_neg (fun z => h2 z.2)]
      by_cases h3 : j = k
      · rw [if_pos ⟨h1, h3⟩, if_pos ⟨h1, by omega, by omega⟩]
      · rw [if_neg (fun z => h3 z.2), if_neg (fun z => h2 (by omega))]
  · rw [if_neg (fun z => h1 z.1), if_neg (fun z => h1 z.1), if_neg (fun z => h1 z.1)]
theorem sF_end {s : St} {a n : Nat} {x : Int32} : sF s a n n x = s := by
  funext b j
  unfold sF
  rw [if_neg (fun z => by omega)]
theorem l_fill (d L a : Nat) (x : Int32) (ha : kd a = 0) (h0 : a ≠ 0) (hn : al L a < 2147483648) : ∀ (r k : Nat) (s : St), k + r = al L a → rn d 14 5 [some (.ref a), some (.int x), some (.int (nI k)), some (.int (nI (al L a)))] [] (hH L s) = some (none, hH L (sF s a k (al L a) x)) := by
  intro r
  induction r with
  | zero =>
    intro k s hk
    have hk : k = al L a := by omega
    subst hk
    rw [e14_5]
    simp only [e14_0, e14_1, e14_2, e14_3, e14_4, e14_6, e14_7, e14_10, e14_11, e14_12, e14_13, e14_14, e14_17, e14_20, nI_ltP hn hn, Nat.lt_irrefl, if_false, sF_end]
  | succ r ih =>
    intro k s hk
    have h1 : k < al L a := by omega
    rw [e14_5]
    simp only [e14_0, e14_1, e14_2, e14_3, e14_4, e14_6, e14_7, e14_10, e14_11, e14_12, e14_13, e14_14, e14_17, e14_20, nI_ltP (show k < 2147483648 by omega) hn, h1, if_true, ap_n ha (Or.inl rfl) h1 hn h0, ob, nI_1]
    rw [ih (k + 1) _ (by omega), sF_step h1]
theorem m_fill (d L a : Nat) (x : Int32) (s : St) (ha : kd a = 0) (h0 : a ≠ 0) (hn : al L a < 2147483648) (hl : alenv (hH L s) a = some (nI (al L a))) : rn d 14 0 [some (.ref a), some (.int x), none, none] [] (hH L s) = some (none, hH L (sF s a 0 (al L a) x)) := by
  simp only [e14_0, e14_1, e14_2, e14_3, e14_4, hl, ob]
  exact l_fill d L a x ha h0 hn (al L a) 0 s (by omega)
/-- the equations lie where equations can lie -/
def okE (s : St) : Prop := ∀ k, k < 8 → isE (eqA s k)
theorem m_defines (d L : Nat) (s : St) (hs : okE s) {k : Nat} (hk : k < 8) : rn (d + 1) 25 0 [some (.ref 3), some (.int (nI k))] [] (hH L s) = some (some (.int (bz (0 < s (eqA s k) 1))), hH L s) := by
  have hv : ¬ nI k < 0 ∧ nI k < 8 := in_nI hk (by decide)
  simp only [e25_0, e25_1, e25_4, e25_7, e25_8, e25_11, e25_12, e25_13, e25_16, e25_19, e25_20, e25_23, e25_24, e25_24q0, e25_24q1, cq_1, fg_1_0, fg_1_1, fp_1_1, fg_1_2, fp_1_2, fg_1_3, fg_1_4, fg_1_5, fg_1_6, fg_1_7, fp_1_7_0, fp_1_7_1, cq_78, fg_78_0, fg_78_1, cq_3, fg_3_0, fg_3_1, cq_80, fg_80_0, fg_80_1, fg_80_2, fg_80_3, fg_80_4, fg_80_5, fp_80_5, fg_80_6, fp_80_6, fg_80_7, fp_80_7, fg_80_8, fp_80_8, fg_80_9, fp_80_9, cq_94, fg_94_0, fg_94_1, fp_94_1, fg_94_2, fp_94_2, fg_94_3, fp_94_3, fg_94_4, fg_94_5, fg_94_6, fg_94_7, fg_94_8, fg_94_9, fg_94_10, fg_94_11, fg_94_12, fg_94_13, fg_94_14, fg_94_15, fp_94_15_0, fp_94_15_1, fg_94_16, fp_94_16, fg_94_17, fg_94_18, fg_94_19, fg_94_20, fg_94_21, fg_94_22, fg_94_23, fp_1_6, ob, tl1, m_isVariable, bz_eq0, hv, not_true, not_false_eq_true, and_self, if_false, if_true, gr_4 L s hk, va_rf, fg_E_1 L s (hs k hk)]
  by_cases h1 : 0 < s (eqA s k) 1 <;> simp [h1, bz]
theorem m_definesN (d L : Nat) (s : St) {v : Int32} (hv : ¬ (¬ v < 0 ∧ v < 8)) : rn (d + 1) 25 0 [some (.ref 3), some (.int v)] [] (hH L s) = some (some (.int 0), hH L s) := by
  simp only [e25_0, e25_1, e25_4, e25_7, e25_8, e25_11, e25_12, e25_13, e25_16, e25_19, e25_20, e25_23, e25_24, e25_24q0, e25_24q1, cq_1, fg_1_0, fg_1_1, fp_1_1, fg_1_2, fp_1_2, fg_1_3, fg_1_4, fg_1_5, fg_1_6, fg_1_7, fp_1_7_0, fp_1_7_1, cq_78, fg_78_0, fg_78_1, cq_3, fg_3_0, fg_3_1, cq_80, fg_80_0, fg_80_1, fg_80_2, fg_80_3, fg_80_4, fg_80_5, fp_80_5, fg_80_6, fp_80_6, fg_80_7, fp_80_7, fg_80_8, fp_80_8, fg_80_9, fp_80_9, cq_94, fg_94_0, fg_94_1, fp_94_1, fg_94_2, fp_94_2, fg_94_3, fp_94_3, fg_94_4, fg_94_5, fg_94_6, fg_94_7, fg_94_8, fg_94_9, fg_94_10, fg_94_11, fg_94_12, fg_94_13, fg_94_14, fg_94_15, fp_94_15_0, fp_94_15_1, fg_94_16, fp_94_16, fg_94_17, fg_94_18, fg_94_19, fg_94_20, fg_94_21, fg_94_22, fg_94_23, fp_1_6, ob, tl1, m_isVariable, bz_eq0, hv, not_false_eq_true, if_true]
theorem m_clockSet (d L : Nat) (s : St) {k : Nat} (hk : k < 8) : rn d 32 0 [some (.ref 3), some (.int (nI k))] [] (hH L s) = some (some (.int (if s 5 k = -1 then 0 else 1 <<< (s 5 k &&& 31))), hH L s) := by
  simp only [e32_0, e32_1, e32_4, e32_5, e32_6, e32_7, e32_10, e32_11, e32_14, e32_15, e32_16, e32_19, e32_20, e32_21, e32_22, cq_1, fg_1_0, fg_1_1, fp_1_1, fg_1_2, fp_1_2, fg_1_3, fg_1_4, fg_1_5, fg_1_6, fg_1_7, fp_1_7_0, fp_1_7_1, cq_78, fg_78_0, fg_78_1, cq_3, fg_3_0, fg_3_1, cq_80, fg_80_0, fg_80_1, fg_80_2, fg_80_3, fg_80_4, fg_80_5, fp_80_5, fg_80_6, fp_80_6, fg_80_7, fp_80_7, fg_80_8, fp_80_8, fg_80_9, fp_80_9, cq_94, fg_94_0, fg_94_1, fp_94_1, fg_94_2, fp_94_2, fg_94_3, fp_94_3, fg_94_4, fg_94_5, fg_94_6, fg_94_7, fg_94_8, fg_94_9, fg_94_10, fg_94_11, fg_94_12, fg_94_13, fg_94_14, fg_94_15, fp_94_15_0, fp_94_15_1, fg_94_16, fp_94_16, fg_94_17, fg_94_18, fg_94_19, fg_94_20, fg_94_21, fg_94_22, fg_94_23, fp_1_6, ob, gi_5 L s hk]
  by_cases h1 : s 5 k = -1 <;> simp [h1]
/-- how many of the variables from k on have equations; how many characters -/
def cntE (s : St) : Nat → Nat → Int32
  | 0, _ => 0
  | r + 1, k => (if 0 < s (eqA s k) 1 then 1 else 0) + cntE s r (k + 1)
def cntC (s : St) : Nat → Nat → Int32
  | 0, _ => 0
  | r + 1, k => s (eqA s k) 1 + cntC s r (k + 1)
theorem l_definedCount (d L : Nat) (s : St) (hs : okE s) : ∀ (r k : Nat) (c : Int32), k + r = 8 → rn (d + 2) 46 4 [some (.ref 3), some (.int c), some (.int (nI k))] [] (hH L s) = some (some (.int (c + cntE s r k)), hH L s) := by
  intro r
  induction r with
  | zero =>
    intro k c hk
    have hk : k = 8 := by omega
    subst hk
    rw [e46_4]
    simp only [e46_0, e46_1, e46_2, e46_3, e46_5, e46_7, e46_10, e46_11, e46_12, e46_15, e46_18, e46_21, e46_24, e46_27, e46_28, nI_lt8 (show 8 < 2147483648 by decide), Nat.lt_irrefl, if_false, cntE, Int32.add_zero]
  | succ r ih =>
    intro k c hk
    have h1 : k < 8 := by omega
    rw [e46_4]
    simp only [e46_0, e46_1, e46_2, e46_3, e46_5, e46_7, e46_10, e46_11, e46_12, e46_15, e46_18, e46_21, e46_24, e46_27, e46_28, cq_1, fg_1_0, fg_1_1, fp_1_1, fg_1_2, fp_1_2, fg_1_3, fg_1_4, fg_1_5, fg_1_6, fg_1_7, fp_1_7_0, fp_1_7_1, cq_78, fg_78_0, fg_78_1, cq_3, fg_3_0, fg_3_1, cq_80, fg_80_0, fg_80_1, fg_80_2, fg_80_3, fg_80_4, fg_80_5, fp_80_5, fg_80_6, fp_80_6, fg_80_7, fp_80_7, fg_80_8, fp_80_8, fg_80_9, fp_80_9, cq_94, fg_94_0, fg_94_1, fp_94_1, fg_94_2, fp_94_2, fg_94_3, fp_94_3, fg_94_4, fg_94_5, fg_94_6, fg_94_7, fg_94_8, fg_94_9, fg_94_10, fg_94_11, fg_94_12, fg_94_13, fg_94_14, fg_94_15, fp_94_15_0, fp_94_15_1, fg_94_16, fp_94_16, fg_94_17, fg_94_18, fg_94_19, fg_94_20, fg_94_21, fg_94_22, fg_94_23, fp_1_6, nI_lt8 (show k < 2147483648 by omega), h1, if_true, ob, tl1, m_defines (d := d) L s hs h1, bz_eq0, nI_1]
    by_cases h2 : 0 < s (eqA s k) 1
    · simp only [h2, not_true, if_false, if_true, cntE]
      rw [ih (k + 1) _ (by omega), Int32.add_assoc]
    · simp only [h2, not_false_eq_true, if_false, if_true, cntE]
      rw [ih (k + 1) _ (by omega), Int32.zero_add]
theorem m_definedCount (d L : Nat) (s : St) (hs : okE s) : rn (d + 2) 46 0 [some (.ref 3), none, none] [] (hH L s) = some (some (.int (cntE s 8 0)), hH L s) := by
  simp only [e46_0, e46_1, e46_2, e46_3]
  have := l_definedCount d L s hs 8 0 0 (by decide)
  rw [Int32.zero_add] at this
  exact this
theorem l_characterCount (d L : Nat) (s : St) (hs : okE s) : ∀ (r k : Nat) (c : Int32), k + r = 8 → rn d 64 4 [some (.ref 3), some (.int c), some (.int (nI k))] [] (hH L s) = some (some (.int (c + cntC s r k)), hH L s) := by
  intro r
  induction r with
  | zero =>
    intro k c hk
    have hk : k = 8 := by omega
    subst hk
    rw [e64_4]
    simp only [e64_0, e64_1, e64_2, e64_3, e64_5, e64_7, e64_10, e64_11, e64_12, e64_15, e64_16, e64_17, e64_20, e64_21, e64_22, e64_25, e64_28, e64_29, nI_lt8 (show 8 < 2147483648 by decide), Nat.lt_irrefl, if_false, cntC, Int32.add_zero]
  | succ r ih =>
    intro k c hk
    have h1 : k < 8 := by omega
    rw [e64_4]
    simp only [e64_0, e64_1, e64_2, e64_3, e64_5, e64_7, e64_10, e64_11, e64_12, e64_15, e64_16, e64_17, e64_20, e64_21, e64_22, e64_25, e64_28, e64_29, cq_1, fg_1_0, fg_1_1, fp_1_1, fg_1_2, fp_1_2, fg_1_3, fg_1_4, fg_1_5, fg_1_6, fg_1_7, fp_1_7_0, fp_1_7_1, cq_78, fg_78_0, fg_78_1, cq_3, fg_3_0, fg_3_1, cq_80, fg_80_0, fg_80_1, fg_80_2, fg_80_3, fg_80_4, fg_80_5, fp_80_5, fg_80_6, fp_80_6, fg_80_7, fp_80_7, fg_80_8, fp_80_8, fg_80_9, fp_80_9, cq_94, fg_94_0, fg_94_1, fp_94_1, fg_94_2, fp_94_2, fg_94_3, fp_94_3, fg_94_4, fg_94_5, fg_94_6, fg_94_7, fg_94_8, fg_94_9, fg_94_10, fg_94_11, fg_94_12, fg_94_13, fg_94_14, fg_94_15, fp_94_15_0, fp_94_15_1, fg_94_16, fp_94_16, fg_94_17, fg_94_18, fg_94_19, fg_94_20, fg_94_21, fg_94_22, fg_94_23, fp_1_6, nI_lt8 (show k < 2147483648 by omega), h1, if_true, ob, gr_4 L s h1, va_rf, fg_E_1 L s (hs k h1), nI_1]
    rw [ih (k + 1) _ (by omega), cntC, Int32.add_assoc]
theorem m_characterCount (d L : Nat) (s : St) (hs : okE s) : rn d 64 0 [some (.ref 3), none, none] [] (hH L s) = some (some (.int (cntC s 8 0)), hH L s) := by
  simp only [e64_0, e64_1, e64_2, e64_3]
  have := l_characterCount d L s hs 8 0 0 (by decide)
  rw [Int32.zero_add] at this
  exact this
theorem m_exchange (d L : Nat) (s : St) {k e : Nat} (hk : k < 8) (he : isE e) : rn d 21 0 [some (.ref 3), some (.int (nI k)), some (.ref e), none] [] (hH L s) = some (some (.ref (eqA s k)), hH L (sU s 4 k (nI e))) := by
  simp only [e21_0, e21_1, e21_4, e21_5, e21_6, e21_7, e21_8, e21_11, e21_12, e21_13, e21_14, e21_15, cq_1, fg_1_0, fg_1_1, fp_1_1, fg_1_2, fp_1_2, fg_1_3, fg_1_4, fg_1_5, fg_1_6, fg_1_7, fp_1_7_0, fp_1_7_1, cq_78, fg_78_0, fg_78_1, cq_3, fg_3_0, fg_3_1, cq_80, fg_80_0, fg_80_1, fg_80_2, fg_80_3, fg_80_4, fg_80_5, fp_80_5, fg_80_6, fp_80_6, fg_80_7, fp_80_7, fg_80_8, fp_80_8, fg_80_9, fp_80_9, cq_94, fg_94_0, fg_94_1, fp_94_1, fg_94_2, fp_94_2, fg_94_3, fp_94_3, fg_94_4, fg_94_5, fg_94_6, fg_94_7, fg_94_8, fg_94_9, fg_94_10, fg_94_11, fg_94_12, fg_94_13, fg_94_14, fg_94_15, fp_94_15_0, fp_94_15_1, fg_94_16, fp_94_16, fg_94_17, fg_94_18, fg_94_19, fg_94_20, fg_94_21, fg_94_22, fg_94_23, fp_1_6, ob, gr_4 L s hk, va_rf, pr_4 L s hk he]
/-- Run.restart -/
def sMem (s : St) : Nat → Nat → St
  | 0, _ => s
  | r + 1, k => sMem (sF s (eqA s k + 8) 0 24 0) r (k + 1)
theorem sF_off {s : St} {a b k n j : Nat} {x : Int32} (h : b ≠ a) : sF s a k n x b j = s b j := by
  unfold sF
  rw [if_neg (fun z => h z.1)]
theorem eqA_sF {s : St} {a k n i : Nat} {x : Int32} (h : 4 ≠ a) : eqA (sF s a k n x) i = eqA s i := by
  unfold eqA
  rw [sF_off h]
theorem okE_sF {s : St} {a k n : Nat} {x : Int32} (h : 4 ≠ a) (hs : okE s) : okE (sF s a k n x) := fun i hi => by
  rw [eqA_sF h]
  exact hs i hi
def sRst (s : St) : St := sU (sU (sU (sU (sMem (sF (sF s 82 0 8 0) 83 0 8 0) 8 0) 80 6 0) 80 7 0) 80 8 0) 80 9 0
theorem l_restart (d L : Nat) : ∀ (r k : Nat) (s : St), okE s → k + r = 8 → rn (d + 1) 23 18 [some (.ref 80), some (.int (nI k))] [] (hH L s) = some (none, hH L (sU (sU (sU (sU (sMem s r k) 80 6 0) 80 7 0) 80 8 0) 80 9 0)) := by
  intro r
  induction r with
  | zero =>
    intro k s hs hk
    have hk : k = 8 := by omega
    subst hk
    rw [e23_18]
    simp only [e23_0, e23_1, e23_4, e23_5, e23_8, e23_9, e23_12, e23_13, e23_16, e23_17, e23_19, e23_21, e23_24, e23_25, e23_28, e23_31, e23_32, e23_33, e23_36, e23_37, e23_40, e23_43, e23_46, e23_47, e23_48, e23_51, e23_52, e23_53, e23_56, e23_57, e23_58, e23_61, e23_62, e23_63, e23_66, cq_1, fg_1_0, fg_1_1, fp_1_1, fg_1_2, fp_1_2, fg_1_3, fg_1_4, fg_1_5, fg_1_6, fg_1_7, fp_1_7_0, fp_1_7_1, cq_78, fg_78_0, fg_78_1, cq_3, fg_3_0, fg_3_1, cq_80, fg_80_0, fg_80_1, fg_80_2, fg_80_3, fg_80_4, fg_80_5, fp_80_5, fg_80_6, fp_80_6, fg_80_7, fp_80_7, fg_80_8, fp_80_8, fg_80_9, fp_80_9, cq_94, fg_94_0, fg_94_1, fp_94_1, fg_94_2, fp_94_2, fg_94_3, fp_94_3, fg_94_4, fg_94_5, fg_94_6, fg_94_7, fg_94_8, fg_94_9, fg_94_10, fg_94_11, fg_94_12, fg_94_13, fg_94_14, fg_94_15, fp_94_15_0, fp_94_15_1, fg_94_16, fp_94_16, fg_94_17, fg_94_18, fg_94_19, fg_94_20, fg_94_21, fg_94_22, fg_94_23, fp_1_6, nI_lt8 (show 8 < 2147483648 by decide), Nat.lt_irrefl, if_false, ob, sMem]
  | succ r ih =>
    intro k s hs hk
    have h1 : k < 8 := by omega
    have he := hs k h1
    have hal : al L (eqA s k + 8) = 24 := ((isE_kd he).2.2 L).2.2.2.2.2.2.2
    have hf := m_fill d L (eqA s k + 8) 0 s (isE_kd he).2.1.2.2.2.2.2.2.2 (by omega) (by rw [hal]; decide) (by rw [hal]; exact ln_E8 L s he)
    rw [hal] at hf
    rw [e23_18]
    simp only [e23_0, e23_1, e23_4, e23_5, e23_8, e23_9, e23_12, e23_13, e23_16, e23_17, e23_19, e23_21, e23_24, e23_25, e23_28, e23_31, e23_32, e23_33, e23_36, e23_37, e23_40, e23_43, e23_46, e23_47, e23_48, e23_51, e23_52, e23_53, e23_56, e23_57, e23_58, e23_61, e23_62, e23_63, e23_66, cq_1, fg_1_0, fg_1_1, fp_1_1, fg_1_2, fp_1_2, fg_1_3, fg_1_4, fg_1_5, fg_1_6, fg_1_7, fp_1_7_0, fp_1_7_1, cq_78, fg_78_0, fg_78_1, cq_3, fg_3_0, fg_3_1, cq_80, fg_80_0, fg_80_1, fg_80_2, fg_80_3, fg_80_4, fg_80_5, fp_80_5, fg_80_6, fp_80_6, fg_80_7, fp_80_7, fg_80_8, fp_80_8, fg_80_9, fp_80_9, cq_94, fg_94_0, fg_94_1, fp_94_1, fg_94_2, fp_94_2, fg_94_3, fp_94_3, fg_94_4, fg_94_5, fg_94_6, fg_94_7, fg_94_8, fg_94_9, fg_94_10, fg_94_11, fg_94_12, fg_94_13, fg_94_14, fg_94_15, fp_94_15_0, fp_94_15_1, fg_94_16, fp_94_16, fg_94_17, fg_94_18, fg_94_19, fg_94_20, fg_94_21, fg_94_22, fg_94_23, fp_1_6, nI_lt8 (show k < 2147483648 by omega), h1, if_true, ob, gr_4 L s h1, va_rf, fg_E_10 L s he, hf, tl0, nI_1]
    rw [ih (k + 1) _ (okE_sF (by omega) hs) (by omega), sMem]
theorem m_restart (d L : Nat) (s : St) (hs : okE s) : rn (d + 1) 23 0 [some (.ref 80), none] [] (hH L s) = some (none, hH L (sRst s)) := by
  have h1 := m_fill d L 82 0 s rfl (by decide) (show 8 < 2147483648 by decide) rfl
  have h2 := fun s => m_fill d L 83 0 s rfl (by decide) (show 8 < 2147483648 by decide) rfl
  simp only [e23_0, e23_1, e23_4, e23_5, e23_8, e23_9, e23_12, e23_13, e23_16, e23_17, cq_1, fg_1_0, fg_1_1, fp_1_1, fg_1_2, fp_1_2, fg_1_3, fg_1_4, fg_1_5, fg_1_6, fg_1_7, fp_1_7_0, fp_1_7_1, cq_78, fg_78_0, fg_78_1, cq_3, fg_3_0, fg_3_1, cq_80, fg_80_0, fg_80_1, fg_80_2, fg_80_3, fg_80_4, fg_80_5, fp_80_5, fg_80_6, fp_80_6, fg_80_7, fp_80_7, fg_80_8, fp_80_8, fg_80_9, fp_80_9, cq_94, fg_94_0, fg_94_1, fp_94_1, fg_94_2, fp_94_2, fg_94_3, fp_94_3, fg_94_4, fg_94_5, fg_94_6, fg_94_7, fg_94_8, fg_94_9, fg_94_10, fg_94_11, fg_94_12, fg_94_13, fg_94_14, fg_94_15, fp_94_15_0, fp_94_15_1, fg_94_16, fp_94_16, fg_94_17, fg_94_18, fg_94_19, fg_94_20, fg_94_21, fg_94_22, fg_94_23, fp_1_6, ob, tl0, h1, h2]
  exact l_restart d L 8 0 _ (okE_sF (by decide) (okE_sF (by decide) hs)) (by decide)
