/-! good: an operator's TERMS are expected. -/
def gP (b : Nat) (x : Int32) : Nat → Nat → St → St
  | 0, _, s => s
  | r + 1, k, s => gP b x r (k + 1) (sU s 113 (b + k) x)
theorem l73_push (d L b lv K : Nat) (hb : b + K < 24) (hlv : lv < 6) (a2 a3 : Option Value) : ∀ (r k : Nat) (s : St), k + r = K → rn (d + 1) 73 186 [some (.ref 94), some (.int (nI b)), a2, a3, some (.int (nI lv)), some (.int (nI K)), some (.int (nI k))] [] (hH L s) = rn (d + 1) 73 212 [some (.ref 94), some (.int (nI b)), a2, a3, some (.int (nI lv)), some (.int (nI K)), some (.int (nI K))] [] (hH L (gP b (nI (lv + 1)) r k s)) := by
  intro r
  induction r with
  | zero =>
    intro k s hk
    have hk : k = K := by omega
    subst hk
    rw [e73_186]
    simp only [e73_188, e73_190, nI_ltP (show k < 2147483648 by omega) (show k < 2147483648 by omega), Nat.lt_irrefl, if_false, gP]
  | succ r ih =>
    intro k s hk
    rw [e73_186]
    simp only [e73_188, e73_190, e73_193, e73_194, e73_197, e73_198, e73_200, e73_201, e73_203, e73_204, e73_205, e73_206, e73_209, cq_1, fg_1_0, fg_1_1, fp_1_1, fg_1_2, fp_1_2, fg_1_3, fg_1_4, fg_1_5, fg_1_6, fg_1_7, fp_1_7_0, fp_1_7_1, cq_78, fg_78_0, fg_78_1, cq_3, fg_3_0, fg_3_1, cq_80, fg_80_0, fg_80_1, fg_80_2, fg_80_3, fg_80_4, fg_80_5, fp_80_5, fg_80_6, fp_80_6, fg_80_7, fp_80_7, fg_80_8, fp_80_8, fg_80_9, fp_80_9, cq_94, fg_94_0, fg_94_1, fp_94_1, fg_94_2, fp_94_2, fg_94_3, fp_94_3, fg_94_4, fg_94_5, fg_94_6, fg_94_7, fg_94_8, fg_94_9, fg_94_10, fg_94_11, fg_94_12, fg_94_13, fg_94_14, fg_94_15, fp_94_15_0, fp_94_15_1, fg_94_16, fp_94_16, fg_94_17, fg_94_18, fg_94_19, fg_94_20, fg_94_21, fg_94_22, fg_94_23, fp_1_6, ob, nI_ltP (show k < 2147483648 by omega) (show K < 2147483648 by omega), show k < K by omega, if_true, nI_add, nI_1, pi_113 L s (show b + k < 24 by omega), gP]
    exact ih (k + 1) _ (by omega)
theorem l73_terms (d : Nat) (a0 a1 a2 a4 a5 a6 : Option Value) (c : Int32) (h : MH) (hp : 0 < pcn c) : rn (d + 1) 73 131 [a0, a1, a2, some (.int c), a4, a5, a6] [] h = rn (d + 1) 73 161 [a0, a1, a2, some (.int c), a4, some (.int (nI (pcn c))), a6] [] h := by
  rw [← (pcN_pcn c).1]
  simp only [e73_131, e73_132, e73_134, e73_137, e73_138, e73_141, e73_142, e73_145, e73_148, e73_149, e73_151, e73_154, e73_155, e73_158, e73_159, ob, tl1, r_pair, bz_eq0]
  by_cases h7 : c = 63
  · subst h7
    rfl
  · rw [if_neg h7]
    by_cases h5 : cPr c
    · rw [if_neg (Classical.not_not.mpr h5), pR2 h5]
    · rw [if_pos h5]
      by_cases h6 : c = 70
      · subst h6
        rfl
      · rw [if_neg h6]
        have : pcN c = 1 := by
          by_cases h1 : c = 33
          · subst h1; rfl
          · by_cases h2 : c = 80
            · subst h2; rfl
            · by_cases h3 : c = 87
              · subst h3; rfl
              · by_cases h4 : c = 67
                · subst h4; rfl
                · exact absurd (pn3 hp h1 h2 h3 h4 h5 h6) h7
        rw [this]
def gB_ (c : Int32) (m : Nat) : Nat := if c = 87 then m + 1 else m
def gW (c : Int32) (m : Nat) (s : St) : St := if c = 87 then sU s 113 m 0 else s
def gC (c : Int32) (N : Nat) (s : St) : St := if c = 67 then sU s 113 N 0 else s
def gN (c : Int32) (N : Nat) : Nat := if c = 67 then N + 1 else N
theorem G_push {d L n i m lv : Nat} {s : St} {R : Option (Option Value × MH)} (hn : n ≤ 24) (hl : s 94 1 = nI n) (hi : i < n) (hm : m ≤ 18) (hv1 : 1 ≤ lv) (hv6 : lv < 6) (h0 : s 113 m = nI lv) (hc : ¬ (cDig (s 95 i) ∨ cVar (s 95 i) ∨ cInp (s 95 i))) (hp : 0 < pcn (s 95 i)) (h : GR d L (gC (s 95 i) (gB_ (s 95 i) m + pcn (s 95 i)) (gP (gB_ (s 95 i) m) (nI (lv + 1)) (pcn (s 95 i)) 0 (gW (s 95 i) m (gD (gS s i 1) lv)))) (i + 1) (gN (s 95 i) (gB_ (s 95 i) m + pcn (s 95 i))) R) : GR d L s i (m + 1) R := by
  intro a3 a4 a5 a6
  have h6 : ¬ nI lv = 6 := fun z => by have := (nI_eq (b := 6) (show lv < 2147483648 by omega) (by decide)).mp z; omega
  have hpc := (pcN_pcn (s 95 i)).2
  rw [G_op hn hl hi (by omega) hv1 (by omega) h0 hc]
  generalize gD (gS s i 1) lv = s1 at h ⊢
  generalize s 95 i = c at h hp hpc ⊢
  simp only [e73_122, e73_124, e73_126, h6, if_false, l73_terms d _ _ _ _ _ _ c _ hp]
  have tail : ∀ (N : Nat) (s2 : St) (a6 : Option Value), N < 24 → GR d L (gC c N s2) (i + 1) (gN c N) R → rn (d + 1) 73 217 [some (.ref 94), some (.int (nI N)), some (.int (nI i)), some (.int c), some (.int (nI lv)), some (.int (nI (pcn c))), a6] [] (hH L s2) = R := by
    intro N s2 a6 hN hG
    unfold gC gN at hG
    by_cases q : c = 67
    · rw [if_pos q, if_pos q] at hG
      have hG' := hG (some (.int c)) (some (.int (nI lv))) (some (.int (nI (pcn c)))) a6
      simp only [e73_217, e73_218, e73_220, e73_223, e73_224, e73_227, e73_228, e73_229, e73_230, e73_231, e73_233, e73_236, e73_239, e73_242, cq_1, fg_1_0, fg_1_1, fp_1_1, fg_1_2, fp_1_2, fg_1_3, fg_1_4, fg_1_5, fg_1_6, fg_1_7, fp_1_7_0, fp_1_7_1, cq_78, fg_78_0, fg_78_1, cq_3, fg_3_0, fg_3_1, cq_80, fg_80_0, fg_80_1, fg_80_2, fg_80_3, fg_80_4, fg_80_5, fp_80_5, fg_80_6, fp_80_6, fg_80_7, fp_80_7, fg_80_8, fp_80_8, fg_80_9, fp_80_9, cq_94, fg_94_0, fg_94_1, fp_94_1, fg_94_2, fp_94_2, fg_94_3, fp_94_3, fg_94_4, fg_94_5, fg_94_6, fg_94_7, fg_94_8, fg_94_9, fg_94_10, fg_94_11, fg_94_12, fg_94_13, fg_94_14, fg_94_15, fp_94_15_0, fp_94_15_1, fg_94_16, fp_94_16, fg_94_17, fg_94_18, fg_94_19, fg_94_20, fg_94_21, fg_94_22, fg_94_23, fp_1_6, ob, q, if_true, pi_113 L s2 hN, nI_1] at hG' ⊢
      exact hG'
    · rw [if_neg q, if_neg q] at hG
      have hG' := hG (some (.int c)) (some (.int (nI lv))) (some (.int (nI (pcn c)))) a6
      simp only [e73_217, e73_218, e73_220, e73_223, e73_224, e73_227, e73_228, e73_229, e73_230, e73_231, e73_233, e73_236, e73_239, e73_242, q, if_false, nI_1]
      exact hG'
  have hmid : ∀ (b : Nat) (s2 : St), b ≤ 19 → GR d L (gC c (b + pcn c) (gP b (nI (lv + 1)) (pcn c) 0 s2)) (i + 1) (gN c (b + pcn c)) R → rn (d + 1) 73 183 [some (.ref 94), some (.int (nI b)), some (.int (nI i)), some (.int c), some (.int (nI lv)), some (.int (nI (pcn c))), a6] [] (hH L s2) = R := by
    intro b s2 hb hG
    have hpush := l73_push d L b lv (pcn c) (by omega) hv6 (some (.int (nI i))) (some (.int c)) (pcn c) 0 s2 (by omega)
    simp only [e73_183, e73_184]
    refine Eq.trans hpush ?_
    simp only [e73_212, e73_213, e73_215, e73_216, nI_add]
    exact tail _ _ _ (by omega) hG
  unfold gB_ gW at h
  by_cases q : c = 87
  · simp only [if_pos q] at h
    simp only [e73_161, e73_162, e73_164, e73_167, e73_168, e73_171, e73_172, e73_173, e73_174, e73_175, e73_177, e73_180, cq_1, fg_1_0, fg_1_1, fp_1_1, fg_1_2, fp_1_2, fg_1_3, fg_1_4, fg_1_5, fg_1_6, fg_1_7, fp_1_7_0, fp_1_7_1, cq_78, fg_78_0, fg_78_1, cq_3, fg_3_0, fg_3_1, cq_80, fg_80_0, fg_80_1, fg_80_2, fg_80_3, fg_80_4, fg_80_5, fp_80_5, fg_80_6, fp_80_6, fg_80_7, fp_80_7, fg_80_8, fp_80_8, fg_80_9, fp_80_9, cq_94, fg_94_0, fg_94_1, fp_94_1, fg_94_2, fp_94_2, fg_94_3, fp_94_3, fg_94_4, fg_94_5, fg_94_6, fg_94_7, fg_94_8, fg_94_9, fg_94_10, fg_94_11, fg_94_12, fg_94_13, fg_94_14, fg_94_15, fp_94_15_0, fp_94_15_1, fg_94_16, fp_94_16, fg_94_17, fg_94_18, fg_94_19, fg_94_20, fg_94_21, fg_94_22, fg_94_23, fp_1_6, ob, if_pos q, pi_113 L s1 (show m < 24 by omega), nI_1]
    exact hmid _ _ (by omega) h
  · simp only [if_neg q] at h
    simp only [e73_161, e73_162, e73_164, e73_167, e73_168, e73_171, e73_172, e73_173, e73_174, e73_175, e73_177, e73_180, if_neg q]
    exact hmid _ _ (by omega) h
theorem gP_113 {b : Nat} {x : Int32} : ∀ (r k : Nat) (s : St) (j : Nat), gP b x r k s 113 j = if b + k ≤ j ∧ j < b + k + r then x else s 113 j
  | 0, k, s, j => by rw [if_neg (by omega)]; rfl
  | r + 1, k, s, j => by
    rw [gP, gP_113 r]
    by_cases h : b + (k + 1) ≤ j ∧ j < b + (k + 1) + r
    · rw [if_pos h, if_pos (by omega)]
    · rw [if_neg h]
      by_cases h2 : j = b + k
      · subst h2
        rw [sU_same, if_pos (by omega)]
      · rw [sU_j _ _ _ _ h2, if_neg (by omega)]
theorem gP_off {b a j : Nat} {x : Int32} (ha : a ≠ 113) : ∀ (r k : Nat) (s : St), gP b x r k s a j = s a j
  | 0, _, _ => rfl
  | r + 1, k, s => by rw [gP, gP_off ha r, sU_a _ _ _ _ ha]
/-- good, from its start -/
theorem r_good {d L : Nat} {s : St} {R : Option (Option Value × MH)} (h : GR d L (sU (sU s 113 0 1) 94 3 0) 0 1 R) : rn (d + 1) 73 0 [some (.ref 94), none, none, none, none, none, none] [] (hH L s) = R := by
  have g0 : aputi (hH L s) 0 113 0 1 = some (hH L (sU s 113 0 1)) := pi_113 L s (k := 0) (by decide) 1
  simp only [e73_0, e73_1, e73_2, e73_3, e73_6, e73_7, e73_8, e73_9, e73_10, e73_11, e73_14, e73_15, cq_1, fg_1_0, fg_1_1, fp_1_1, fg_1_2, fp_1_2, fg_1_3, fg_1_4, fg_1_5, fg_1_6, fg_1_7, fp_1_7_0, fp_1_7_1, cq_78, fg_78_0, fg_78_1, cq_3, fg_3_0, fg_3_1, cq_80, fg_80_0, fg_80_1, fg_80_2, fg_80_3, fg_80_4, fg_80_5, fp_80_5, fg_80_6, fp_80_6, fg_80_7, fp_80_7, fg_80_8, fp_80_8, fg_80_9, fp_80_9, cq_94, fg_94_0, fg_94_1, fp_94_1, fg_94_2, fp_94_2, fg_94_3, fp_94_3, fg_94_4, fg_94_5, fg_94_6, fg_94_7, fg_94_8, fg_94_9, fg_94_10, fg_94_11, fg_94_12, fg_94_13, fg_94_14, fg_94_15, fp_94_15_0, fp_94_15_1, fg_94_16, fp_94_16, fg_94_17, fg_94_18, fg_94_19, fg_94_20, fg_94_21, fg_94_22, fg_94_23, fp_1_6, ob, g0]
  exact h none none none none
