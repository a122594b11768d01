/-! The reference: ends, define. -/
theorem pR2 {c : Int32} (h : cPr c) : pcN c = 2 := by
  rcases h with rfl | rfl | rfl | rfl | rfl | rfl <;> decide
theorem pR0 {c : Int32} (h1 : ¬ c = 33) (h2 : ¬ c = 80) (h3 : ¬ c = 87) (h4 : ¬ c = 67) (h5 : ¬ cPr c) (h6 : ¬ c = 70) (h7 : ¬ c = 63) : pcN c = 0 := by
  unfold cPr at h5
  unfold pcN
  simp only [not_or] at h5
  simp [h1, h2, h3, h4, h5, h6, h7]
theorem l74_terms (d : Nat) (a0 a1 a2 a3 a5 a6 a7 : Option Value) (c : Int32) (h : MH) : rn (d + 1) 74 33 [a0, a1, a2, a3, some (.int c), a5, a6, a7] [] h = rn (d + 1) 74 98 [a0, a1, a2, a3, some (.int c), a5, some (.int (pcN c)), a7] [] h := by
  simp only [e74_33, e74_35, e74_38, e74_41, e74_43, e74_45, e74_48, e74_49, e74_52, e74_54, e74_56, e74_59, e74_60, e74_63, e74_65, e74_67, e74_70, e74_72, e74_74, e74_77, e74_79, e74_81, e74_84, e74_86, e74_88, e74_91, e74_92, e74_95, e74_96, ob, tl1, r_pair, bz_eq0]
  by_cases h5 : cPr c
  · rw [if_neg (Classical.not_not.mpr h5), pR2 h5]
  · rw [if_pos h5]
    by_cases h6 : c = 70
    · subst h6
      rfl
    · rw [if_neg h6]
      by_cases h7 : c = 63
      · subst h7
        rfl
      · rw [if_neg h7]
        by_cases h1 : c = 33
        · subst h1
          rfl
        · rw [if_neg h1]
          by_cases h2 : c = 80
          · subst h2
            rfl
          · rw [if_neg h2]
            by_cases h3 : c = 87
            · subst h3
              rfl
            · rw [if_neg h3]
              by_cases h4 : c = 67
              · subst h4
                rfl
              · rw [if_neg h4, pR0 h1 h2 h3 h4 h5 h6 h7]
theorem l81_terms (d : Nat) (a0 a1 a2 a3 a4 a6 a7 a8 a9 a10 : Option Value) (c : Int32) (h : MH) : rn (d + 1) 81 117 [a0, a1, a2, a3, a4, some (.int c), a6, a7, a8, a9, a10] [] h = rn (d + 1) 81 182 [a0, a1, a2, a3, a4, some (.int c), a6, some (.int (pcN c)), a8, a9, a10] [] h := by
  simp only [e81_117, e81_119, e81_122, e81_125, e81_127, e81_129, e81_132, e81_133, e81_136, e81_138, e81_140, e81_143, e81_144, e81_147, e81_149, e81_151, e81_154, e81_156, e81_158, e81_161, e81_163, e81_165, e81_168, e81_170, e81_172, e81_175, e81_176, e81_179, e81_180, ob, tl1, r_pair, bz_eq0]
  by_cases h5 : cPr c
  · rw [if_neg (Classical.not_not.mpr h5), pR2 h5]
  · rw [if_pos h5]
    by_cases h6 : c = 70
    · subst h6
      rfl
    · rw [if_neg h6]
      by_cases h7 : c = 63
      · subst h7
        rfl
      · rw [if_neg h7]
        by_cases h1 : c = 33
        · subst h1
          rfl
        · rw [if_neg h1]
          by_cases h2 : c = 80
          · subst h2
            rfl
          · rw [if_neg h2]
            by_cases h3 : c = 87
            · subst h3
              rfl
            · rw [if_neg h3]
              by_cases h4 : c = 67
              · subst h4
                rfl
              · rw [if_neg h4, pR0 h1 h2 h3 h4 h5 h6 h7]
theorem l74_in (d L : Nat) (s : St) {v i K : Nat} (hv : v < 8) (en : Nat → Nat) (a2 a3 a4 : Option Value) (hK : K ≤ 3) (h : ∀ m, m < K → ch (tR s v) en i m < 24 ∧ s 98 (24 * v + ch (tR s v) en i m) = nI (en (ch (tR s v) en i m))) : ∀ (r k : Nat), k + r = K → rn d 74 111 [some (.ref 94), some (.int (nI v)), a2, a3, a4, some (.int (nI (ch (tR s v) en i k))), some (.int (nI K)), some (.int (nI k))] [] (hH L s) = rn d 74 138 [some (.ref 94), some (.int (nI v)), a2, a3, a4, some (.int (nI (ch (tR s v) en i K))), some (.int (nI K)), some (.int (nI K))] [] (hH L s) := by
  intro r
  induction r with
  | zero =>
    intro k hk
    have hk : k = K := by omega
    subst hk
    rw [e74_111]
    simp only [e74_113, e74_115, nI_ltP (show k < 2147483648 by omega) (show k < 2147483648 by omega), Nat.lt_irrefl, if_false]
  | succ r ih =>
    intro k hk
    obtain ⟨h1, h2⟩ := h k (by omega)
    rw [e74_111]
    simp only [e74_113, e74_115, e74_118, e74_119, e74_122, e74_123, e74_125, e74_126, e74_128, e74_129, e74_130, e74_132, e74_135, cq_1, fg_1_0, fg_1_1, fp_1_1, fg_1_2, fp_1_2, fg_1_3, fg_1_4, fg_1_5, fg_1_6, fg_1_7, fp_1_7_0, fp_1_7_1, cq_78, fg_78_0, fg_78_1, cq_3, fg_3_0, fg_3_1, cq_80, fg_80_0, fg_80_1, fg_80_2, fg_80_3, fg_80_4, fg_80_5, fp_80_5, fg_80_6, fp_80_6, fg_80_7, fp_80_7, fg_80_8, fp_80_8, fg_80_9, fp_80_9, cq_94, fg_94_0, fg_94_1, fp_94_1, fg_94_2, fp_94_2, fg_94_3, fp_94_3, fg_94_4, fg_94_5, fg_94_6, fg_94_7, fg_94_8, fg_94_9, fg_94_10, fg_94_11, fg_94_12, fg_94_13, fg_94_14, fg_94_15, fp_94_15_0, fp_94_15_1, fg_94_16, fp_94_16, fg_94_17, fg_94_18, fg_94_19, fg_94_20, fg_94_21, fg_94_22, fg_94_23, fp_1_6, ob, nI_ltP (show k < 2147483648 by omega) (show K < 2147483648 by omega), show k < K by omega, if_true, m24, gi_98 L s (show 24 * v + ch (tR s v) en i k < 192 by omega), h2, nI_1]
    exact ih (k + 1) (by omega)
def gE (isT : Nat → Bool) (en : Nat → Nat) (i : Nat) : Nat := if isT i = true then en i else i + 1
def feL (v : Nat) (g : Nat → Nat) : Nat → St → St
  | 0, s => s
  | i + 1, s => feL v g i (sU s 98 (24 * v + i) (nI (g i)))
theorem lr_findEnds (d L : Nat) {v n : Nat} (hv : v < 8) {isT : Nat → Bool} {en : Nat → Nat} : ∀ (i : Nat) (s : St) (a3 a4 a5 a6 a7 : Option Value), LineOK (tR s v) n isT en → i ≤ n → (∀ j, i ≤ j → j < n → s 98 (24 * v + j) = nI (gE isT en j)) → rn (d + 1) 74 9 [some (.ref 94), some (.int (nI v)), some (.int (nI i + (-1))), a3, a4, a5, a6, a7] [] (hH L s) = some (none, hH L (feL v (gE isT en) i s)) := by
  intro i
  induction i with
  | zero =>
    intro s a3 a4 a5 a6 a7 h hn hj
    have h0 : (nI 0 + (-1) : Int32) < 0 := by decide
    rw [e74_9]
    simp only [e74_10, e74_162, h0, if_true, feL]
  | succ i ih =>
    intro s a3 a4 a5 a6 a7 h hn hj
    have h24 := h.2.1
    have ht : s 96 (24 * v + i) = tR s v i := rfl
    rw [m1_nI, e74_9]
    simp only [e74_10, e74_13, e74_14, e74_16, e74_17, e74_18, e74_19, e74_20, e74_21, e74_24, e74_25, e74_26, e74_28, e74_29, e74_30, e74_31, cq_1, fg_1_0, fg_1_1, fp_1_1, fg_1_2, fp_1_2, fg_1_3, fg_1_4, fg_1_5, fg_1_6, fg_1_7, fp_1_7_0, fp_1_7_1, cq_78, fg_78_0, fg_78_1, cq_3, fg_3_0, fg_3_1, cq_80, fg_80_0, fg_80_1, fg_80_2, fg_80_3, fg_80_4, fg_80_5, fp_80_5, fg_80_6, fp_80_6, fg_80_7, fp_80_7, fg_80_8, fp_80_8, fg_80_9, fp_80_9, cq_94, fg_94_0, fg_94_1, fp_94_1, fg_94_2, fp_94_2, fg_94_3, fp_94_3, fg_94_4, fg_94_5, fg_94_6, fg_94_7, fg_94_8, fg_94_9, fg_94_10, fg_94_11, fg_94_12, fg_94_13, fg_94_14, fg_94_15, fp_94_15_0, fp_94_15_1, fg_94_16, fp_94_16, fg_94_17, fg_94_18, fg_94_19, fg_94_20, fg_94_21, fg_94_22, fg_94_23, fp_1_6, ob, nI_n0 (show i < 2147483648 by omega), if_false, m24, gi_96 L s (show 24 * v + i < 192 by omega), ht, nI_1, l74_terms]
    have hpc := pcN_pcn (tR s v i)
    have fin : ∀ (e : Nat) (a6 a7 : Option Value), (if tR s v i = 87 then e + 1 else e) = gE isT en i → rn (d + 1) 74 138 [some (.ref 94), some (.int (nI v)), some (.int (nI i)), some (.int (nI (24 * v + i))), some (.int (tR s v i)), some (.int (nI e)), a6, a7] [] (hH L s) = some (none, hH L (feL v (gE isT en) (i + 1) s)) := by
      intro e a6 a7 he
      have last : ∀ (e : Nat), e = gE isT en i → rn (d + 1) 74 148 [some (.ref 94), some (.int (nI v)), some (.int (nI i)), some (.int (nI (24 * v + i))), some (.int (tR s v i)), some (.int (nI e)), a6, a7] [] (hH L s) = some (none, hH L (feL v (gE isT en) (i + 1) s)) := by
        intro e he
        subst he
        simp only [e74_148, e74_149, e74_152, e74_153, e74_155, e74_156, e74_159, cq_1, fg_1_0, fg_1_1, fp_1_1, fg_1_2, fp_1_2, fg_1_3, fg_1_4, fg_1_5, fg_1_6, fg_1_7, fp_1_7_0, fp_1_7_1, cq_78, fg_78_0, fg_78_1, cq_3, fg_3_0, fg_3_1, cq_80, fg_80_0, fg_80_1, fg_80_2, fg_80_3, fg_80_4, fg_80_5, fp_80_5, fg_80_6, fp_80_6, fg_80_7, fp_80_7, fg_80_8, fp_80_8, fg_80_9, fp_80_9, cq_94, fg_94_0, fg_94_1, fp_94_1, fg_94_2, fp_94_2, fg_94_3, fp_94_3, fg_94_4, fg_94_5, fg_94_6, fg_94_7, fg_94_8, fg_94_9, fg_94_10, fg_94_11, fg_94_12, fg_94_13, fg_94_14, fg_94_15, fp_94_15_0, fp_94_15_1, fg_94_16, fp_94_16, fg_94_17, fg_94_18, fg_94_19, fg_94_20, fg_94_21, fg_94_22, fg_94_23, fp_1_6, ob, pi_98 L s (show 24 * v + i < 192 by omega), feL]
        refine ih _ _ _ _ _ _ ?_ (by omega) (fun j h1 h2 => ?_)
        · have e1 : tR (sU s 98 (24 * v + i) (nI (gE isT en i))) v = tR s v := funext (fun j => sU_a _ _ _ _ (by decide))
          rw [e1]
          exact h
        · by_cases hij : j = i
          · subst hij
            rw [sU_same]
          · rw [sU_j _ _ _ _ (by omega)]
            exact hj j (by omega) h2
      simp only [e74_138, e74_140, e74_142, e74_145, nI_1]
      by_cases q : tR s v i = 87
      · rw [if_pos q] at he ⊢
        exact last _ he
      · rw [if_neg q] at he ⊢
        exact last _ he
    have hch : ∀ m, m < pcn (tR s v i) → isT i = true → ch (tR s v) en i m < 24 ∧ s 98 (24 * v + ch (tR s v) en i m) = nI (en (ch (tR s v) en i m)) := by
      intro m hm hti
      have a := (h.2.2.2.2.2 i (by omega) hti).1 m hm
      have hge : ∀ m, m < pcn (tR s v i) → i < ch (tR s v) en i m := by
        intro m
        induction m with
        | zero =>
          intro _
          show i < c0 (tR s v) i
          unfold c0
          split <;> omega
        | succ m ihm =>
          intro hm1
          have b1 := ihm (by omega)
          have b2 := (h.2.2.2.2.2 i (by omega) hti).1 m (by omega)
          have b3 := (h.2.2.2.2.2 _ b2.1 b2.2).2.1
          show i < en (ch (tR s v) en i m)
          omega
      refine ⟨by omega, ?_⟩
      rw [hj _ (hge m hm) a.1]
      unfold gE
      rw [if_pos a.2]
    have mid : rn (d + 1) 74 98 [some (.ref 94), some (.int (nI v)), some (.int (nI i)), some (.int (nI (24 * v + i))), some (.int (tR s v i)), some (.int (nI (i + 1))), some (.int (pcN (tR s v i))), a7] [] (hH L s) = rn (d + 1) 74 111 [some (.ref 94), some (.int (nI v)), some (.int (nI i)), some (.int (nI (24 * v + i))), some (.int (tR s v i)), some (.int (nI (ch (tR s v) en i 0))), some (.int (nI (pcn (tR s v i)))), some (.int (nI 0))] [] (hH L s) := by
      rw [hpc.1]
      simp only [e74_98, e74_100, e74_102, e74_105, e74_108, e74_109, nI_1]
      have e0 : ch (tR s v) en i 0 = c0 (tR s v) i := rfl
      rw [e0]
      unfold c0
      by_cases q : tR s v i = 67
      · rw [if_pos q, if_pos q]
        rfl
      · rw [if_neg q, if_neg q]
        rfl
    rw [mid]
    cases hti : isT i with
    | true =>
      rw [l74_in (d + 1) L s hv en _ _ _ hpc.2 (fun m hm => hch m hm hti) (pcn (tR s v i)) 0 (by omega)]
      refine fin _ _ _ ?_
      have a := (h.2.2.2.2.2 i (by omega) hti).2.2.2.1
      unfold gE
      rw [if_pos hti, a]
      split <;> rfl
    | false =>
      have cv : ¬ tR s v i < 97 ∧ tR s v i < 105 := (h.2.2.2.2.1 i (by omega) hti).1
      have n67 : ¬ tR s v i = 67 := fun z => by rw [z] at cv; exact nv67 cv
      have n87 : ¬ tR s v i = 87 := fun z => by rw [z] at cv; exact nv87 cv
      have hp0 : pcn (tR s v i) = 0 := by
        have : pcN (tR s v i) = 0 := by
          refine pR0 ?_ ?_ n87 n67 ?_ ?_ ?_
          · intro z; rw [z] at cv; exact absurd cv (by decide)
          · intro z; rw [z] at cv; exact absurd cv (by decide)
          · intro z
            rcases z with z | z | z | z | z | z <;> (rw [z] at cv; exact absurd cv (by decide))
          · intro z; rw [z] at cv; exact absurd cv (by decide)
          · intro z; rw [z] at cv; exact absurd cv (by decide)
        unfold pcn
        rw [this]
        rfl
      rw [hp0, l74_in (d + 1) L s hv en _ _ _ (by decide) (fun m hm => absurd hm (by omega)) 0 0 (by omega)]
      refine fin _ _ _ ?_
      have e0 : ch (tR s v) en i 0 = i + 1 := if_neg n67
      unfold gE
      rw [if_neg n87, if_neg (by rw [hti]; decide), e0]
theorem r_findEnds (d L : Nat) (s : St) {v n : Nat} (hv : v < 8) {isT : Nat → Bool} {en : Nat → Nat} (h : LineOK (tR s v) n isT en) (hl : s 97 v = nI n) : rn (d + 1) 74 0 [some (.ref 94), some (.int (nI v)), none, none, none, none, none, none] [] (hH L s) = some (none, hH L (feL v (gE isT en) n s)) := by
  have h1 : nI n - 1 = nI n + (-1) := Int32.sub_eq_add_neg ..
  simp only [e74_0, e74_1, e74_4, e74_5, e74_6, e74_7, e74_8, cq_1, fg_1_0, fg_1_1, fp_1_1, fg_1_2, fp_1_2, fg_1_3, fg_1_4, fg_1_5, fg_1_6, fg_1_7, fp_1_7_0, fp_1_7_1, cq_78, fg_78_0, fg_78_1, cq_3, fg_3_0, fg_3_1, cq_80, fg_80_0, fg_80_1, fg_80_2, fg_80_3, fg_80_4, fg_80_5, fp_80_5, fg_80_6, fp_80_6, fg_80_7, fp_80_7, fg_80_8, fp_80_8, fg_80_9, fp_80_9, cq_94, fg_94_0, fg_94_1, fp_94_1, fg_94_2, fp_94_2, fg_94_3, fp_94_3, fg_94_4, fg_94_5, fg_94_6, fg_94_7, fg_94_8, fg_94_9, fg_94_10, fg_94_11, fg_94_12, fg_94_13, fg_94_14, fg_94_15, fp_94_15_0, fp_94_15_1, fg_94_16, fp_94_16, fg_94_17, fg_94_18, fg_94_19, fg_94_20, fg_94_21, fg_94_22, fg_94_23, fp_1_6, ob, gi_97 L s hv, hl, h1]
  exact lr_findEnds d L hv n s _ _ _ _ _ h (Nat.le_refl n) (fun j h1 h2 => absurd h2 (by omega))
/-- the line is taken over -/
def dcL (v : Nat) : Nat → Nat → St → St
  | 0, _, s => s
  | r + 1, i, s => dcL v r (i + 1) (sU (sU s 96 (24 * v + i) (s 95 i)) 103 (24 * v + i) (s 104 i))
theorem lr_copy (d L : Nat) {v n : Nat} (hv : v < 8) (hn : n ≤ 24) (a3 a4 : Option Value) : ∀ (r i : Nat) (s : St), i + r = n → (∀ j, j < n → s 104 j = 0 ∨ s 104 j = 1) → rn d 72 56 [some (.ref 94), some (.int (nI v)), some (.int (nI n)), a3, a4, some (.int (nI i))] [] (hH L s) = rn d 72 106 [some (.ref 94), some (.int (nI v)), some (.int (nI n)), a3, a4, some (.int (nI n))] [] (hH L (dcL v r i s)) := by
  intro r
  induction r with
  | zero =>
    intro i s hi h
    have hi : i = n := by omega
    subst hi
    rw [e72_56]
    simp only [e72_58, e72_59, nI_ltP (show i < 2147483648 by omega) (show i < 2147483648 by omega), Nat.lt_irrefl, if_false, dcL]
  | succ r ih =>
    intro i s hi h
    have hz : s 104 i &&& 1 = s 104 i := by
      rcases h i (by omega) with z | z <;> rw [z] <;> rfl
    rw [e72_56]
    simp only [e72_58, e72_59, e72_62, e72_63, e72_66, e72_67, e72_69, e72_70, e72_72, e72_73, e72_74, e72_77, e72_79, e72_80, e72_81, e72_82, e72_85, e72_86, e72_88, e72_89, e72_91, e72_92, e72_93, e72_96, e72_98, e72_99, e72_99q0, e72_99q1, e72_100, e72_103, cq_1, fg_1_0, fg_1_1, fp_1_1, fg_1_2, fp_1_2, fg_1_3, fg_1_4, fg_1_5, fg_1_6, fg_1_7, fp_1_7_0, fp_1_7_1, cq_78, fg_78_0, fg_78_1, cq_3, fg_3_0, fg_3_1, cq_80, fg_80_0, fg_80_1, fg_80_2, fg_80_3, fg_80_4, fg_80_5, fp_80_5, fg_80_6, fp_80_6, fg_80_7, fp_80_7, fg_80_8, fp_80_8, fg_80_9, fp_80_9, cq_94, fg_94_0, fg_94_1, fp_94_1, fg_94_2, fp_94_2, fg_94_3, fp_94_3, fg_94_4, fg_94_5, fg_94_6, fg_94_7, fg_94_8, fg_94_9, fg_94_10, fg_94_11, fg_94_12, fg_94_13, fg_94_14, fg_94_15, fp_94_15_0, fp_94_15_1, fg_94_16, fp_94_16, fg_94_17, fg_94_18, fg_94_19, fg_94_20, fg_94_21, fg_94_22, fg_94_23, fp_1_6, ob, nI_ltP (show i < 2147483648 by omega) (show n < 2147483648 by omega), show i < n by omega, if_true, m24, gi_95 L s (show i < 24 by omega), pi_96 L s (show 24 * v + i < 192 by omega), gi_104 L _ (show i < 24 by omega), sU_a s _ i _ (show 104 ≠ 96 by decide), hz, eq_self, pi_103 L _ (show 24 * v + i < 192 by omega), nI_1, dcL]
    refine ih (i + 1) _ (by omega) (fun j hj => ?_)
    rw [sU_a _ _ _ _ (by decide), sU_a _ _ _ _ (by decide)]
    exact h j hj
theorem dcL_off {v b j : Nat} (h1 : b ≠ 96) (h2 : b ≠ 103) : ∀ (r i : Nat) (s : St), dcL v r i s b j = s b j
  | 0, _, _ => rfl
  | r + 1, i, s => by rw [dcL, dcL_off h1 h2 r, sU_a _ _ _ _ h2, sU_a _ _ _ _ h1]
theorem feL_off {v b j : Nat} {g : Nat → Nat} (h1 : b ≠ 98) : ∀ (i : Nat) (s : St), feL v g i s b j = s b j
  | 0, _ => rfl
  | i + 1, s => by rw [feL, feL_off h1 i, sU_a _ _ _ _ h1]
theorem feL_98 {v : Nat} {g : Nat → Nat} : ∀ (i : Nat) (s : St) (j : Nat), feL v g i s 98 j = if 24 * v ≤ j ∧ j < 24 * v + i then nI (g (j - 24 * v)) else s 98 j
  | 0, s, j => by rw [if_neg (by omega)]; rfl
  | i + 1, s, j => by
    rw [feL, feL_98 i]
    by_cases h : 24 * v ≤ j ∧ j < 24 * v + i
    · rw [if_pos h, if_pos (by omega)]
    · rw [if_neg h]
      by_cases h2 : j = 24 * v + i
      · subst h2
        rw [sU_same, if_pos (by omega)]
        congr 2
        omega
      · rw [sU_j _ _ _ _ h2, if_neg (by omega)]
theorem dcL_96 {v : Nat} : ∀ (r i : Nat) (s : St) (j : Nat), dcL v r i s 96 j = if 24 * v + i ≤ j ∧ j < 24 * v + i + r then s 95 (j - 24 * v) else s 96 j
  | 0, i, s, j => by rw [if_neg (by omega)]; rfl
  | r + 1, i, s, j => by
    rw [dcL, dcL_96 r, sU_a _ _ _ _ (show 95 ≠ 103 by decide), sU_a _ _ _ _ (show 95 ≠ 96 by decide), sU_a _ _ _ _ (show 96 ≠ 103 by decide)]
    by_cases h : 24 * v + (i + 1) ≤ j ∧ j < 24 * v + (i + 1) + r
    · rw [if_pos h, if_pos (by omega)]
    · rw [if_neg h]
      by_cases h2 : j = 24 * v + i
      · subst h2
        rw [sU_same, if_pos (by omega)]
        congr 1
        omega
      · rw [sU_j _ _ _ _ h2, if_neg (by omega)]
theorem dcL_103 {v : Nat} : ∀ (r i : Nat) (s : St) (j : Nat), dcL v r i s 103 j = if 24 * v + i ≤ j ∧ j < 24 * v + i + r then s 104 (j - 24 * v) else s 103 j
  | 0, i, s, j => by rw [if_neg (by omega)]; rfl
  | r + 1, i, s, j => by
    rw [dcL, dcL_103 r, sU_a _ _ _ _ (show 104 ≠ 103 by decide), sU_a _ _ _ _ (show 104 ≠ 96 by decide)]
    by_cases h : 24 * v + (i + 1) ≤ j ∧ j < 24 * v + (i + 1) + r
    · rw [if_pos h, if_pos (by omega)]
    · rw [if_neg h]
      by_cases h2 : j = 24 * v + i
      · subst h2
        rw [sU_same, if_pos (by omega)]
        congr 1
        omega
      · rw [sU_j _ _ _ _ h2, sU_a _ _ _ _ (by decide), if_neg (by omega)]
theorem ch_congr {t t' : Nat → Int32} {en : Nat → Nat} {i : Nat} (h : t' i = t i) : ∀ k, ch t' en i k = ch t en i k
  | 0 => by
    show c0 t' i = c0 t i
    unfold c0
    rw [h]
  | k + 1 => by
    show en (ch t' en i k) = en (ch t en i k)
    rw [ch_congr h k]
theorem LineOK_congr {t t' : Nat → Int32} {n : Nat} {isT : Nat → Bool} {en : Nat → Nat} (h : ∀ j, j < n → t' j = t j) (hk : LineOK t n isT en) : LineOK t' n isT en := by
  obtain ⟨h1, h2, h3, h4, h5, h6⟩ := hk
  refine ⟨h1, h2, h3, h4, fun i hi ht => ?_, fun i hi ht => ?_⟩
  · obtain ⟨a, o, ho, b, c⟩ := h5 i hi ht
    exact ⟨by rw [h i hi]; exact a, o, ho, b, by rw [h o ho]; exact c⟩
  · have e := h i hi
    have ec : ∀ k, ch t' en i k = ch t en i k := ch_congr e
    simp only [e, ec]
    exact h6 i hi ht
def dfR (s s' : St) (v n : Nat) (isT : Nat → Bool) (en : Nat → Nat) : St := sU (feL v (gE isT en) n (dcL v n 0 (sU (sU (sU s' 94 1 0) 94 2 (s 94 2)) 97 v (nI n)))) 94 15 0
theorem r_define (d L : Nat) (s s' : St) {v n : Nat} (hv : v < 8) (hn : n ≤ 24) (hl : s 94 1 = nI n) {isT : Nat → Bool} {en : Nat → Nat} (hg : rn (d + 1) 73 0 [some (.ref 94), none, none, none, none, none, none] [] (hH L s) = some (some (.int 1), hH L s')) (hk : LineOK (s' 95) n isT en) (ht : ∀ i, i < n → s' 104 i = bI (isT i)) : rn (d + 2) 72 0 [some (.ref 94), some (.int (nI v)), none, none, none, none] [] (hH L s) = some (some (.int (s' 94 3)), hH L (dfR s s' v n isT en)) := by
  have c2 : nI v < 8 := nI_lt hv (by decide)
  have hb : ∀ j, j < n → sU (sU (sU s' 94 1 0) 94 2 (s 94 2)) 97 v (nI n) 104 j = 0 ∨ sU (sU (sU s' 94 1 0) 94 2 (s 94 2)) 97 v (nI n) 104 j = 1 := by
    intro j hj
    rw [sU_a _ _ _ _ (by decide), sU_a _ _ _ _ (by decide), sU_a _ _ _ _ (by decide), ht j hj]
    cases isT j
    · exact Or.inl rfl
    · exact Or.inr rfl
  have hcp := lr_copy (d + 2) L hv hn (some (.int (s 94 2))) (some (.int 1)) n 0 _ (by omega) hb
  have ht2 : tR (dcL v n 0 (sU (sU (sU s' 94 1 0) 94 2 (s 94 2)) 97 v (nI n))) v = fun j => if j < n then s' 95 j else s' 96 (24 * v + j) := by
    funext j
    show dcL v n 0 _ 96 (24 * v + j) = _
    rw [dcL_96, sU_a _ _ _ _ (by decide), sU_a _ _ _ _ (by decide), sU_a _ _ _ _ (by decide), sU_a _ _ _ _ (by decide), sU_a _ _ _ _ (by decide), sU_a _ _ _ _ (by decide)]
    by_cases hj : j < n
    · rw [if_pos (by omega), if_pos hj]
      congr 1
      omega
    · rw [if_neg (by omega), if_neg hj]
  have hL : LineOK (tR (dcL v n 0 (sU (sU (sU s' 94 1 0) 94 2 (s 94 2)) 97 v (nI n))) v) n isT en := by
    rw [ht2]
    exact LineOK_congr (fun j hj => if_pos hj) hk
  have h97 : dcL v n 0 (sU (sU (sU s' 94 1 0) 94 2 (s 94 2)) 97 v (nI n)) 97 v = nI n := by
    rw [dcL_off (by decide) (by decide), sU_same]
  have hfe := r_findEnds d L _ hv hL h97
  have hcp' : rn (d + 2) 72 56 [some (.ref 94), some (.int (nI v)), some (.int (nI n)), some (.int (s 94 2)), some (.int 1), some (.int 0)] [] (hH L (sU (sU (sU s' 94 1 0) 94 2 (s 94 2)) 97 v (nI n))) = rn (d + 2) 72 106 [some (.ref 94), some (.int (nI v)), some (.int (nI n)), some (.int (s 94 2)), some (.int 1), some (.int (nI n))] [] (hH L (dcL v n 0 (sU (sU (sU s' 94 1 0) 94 2 (s 94 2)) 97 v (nI n)))) := hcp
  have h3 : ∀ x, sU (feL v (gE isT en) n (dcL v n 0 (sU (sU (sU s' 94 1 0) 94 2 (s 94 2)) 97 v (nI n)))) 94 15 x 94 3 = s' 94 3 := by
    intro x
    rw [sU_j _ _ _ _ (by decide), feL_off (by decide), dcL_off (by decide) (by decide), sU_a _ _ _ _ (by decide), sU_j _ _ _ _ (by decide), sU_j _ _ _ _ (by decide)]
  simp only [e72_0, e72_1, e72_4, e72_5, e72_7, e72_10, e72_11, e72_12, e72_13, e72_16, e72_17, e72_18, e72_21, e72_22, e72_23, e72_26, e72_28, e72_29, e72_30, e72_33, e72_35, cq_1, fg_1_0, fg_1_1, fp_1_1, fg_1_2, fp_1_2, fg_1_3, fg_1_4, fg_1_5, fg_1_6, fg_1_7, fp_1_7_0, fp_1_7_1, cq_78, fg_78_0, fg_78_1, cq_3, fg_3_0, fg_3_1, cq_80, fg_80_0, fg_80_1, fg_80_2, fg_80_3, fg_80_4, fg_80_5, fp_80_5, fg_80_6, fp_80_6, fg_80_7, fp_80_7, fg_80_8, fp_80_8, fg_80_9, fp_80_9, cq_94, fg_94_0, fg_94_1, fp_94_1, fg_94_2, fp_94_2, fg_94_3, fp_94_3, fg_94_4, fg_94_5, fg_94_6, fg_94_7, fg_94_8, fg_94_9, fg_94_10, fg_94_11, fg_94_12, fg_94_13, fg_94_14, fg_94_15, fp_94_15_0, fp_94_15_1, fg_94_16, fp_94_16, fg_94_17, fg_94_18, fg_94_19, fg_94_20, fg_94_21, fg_94_22, fg_94_23, fp_1_6, cq_94, eq_self, ob, tl1, nI_n0 (show v < 2147483648 by omega), if_false, g7, c2, not_true, hl, hg, i10]
  simp only [e72_41, e72_42, e72_43, e72_46, e72_47, e72_50, e72_51, e72_52, e72_53, e72_54, cq_1, fg_1_0, fg_1_1, fp_1_1, fg_1_2, fp_1_2, fg_1_3, fg_1_4, fg_1_5, fg_1_6, fg_1_7, fp_1_7_0, fp_1_7_1, cq_78, fg_78_0, fg_78_1, cq_3, fg_3_0, fg_3_1, cq_80, fg_80_0, fg_80_1, fg_80_2, fg_80_3, fg_80_4, fg_80_5, fp_80_5, fg_80_6, fp_80_6, fg_80_7, fp_80_7, fg_80_8, fp_80_8, fg_80_9, fp_80_9, cq_94, fg_94_0, fg_94_1, fp_94_1, fg_94_2, fp_94_2, fg_94_3, fp_94_3, fg_94_4, fg_94_5, fg_94_6, fg_94_7, fg_94_8, fg_94_9, fg_94_10, fg_94_11, fg_94_12, fg_94_13, fg_94_14, fg_94_15, fp_94_15_0, fp_94_15_1, fg_94_16, fp_94_16, fg_94_17, fg_94_18, fg_94_19, fg_94_20, fg_94_21, fg_94_22, fg_94_23, fp_1_6, ob, pi_97 L _ hv]
  rw [hcp']
  simp only [e72_106, e72_107, e72_108, e72_111, e72_112, e72_113, e72_116, e72_117, e72_120, cq_1, fg_1_0, fg_1_1, fp_1_1, fg_1_2, fp_1_2, fg_1_3, fg_1_4, fg_1_5, fg_1_6, fg_1_7, fp_1_7_0, fp_1_7_1, cq_78, fg_78_0, fg_78_1, cq_3, fg_3_0, fg_3_1, cq_80, fg_80_0, fg_80_1, fg_80_2, fg_80_3, fg_80_4, fg_80_5, fp_80_5, fg_80_6, fp_80_6, fg_80_7, fp_80_7, fg_80_8, fp_80_8, fg_80_9, fp_80_9, cq_94, fg_94_0, fg_94_1, fp_94_1, fg_94_2, fp_94_2, fg_94_3, fp_94_3, fg_94_4, fg_94_5, fg_94_6, fg_94_7, fg_94_8, fg_94_9, fg_94_10, fg_94_11, fg_94_12, fg_94_13, fg_94_14, fg_94_15, fp_94_15_0, fp_94_15_1, fg_94_16, fp_94_16, fg_94_17, fg_94_18, fg_94_19, fg_94_20, fg_94_21, fg_94_22, fg_94_23, fp_1_6, cq_94, eq_self, ob, tl0, hfe, h3, dfR]
theorem r_defineS (d L : Nat) (s s' : St) {v : Nat} (hv : v < 8) (hg : rn (d + 1) 73 0 [some (.ref 94), none, none, none, none, none, none] [] (hH L s) = some (some (.int 0), hH L s')) : rn (d + 2) 72 0 [some (.ref 94), some (.int (nI v)), none, none, none, none] [] (hH L s) = some (some (.int (-3)), hH L (sU s' 94 1 0)) := by
  have c2 : nI v < 8 := nI_lt hv (by decide)
  simp only [e72_0, e72_1, e72_4, e72_5, e72_7, e72_10, e72_11, e72_12, e72_13, e72_16, e72_17, e72_18, e72_21, e72_22, e72_23, e72_26, e72_28, e72_29, e72_30, e72_33, e72_35, e72_38, e72_40, cq_1, fg_1_0, fg_1_1, fp_1_1, fg_1_2, fp_1_2, fg_1_3, fg_1_4, fg_1_5, fg_1_6, fg_1_7, fp_1_7_0, fp_1_7_1, cq_78, fg_78_0, fg_78_1, cq_3, fg_3_0, fg_3_1, cq_80, fg_80_0, fg_80_1, fg_80_2, fg_80_3, fg_80_4, fg_80_5, fp_80_5, fg_80_6, fp_80_6, fg_80_7, fp_80_7, fg_80_8, fp_80_8, fg_80_9, fp_80_9, cq_94, fg_94_0, fg_94_1, fp_94_1, fg_94_2, fp_94_2, fg_94_3, fp_94_3, fg_94_4, fg_94_5, fg_94_6, fg_94_7, fg_94_8, fg_94_9, fg_94_10, fg_94_11, fg_94_12, fg_94_13, fg_94_14, fg_94_15, fp_94_15_0, fp_94_15_1, fg_94_16, fp_94_16, fg_94_17, fg_94_18, fg_94_19, fg_94_20, fg_94_21, fg_94_22, fg_94_23, fp_1_6, cq_94, eq_self, ob, tl1, nI_n0 (show v < 2147483648 by omega), if_false, g7, c2, not_true, hg, if_true]
theorem r_defineN (d L : Nat) (s : St) {v : Int32} (hv : ¬ (¬ v < 0 ∧ v < 8)) : rn (d + 2) 72 0 [some (.ref 94), some (.int v), none, none, none, none] [] (hH L s) = some (some (.int (-1)), hH L s) := by
  simp only [e72_0, e72_1, e72_4, e72_5, e72_7, e72_10, e72_11, g7]
  by_cases h1 : v < 0
  · simp only [h1, if_true]
  · have h2 : ¬ v < 8 := fun z => hv ⟨h1, z⟩
    simp only [h1, h2, if_false, not_false_eq_true, if_true]
/-! good: a place at a time. -/
def GR (d L : Nat) (s : St) (i N : Nat) (R : Option (Option Value × MH)) : Prop := ∀ a3 a4 a5 a6, rn (d + 1) 73 16 [some (.ref 94), some (.int (nI N)), some (.int (nI i)), a3, a4, a5, a6] [] (hH L s) = R
theorem G_end {d L n : Nat} {s : St} (hn : n ≤ 24) (hl : s 94 1 = nI n) {N : Nat} (hN : N < 2147483648) : GR d L s n N (some (some (.int (if N = 0 then 1 else 0)), hH L (sU s 94 2 (nI n)))) := by
  intro a3 a4 a5 a6
  simp only [e73_16, e73_17, e73_18, e73_21, cq_1, fg_1_0, fg_1_1, fp_1_1, fg_1_2, fp_1_2, fg_1_3, fg_1_4, fg_1_5, fg_1_6, fg_1_7, fp_1_7_0, fp_1_7_1, cq_78, fg_78_0, fg_78_1, cq_3, fg_3_0, fg_3_1, cq_80, fg_80_0, fg_80_1, fg_80_2, fg_80_3, fg_80_4, fg_80_5, fp_80_5, fg_80_6, fp_80_6, fg_80_7, fp_80_7, fg_80_8, fp_80_8, fg_80_9, fp_80_9, cq_94, fg_94_0, fg_94_1, fp_94_1, fg_94_2, fp_94_2, fg_94_3, fp_94_3, fg_94_4, fg_94_5, fg_94_6, fg_94_7, fg_94_8, fg_94_9, fg_94_10, fg_94_11, fg_94_12, fg_94_13, fg_94_14, fg_94_15, fp_94_15_0, fp_94_15_1, fg_94_16, fp_94_16, fg_94_17, fg_94_18, fg_94_19, fg_94_20, fg_94_21, fg_94_22, fg_94_23, fp_1_6, ob, hl, nI_ltP (show n < 2147483648 by omega) (show n < 2147483648 by omega), Nat.lt_irrefl, if_false]
  simp only [e73_245, e73_246, e73_247, e73_250, e73_253, e73_254, e73_257, e73_258, e73_261, e73_262, e73_262q0, e73_262q1, cq_1, fg_1_0, fg_1_1, fp_1_1, fg_1_2, fp_1_2, fg_1_3, fg_1_4, fg_1_5, fg_1_6, fg_1_7, fp_1_7_0, fp_1_7_1, cq_78, fg_78_0, fg_78_1, cq_3, fg_3_0, fg_3_1, cq_80, fg_80_0, fg_80_1, fg_80_2, fg_80_3, fg_80_4, fg_80_5, fp_80_5, fg_80_6, fp_80_6, fg_80_7, fp_80_7, fg_80_8, fp_80_8, fg_80_9, fp_80_9, cq_94, fg_94_0, fg_94_1, fp_94_1, fg_94_2, fp_94_2, fg_94_3, fp_94_3, fg_94_4, fg_94_5, fg_94_6, fg_94_7, fg_94_8, fg_94_9, fg_94_10, fg_94_11, fg_94_12, fg_94_13, fg_94_14, fg_94_15, fp_94_15_0, fp_94_15_1, fg_94_16, fp_94_16, fg_94_17, fg_94_18, fg_94_19, fg_94_20, fg_94_21, fg_94_22, fg_94_23, fp_1_6, ob, hl]
  by_cases q : N = 0
  · subst q
    rfl
  · have q2 : ¬ nI N = 0 := fun z => q ((nI_eq (b := 0) hN (by decide)).mp z)
    rw [if_neg q2, if_neg q]
theorem G_zero {d L n i : Nat} {s : St} (hn : n ≤ 24) (hl : s 94 1 = nI n) (hi : i < n) : GR d L s i 0 (some (some (.int 0), hH L (sU s 94 2 (nI i)))) := by
  intro a3 a4 a5 a6
  have h0 : nI 0 = 0 := rfl
  simp only [e73_16, e73_17, e73_18, e73_21, e73_24, e73_25, e73_26, e73_29, e73_30, e73_33, e73_34, e73_34q0, e73_34q1, cq_1, fg_1_0, fg_1_1, fp_1_1, fg_1_2, fp_1_2, fg_1_3, fg_1_4, fg_1_5, fg_1_6, fg_1_7, fp_1_7_0, fp_1_7_1, cq_78, fg_78_0, fg_78_1, cq_3, fg_3_0, fg_3_1, cq_80, fg_80_0, fg_80_1, fg_80_2, fg_80_3, fg_80_4, fg_80_5, fp_80_5, fg_80_6, fp_80_6, fg_80_7, fp_80_7, fg_80_8, fp_80_8, fg_80_9, fp_80_9, cq_94, fg_94_0, fg_94_1, fp_94_1, fg_94_2, fp_94_2, fg_94_3, fp_94_3, fg_94_4, fg_94_5, fg_94_6, fg_94_7, fg_94_8, fg_94_9, fg_94_10, fg_94_11, fg_94_12, fg_94_13, fg_94_14, fg_94_15, fp_94_15_0, fp_94_15_1, fg_94_16, fp_94_16, fg_94_17, fg_94_18, fg_94_19, fg_94_20, fg_94_21, fg_94_22, fg_94_23, fp_1_6, ob, hl, nI_ltP (show i < 2147483648 by omega) (show n < 2147483648 by omega), hi, if_true, h0]
/-- the place's number is noted, and whether it is a TERM -/
def gS (s : St) (i : Nat) (b : Int32) : St := sU (sU s 94 2 (nI i)) 104 i b
theorem G_pre {d L n i m : Nat} {s : St} (hn : n ≤ 24) (hl : s 94 1 = nI n) (hi : i < n) (hm : m < 24) (a3 a4 a5 a6 : Option Value) : rn (d + 1) 73 16 [some (.ref 94), some (.int (nI (m + 1))), some (.int (nI i)), a3, a4, a5, a6] [] (hH L s) = rn (d + 1) 73 69 [some (.ref 94), some (.int (nI m)), some (.int (nI i)), some (.int (s 95 i)), some (.int (s 113 m)), a5, a6] [] (hH L (gS s i (if 0 < s 113 m then 1 else 0))) := by
  have q2 : ¬ nI (m + 1) = 0 := fun z => by have := (nI_eq (b := 0) (show m + 1 < 2147483648 by omega) (by decide)).mp z; omega
  simp only [e73_16, e73_17, e73_18, e73_21, e73_24, e73_25, e73_26, e73_29, e73_30, e73_33, e73_34, e73_34q0, e73_34q1, e73_35, e73_38, e73_39, e73_42, e73_43, e73_44, e73_45, e73_46, e73_49, e73_50, e73_51, e73_53, e73_54, e73_57, e73_58, e73_60, e73_63, e73_64, e73_67, e73_68, e73_68q0, e73_68q1, cq_1, fg_1_0, fg_1_1, fp_1_1, fg_1_2, fp_1_2, fg_1_3, fg_1_4, fg_1_5, fg_1_6, fg_1_7, fp_1_7_0, fp_1_7_1, cq_78, fg_78_0, fg_78_1, cq_3, fg_3_0, fg_3_1, cq_80, fg_80_0, fg_80_1, fg_80_2, fg_80_3, fg_80_4, fg_80_5, fp_80_5, fg_80_6, fp_80_6, fg_80_7, fp_80_7, fg_80_8, fp_80_8, fg_80_9, fp_80_9, cq_94, fg_94_0, fg_94_1, fp_94_1, fg_94_2, fp_94_2, fg_94_3, fp_94_3, fg_94_4, fg_94_5, fg_94_6, fg_94_7, fg_94_8, fg_94_9, fg_94_10, fg_94_11, fg_94_12, fg_94_13, fg_94_14, fg_94_15, fp_94_15_0, fp_94_15_1, fg_94_16, fp_94_16, fg_94_17, fg_94_18, fg_94_19, fg_94_20, fg_94_21, fg_94_22, fg_94_23, fp_1_6, ob, hl, nI_ltP (show i < 2147483648 by omega) (show n < 2147483648 by omega), hi, if_true, q2, if_false, m1_nI, gi_95 L _ (show i < 24 by omega), gi_113 L _ hm, sU_a s _ _ _ (show 95 ≠ 94 by decide), sU_a s _ _ _ (show 113 ≠ 94 by decide)]
  by_cases q : 0 < s 113 m
  · rw [if_pos q]
    simp only [e73_63, e73_64, e73_67, e73_68, e73_68q0, e73_68q1, cq_1, fg_1_0, fg_1_1, fp_1_1, fg_1_2, fp_1_2, fg_1_3, fg_1_4, fg_1_5, fg_1_6, fg_1_7, fp_1_7_0, fp_1_7_1, cq_78, fg_78_0, fg_78_1, cq_3, fg_3_0, fg_3_1, cq_80, fg_80_0, fg_80_1, fg_80_2, fg_80_3, fg_80_4, fg_80_5, fp_80_5, fg_80_6, fp_80_6, fg_80_7, fp_80_7, fg_80_8, fp_80_8, fg_80_9, fp_80_9, cq_94, fg_94_0, fg_94_1, fp_94_1, fg_94_2, fp_94_2, fg_94_3, fp_94_3, fg_94_4, fg_94_5, fg_94_6, fg_94_7, fg_94_8, fg_94_9, fg_94_10, fg_94_11, fg_94_12, fg_94_13, fg_94_14, fg_94_15, fp_94_15_0, fp_94_15_1, fg_94_16, fp_94_16, fg_94_17, fg_94_18, fg_94_19, fg_94_20, fg_94_21, fg_94_22, fg_94_23, fp_1_6, ob, pi_104 L _ (show i < 24 by omega), if_pos q, gS]
  · rw [if_neg q]
    simp only [e73_63, e73_64, e73_67, e73_68, e73_68q0, e73_68q1, cq_1, fg_1_0, fg_1_1, fp_1_1, fg_1_2, fp_1_2, fg_1_3, fg_1_4, fg_1_5, fg_1_6, fg_1_7, fp_1_7_0, fp_1_7_1, cq_78, fg_78_0, fg_78_1, cq_3, fg_3_0, fg_3_1, cq_80, fg_80_0, fg_80_1, fg_80_2, fg_80_3, fg_80_4, fg_80_5, fp_80_5, fg_80_6, fp_80_6, fg_80_7, fp_80_7, fg_80_8, fp_80_8, fg_80_9, fp_80_9, cq_94, fg_94_0, fg_94_1, fp_94_1, fg_94_2, fp_94_2, fg_94_3, fp_94_3, fg_94_4, fg_94_5, fg_94_6, fg_94_7, fg_94_8, fg_94_9, fg_94_10, fg_94_11, fg_94_12, fg_94_13, fg_94_14, fg_94_15, fp_94_15_0, fp_94_15_1, fg_94_16, fp_94_16, fg_94_17, fg_94_18, fg_94_19, fg_94_20, fg_94_21, fg_94_22, fg_94_23, fp_1_6, ob, pi_104 L _ (show i < 24 by omega), if_neg q, gS]
theorem G_name {d L n i m : Nat} {s : St} {R : Option (Option Value × MH)} (hn : n ≤ 24) (hl : s 94 1 = nI n) (hi : i < n) (hm : m < 24) (h0 : s 113 m = 0) (hc : cVar (s 95 i)) (h : GR d L (gS s i 0) (i + 1) m R) : GR d L s i (m + 1) R := by
  intro a3 a4 a5 a6
  have hc' : ¬ s 95 i < 97 ∧ s 95 i < 105 := hc
  rw [G_pre hn hl hi hm, h0, if_neg (by decide)]
  simp only [e73_69, e73_71, e73_74, e73_75, e73_78, e73_81, e73_82, e73_82q0, e73_82q1, ob, tl1, r_variable, bz_eq0, if_true, hc', not_true, if_false, and_self]
  simp only [e73_239, e73_242, nI_1, not_true, not_false_eq_true, and_self, if_false]
  exact h _ _ _ _
theorem G_nameN {d L n i m : Nat} {s : St} (hn : n ≤ 24) (hl : s 94 1 = nI n) (hi : i < n) (hm : m < 24) (h0 : s 113 m = 0) (hc : ¬ cVar (s 95 i)) : GR d L s i (m + 1) (some (some (.int 0), hH L (gS s i 0))) := by
  intro a3 a4 a5 a6
  have hc' : ¬ (¬ s 95 i < 97 ∧ s 95 i < 105) := hc
  rw [G_pre hn hl hi hm, h0, if_neg (by decide)]
  simp only [e73_69, e73_71, e73_74, e73_75, e73_78, e73_81, e73_82, e73_82q0, e73_82q1, ob, tl1, r_variable, bz_eq0, if_true, hc', not_false_eq_true]
/-- the depth is noted -/
def gD (s : St) (lv : Nat) : St := if s 94 3 < nI lv then sU s 94 3 (nI lv) else s
theorem G_term {d L n i m lv : Nat} {s : St} (hn : n ≤ 24) (hl : s 94 1 = nI n) (hi : i < n) (hm : m < 24) (hv1 : 1 ≤ lv) (hv6 : lv ≤ 6) (h0 : s 113 m = nI lv) (a3 a4 a5 a6 : Option Value) : rn (d + 1) 73 16 [some (.ref 94), some (.int (nI (m + 1))), some (.int (nI i)), a3, a4, a5, a6] [] (hH L s) = rn (d + 1) 73 98 [some (.ref 94), some (.int (nI m)), some (.int (nI i)), some (.int (s 95 i)), some (.int (nI lv)), a5, a6] [] (hH L (gD (gS s i 1) lv)) := by
  have hp : 0 < nI lv := nI_lt (a := 0) (by omega) (by omega)
  have hz : ¬ nI lv = 0 := fun z => by have := (nI_eq (b := 0) (show lv < 2147483648 by omega) (by decide)).mp z; omega
  rw [G_pre hn hl hi hm, h0, if_pos hp]
  simp only [e73_69, e73_71, e73_74, e73_75, e73_78, e73_81, e73_82, e73_82q0, e73_82q1, e73_83, e73_85, e73_86, e73_89, e73_92, e73_93, e73_95, cq_1, fg_1_0, fg_1_1, fp_1_1, fg_1_2, fp_1_2, fg_1_3, fg_1_4, fg_1_5, fg_1_6, fg_1_7, fp_1_7_0, fp_1_7_1, cq_78, fg_78_0, fg_78_1, cq_3, fg_3_0, fg_3_1, cq_80, fg_80_0, fg_80_1, fg_80_2, fg_80_3, fg_80_4, fg_80_5, fp_80_5, fg_80_6, fp_80_6, fg_80_7, fp_80_7, fg_80_8, fp_80_8, fg_80_9, fp_80_9, cq_94, fg_94_0, fg_94_1, fp_94_1, fg_94_2, fp_94_2, fg_94_3, fp_94_3, fg_94_4, fg_94_5, fg_94_6, fg_94_7, fg_94_8, fg_94_9, fg_94_10, fg_94_11, fg_94_12, fg_94_13, fg_94_14, fg_94_15, fp_94_15_0, fp_94_15_1, fg_94_16, fp_94_16, fg_94_17, fg_94_18, fg_94_19, fg_94_20, fg_94_21, fg_94_22, fg_94_23, fp_1_6, ob, hz, if_false]
  unfold gD
  by_cases q : gS s i 1 94 3 < nI lv
  · rw [if_pos q, if_pos q]
  · rw [if_neg q, if_neg q]
theorem G_leaf {d L n i m lv : Nat} {s : St} {R : Option (Option Value × MH)} (hn : n ≤ 24) (hl : s 94 1 = nI n) (hi : i < n) (hm : m < 24) (hv1 : 1 ≤ lv) (hv6 : lv ≤ 6) (h0 : s 113 m = nI lv) (hc : cDig (s 95 i) ∨ cVar (s 95 i) ∨ cInp (s 95 i)) (h : GR d L (gD (gS s i 1) lv) (i + 1) m R) : GR d L s i (m + 1) R := by
  intro a3 a4 a5 a6
  rw [G_term hn hl hi hm hv1 hv6 h0]
  have h' := h (some (.int (s 95 i))) (some (.int (nI lv))) a5 a6
  simp only [e73_98, e73_99, e73_102, e73_105, e73_106, e73_109, e73_112, e73_113, e73_116, e73_119, ob, tl1, r_digit, r_variable, r_isInput, bz_eq0]
  simp only [e73_239, e73_242, nI_1, h']
  by_cases q1 : ¬ s 95 i < 48 ∧ ¬ 57 < s 95 i
  · rw [if_neg (Classical.not_not.mpr q1)]
  · rw [if_pos q1]
    by_cases q2 : ¬ s 95 i < 97 ∧ s 95 i < 105
    · rw [if_neg (Classical.not_not.mpr q2)]
    · have q3 : ¬ s 95 i < 112 ∧ s 95 i < 116 := (hc.resolve_left q1).resolve_left q2
      rw [if_pos q2, if_neg (Classical.not_not.mpr q3)]
theorem G_op {d L n i m lv : Nat} {s : St} (hn : n ≤ 24) (hl : s 94 1 = nI n) (hi : i < n) (hm : m < 24) (hv1 : 1 ≤ lv) (hv6 : lv ≤ 6) (h0 : s 113 m = nI lv) (hc : ¬ (cDig (s 95 i) ∨ cVar (s 95 i) ∨ cInp (s 95 i))) (a3 a4 a5 a6 : Option Value) : rn (d + 1) 73 16 [some (.ref 94), some (.int (nI (m + 1))), some (.int (nI i)), a3, a4, a5, a6] [] (hH L s) = rn (d + 1) 73 122 [some (.ref 94), some (.int (nI m)), some (.int (nI i)), some (.int (s 95 i)), some (.int (nI lv)), a5, a6] [] (hH L (gD (gS s i 1) lv)) := by
  rw [G_term hn hl hi hm hv1 hv6 h0]
  have q1 : ¬ (¬ s 95 i < 48 ∧ ¬ 57 < s 95 i) := fun z => hc (Or.inl z)
  have q2 : ¬ (¬ s 95 i < 97 ∧ s 95 i < 105) := fun z => hc (Or.inr (Or.inl z))
  have q3 : ¬ (¬ s 95 i < 112 ∧ s 95 i < 116) := fun z => hc (Or.inr (Or.inr z))
  simp only [e73_98, e73_99, e73_102, e73_105, e73_106, e73_109, e73_112, e73_113, e73_116, e73_119, ob, tl1, r_digit, r_variable, r_isInput, bz_eq0, if_pos q1, if_pos q2, if_pos q3]
theorem G_deep {d L n i m : Nat} {s : St} (hn : n ≤ 24) (hl : s 94 1 = nI n) (hi : i < n) (hm : m < 24) (h0 : s 113 m = nI 6) (hc : ¬ (cDig (s 95 i) ∨ cVar (s 95 i) ∨ cInp (s 95 i))) : GR d L s i (m + 1) (some (some (.int 0), hH L (gD (gS s i 1) 6))) := by
  intro a3 a4 a5 a6
  have h6 : nI 6 = 6 := rfl
  rw [G_op hn hl hi hm (by decide) (by decide) h0 hc]
  simp only [e73_122, e73_124, e73_126, e73_129, e73_130, e73_130q0, e73_130q1, h6, if_true]
