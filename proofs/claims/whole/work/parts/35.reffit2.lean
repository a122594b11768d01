/-! The reference: FIT, check, go on. -/
noncomputable def cI (p : Prop) (b : Int32) : Int32 := @ite _ p (Classical.propDecidable p) 0 b
theorem cI_pos {p : Prop} {b : Int32} (h : p) : cI p b = 0 := by unfold cI; rw [if_pos h]
theorem cI_neg {p : Prop} {b : Int32} (h : ¬ p) : cI p b = b := by unfold cI; rw [if_neg h]
def nfB (s : St) (v i : Nat) : Prop := (cVar (tR s v i) ∧ ¬ s 105 (tR s v i - 97).toNatClampNeg = s 99 (24 * v + i)) ∨ (cInp (tR s v i) ∧ ¬ s 99 (24 * v + i) = -1)
def nfD (s : St) (v : Nat) (en : Nat → Nat) (i : Nat) : Prop := (tR s v i = 87 ∧ ¬ s 99 (24 * v + i) = nmF (tR s v) en i) ∨ (tR s v i = 67 ∧ ¬ s 99 (24 * v + i) = s 105 (nmF (tR s v) en i).toNatClampNeg)
theorem l81_B (d L : Nat) (s : St) (v i : Nat) (b : Int32) (a1 a3 a4 a7 a8 a9 a10 : Option Value) : rn (d + 1) 81 78 [some (.ref 94), a1, some (.int b), a3, a4, some (.int (tR s v i)), some (.int (s 99 (24 * v + i))), a7, a8, a9, a10] [] (hH L s) = rn (d + 1) 81 117 [some (.ref 94), a1, some (.int (cI (nfB s v i) b)), a3, a4, some (.int (tR s v i)), some (.int (s 99 (24 * v + i))), a7, a8, a9, a10] [] (hH L s) := by
  simp only [e81_78, e81_80, e81_83, e81_86, e81_87, e81_90, e81_92, e81_94, e81_95, e81_96, e81_98, e81_101, e81_103, e81_106, e81_109, e81_111, e81_112, e81_115, e81_116, cq_1, fg_1_0, fg_1_1, fp_1_1, fg_1_2, fp_1_2, fg_1_3, fg_1_4, fg_1_5, fg_1_6, fg_1_7, fp_1_7_0, fp_1_7_1, cq_78, fg_78_0, fg_78_1, cq_3, fg_3_0, fg_3_1, cq_80, fg_80_0, fg_80_1, fg_80_2, fg_80_3, fg_80_4, fg_80_5, fp_80_5, fg_80_6, fp_80_6, fg_80_7, fp_80_7, fg_80_8, fp_80_8, fg_80_9, fp_80_9, cq_94, fg_94_0, fg_94_1, fp_94_1, fg_94_2, fp_94_2, fg_94_3, fp_94_3, fg_94_4, fg_94_5, fg_94_6, fg_94_7, fg_94_8, fg_94_9, fg_94_10, fg_94_11, fg_94_12, fg_94_13, fg_94_14, fg_94_15, fp_94_15_0, fp_94_15_1, fg_94_16, fp_94_16, fg_94_17, fg_94_18, fg_94_19, fg_94_20, fg_94_21, fg_94_22, fg_94_23, fp_1_6, ob, tl1, r_variable, r_isInput, bz_eq0]
  by_cases q : ¬ tR s v i < 97 ∧ tR s v i < 105
  · obtain ⟨k, hk, ek⟩ := var_k q
    have q3 : ¬ (¬ tR s v i < 112 ∧ tR s v i < 116) := fun z => z.1 (Int32.lt_trans q.2 (by decide))
    rw [if_neg (Classical.not_not.mpr q)]
    simp only [ek, gi_105 L s hk, ob]
    rw [if_pos q3]
    by_cases q2 : s 105 k = s 99 (24 * v + i)
    · rw [if_pos q2, cI_neg]
      rintro (⟨_, z⟩ | ⟨z, _⟩)
      · rw [ek, nI_clamp (by omega)] at z
        exact z q2
      · exact q3 z
    · rw [if_neg q2, cI_pos (show nfB s v i from Or.inl ⟨q, by rw [ek, nI_clamp (by omega)]; exact q2⟩)]
  · rw [if_pos q]
    by_cases q3 : ¬ tR s v i < 112 ∧ tR s v i < 116
    · rw [if_neg (Classical.not_not.mpr q3)]
      by_cases q2 : s 99 (24 * v + i) = -1
      · rw [if_pos q2, cI_neg]
        rintro (⟨z, _⟩ | ⟨_, z⟩)
        · exact q z
        · exact z q2
      · rw [if_neg q2, cI_pos (show nfB s v i from Or.inr ⟨q3, q2⟩)]
    · rw [if_pos q3, cI_neg]
      rintro (⟨z, _⟩ | ⟨z, _⟩)
      · exact q z
      · exact q3 z
theorem l81_D (d L : Nat) (s : St) {v n i : Nat} {isT : Nat → Bool} {en : Nat → Nat} (h : RF s v n isT en) (hi : i < n) (ht : isT i = true) (b : Int32) (a4 a7 a8 a9 a10 : Option Value) : rn (d + 1) 81 182 [some (.ref 94), some (.int (nI v)), some (.int b), some (.int (nI i)), a4, some (.int (tR s v i)), some (.int (s 99 (24 * v + i))), a7, a8, a9, a10] [] (hH L s) = rn (d + 1) 81 252 [some (.ref 94), some (.int (nI v)), some (.int (cI (nfD s v en i) b)), some (.int (nI i)), a4, some (.int (tR s v i)), some (.int (s 99 (24 * v + i))), a7, some (.int (inR s v en i)), a9, a10] [] (hH L s) := by
  simp only [e81_182, e81_184, e81_186, e81_188, e81_190]
  by_cases q : tR s v i = 87
  · obtain ⟨k, hk, ek⟩ := h.2.2.1.nm hi ht (Or.inl q)
    have n67 : ¬ tR s v i = 67 := by rw [q]; decide
    have ha := r_about d L s h hi ht (Or.inl q)
    have ei : inR s v en i = s 105 k := by
      unfold inR
      rw [if_pos q, ek, nI_clamp (by omega)]
    rw [ek] at ha
    rw [if_pos q, ei]
    simp only [e81_193, e81_195, e81_196, e81_197, e81_198, e81_201, e81_204, e81_205, e81_206, e81_207, e81_210, e81_211, e81_212, e81_213, e81_216, e81_217, e81_219, e81_221, e81_223, cq_1, fg_1_0, fg_1_1, fp_1_1, fg_1_2, fp_1_2, fg_1_3, fg_1_4, fg_1_5, fg_1_6, fg_1_7, fp_1_7_0, fp_1_7_1, cq_78, fg_78_0, fg_78_1, cq_3, fg_3_0, fg_3_1, cq_80, fg_80_0, fg_80_1, fg_80_2, fg_80_3, fg_80_4, fg_80_5, fp_80_5, fg_80_6, fp_80_6, fg_80_7, fp_80_7, fg_80_8, fp_80_8, fg_80_9, fp_80_9, cq_94, fg_94_0, fg_94_1, fp_94_1, fg_94_2, fp_94_2, fg_94_3, fp_94_3, fg_94_4, fg_94_5, fg_94_6, fg_94_7, fg_94_8, fg_94_9, fg_94_10, fg_94_11, fg_94_12, fg_94_13, fg_94_14, fg_94_15, fp_94_15_0, fp_94_15_1, fg_94_16, fp_94_16, fg_94_17, fg_94_18, fg_94_19, fg_94_20, fg_94_21, fg_94_22, fg_94_23, fp_1_6, cq_94, eq_self, ob, tl1, ha, gi_105 L s hk, n67, if_false]
    by_cases q2 : s 99 (24 * v + i) = nI k
    · rw [if_pos q2, cI_neg]
      rintro (⟨_, z⟩ | ⟨z, _⟩)
      · rw [ek] at z
        exact z q2
      · exact n67 z
    · rw [if_neg q2, cI_pos (show nfD s v en i from Or.inl ⟨q, by rw [ek]; exact q2⟩)]
  · rw [if_neg q]
    simp only [e81_219, e81_221, e81_223]
    by_cases q3 : tR s v i = 67
    · obtain ⟨k, hk, ek⟩ := h.2.2.1.nm hi ht (Or.inr (Or.inl q3))
      have ha := r_about d L s h hi ht (Or.inr q3)
      have ei : inR s v en i = nI k := by
        unfold inR
        rw [if_neg q, if_pos q3, ek]
      rw [ek] at ha
      rw [if_pos q3, ei]
      simp only [e81_226, e81_228, e81_229, e81_232, e81_233, e81_234, e81_235, e81_238, e81_239, e81_242, e81_243, e81_244, e81_245, e81_246, e81_247, e81_250, cq_1, fg_1_0, fg_1_1, fp_1_1, fg_1_2, fp_1_2, fg_1_3, fg_1_4, fg_1_5, fg_1_6, fg_1_7, fp_1_7_0, fp_1_7_1, cq_78, fg_78_0, fg_78_1, cq_3, fg_3_0, fg_3_1, cq_80, fg_80_0, fg_80_1, fg_80_2, fg_80_3, fg_80_4, fg_80_5, fp_80_5, fg_80_6, fp_80_6, fg_80_7, fp_80_7, fg_80_8, fp_80_8, fg_80_9, fp_80_9, cq_94, fg_94_0, fg_94_1, fp_94_1, fg_94_2, fp_94_2, fg_94_3, fp_94_3, fg_94_4, fg_94_5, fg_94_6, fg_94_7, fg_94_8, fg_94_9, fg_94_10, fg_94_11, fg_94_12, fg_94_13, fg_94_14, fg_94_15, fp_94_15_0, fp_94_15_1, fg_94_16, fp_94_16, fg_94_17, fg_94_18, fg_94_19, fg_94_20, fg_94_21, fg_94_22, fg_94_23, fp_1_6, cq_94, eq_self, ob, tl1, ha, gi_105 L s hk]
      by_cases q2 : s 99 (24 * v + i) = s 105 k
      · rw [if_pos q2, cI_neg]
        rintro (⟨z, _⟩ | ⟨_, z⟩)
        · exact q z
        · rw [ek, nI_clamp (by omega)] at z
          exact z q2
      · rw [if_neg q2, cI_pos (show nfD s v en i from Or.inr ⟨q3, by rw [ek, nI_clamp (by omega)]; exact q2⟩)]
    · have ei : inR s v en i = s 99 (24 * v + i) := by
        unfold inR
        rw [if_neg q, if_neg q3]
      rw [if_neg q3, ei, cI_neg]
      rintro (⟨z, _⟩ | ⟨z, _⟩)
      · exact q z
      · exact q3 z
theorem l81_F (d L : Nat) (s : St) {v n i : Nat} {isT : Nat → Bool} {en : Nat → Nat} (h : RF s v n isT en) (hi : i < n) (ht : isT i = true) (a2 a6 a7 a8 a9 a10 : Option Value) : rn (d + 1) 81 319 [some (.ref 94), some (.int (nI v)), a2, some (.int (nI i)), some (.int (nI (24 * v + i))), some (.int (tR s v i)), a6, a7, a8, a9, a10] [] (hH L s) = rn (d + 1) 81 375 [some (.ref 94), some (.int (nI v)), a2, some (.int (nI i)), some (.int (nI (24 * v + i))), some (.int (tR s v i)), a6, a7, a8, a9, a10] [] (hH L (fw v (tR s v) en i s)) := by
  obtain ⟨hv, h2, h3, h4, h5⟩ := h
  have h24 := h3.2.1
  have a := h3.2.2.2.2.2 i hi ht
  simp only [e81_319, e81_321, e81_323]
  by_cases q : tR s v i = 87
  · have n67 : ¬ tR s v i = 67 := by rw [q]; decide
    have c := a.2.2.1
    have c2 := a.2.1
    have ix : nI (24 * v + en i) - 1 = nI (24 * v + (en i - 1)) := by
      rw [nI_s1 (show 0 < 24 * v + en i by omega)]
      congr 1
      omega
    have ef : fw v (tR s v) en i s = sU s 100 (24 * v + (en i - 1)) (s 100 (24 * v + i)) := if_pos q
    rw [if_pos q, ef]
    simp only [e81_326, e81_327, e81_330, e81_331, e81_333, e81_334, e81_335, e81_338, e81_340, e81_341, e81_342, e81_343, e81_344, e81_345, e81_348, e81_350, e81_351, e81_352, e81_354, e81_356, cq_1, fg_1_0, fg_1_1, fp_1_1, fg_1_2, fp_1_2, fg_1_3, fg_1_4, fg_1_5, fg_1_6, fg_1_7, fp_1_7_0, fp_1_7_1, cq_78, fg_78_0, fg_78_1, cq_3, fg_3_0, fg_3_1, cq_80, fg_80_0, fg_80_1, fg_80_2, fg_80_3, fg_80_4, fg_80_5, fp_80_5, fg_80_6, fp_80_6, fg_80_7, fp_80_7, fg_80_8, fp_80_8, fg_80_9, fp_80_9, cq_94, fg_94_0, fg_94_1, fp_94_1, fg_94_2, fp_94_2, fg_94_3, fp_94_3, fg_94_4, fg_94_5, fg_94_6, fg_94_7, fg_94_8, fg_94_9, fg_94_10, fg_94_11, fg_94_12, fg_94_13, fg_94_14, fg_94_15, fp_94_15_0, fp_94_15_1, fg_94_16, fp_94_16, fg_94_17, fg_94_18, fg_94_19, fg_94_20, fg_94_21, fg_94_22, fg_94_23, fp_1_6, ob, gi_98 L s (show 24 * v + i < 192 by omega), h5 i hi ht, m24, ix, gi_100 L s (show 24 * v + i < 192 by omega), pi_100 L s (show 24 * v + (en i - 1) < 192 by omega), n67, if_false]
  · rw [if_neg q]
    simp only [e81_352, e81_354, e81_356]
    by_cases q3 : tR s v i = 67
    · have b := a.2.2.2.2.1 q3
      have ef : fw v (tR s v) en i s = sU s 100 (24 * v + (i + 1)) (s 100 (24 * v + i)) := (if_neg q).trans (if_pos q3)
      have ix : 24 * v + i + 1 = 24 * v + (i + 1) := by omega
      rw [if_pos q3, ef]
      simp only [e81_359, e81_360, e81_363, e81_365, e81_366, e81_367, e81_368, e81_371, e81_373, e81_374, cq_1, fg_1_0, fg_1_1, fp_1_1, fg_1_2, fp_1_2, fg_1_3, fg_1_4, fg_1_5, fg_1_6, fg_1_7, fp_1_7_0, fp_1_7_1, cq_78, fg_78_0, fg_78_1, cq_3, fg_3_0, fg_3_1, cq_80, fg_80_0, fg_80_1, fg_80_2, fg_80_3, fg_80_4, fg_80_5, fp_80_5, fg_80_6, fp_80_6, fg_80_7, fp_80_7, fg_80_8, fp_80_8, fg_80_9, fp_80_9, cq_94, fg_94_0, fg_94_1, fp_94_1, fg_94_2, fp_94_2, fg_94_3, fp_94_3, fg_94_4, fg_94_5, fg_94_6, fg_94_7, fg_94_8, fg_94_9, fg_94_10, fg_94_11, fg_94_12, fg_94_13, fg_94_14, fg_94_15, fp_94_15_0, fp_94_15_1, fg_94_16, fp_94_16, fg_94_17, fg_94_18, fg_94_19, fg_94_20, fg_94_21, fg_94_22, fg_94_23, fp_1_6, ob, nI_1, gi_100 L s (show 24 * v + i < 192 by omega), ix, pi_100 L s (show 24 * v + (i + 1) < 192 by omega)]
    · have ef : fw v (tR s v) en i s = s := (if_neg q).trans (if_neg q3)
      rw [if_neg q3, ef]
theorem nf_BD {s : St} {v : Nat} {en : Nat → Nat} {i : Nat} {b : Int32} : cI (nfD s v en i) (cI (nfB s v i) b) = cI (nf s v en i) b := by
  by_cases q1 : nfB s v i
  · have q : nf s v en i := q1.elim (fun z => Or.inl z) (fun z => Or.inr (Or.inl z))
    rw [cI_pos q1, cI_pos q]
    by_cases q2 : nfD s v en i
    · rw [cI_pos q2]
    · rw [cI_neg q2]
  · rw [cI_neg q1]
    by_cases q2 : nfD s v en i
    · have q : nf s v en i := q2.elim (fun z => Or.inr (Or.inr (Or.inl z))) (fun z => Or.inr (Or.inr (Or.inr z)))
      rw [cI_pos q2, cI_pos q]
    · rw [cI_neg q2, cI_neg]
      rintro (z | z | z | z)
      · exact q1 (Or.inl z)
      · exact q1 (Or.inr z)
      · exact q2 (Or.inl z)
      · exact q2 (Or.inr z)
theorem lr_fit (d L : Nat) {v n : Nat} {isT : Nat → Bool} {en : Nat → Nat} : ∀ (r i : Nat) (b : Int32) (s : St) (a4 a5 a6 a7 a8 a9 a10 : Option Value), RF s v n isT en → (b = 0 ∨ b = 1) → i + r = n → rn (d + 1) 81 29 [some (.ref 94), some (.int (nI v)), some (.int b), some (.int (nI i)), a4, a5, a6, a7, a8, a9, a10] [] (hH L s) = some (some (.int (ffR v isT en r i b s).1), hH L (ffR v isT en r i b s).2) ∧ onlyF s (ffR v isT en r i b s).2 ∧ ((ffR v isT en r i b s).1 = 0 ∨ (ffR v isT en r i b s).1 = 1) := by
  intro r
  induction r with
  | zero =>
    intro i b s a4 a5 a6 a7 a8 a9 a10 h hb hi
    have hi : i = n := by omega
    subst hi
    have h24 := h.2.2.1.2.1
    have hz : b &&& 1 = b := by rcases hb with rfl | rfl <;> rfl
    refine ⟨?_, fun _ _ _ _ => rfl, hb⟩
    rw [e81_29]
    simp only [e81_30, e81_31, e81_34, e81_35, e81_36, e81_381, e81_382, hz, eq_self, cq_1, fg_1_0, fg_1_1, fp_1_1, fg_1_2, fp_1_2, fg_1_3, fg_1_4, fg_1_5, fg_1_6, fg_1_7, fp_1_7_0, fp_1_7_1, cq_78, fg_78_0, fg_78_1, cq_3, fg_3_0, fg_3_1, cq_80, fg_80_0, fg_80_1, fg_80_2, fg_80_3, fg_80_4, fg_80_5, fp_80_5, fg_80_6, fp_80_6, fg_80_7, fp_80_7, fg_80_8, fp_80_8, fg_80_9, fp_80_9, cq_94, fg_94_0, fg_94_1, fp_94_1, fg_94_2, fp_94_2, fg_94_3, fp_94_3, fg_94_4, fg_94_5, fg_94_6, fg_94_7, fg_94_8, fg_94_9, fg_94_10, fg_94_11, fg_94_12, fg_94_13, fg_94_14, fg_94_15, fp_94_15_0, fp_94_15_1, fg_94_16, fp_94_16, fg_94_17, fg_94_18, fg_94_19, fg_94_20, fg_94_21, fg_94_22, fg_94_23, fp_1_6, ob, gi_97 L s h.1, h.2.1, nI_ltP (show i < 2147483648 by omega) (show i < 2147483648 by omega), Nat.lt_irrefl, if_false, ffR]
  | succ r ih =>
    intro i b s a4 a5 a6 a7 a8 a9 a10 h hb hi
    have h24 := h.2.2.1.2.1
    have hv := h.1
    have hin : i < n := by omega
    have e : s 96 (24 * v + i) = tR s v i := rfl
    have hd : rn (d + 1) 81 29 [some (.ref 94), some (.int (nI v)), some (.int b), some (.int (nI i)), a4, a5, a6, a7, a8, a9, a10] [] (hH L s) = rn (d + 1) 81 72 [some (.ref 94), some (.int (nI v)), some (.int b), some (.int (nI i)), some (.int (nI (24 * v + i))), some (.int (tR s v i)), some (.int (s 99 (24 * v + i))), a7, a8, a9, a10] [.int (bI (isT i))] (hH L s) := by
      rw [e81_29]
      simp only [e81_30, e81_31, e81_34, e81_35, e81_36, e81_39, e81_40, e81_42, e81_43, e81_44, e81_45, e81_47, e81_48, e81_51, e81_53, e81_54, e81_56, e81_57, e81_60, e81_62, e81_63, e81_65, e81_66, e81_69, e81_71, cq_1, fg_1_0, fg_1_1, fp_1_1, fg_1_2, fp_1_2, fg_1_3, fg_1_4, fg_1_5, fg_1_6, fg_1_7, fp_1_7_0, fp_1_7_1, cq_78, fg_78_0, fg_78_1, cq_3, fg_3_0, fg_3_1, cq_80, fg_80_0, fg_80_1, fg_80_2, fg_80_3, fg_80_4, fg_80_5, fp_80_5, fg_80_6, fp_80_6, fg_80_7, fp_80_7, fg_80_8, fp_80_8, fg_80_9, fp_80_9, cq_94, fg_94_0, fg_94_1, fp_94_1, fg_94_2, fp_94_2, fg_94_3, fp_94_3, fg_94_4, fg_94_5, fg_94_6, fg_94_7, fg_94_8, fg_94_9, fg_94_10, fg_94_11, fg_94_12, fg_94_13, fg_94_14, fg_94_15, fp_94_15_0, fp_94_15_1, fg_94_16, fp_94_16, fg_94_17, fg_94_18, fg_94_19, fg_94_20, fg_94_21, fg_94_22, fg_94_23, fp_1_6, ob, gi_97 L s h.1, h.2.1, nI_ltP (show i < 2147483648 by omega) (show n < 2147483648 by omega), hin, if_true, m24, gi_96 L s (show 24 * v + i < 192 by omega), gi_99 L s (show 24 * v + i < 192 by omega), gi_103 L s (show 24 * v + i < 192 by omega), h.2.2.2.1 i hin, e]
    rw [hd]
    cases hti : isT i with
    | true =>
      have e2 : ffR v isT en (r + 1) i b s = ffR v isT en r (i + 1) (cI (nf s v en i) b) (fs v en i s) := if_pos hti
      have hb2 : cI (nf s v en i) b = 0 ∨ cI (nf s v en i) b = 1 := by
        by_cases q : nf s v en i
        · rw [cI_pos q]; exact Or.inl rfl
        · rw [cI_neg q]; exact hb
      have ho := onlyF_fs (v := v) (en := en) (i := i) (s := s)
      have hpc := pcN_pcn (tR s v i)
      simp only [e81_72, bI_t, i10, if_false]
      rw [l81_B, l81_terms, l81_D d L s h hin hti, nf_BD, hpc.1]
      simp only [e81_252, e81_253]
      obtain ⟨a10', b1⟩ := l81_in d L hin hti (inR s v en i) (some (.int (cI (nf s v en i) b))) (pcn (tR s v i)) 0 s a10 h (by omega)
      rw [e2]
      have ho1 := onlyF_fcL (v := v) (t := tR s v) (en := en) (i := i) (x := inR s v en i) (pcn (tR s v i)) 0 s
      have hF := l81_F d L _ (ho1.RF h) hin hti (some (.int (cI (nf s v en i) b))) (some (.int (s 99 (24 * v + i)))) (some (.int (nI (pcn (tR s v i))))) (some (.int (inR s v en i))) (some (.int (nI (pcn (tR s v i))))) a10'
      rw [ho1.tR] at hF
      obtain ⟨c1, c2, c3⟩ := ih (i + 1) (cI (nf s v en i) b) (fs v en i s) (some (.int (nI (24 * v + i)))) (some (.int (tR s v i))) (some (.int (s 99 (24 * v + i)))) (some (.int (nI (pcn (tR s v i))))) (some (.int (inR s v en i))) (some (.int (nI (pcn (tR s v i))))) a10' (ho.RF h) hb2 (by omega)
      refine ⟨?_, ho.tr c2, c3⟩
      refine Eq.trans b1 ?_
      refine Eq.trans hF ?_
      simp only [e81_375, e81_378, nI_1]
      exact c1
    | false =>
      have e2 : ffR v isT en (r + 1) i b s = ffR v isT en r (i + 1) b s := if_neg (by rw [hti]; decide)
      rw [e2]
      simp only [e81_72, e81_75, bI_f, if_true, e81_375, e81_378, nI_1]
      exact ih (i + 1) b s _ _ _ _ _ _ _ h hb (by omega)
def fR0 (s : St) (v : Nat) : St := sU (sU s 99 (24 * v) (s 105 v)) 100 (24 * v) 0
theorem r_fit (d L : Nat) (s : St) {v n : Nat} {isT : Nat → Bool} {en : Nat → Nat} (h : RF s v n isT en) : rn (d + 1) 81 0 [some (.ref 94), some (.int (nI v)), none, none, none, none, none, none, none, none, none] [] (hH L s) = some (some (.int (ffR v isT en n 0 1 (fR0 s v)).1), hH L (ffR v isT en n 0 1 (fR0 s v)).2) ∧ onlyF s (ffR v isT en n 0 1 (fR0 s v)).2 ∧ ((ffR v isT en n 0 1 (fR0 s v)).1 = 0 ∨ (ffR v isT en n 0 1 (fR0 s v)).1 = 1) := by
  have hv := h.1
  have ho : onlyF s (fR0 s v) := (onlyF_U9 s _ _).tr (onlyF_U0 _ _ _)
  obtain ⟨c1, c2, c3⟩ := lr_fit d L n 0 1 (fR0 s v) none none none none none none none (ho.RF h) (Or.inr rfl) (by omega)
  refine ⟨?_, ho.tr c2, c3⟩
  simp only [e81_0, e81_1, e81_2, e81_3, e81_6, e81_7, e81_9, e81_10, e81_11, e81_14, e81_15, e81_16, e81_17, e81_18, e81_21, e81_22, e81_24, e81_25, e81_26, e81_27, e81_28, cq_1, fg_1_0, fg_1_1, fp_1_1, fg_1_2, fp_1_2, fg_1_3, fg_1_4, fg_1_5, fg_1_6, fg_1_7, fp_1_7_0, fp_1_7_1, cq_78, fg_78_0, fg_78_1, cq_3, fg_3_0, fg_3_1, cq_80, fg_80_0, fg_80_1, fg_80_2, fg_80_3, fg_80_4, fg_80_5, fp_80_5, fg_80_6, fp_80_6, fg_80_7, fp_80_7, fg_80_8, fp_80_8, fg_80_9, fp_80_9, cq_94, fg_94_0, fg_94_1, fp_94_1, fg_94_2, fp_94_2, fg_94_3, fp_94_3, fg_94_4, fg_94_5, fg_94_6, fg_94_7, fg_94_8, fg_94_9, fg_94_10, fg_94_11, fg_94_12, fg_94_13, fg_94_14, fg_94_15, fp_94_15_0, fp_94_15_1, fg_94_16, fp_94_16, fg_94_17, fg_94_18, fg_94_19, fg_94_20, fg_94_21, fg_94_22, fg_94_23, fp_1_6, ob, m24_0, gi_105 L s hv, pi_99 L s (show 24 * v < 192 by omega), pi_100 L _ (show 24 * v < 192 by omega)]
  exact c1
