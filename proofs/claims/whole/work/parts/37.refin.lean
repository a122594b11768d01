/-! The reference: INSTANTS. -/
def cw1 (s : St) (v u : Nat) : Prop := ∀ w, u ≤ w → w < 8 → s 109 (8 * v + w) = 0 ∨ ¬ s 108 w = 0
def cwR (s : St) (v : Nat) : Prop := ¬ s 97 v = 0 ∧ s 108 v = 0 ∧ cw1 s v 0
theorem lr_canWork (d L : Nat) (s : St) {v : Nat} (hv : v < 8) : ∀ (r u : Nat), u + r = 8 → rn d 88 22 [some (.ref 94), some (.int (nI v)), some (.int (nI u))] [] (hH L s) = some (some (.int (bC (cw1 s v u))), hH L s) := by
  intro r
  induction r with
  | zero =>
    intro u hu
    have hu : u = 8 := by omega
    subst hu
    rw [e88_22, bC_pos (show cw1 s v 8 from fun w h1 h2 => by omega)]
    simp only [e88_23, e88_25, e88_59, e88_60q1, nI_lt8 (show 8 < 2147483648 by decide), Nat.lt_irrefl, if_false]
  | succ r ih =>
    intro u hu
    have h1 : u < 8 := by omega
    have stp : (s 109 (8 * v + u) = 0 ∨ ¬ s 108 u = 0) → (cw1 s v u ↔ cw1 s v (u + 1)) := fun h0 => ⟨fun h w a b => h w (by omega) b, fun h w a b => by
      by_cases hw : w = u
      · subst hw; exact h0
      · exact h w (by omega) b⟩
    rw [e88_22]
    simp only [e88_23, e88_25, e88_28, e88_29, e88_32, e88_33, e88_35, e88_36, e88_37, e88_38, e88_39, e88_42, e88_43, e88_46, e88_47, e88_48, e88_51, e88_52, e88_52q0, e88_52q1, e88_53, e88_56, cq_1, fg_1_0, fg_1_1, fp_1_1, fg_1_2, fp_1_2, fg_1_3, fg_1_4, fg_1_5, fg_1_6, fg_1_7, fp_1_7_0, fp_1_7_1, cq_78, fg_78_0, fg_78_1, cq_3, fg_3_0, fg_3_1, cq_80, fg_80_0, fg_80_1, fg_80_2, fg_80_3, fg_80_4, fg_80_5, fp_80_5, fg_80_6, fp_80_6, fg_80_7, fp_80_7, fg_80_8, fp_80_8, fg_80_9, fp_80_9, cq_94, fg_94_0, fg_94_1, fp_94_1, fg_94_2, fp_94_2, fg_94_3, fp_94_3, fg_94_4, fg_94_5, fg_94_6, fg_94_7, fg_94_8, fg_94_9, fg_94_10, fg_94_11, fg_94_12, fg_94_13, fg_94_14, fg_94_15, fp_94_15_0, fp_94_15_1, fg_94_16, fp_94_16, fg_94_17, fg_94_18, fg_94_19, fg_94_20, fg_94_21, fg_94_22, fg_94_23, fp_1_6, ob, nI_lt8 (show u < 2147483648 by omega), h1, if_true, m8, gi_109 L s (show 8 * v + u < 64 by omega), gi_108 L s h1, nI_1]
    by_cases q : s 109 (8 * v + u) = 0
    · rw [if_pos q, propext (stp (Or.inl q))]
      exact ih (u + 1) (by omega)
    · rw [if_neg q]
      by_cases q2 : s 108 u = 0
      · rw [if_pos q2, bC_neg (show ¬ cw1 s v u from fun z => (z u (Nat.le_refl u) h1).elim q (fun y => y q2))]
      · rw [if_neg q2, propext (stp (Or.inr q2))]
        exact ih (u + 1) (by omega)
theorem r_canWork (d L : Nat) (s : St) {v : Nat} (hv : v < 8) : rn d 88 0 [some (.ref 94), some (.int (nI v)), none] [] (hH L s) = some (some (.int (bC (cwR s v))), hH L s) := by
  simp only [e88_0, e88_1, e88_4, e88_5, e88_6, e88_9, e88_10, e88_13, e88_14, e88_15, e88_18, e88_19, e88_19q0, e88_19q1, e88_20, e88_21, cq_1, fg_1_0, fg_1_1, fp_1_1, fg_1_2, fp_1_2, fg_1_3, fg_1_4, fg_1_5, fg_1_6, fg_1_7, fp_1_7_0, fp_1_7_1, cq_78, fg_78_0, fg_78_1, cq_3, fg_3_0, fg_3_1, cq_80, fg_80_0, fg_80_1, fg_80_2, fg_80_3, fg_80_4, fg_80_5, fp_80_5, fg_80_6, fp_80_6, fg_80_7, fp_80_7, fg_80_8, fp_80_8, fg_80_9, fp_80_9, cq_94, fg_94_0, fg_94_1, fp_94_1, fg_94_2, fp_94_2, fg_94_3, fp_94_3, fg_94_4, fg_94_5, fg_94_6, fg_94_7, fg_94_8, fg_94_9, fg_94_10, fg_94_11, fg_94_12, fg_94_13, fg_94_14, fg_94_15, fp_94_15_0, fp_94_15_1, fg_94_16, fp_94_16, fg_94_17, fg_94_18, fg_94_19, fg_94_20, fg_94_21, fg_94_22, fg_94_23, fp_1_6, ob, gi_97 L s hv, gi_108 L s hv]
  by_cases q : s 97 v = 0
  · rw [if_pos q, bC_neg (show ¬ cwR s v from fun z => z.1 q)]
  · rw [if_neg q]
    by_cases q2 : s 108 v = 0
    · have e1 : cwR s v ↔ cw1 s v 0 := ⟨fun z => z.2.2, fun z => ⟨q, q2, z⟩⟩
      rw [if_pos q2, propext e1]
      exact lr_canWork d L s hv 8 0 (by decide)
    · rw [if_neg q2, bC_neg (show ¬ cwR s v from fun z => q2 z.2.1)]
/-- what stands still while the reference runs -/
def stoR (s s' : St) : Prop := ∀ a j, a = 96 ∨ a = 97 ∨ a = 98 ∨ a = 99 ∨ a = 103 ∨ a = 105 ∨ a = 106 ∨ a = 109 → s' a j = s a j
theorem stoR.rf (s : St) : stoR s s := fun _ _ _ => rfl
theorem stoR.tr {s s' s'' : St} (h1 : stoR s s') (h2 : stoR s' s'') : stoR s s'' := fun a j h => (h2 a j h).trans (h1 a j h)
theorem stoR_U (s : St) {a : Nat} (j : Nat) (x : Int32) (h : ¬ (a = 96 ∨ a = 97 ∨ a = 98 ∨ a = 99 ∨ a = 103 ∨ a = 105 ∨ a = 106 ∨ a = 109)) : stoR s (sU s a j x) := fun b k hb => sU_a s j k x (fun z => h (z ▸ hb))
/-- it can run: equations, CLOCKS of TERMS, CLOCKS -/
def runOK (s : St) (N : Nat → Nat) (isT : Nat → Nat → Bool) (en : Nat → Nat → Nat) : Prop := RA s N isT en ∧ ckR s ∧ ∀ v j, v < 8 → j < N v → isT v j = true → clk (s 99 (24 * v + j))
theorem runOK_of {s s' : St} {N : Nat → Nat} {isT : Nat → Nat → Bool} {en : Nat → Nat → Nat} (h : runOK s N isT en) (hs : stoR s s') : runOK s' N isT en := ⟨RA_of h.1 (fun a j ha => hs a j (by omega)), fun k hk => by rw [hs 105 k (by omega)]; exact h.2.1 k hk, fun v j hv hj ht => by rw [hs 99 _ (by omega)]; exact h.2.2 v j hv hj ht⟩
theorem stoR_wkL {v : Nat} {isT : Nat → Bool} {en : Nat → Nat} : ∀ (i : Nat) (s : St), stoR s (wkL v isT en i s)
  | 0, s => stoR.rf s
  | i + 1, s => by
    rw [wkL]
    split
    · exact (stoR_U s _ _ (by decide)).tr (stoR_wkL i _)
    · exact stoR_wkL i s
def wA (N : Nat → Nat) (isT : Nat → Nat → Bool) (en : Nat → Nat → Nat) (v : Nat) (s : St) : St := wkL v (isT v) (en v) (N v) s
theorem r_wA (d L : Nat) (s : St) {N : Nat → Nat} {isT : Nat → Nat → Bool} {en : Nat → Nat → Nat} (h : runOK s N isT en) {v : Nat} (hv : v < 8) : rn (d + 2) 90 0 [some (.ref 94), some (.int (nI v)), none] [] (hH L s) = some (none, hH L (wA N isT en v s)) := by
  by_cases q : 0 < N v
  · exact r_workAll d L s ((h.1 v hv).2.2 q) (fun j hj ht => h.2.2 v j hv hj ht)
  · have e0 : N v = 0 := by omega
    have e1 := (h.1 v hv).1
    rw [e0] at e1
    have e2 : wA N isT en v s = s := by
      unfold wA
      rw [e0]
      rfl
    rw [e2]
    exact r_workAll0 d L s hv e1
/-- a variable's turn -/
noncomputable def in1 (N : Nat → Nat) (isT : Nat → Nat → Bool) (en : Nat → Nat → Nat) (v : Nat) (s : St) : St :=
  @ite _ (cwR s v) (Classical.propDecidable _)
    (if actR (sU s 108 v 1) (s 105 v) then
      (let s2 := wA N isT en v (sU s 108 v 1)
       let s4 := sU (sU s2 107 v 1) 110 v (s2 101 (24 * v))
       sU s4 111 v (s4 111 v + 1))
     else sU s 108 v 1) s
theorem stoR_in1 {N : Nat → Nat} {isT : Nat → Nat → Bool} {en : Nat → Nat → Nat} {v : Nat} {s : St} : stoR s (in1 N isT en v s) := by
  unfold in1
  split
  · have h0 := stoR_U s (a := 108) v 1 (by decide)
    split
    · have h1 : stoR s (wA N isT en v (sU s 108 v 1)) := h0.tr (stoR_wkL _ _)
      exact ((h1.tr (stoR_U _ _ _ (by decide))).tr (stoR_U _ _ _ (by decide))).tr (stoR_U _ _ _ (by decide))
    · exact h0
  · exact stoR.rf s
theorem l87_v (d L : Nat) {N : Nat → Nat} {isT : Nat → Nat → Bool} {en : Nat → Nat → Nat} (s : St) (h : runOK s N isT en) {v : Nat} (hv : v < 8) (a1 a3 a4 : Option Value) : rn (d + 3) 87 44 [some (.ref 94), a1, some (.int (nI v)), a3, a4] [] (hH L s) = rn (d + 3) 87 115 [some (.ref 94), a1, some (.int (nI v)), a3, a4] [] (hH L (in1 N isT en v s)) := by
  simp only [e87_44, e87_45, e87_46, e87_49, cq_94, eq_self, ob, tl1, r_canWork (d + 2) L s hv]
  unfold in1
  by_cases q : cwR s v
  · have hst := stoR_U s (a := 108) v 1 (by decide)
    have hk := runOK_of h hst
    have hc := hk.2.1 v hv
    have e105 : sU s 108 v 1 105 v = s 105 v := sU_a _ _ _ _ (by decide)
    rw [e105] at hc
    have b1 : (1 : Int32) &&& 1 = 1 := rfl
    rw [bC_pos q, if_pos q, if_neg (show ¬ (1 : Int32) = 0 by decide)]
    simp only [e87_55, e87_56, e87_59, e87_60, e87_61, e87_61q0, e87_61q1, e87_62, e87_63, e87_64, e87_67, e87_68, e87_69, e87_72, cq_1, fg_1_0, fg_1_1, fp_1_1, fg_1_2, fp_1_2, fg_1_3, fg_1_4, fg_1_5, fg_1_6, fg_1_7, fp_1_7_0, fp_1_7_1, cq_78, fg_78_0, fg_78_1, cq_3, fg_3_0, fg_3_1, cq_80, fg_80_0, fg_80_1, fg_80_2, fg_80_3, fg_80_4, fg_80_5, fp_80_5, fg_80_6, fp_80_6, fg_80_7, fp_80_7, fg_80_8, fp_80_8, fg_80_9, fp_80_9, cq_94, fg_94_0, fg_94_1, fp_94_1, fg_94_2, fp_94_2, fg_94_3, fp_94_3, fg_94_4, fg_94_5, fg_94_6, fg_94_7, fg_94_8, fg_94_9, fg_94_10, fg_94_11, fg_94_12, fg_94_13, fg_94_14, fg_94_15, fp_94_15_0, fp_94_15_1, fg_94_16, fp_94_16, fg_94_17, fg_94_18, fg_94_19, fg_94_20, fg_94_21, fg_94_22, fg_94_23, fp_1_6, cq_94, eq_self, ob, tl1, b1, pi_108 L s hv, gi_105 L _ hv, e105, r_active (d + 2) L _ hc, bz_eq0]
    by_cases q2 : actR (sU s 108 v 1) (s 105 v)
    · rw [if_neg (Classical.not_not.mpr q2), if_pos q2]
      simp only [e87_78, e87_79, e87_80, e87_83, e87_84, e87_87, e87_88, e87_89, e87_89q0, e87_89q1, e87_90, e87_91, e87_94, e87_95, e87_96, e87_99, e87_100, e87_102, e87_103, e87_104, e87_105, e87_106, e87_109, e87_110, e87_111, e87_112, e87_113, e87_114, cq_1, fg_1_0, fg_1_1, fp_1_1, fg_1_2, fp_1_2, fg_1_3, fg_1_4, fg_1_5, fg_1_6, fg_1_7, fp_1_7_0, fp_1_7_1, cq_78, fg_78_0, fg_78_1, cq_3, fg_3_0, fg_3_1, cq_80, fg_80_0, fg_80_1, fg_80_2, fg_80_3, fg_80_4, fg_80_5, fp_80_5, fg_80_6, fp_80_6, fg_80_7, fp_80_7, fg_80_8, fp_80_8, fg_80_9, fp_80_9, cq_94, fg_94_0, fg_94_1, fp_94_1, fg_94_2, fp_94_2, fg_94_3, fp_94_3, fg_94_4, fg_94_5, fg_94_6, fg_94_7, fg_94_8, fg_94_9, fg_94_10, fg_94_11, fg_94_12, fg_94_13, fg_94_14, fg_94_15, fp_94_15_0, fp_94_15_1, fg_94_16, fp_94_16, fg_94_17, fg_94_18, fg_94_19, fg_94_20, fg_94_21, fg_94_22, fg_94_23, fp_1_6, cq_94, eq_self, ob, tl0, b1, r_wA d L _ hk hv, pi_107 L _ hv, m24_0, gi_101 L _ (show 24 * v < 192 by omega), pi_110 L _ hv, gi_111 L _ hv, pi_111 L _ hv, sU_a _ _ _ _ (show 101 ≠ 107 by decide)]
    · rw [if_pos q2, if_neg q2]
      simp only [e87_75]
  · rw [bC_neg q, if_neg q, if_pos rfl]
    simp only [e87_52]
noncomputable def in2 (N : Nat → Nat) (isT : Nat → Nat → Bool) (en : Nat → Nat → Nat) : Nat → Nat → St → St
  | 0, _, s => s
  | r + 1, v, s => in2 N isT en r (v + 1) (in1 N isT en v s)
theorem l87_2 (d L : Nat) {N : Nat → Nat} {isT : Nat → Nat → Bool} {en : Nat → Nat → Nat} (a1 a3 a4 : Option Value) : ∀ (r v : Nat) (s : St), runOK s N isT en → v + r = 8 → rn (d + 3) 87 38 [some (.ref 94), a1, some (.int (nI v)), a3, a4] [] (hH L s) = rn (d + 3) 87 121 [some (.ref 94), a1, some (.int (nI 8)), a3, a4] [] (hH L (in2 N isT en r v s)) ∧ stoR s (in2 N isT en r v s) := by
  intro r
  induction r with
  | zero =>
    intro v s h hv
    have hv : v = 8 := by omega
    subst hv
    refine ⟨?_, stoR.rf s⟩
    rw [e87_38]
    simp only [e87_39, e87_41, nI_lt8 (show 8 < 2147483648 by decide), Nat.lt_irrefl, if_false, in2]
  | succ r ih =>
    intro v s h hv
    have h1 : v < 8 := by omega
    have hst := stoR_in1 (N := N) (isT := isT) (en := en) (v := v) (s := s)
    obtain ⟨b1, b2⟩ := ih (v + 1) _ (runOK_of h hst) (by omega)
    refine ⟨?_, hst.tr b2⟩
    rw [e87_38]
    simp only [e87_39, e87_41, nI_lt8 (show v < 2147483648 by omega), h1, if_true]
    rw [l87_v d L s h h1]
    simp only [e87_115, e87_118, nI_1, in2]
    exact b1
noncomputable def in3 (N : Nat → Nat) (isT : Nat → Nat → Bool) (en : Nat → Nat → Nat) : Nat → St → St
  | 0, s => s
  | r + 1, s => in3 N isT en r (in2 N isT en 8 0 s)
theorem l87_1 (d L : Nat) {N : Nat → Nat} {isT : Nat → Nat → Bool} {en : Nat → Nat → Nat} (a3 a4 : Option Value) : ∀ (r k : Nat) (s : St) (a2 : Option Value), runOK s N isT en → k + r = 8 → ∃ a2', rn (d + 3) 87 30 [some (.ref 94), some (.int (nI k)), a2, a3, a4] [] (hH L s) = rn (d + 3) 87 127 [some (.ref 94), some (.int (nI 8)), a2', a3, a4] [] (hH L (in3 N isT en r s)) ∧ stoR s (in3 N isT en r s) := by
  intro r
  induction r with
  | zero =>
    intro k s a2 h hk
    have hk : k = 8 := by omega
    subst hk
    refine ⟨a2, ?_, stoR.rf s⟩
    rw [e87_30]
    simp only [e87_31, e87_33, nI_lt8 (show 8 < 2147483648 by decide), Nat.lt_irrefl, if_false, in3]
  | succ r ih =>
    intro k s a2 h hk
    have h1 : k < 8 := by omega
    obtain ⟨b1, b2⟩ := l87_2 d L (some (.int (nI k))) a3 a4 8 0 s h (by decide)
    obtain ⟨a2', c1, c2⟩ := ih (k + 1) _ (some (.int (nI 8))) (runOK_of h b2) (by omega)
    refine ⟨a2', ?_, b2.tr c2⟩
    rw [e87_30]
    simp only [e87_31, e87_33, e87_36, e87_37, nI_lt8 (show k < 2147483648 by omega), h1, if_true]
    refine Eq.trans b1 ?_
    simp only [e87_121, e87_124, nI_1, in3]
    exact c1
/-- nobody is PRESENT yet -/
def in0 : Nat → Nat → St → St
  | 0, _, s => s
  | r + 1, v, s => in0 r (v + 1) (sU (sU s 108 v 0) 107 v 0)
theorem l87_0 (d L : Nat) (a2 a3 a4 : Option Value) : ∀ (r v : Nat) (s : St), v + r = 8 → rn d 87 2 [some (.ref 94), some (.int (nI v)), a2, a3, a4] [] (hH L s) = rn d 87 28 [some (.ref 94), some (.int (nI 8)), a2, a3, a4] [] (hH L (in0 r v s)) ∧ stoR s (in0 r v s) := by
  intro r
  induction r with
  | zero =>
    intro v s hv
    have hv : v = 8 := by omega
    subst hv
    refine ⟨?_, stoR.rf s⟩
    rw [e87_2]
    simp only [e87_3, e87_5, nI_lt8 (show 8 < 2147483648 by decide), Nat.lt_irrefl, if_false, in0]
  | succ r ih =>
    intro v s hv
    have h1 : v < 8 := by omega
    have b0 : (0 : Int32) &&& 1 = 0 := rfl
    obtain ⟨c1, c2⟩ := ih (v + 1) (sU (sU s 108 v 0) 107 v 0) (by omega)
    refine ⟨?_, ((stoR_U _ _ _ (by decide)).tr (stoR_U _ _ _ (by decide))).tr c2⟩
    rw [e87_2]
    simp only [e87_3, e87_5, e87_8, e87_9, e87_12, e87_13, e87_14, e87_17, e87_18, e87_19, e87_20, e87_20q0, e87_20q1, e87_21, e87_21q0, e87_21q1, e87_22, e87_25, cq_1, fg_1_0, fg_1_1, fp_1_1, fg_1_2, fp_1_2, fg_1_3, fg_1_4, fg_1_5, fg_1_6, fg_1_7, fp_1_7_0, fp_1_7_1, cq_78, fg_78_0, fg_78_1, cq_3, fg_3_0, fg_3_1, cq_80, fg_80_0, fg_80_1, fg_80_2, fg_80_3, fg_80_4, fg_80_5, fp_80_5, fg_80_6, fp_80_6, fg_80_7, fp_80_7, fg_80_8, fp_80_8, fg_80_9, fp_80_9, cq_94, fg_94_0, fg_94_1, fp_94_1, fg_94_2, fp_94_2, fg_94_3, fp_94_3, fg_94_4, fg_94_5, fg_94_6, fg_94_7, fg_94_8, fg_94_9, fg_94_10, fg_94_11, fg_94_12, fg_94_13, fg_94_14, fg_94_15, fp_94_15_0, fp_94_15_1, fg_94_16, fp_94_16, fg_94_17, fg_94_18, fg_94_19, fg_94_20, fg_94_21, fg_94_22, fg_94_23, fp_1_6, ob, nI_lt8 (show v < 2147483648 by omega), h1, if_true, b0, eq_self, pi_108 L _ h1, pi_107 L _ h1, nI_1, in0]
    exact c1
/-- what the P and C of a variable take up -/
noncomputable def mm1 (v : Nat) (isT : Nat → Bool) (en : Nat → Nat) (i : Nat) (s : St) : St :=
  if isT i = true ∧ (tR s v i = 80 ∨ tR s v i = 67) ∧ actR s (s 99 (24 * v + ch (tR s v) en i 0)) then sU s 102 (24 * v + i) (s 101 (24 * v + ch (tR s v) en i 0)) else s
noncomputable def mmL (v : Nat) (isT : Nat → Bool) (en : Nat → Nat) : Nat → Nat → St → St
  | 0, _, s => s
  | r + 1, i, s => mmL v isT en r (i + 1) (mm1 v isT en i s)
theorem stoR_mm1 {v : Nat} {isT : Nat → Bool} {en : Nat → Nat} {i : Nat} {s : St} : stoR s (mm1 v isT en i s) := by
  unfold mm1
  split
  · exact stoR_U _ _ _ (by decide)
  · exact stoR.rf s
theorem l87_m (d L : Nat) {v n : Nat} {isT : Nat → Bool} {en : Nat → Nat} : ∀ (r i : Nat) (s : St) (a3 a4 : Option Value), RF s v n isT en → (∀ j, j < n → isT j = true → clk (s 99 (24 * v + j))) → i + r = n → ∃ a3' a4', rn (d + 1) 87 142 [some (.ref 94), some (.int (nI v)), some (.int (nI i)), a3, a4] [] (hH L s) = rn (d + 1) 87 240 [some (.ref 94), some (.int (nI v)), some (.int (nI n)), a3', a4'] [] (hH L (mmL v isT en r i s)) ∧ stoR s (mmL v isT en r i s) := by
  intro r
  induction r with
  | zero =>
    intro i s a3 a4 h hc hi
    have hi : i = n := by omega
    subst hi
    have h24 := h.2.2.1.2.1
    refine ⟨a3, a4, ?_, stoR.rf s⟩
    rw [e87_142]
    simp only [e87_143, e87_144, e87_147, e87_148, e87_149, cq_1, fg_1_0, fg_1_1, fp_1_1, fg_1_2, fp_1_2, fg_1_3, fg_1_4, fg_1_5, fg_1_6, fg_1_7, fp_1_7_0, fp_1_7_1, cq_78, fg_78_0, fg_78_1, cq_3, fg_3_0, fg_3_1, cq_80, fg_80_0, fg_80_1, fg_80_2, fg_80_3, fg_80_4, fg_80_5, fp_80_5, fg_80_6, fp_80_6, fg_80_7, fp_80_7, fg_80_8, fp_80_8, fg_80_9, fp_80_9, cq_94, fg_94_0, fg_94_1, fp_94_1, fg_94_2, fp_94_2, fg_94_3, fp_94_3, fg_94_4, fg_94_5, fg_94_6, fg_94_7, fg_94_8, fg_94_9, fg_94_10, fg_94_11, fg_94_12, fg_94_13, fg_94_14, fg_94_15, fp_94_15_0, fp_94_15_1, fg_94_16, fp_94_16, fg_94_17, fg_94_18, fg_94_19, fg_94_20, fg_94_21, fg_94_22, fg_94_23, fp_1_6, ob, gi_97 L s h.1, h.2.1, nI_ltP (show i < 2147483648 by omega) (show i < 2147483648 by omega), Nat.lt_irrefl, if_false, mmL]
  | succ r ih =>
    intro i s a3 a4 h hc hi
    have h24 := h.2.2.1.2.1
    have hv := h.1
    have hin : i < n := by omega
    have e : s 96 (24 * v + i) = tR s v i := rfl
    have hst := stoR_mm1 (v := v) (isT := isT) (en := en) (i := i) (s := s)
    have hRF : RF (mm1 v isT en i s) v n isT en := RF_of h (fun a j ha => hst a j (by omega))
    have hck : ∀ j, j < n → isT j = true → clk (mm1 v isT en i s 99 (24 * v + j)) := fun j hj ht => by
      rw [hst 99 _ (by omega)]
      exact hc j hj ht
    have fin : ∀ a3 a4, (∃ b3 b4, rn (d + 1) 87 142 [some (.ref 94), some (.int (nI v)), some (.int (nI i)), a3, a4] [] (hH L s) = rn (d + 1) 87 234 [some (.ref 94), some (.int (nI v)), some (.int (nI i)), b3, b4] [] (hH L (mm1 v isT en i s))) → ∃ a3' a4', rn (d + 1) 87 142 [some (.ref 94), some (.int (nI v)), some (.int (nI i)), a3, a4] [] (hH L s) = rn (d + 1) 87 240 [some (.ref 94), some (.int (nI v)), some (.int (nI n)), a3', a4'] [] (hH L (mmL v isT en (r + 1) i s)) ∧ stoR s (mmL v isT en (r + 1) i s) := by
      rintro a3 a4 ⟨b3, b4, hb⟩
      obtain ⟨a3', a4', c1, c2⟩ := ih (i + 1) (mm1 v isT en i s) b3 b4 hRF hck (by omega)
      refine ⟨a3', a4', ?_, hst.tr c2⟩
      rw [hb]
      simp only [e87_234, e87_237, nI_1, mmL]
      exact c1
    refine fin a3 a4 ?_
    have hd : rn (d + 1) 87 142 [some (.ref 94), some (.int (nI v)), some (.int (nI i)), a3, a4] [] (hH L s) = rn (d + 1) 87 165 [some (.ref 94), some (.int (nI v)), some (.int (nI i)), some (.int (nI (24 * v + i))), a4] [.int (bI (isT i))] (hH L s) := by
      rw [e87_142]
      simp only [e87_143, e87_144, e87_147, e87_148, e87_149, e87_152, e87_153, e87_155, e87_156, e87_157, e87_158, e87_159, e87_160, e87_163, e87_164, cq_1, fg_1_0, fg_1_1, fp_1_1, fg_1_2, fp_1_2, fg_1_3, fg_1_4, fg_1_5, fg_1_6, fg_1_7, fp_1_7_0, fp_1_7_1, cq_78, fg_78_0, fg_78_1, cq_3, fg_3_0, fg_3_1, cq_80, fg_80_0, fg_80_1, fg_80_2, fg_80_3, fg_80_4, fg_80_5, fp_80_5, fg_80_6, fp_80_6, fg_80_7, fp_80_7, fg_80_8, fp_80_8, fg_80_9, fp_80_9, cq_94, fg_94_0, fg_94_1, fp_94_1, fg_94_2, fp_94_2, fg_94_3, fp_94_3, fg_94_4, fg_94_5, fg_94_6, fg_94_7, fg_94_8, fg_94_9, fg_94_10, fg_94_11, fg_94_12, fg_94_13, fg_94_14, fg_94_15, fp_94_15_0, fp_94_15_1, fg_94_16, fp_94_16, fg_94_17, fg_94_18, fg_94_19, fg_94_20, fg_94_21, fg_94_22, fg_94_23, fp_1_6, ob, gi_97 L s h.1, h.2.1, nI_ltP (show i < 2147483648 by omega) (show n < 2147483648 by omega), hin, if_true, m24, gi_103 L s (show 24 * v + i < 192 by omega), h.2.2.2.1 i hin]
    rw [hd]
    cases hti : isT i with
    | false =>
      have e1 : mm1 v isT en i s = s := if_neg (fun z => by rw [hti] at z; exact absurd z.1 (by decide))
      rw [e1]
      simp only [e87_165, bI_f, if_true]
      exact ⟨_, _, rfl⟩
    | true =>
      have go : (tR s v i = 80 ∨ tR s v i = 67) → ∃ b3 b4, rn (d + 1) 87 193 [some (.ref 94), some (.int (nI v)), some (.int (nI i)), some (.int (nI (24 * v + i))), a4] [] (hH L s) = rn (d + 1) 87 234 [some (.ref 94), some (.int (nI v)), some (.int (nI i)), b3, b4] [] (hH L (mm1 v isT en i s)) := by
        intro hq
        have hp : pcn (tR s v i) = 1 := pn1 (hq.elim (fun z => Or.inr (Or.inl z)) (fun z => Or.inr (Or.inr (Or.inr z))))
        have hch := RF_ch h hin hti (m := 0) (by omega)
        have hchn := (h.2.2.1.2.2.2.2.2 i hin hti).1 0 (by omega)
        have k0 := r_child d L s (K := 0) hv (show i < 24 by omega) en (by decide) (fun m hm => absurd hm (by omega))
        have k0' : rn d 83 0 [some (.ref 94), some (.int (nI v)), some (.int (nI i)), some (.int 0), none, none] [] (hH L s) = some (some (.int (nI (ch (tR s v) en i 0))), hH L s) := k0
        have hcc := hc _ hchn.1 hchn.2
        refine ⟨some (.int (nI (24 * v + i))), some (.int (nI (24 * v + ch (tR s v) en i 0))), ?_⟩
        simp only [e87_193, e87_194, e87_196, e87_197, e87_198, e87_199, e87_200, e87_201, e87_204, e87_205, e87_207, e87_208, e87_209, e87_212, e87_214, e87_215, e87_218, cq_1, fg_1_0, fg_1_1, fp_1_1, fg_1_2, fp_1_2, fg_1_3, fg_1_4, fg_1_5, fg_1_6, fg_1_7, fp_1_7_0, fp_1_7_1, cq_78, fg_78_0, fg_78_1, cq_3, fg_3_0, fg_3_1, cq_80, fg_80_0, fg_80_1, fg_80_2, fg_80_3, fg_80_4, fg_80_5, fp_80_5, fg_80_6, fp_80_6, fg_80_7, fp_80_7, fg_80_8, fp_80_8, fg_80_9, fp_80_9, cq_94, fg_94_0, fg_94_1, fp_94_1, fg_94_2, fp_94_2, fg_94_3, fp_94_3, fg_94_4, fg_94_5, fg_94_6, fg_94_7, fg_94_8, fg_94_9, fg_94_10, fg_94_11, fg_94_12, fg_94_13, fg_94_14, fg_94_15, fp_94_15_0, fp_94_15_1, fg_94_16, fp_94_16, fg_94_17, fg_94_18, fg_94_19, fg_94_20, fg_94_21, fg_94_22, fg_94_23, fp_1_6, cq_94, eq_self, ob, tl1, k0', m24, gi_99 L s (show 24 * v + ch (tR s v) en i 0 < 192 by omega), r_active d L s hcc, bz_eq0]
        unfold mm1
        by_cases q2 : actR s (s 99 (24 * v + ch (tR s v) en i 0))
        · rw [if_neg (Classical.not_not.mpr q2), if_pos ⟨hti, hq, q2⟩]
          simp only [e87_221, e87_222, e87_225, e87_226, e87_227, e87_230, e87_232, e87_233, cq_1, fg_1_0, fg_1_1, fp_1_1, fg_1_2, fp_1_2, fg_1_3, fg_1_4, fg_1_5, fg_1_6, fg_1_7, fp_1_7_0, fp_1_7_1, cq_78, fg_78_0, fg_78_1, cq_3, fg_3_0, fg_3_1, cq_80, fg_80_0, fg_80_1, fg_80_2, fg_80_3, fg_80_4, fg_80_5, fp_80_5, fg_80_6, fp_80_6, fg_80_7, fp_80_7, fg_80_8, fp_80_8, fg_80_9, fp_80_9, cq_94, fg_94_0, fg_94_1, fp_94_1, fg_94_2, fp_94_2, fg_94_3, fp_94_3, fg_94_4, fg_94_5, fg_94_6, fg_94_7, fg_94_8, fg_94_9, fg_94_10, fg_94_11, fg_94_12, fg_94_13, fg_94_14, fg_94_15, fp_94_15_0, fp_94_15_1, fg_94_16, fp_94_16, fg_94_17, fg_94_18, fg_94_19, fg_94_20, fg_94_21, fg_94_22, fg_94_23, fp_1_6, ob, gi_101 L s (show 24 * v + ch (tR s v) en i 0 < 192 by omega), pi_102 L s (show 24 * v + i < 192 by omega)]
        · rw [if_pos q2, if_neg (fun z => q2 z.2.2)]
      simp only [e87_165, e87_168, e87_169, e87_172, e87_173, e87_174, e87_176, e87_179, e87_180, e87_183, e87_184, e87_185, e87_187, e87_190, cq_1, fg_1_0, fg_1_1, fp_1_1, fg_1_2, fp_1_2, fg_1_3, fg_1_4, fg_1_5, fg_1_6, fg_1_7, fp_1_7_0, fp_1_7_1, cq_78, fg_78_0, fg_78_1, cq_3, fg_3_0, fg_3_1, cq_80, fg_80_0, fg_80_1, fg_80_2, fg_80_3, fg_80_4, fg_80_5, fp_80_5, fg_80_6, fp_80_6, fg_80_7, fp_80_7, fg_80_8, fp_80_8, fg_80_9, fp_80_9, cq_94, fg_94_0, fg_94_1, fp_94_1, fg_94_2, fp_94_2, fg_94_3, fp_94_3, fg_94_4, fg_94_5, fg_94_6, fg_94_7, fg_94_8, fg_94_9, fg_94_10, fg_94_11, fg_94_12, fg_94_13, fg_94_14, fg_94_15, fp_94_15_0, fp_94_15_1, fg_94_16, fp_94_16, fg_94_17, fg_94_18, fg_94_19, fg_94_20, fg_94_21, fg_94_22, fg_94_23, fp_1_6, ob, bI_t, i10, if_false, gi_96 L s (show 24 * v + i < 192 by omega), e]
      by_cases q80 : tR s v i = 80
      · rw [if_pos q80]
        exact go (Or.inl q80)
      · rw [if_neg q80]
        by_cases q67 : tR s v i = 67
        · rw [if_pos q67]
          exact go (Or.inr q67)
        · have e1 : mm1 v isT en i s = s := if_neg (fun z => z.2.1.elim q80 q67)
          rw [if_neg q67, e1]
          exact ⟨_, _, rfl⟩
noncomputable def in4 (N : Nat → Nat) (isT : Nat → Nat → Bool) (en : Nat → Nat → Nat) : Nat → Nat → St → St
  | 0, _, s => s
  | r + 1, v, s => in4 N isT en r (v + 1) (mmL v (isT v) (en v) (N v) 0 (wA N isT en v s))
theorem l87_4 (d L : Nat) {N : Nat → Nat} {isT : Nat → Nat → Bool} {en : Nat → Nat → Nat} : ∀ (r v : Nat) (s : St) (a2 a3 a4 : Option Value), runOK s N isT en → v + r = 8 → ∃ a2' a3' a4', rn (d + 3) 87 129 [some (.ref 94), some (.int (nI v)), a2, a3, a4] [] (hH L s) = rn (d + 3) 87 246 [some (.ref 94), some (.int (nI 8)), a2', a3', a4'] [] (hH L (in4 N isT en r v s)) ∧ stoR s (in4 N isT en r v s) := by
  intro r
  induction r with
  | zero =>
    intro v s a2 a3 a4 h hv
    have hv : v = 8 := by omega
    subst hv
    refine ⟨a2, a3, a4, ?_, stoR.rf s⟩
    rw [e87_129]
    simp only [e87_130, e87_132, nI_lt8 (show 8 < 2147483648 by decide), Nat.lt_irrefl, if_false, in4]
  | succ r ih =>
    intro v s a2 a3 a4 h hv
    have h1 : v < 8 := by omega
    have hst : stoR s (wA N isT en v s) := stoR_wkL _ _
    have h2 := runOK_of h hst
    have key : ∃ a3' a4', rn (d + 3) 87 142 [some (.ref 94), some (.int (nI v)), some (.int (nI 0)), a3, a4] [] (hH L (wA N isT en v s)) = rn (d + 3) 87 240 [some (.ref 94), some (.int (nI v)), some (.int (nI (N v))), a3', a4'] [] (hH L (mmL v (isT v) (en v) (N v) 0 (wA N isT en v s))) ∧ stoR (wA N isT en v s) (mmL v (isT v) (en v) (N v) 0 (wA N isT en v s)) := by
      by_cases q : 0 < N v
      · exact l87_m (d + 2) L (N v) 0 (wA N isT en v s) a3 a4 ((h2.1 v h1).2.2 q) (fun j hj ht => h2.2.2 v j h1 hj ht) (by omega)
      · have e0 : N v = 0 := by omega
        have e1 := (h2.1 v h1).1
        rw [e0] at e1 ⊢
        have z0 : nI 0 = 0 := rfl
        have z1 : ¬ (0 : Int32) < 0 := by decide
        refine ⟨a3, a4, ?_, stoR.rf _⟩
        rw [e87_142]
        simp only [e87_143, e87_144, e87_147, e87_148, e87_149, cq_1, fg_1_0, fg_1_1, fp_1_1, fg_1_2, fp_1_2, fg_1_3, fg_1_4, fg_1_5, fg_1_6, fg_1_7, fp_1_7_0, fp_1_7_1, cq_78, fg_78_0, fg_78_1, cq_3, fg_3_0, fg_3_1, cq_80, fg_80_0, fg_80_1, fg_80_2, fg_80_3, fg_80_4, fg_80_5, fp_80_5, fg_80_6, fp_80_6, fg_80_7, fp_80_7, fg_80_8, fp_80_8, fg_80_9, fp_80_9, cq_94, fg_94_0, fg_94_1, fp_94_1, fg_94_2, fp_94_2, fg_94_3, fp_94_3, fg_94_4, fg_94_5, fg_94_6, fg_94_7, fg_94_8, fg_94_9, fg_94_10, fg_94_11, fg_94_12, fg_94_13, fg_94_14, fg_94_15, fp_94_15_0, fp_94_15_1, fg_94_16, fp_94_16, fg_94_17, fg_94_18, fg_94_19, fg_94_20, fg_94_21, fg_94_22, fg_94_23, fp_1_6, ob, gi_97 L _ h1, e1, z0, z1, if_false, mmL]
    obtain ⟨a3', a4', b1, b2⟩ := key
    have h3 := runOK_of h2 b2
    obtain ⟨c2', c3', c4', c1, c2⟩ := ih (v + 1) _ (some (.int (nI (N v)))) a3' a4' h3 (by omega)
    refine ⟨c2', c3', c4', ?_, (hst.tr b2).tr c2⟩
    rw [e87_129]
    simp only [e87_130, e87_132, e87_135, e87_136, e87_137, e87_140, e87_141, cq_94, eq_self, ob, tl0, nI_lt8 (show v < 2147483648 by omega), h1, if_true, r_wA (d := d) L s h h1]
    refine Eq.trans b1 ?_
    simp only [e87_240, e87_243, nI_1, in4]
    exact c1
/-- the CLOCKS that are ACTIVE are counted -/
noncomputable def ac1 (k : Nat) (s : St) : St := @ite _ (actR s (nI k + (-1))) (Classical.propDecidable _) (sU s 112 k (s 112 k + 1)) s
noncomputable def in5 : Nat → Nat → St → St
  | 0, _, s => s
  | r + 1, k, s => in5 r (k + 1) (ac1 k s)
theorem m1p (k : Nat) : nI k + (-1) + 1 = nI k := by
  rw [Int32.add_assoc]
  show nI k + 0 = nI k
  rw [Int32.add_zero]
theorem clk_m1 {k : Nat} (h : k < 9) : clk (nI k + (-1)) := by
  cases k with
  | zero => exact Or.inl (by decide)
  | succ k => rw [m1_nI]; exact Or.inr ⟨k, by omega, rfl⟩
theorem l87_5e (d L : Nat) (a2 a3 a4 : Option Value) (s : St) {x : Int32} (hx : ¬ x < 8) : rn (d + 1) 87 248 [some (.ref 94), some (.int x), a2, a3, a4] [] (hH L s) = rn (d + 1) 87 280 [some (.ref 94), some (.int x), a2, a3, a4] [] (hH L s) := by
  rw [e87_248]
  simp only [e87_249, e87_251, hx, if_false]
theorem l87_5s (d L : Nat) (a2 a3 a4 : Option Value) (s : St) {x : Int32} {k : Nat} (hx : x < 8) (hc : clk x) (hk : k < 9) (e : x + 1 = nI k) : rn (d + 1) 87 248 [some (.ref 94), some (.int x), a2, a3, a4] [] (hH L s) = rn (d + 1) 87 248 [some (.ref 94), some (.int (nI k)), a2, a3, a4] [] (hH L (if actR s x then sU s 112 k (s 112 k + 1) else s)) := by
  rw [e87_248]
  simp only [e87_249, e87_251, e87_254, e87_255, e87_256, e87_259, e87_262, e87_263, e87_266, e87_267, e87_268, e87_269, e87_270, e87_271, e87_272, e87_273, e87_274, e87_277, cq_1, fg_1_0, fg_1_1, fp_1_1, fg_1_2, fp_1_2, fg_1_3, fg_1_4, fg_1_5, fg_1_6, fg_1_7, fp_1_7_0, fp_1_7_1, cq_78, fg_78_0, fg_78_1, cq_3, fg_3_0, fg_3_1, cq_80, fg_80_0, fg_80_1, fg_80_2, fg_80_3, fg_80_4, fg_80_5, fp_80_5, fg_80_6, fp_80_6, fg_80_7, fp_80_7, fg_80_8, fp_80_8, fg_80_9, fp_80_9, cq_94, fg_94_0, fg_94_1, fp_94_1, fg_94_2, fp_94_2, fg_94_3, fp_94_3, fg_94_4, fg_94_5, fg_94_6, fg_94_7, fg_94_8, fg_94_9, fg_94_10, fg_94_11, fg_94_12, fg_94_13, fg_94_14, fg_94_15, fp_94_15_0, fp_94_15_1, fg_94_16, fp_94_16, fg_94_17, fg_94_18, fg_94_19, fg_94_20, fg_94_21, fg_94_22, fg_94_23, fp_1_6, cq_94, eq_self, ob, tl1, hx, if_true, r_active d L s hc, bz_eq0, e, gi_112 L s hk, pi_112 L s hk]
  by_cases q : actR s x
  · rw [if_neg (Classical.not_not.mpr q), if_pos q]
  · rw [if_pos q, if_neg q]
theorem nI_m1lt {k : Nat} (h : k < 9) : nI k + (-1) < 8 := by
  cases k with
  | zero => decide
  | succ k => rw [m1_nI]; exact nI_lt (b := 8) (by omega) (by decide)
theorem stoR_ac1 (k : Nat) (s : St) : stoR s (ac1 k s) := by
  unfold ac1
  split
  · exact stoR_U _ _ _ (by decide)
  · exact stoR.rf s
theorem in5_0 (k : Nat) (s : St) : in5 0 k s = s := by rw [in5]
theorem in5_s (r k : Nat) (s : St) : in5 (r + 1) k s = in5 r (k + 1) (ac1 k s) := by rw [in5]
theorem l87_5a (d L : Nat) (a2 a3 a4 : Option Value) (s : St) : rn (d + 1) 87 248 [some (.ref 94), some (.int (nI 8)), a2, a3, a4] [] (hH L s) = rn (d + 1) 87 280 [some (.ref 94), some (.int (nI 8)), a2, a3, a4] [] (hH L s) := l87_5e d L a2 a3 a4 s (by decide)
theorem l87_5b (d L : Nat) (a2 a3 a4 : Option Value) (s : St) {k : Nat} (hk : k < 9) : rn (d + 1) 87 248 [some (.ref 94), some (.int (nI k + (-1))), a2, a3, a4] [] (hH L s) = rn (d + 1) 87 248 [some (.ref 94), some (.int (nI k)), a2, a3, a4] [] (hH L (ac1 k s)) := by
  rw [l87_5s d L a2 a3 a4 s (nI_m1lt hk) (clk_m1 hk) hk (m1p k)]
  unfold ac1
  by_cases q : actR s (nI k + (-1))
  · rw [if_pos q, if_pos q]
  · rw [if_neg q, if_neg q]
theorem nI9 : nI 9 + (-1) = nI 8 := by decide
theorem l87_5 (d L : Nat) (a2 a3 a4 : Option Value) : ∀ (r k : Nat) (s : St), k + r = 9 → rn (d + 1) 87 248 [some (.ref 94), some (.int (nI k + (-1))), a2, a3, a4] [] (hH L s) = rn (d + 1) 87 280 [some (.ref 94), some (.int (nI 8)), a2, a3, a4] [] (hH L (in5 r k s)) ∧ stoR s (in5 r k s) := by
  intro r
  induction r with
  | zero =>
    intro k s hk
    have hk9 : k = 9 := by omega
    rw [hk9, nI9, in5_0]
    exact ⟨l87_5a d L a2 a3 a4 s, stoR.rf s⟩
  | succ r ih =>
    intro k s hk
    have h1 : k < 9 := by omega
    have h2 := ih (k + 1) (ac1 k s) (by omega)
    rw [m1_nI] at h2
    rw [in5_s, l87_5b d L a2 a3 a4 s h1]
    exact ⟨h2.1, (stoR_ac1 k s).tr h2.2⟩
/-- an INSTANT -/
noncomputable def inR_ (N : Nat → Nat) (isT : Nat → Nat → Bool) (en : Nat → Nat → Nat) (s : St) : St :=
  let s5 := in5 9 0 (in4 N isT en 8 0 (in3 N isT en 8 (in0 8 0 s)))
  sU s5 94 16 (s5 94 16 + 1)
theorem r_instant (d L : Nat) {N : Nat → Nat} {isT : Nat → Nat → Bool} {en : Nat → Nat → Nat} (s : St) (h : runOK s N isT en) : rn (d + 3) 87 0 [some (.ref 94), none, none, none, none] [] (hH L s) = some (none, hH L (inR_ N isT en s)) ∧ stoR s (inR_ N isT en s) := by
  obtain ⟨a1, a2⟩ := l87_0 (d + 3) L none none none 8 0 s (by decide)
  obtain ⟨x2, b1, b2⟩ := l87_1 d L none none 8 0 _ none (runOK_of h a2) (by decide)
  obtain ⟨y2, y3, y4, c1, c2⟩ := l87_4 d L 8 0 _ x2 none none (runOK_of h (a2.tr b2)) (by decide)
  obtain ⟨d1, d2⟩ := l87_5 (d + 2) L y2 y3 y4 9 0 (in4 N isT en 8 0 (in3 N isT en 8 (in0 8 0 s))) (by decide)
  refine ⟨?_, (((a2.tr b2).tr c2).tr d2).tr (stoR_U _ _ _ (by decide))⟩
  simp only [e87_0, e87_1]
  refine Eq.trans a1 ?_
  simp only [e87_28, e87_29]
  refine Eq.trans b1 ?_
  simp only [e87_127, e87_128]
  refine Eq.trans c1 ?_
  simp only [e87_246, e87_247]
  refine Eq.trans d1 ?_
  simp only [e87_280, e87_281, e87_282, e87_285, e87_286, e87_287, e87_290, cq_1, fg_1_0, fg_1_1, fp_1_1, fg_1_2, fp_1_2, fg_1_3, fg_1_4, fg_1_5, fg_1_6, fg_1_7, fp_1_7_0, fp_1_7_1, cq_78, fg_78_0, fg_78_1, cq_3, fg_3_0, fg_3_1, cq_80, fg_80_0, fg_80_1, fg_80_2, fg_80_3, fg_80_4, fg_80_5, fp_80_5, fg_80_6, fp_80_6, fg_80_7, fp_80_7, fg_80_8, fp_80_8, fg_80_9, fp_80_9, cq_94, fg_94_0, fg_94_1, fp_94_1, fg_94_2, fp_94_2, fg_94_3, fp_94_3, fg_94_4, fg_94_5, fg_94_6, fg_94_7, fg_94_8, fg_94_9, fg_94_10, fg_94_11, fg_94_12, fg_94_13, fg_94_14, fg_94_15, fp_94_15_0, fp_94_15_1, fg_94_16, fp_94_16, fg_94_17, fg_94_18, fg_94_19, fg_94_20, fg_94_21, fg_94_22, fg_94_23, fp_1_6, ob, inR_]
noncomputable def stR (N : Nat → Nat) (isT : Nat → Nat → Bool) (en : Nat → Nat → Nat) (s : St) : Nat → St
  | 0 => s
  | r + 1 => stR N isT en (inR_ N isT en s) r
theorem lr_step (d L : Nat) {N : Nat → Nat} {isT : Nat → Nat → Bool} {en : Nat → Nat → Nat} (x : Int32) : ∀ (r i : Nat) (s : St), runOK s N isT en → i + r < 2147483648 → x = nI (i + r) → rn (d + 4) 86 25 [some (.ref 94), some (.int x), some (.int (nI i))] [] (hH L s) = some (some (.int (stR N isT en s r 94 16)), hH L (stR N isT en s r)) := by
  intro r
  induction r with
  | zero =>
    intro i s h hi ex
    subst ex
    rw [e86_25]
    simp only [e86_26, e86_27, e86_40, e86_41, e86_44, cq_1, fg_1_0, fg_1_1, fp_1_1, fg_1_2, fp_1_2, fg_1_3, fg_1_4, fg_1_5, fg_1_6, fg_1_7, fp_1_7_0, fp_1_7_1, cq_78, fg_78_0, fg_78_1, cq_3, fg_3_0, fg_3_1, cq_80, fg_80_0, fg_80_1, fg_80_2, fg_80_3, fg_80_4, fg_80_5, fp_80_5, fg_80_6, fp_80_6, fg_80_7, fp_80_7, fg_80_8, fp_80_8, fg_80_9, fp_80_9, cq_94, fg_94_0, fg_94_1, fp_94_1, fg_94_2, fp_94_2, fg_94_3, fp_94_3, fg_94_4, fg_94_5, fg_94_6, fg_94_7, fg_94_8, fg_94_9, fg_94_10, fg_94_11, fg_94_12, fg_94_13, fg_94_14, fg_94_15, fp_94_15_0, fp_94_15_1, fg_94_16, fp_94_16, fg_94_17, fg_94_18, fg_94_19, fg_94_20, fg_94_21, fg_94_22, fg_94_23, fp_1_6, ob, nI_ltP (show i < 2147483648 by omega) (show i < 2147483648 by omega), Nat.add_zero, Nat.lt_irrefl, if_false, stR]
  | succ r ih =>
    intro i s h hi ex
    obtain ⟨p1, p2⟩ := r_instant d L s h
    have h1 := ih (i + 1) _ (runOK_of h p2) (by omega) (by rw [ex]; congr 1; omega)
    subst ex
    rw [e86_25]
    simp only [e86_26, e86_27, e86_30, e86_31, e86_34, e86_37, cq_94, eq_self, ob, nI_ltP (show i < 2147483648 by omega) (show i + (r + 1) < 2147483648 by omega), show i < i + (r + 1) by omega, if_true, p1, tl0, nI_1, stR]
    exact h1
theorem r_step (d L : Nat) {N : Nat → Nat} {isT : Nat → Nat → Bool} {en : Nat → Nat → Nat} (s : St) {k : Nat} (hk : 1 ≤ k) (hk2 : k ≤ 20) (h : ¬ s 94 15 = 0 → runOK s N isT en) : rn (d + 4) 86 0 [some (.ref 94), some (.int (nI k)), none] [] (hH L s) = if s 94 15 = 0 then some (some (.int (-4)), hH L s) else some (some (.int (stR N isT en s k 94 16)), hH L (stR N isT en s k)) := by
  have c1 : ¬ nI k < 1 := nI_nlt (b := 1) hk (by omega)
  have c2 : ¬ (20 : Int32) < nI k := nI_nlt (a := 20) (b := k) hk2 (by decide)
  by_cases q : s 94 15 = 0
  · simp only [e86_0, e86_1, e86_2, e86_5, e86_6, e86_8, e86_11, e86_12, e86_13, e86_14, e86_17, e86_20, e86_22, cq_1, fg_1_0, fg_1_1, fp_1_1, fg_1_2, fp_1_2, fg_1_3, fg_1_4, fg_1_5, fg_1_6, fg_1_7, fp_1_7_0, fp_1_7_1, cq_78, fg_78_0, fg_78_1, cq_3, fg_3_0, fg_3_1, cq_80, fg_80_0, fg_80_1, fg_80_2, fg_80_3, fg_80_4, fg_80_5, fp_80_5, fg_80_6, fp_80_6, fg_80_7, fp_80_7, fg_80_8, fp_80_8, fg_80_9, fp_80_9, cq_94, fg_94_0, fg_94_1, fp_94_1, fg_94_2, fp_94_2, fg_94_3, fp_94_3, fg_94_4, fg_94_5, fg_94_6, fg_94_7, fg_94_8, fg_94_9, fg_94_10, fg_94_11, fg_94_12, fg_94_13, fg_94_14, fg_94_15, fp_94_15_0, fp_94_15_1, fg_94_16, fp_94_16, fg_94_17, fg_94_18, fg_94_19, fg_94_20, fg_94_21, fg_94_22, fg_94_23, fp_1_6, ob, c1, c2, q, if_true, if_false]
  · simp only [e86_0, e86_1, e86_2, e86_5, e86_6, e86_8, e86_11, e86_12, e86_13, e86_14, e86_17, e86_20, e86_22, e86_23, e86_24, cq_1, fg_1_0, fg_1_1, fp_1_1, fg_1_2, fp_1_2, fg_1_3, fg_1_4, fg_1_5, fg_1_6, fg_1_7, fp_1_7_0, fp_1_7_1, cq_78, fg_78_0, fg_78_1, cq_3, fg_3_0, fg_3_1, cq_80, fg_80_0, fg_80_1, fg_80_2, fg_80_3, fg_80_4, fg_80_5, fp_80_5, fg_80_6, fp_80_6, fg_80_7, fp_80_7, fg_80_8, fp_80_8, fg_80_9, fp_80_9, cq_94, fg_94_0, fg_94_1, fp_94_1, fg_94_2, fp_94_2, fg_94_3, fp_94_3, fg_94_4, fg_94_5, fg_94_6, fg_94_7, fg_94_8, fg_94_9, fg_94_10, fg_94_11, fg_94_12, fg_94_13, fg_94_14, fg_94_15, fp_94_15_0, fp_94_15_1, fg_94_16, fp_94_16, fg_94_17, fg_94_18, fg_94_19, fg_94_20, fg_94_21, fg_94_22, fg_94_23, fp_1_6, ob, c1, c2, q, if_true, if_false]
    exact lr_step d L (nI k) k 0 s (h q) (by omega) (by rw [Nat.zero_add])
theorem r_stepN (d L : Nat) (s : St) {x : Int32} (hx : x < 1 ∨ 20 < x) : rn d 86 0 [some (.ref 94), some (.int x), none] [] (hH L s) = some (some (.int (-1)), hH L s) := by
  simp only [e86_0, e86_1, e86_2, e86_5, e86_6, e86_8, e86_11, e86_12]
  rcases hx with h | h
  · simp only [h, if_true]
  · by_cases h1 : x < 1 <;> simp only [h1, h, if_true, if_false]
