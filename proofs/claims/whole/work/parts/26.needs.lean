/-! What is NEEDED, the order, check: the class. -/
def ndV (s : St) (k : Nat) : Int32 := if 0 < s (eqA s k) 1 then noL s (eqA s k) (ln_ s (eqA s k)) 0 0 ||| ckS s k else 0
def gn1 : Nat → Nat → St → St
  | 0, _, s => s
  | r + 1, k, s => gn1 r (k + 1) (sU s 79 k (ndV s k))
def gn3 (b : Nat) : Nat → Nat → St → St
  | 0, _, s => s
  | r + 1, k, s => gn3 b r (k + 1) (if ¬ (s 79 k >>> (nI b &&& 31)) &&& 1 = 0 then sU s 79 k (s 79 k ||| s 79 b) else s)
def gn2 : Nat → Nat → St → St
  | 0, _, s => s
  | r + 1, b, s => gn2 r (b + 1) (gn3 b 8 0 s)
/-- only the row of needs changes -/
def only79 (s s' : St) : Prop := ∀ a j, a ≠ 79 → s' a j = s a j
theorem only79.tr {s s' s'' : St} (h1 : only79 s s') (h2 : only79 s' s'') : only79 s s'' := fun a j h => (h2 a j h).trans (h1 a j h)
theorem only79_U (s : St) (k : Nat) (x : Int32) : only79 s (sU s 79 k x) := fun _ j h => sU_a s k j x h
theorem lnE_of {s s' : St} (h : lnE s) (h4 : ∀ k, s' 4 k = s 4 k) (h1 : ∀ e, isE e → s' e 1 = s e 1) : lnE s' := by
  intro k hk
  obtain ⟨he, n, hn, hl⟩ := h k hk
  have e1 : eqA s' k = eqA s k := by
    show (s' 4 k).toNatClampNeg = (s 4 k).toNatClampNeg
    rw [h4]
  exact ⟨by rw [e1]; exact he, n, hn, by rw [e1, h1 _ he]; exact hl⟩
theorem only79.lnE {s s' : St} (h : only79 s s') (hs : lnE s) : lnE s' := lnE_of hs (fun k => h 4 k (by decide)) (fun e he => h e 1 (by have := isE_rng he (show 0 < 9 by decide) (Nat.add_zero e).symm; omega))
theorem l_gather1 (d L : Nat) : ∀ (r k : Nat) (s : St), lnE s → k + r = 8 → rn (d + 2) 42 2 [some (.ref 78), some (.int (nI k)), none] [] (hH L s) = rn (d + 2) 42 56 [some (.ref 78), some (.int (nI 8)), none] [] (hH L (gn1 r k s)) ∧ only79 s (gn1 r k s) := by
  intro r
  induction r with
  | zero =>
    intro k s hs hk
    have hk : k = 8 := by omega
    subst hk
    refine ⟨?_, fun _ _ _ => rfl⟩
    rw [e42_2]
    simp only [e42_3, e42_5, nI_lt8 (show 8 < 2147483648 by decide), Nat.lt_irrefl, if_false, gn1]
  | succ r ih =>
    intro k s hs hk
    have h1 : k < 8 := by omega
    have hl := hs.ln h1
    have ho := only79_U s k (ndV s k)
    obtain ⟨b1, b2⟩ := ih (k + 1) _ (ho.lnE hs) (by omega)
    rw [e42_2]
    simp only [e42_3, e42_5, e42_8, e42_9, e42_12, e42_13, e42_14, e42_17, e42_18, e42_21, e42_24, e42_25, e42_28, e42_31, e42_32, e42_33, e42_36, e42_37, e42_40, e42_41, e42_44, e42_45, e42_48, e42_49, e42_50, e42_53, cq_1, fg_1_0, fg_1_1, fp_1_1, fg_1_2, fp_1_2, fg_1_3, fg_1_4, fg_1_5, fg_1_6, fg_1_7, fp_1_7_0, fp_1_7_1, cq_78, fg_78_0, fg_78_1, cq_3, fg_3_0, fg_3_1, cq_80, fg_80_0, fg_80_1, fg_80_2, fg_80_3, fg_80_4, fg_80_5, fp_80_5, fg_80_6, fp_80_6, fg_80_7, fp_80_7, fg_80_8, fp_80_8, fg_80_9, fp_80_9, cq_94, fg_94_0, fg_94_1, fp_94_1, fg_94_2, fp_94_2, fg_94_3, fp_94_3, fg_94_4, fg_94_5, fg_94_6, fg_94_7, fg_94_8, fg_94_9, fg_94_10, fg_94_11, fg_94_12, fg_94_13, fg_94_14, fg_94_15, fp_94_15_0, fp_94_15_1, fg_94_16, fp_94_16, fg_94_17, fg_94_18, fg_94_19, fg_94_20, fg_94_21, fg_94_22, fg_94_23, fp_1_6, cq_3, cq_E L s (hs.ok k h1), eq_self, nI_lt8 (show k < 2147483648 by omega), h1, if_true, ob, tl1, m_defines (d := d) L s hs.ok h1, bz_eq0, gr_4 L s h1, va_rf, m_namesOutsideP _ L s (hs.ok k h1) hl.1 hl.2, m_clockSet _ L s h1, pi_79 L s h1, nI_1, gn1]
    refine ⟨?_, ho.tr b2⟩
    by_cases q : 0 < s (eqA s k) 1
    · have e1 : ndV s k = noL s (eqA s k) (ln_ s (eqA s k)) 0 0 ||| ckS s k := if_pos q
      rw [e1] at b1
      rw [if_neg (Classical.not_not.mpr q), e1]
      exact b1
    · have e1 : ndV s k = 0 := if_neg q
      rw [e1] at b1
      rw [if_pos q, e1]
      exact b1
theorem l_gather3 (d L : Nat) {b : Nat} (hb : b < 8) : ∀ (r k : Nat) (s : St), k + r = 8 → rn (d + 1) 42 66 [some (.ref 78), some (.int (nI b)), some (.int (nI k))] [] (hH L s) = rn (d + 1) 42 106 [some (.ref 78), some (.int (nI b)), some (.int (nI 8))] [] (hH L (gn3 b r k s)) ∧ only79 s (gn3 b r k s) := by
  intro r
  induction r with
  | zero =>
    intro k s hk
    have hk : k = 8 := by omega
    subst hk
    refine ⟨?_, fun _ _ _ => rfl⟩
    rw [e42_66]
    simp only [e42_67, e42_69, nI_lt8 (show 8 < 2147483648 by decide), Nat.lt_irrefl, if_false, gn3]
  | succ r ih =>
    intro k s hk
    have h1 : k < 8 := by omega
    rw [e42_66]
    simp only [e42_67, e42_69, e42_72, e42_73, e42_76, e42_77, e42_78, e42_79, e42_82, e42_85, e42_86, e42_89, e42_90, e42_91, e42_92, e42_93, e42_96, e42_97, e42_98, e42_99, e42_100, e42_103, cq_1, fg_1_0, fg_1_1, fp_1_1, fg_1_2, fp_1_2, fg_1_3, fg_1_4, fg_1_5, fg_1_6, fg_1_7, fp_1_7_0, fp_1_7_1, cq_78, fg_78_0, fg_78_1, cq_3, fg_3_0, fg_3_1, cq_80, fg_80_0, fg_80_1, fg_80_2, fg_80_3, fg_80_4, fg_80_5, fp_80_5, fg_80_6, fp_80_6, fg_80_7, fp_80_7, fg_80_8, fp_80_8, fg_80_9, fp_80_9, cq_94, fg_94_0, fg_94_1, fp_94_1, fg_94_2, fp_94_2, fg_94_3, fp_94_3, fg_94_4, fg_94_5, fg_94_6, fg_94_7, fg_94_8, fg_94_9, fg_94_10, fg_94_11, fg_94_12, fg_94_13, fg_94_14, fg_94_15, fp_94_15_0, fp_94_15_1, fg_94_16, fp_94_16, fg_94_17, fg_94_18, fg_94_19, fg_94_20, fg_94_21, fg_94_22, fg_94_23, fp_1_6, nI_lt8 (show k < 2147483648 by omega), h1, if_true, ob, tl1, gi_79 L s h1, gi_79 L s hb, m_contains, bz_eq0, pi_79 L s h1, nI_1, gn3]
    by_cases q : ¬ (s 79 k >>> (nI b &&& 31)) &&& 1 = 0
    · rw [if_neg (Classical.not_not.mpr q), if_pos q]
      obtain ⟨b1, b2⟩ := ih (k + 1) _ (by omega)
      exact ⟨b1, (only79_U s k _).tr b2⟩
    · rw [if_pos q, if_neg q]
      exact ih (k + 1) s (by omega)
theorem l_gather2 (d L : Nat) : ∀ (r b : Nat) (s : St) (a2 : Option Value), b + r = 8 → rn (d + 1) 42 58 [some (.ref 78), some (.int (nI b)), a2] [] (hH L s) = some (none, hH L (gn2 r b s)) ∧ only79 s (gn2 r b s) := by
  intro r
  induction r with
  | zero =>
    intro b s a2 hk
    have hk : b = 8 := by omega
    subst hk
    refine ⟨?_, fun _ _ _ => rfl⟩
    rw [e42_58]
    simp only [e42_59, e42_61, e42_112, nI_lt8 (show 8 < 2147483648 by decide), Nat.lt_irrefl, if_false, gn2]
  | succ r ih =>
    intro b s a2 hk
    have h1 : b < 8 := by omega
    obtain ⟨b1, b2⟩ := l_gather3 d L h1 8 0 s (by decide)
    rw [e42_58]
    simp only [e42_59, e42_61, e42_64, e42_65, nI_lt8 (show b < 2147483648 by omega), h1, if_true]
    have b1' : rn (d + 1) 42 66 [some (.ref 78), some (.int (nI b)), some (.int 0)] [] (hH L s) = rn (d + 1) 42 106 [some (.ref 78), some (.int (nI b)), some (.int (nI 8))] [] (hH L (gn3 b 8 0 s)) := b1
    rw [b1']
    simp only [e42_106, e42_109, nI_1, gn2]
    obtain ⟨c1, c2⟩ := ih (b + 1) _ (some (.int (nI 8))) (by omega)
    exact ⟨c1, b2.tr c2⟩
def gn (s : St) : St := gn2 8 0 (gn1 8 0 s)
theorem m_gatherNeeds (d L : Nat) (s : St) (hs : lnE s) : rn (d + 2) 42 0 [some (.ref 78), none, none] [] (hH L s) = some (none, hH L (gn s)) ∧ only79 s (gn s) := by
  obtain ⟨a1, a2⟩ := l_gather1 d L 8 0 s hs (by decide)
  obtain ⟨b1, b2⟩ := l_gather2 (d + 1) L 8 0 (gn1 8 0 s) none (by decide)
  refine ⟨?_, a2.tr b2⟩
  simp only [e42_0, e42_1]
  refine Eq.trans a1 ?_
  simp only [e42_56, e42_57]
  exact b1
def lnF (s : St) : Nat → Nat → Int32
  | 0, _ => -1
  | r + 1, k => if ¬ (s 79 k >>> (nI k &&& 31)) &&& 1 = 0 then nI k else lnF s r (k + 1)
theorem l_leastNeeding (d L : Nat) (s : St) : ∀ (r k : Nat), k + r = 8 → rn (d + 1) 41 6 [some (.ref 78), some (.int (nI k))] [] (hH L s) = some (some (.int (lnF s r k)), hH L s) := by
  intro r
  induction r with
  | zero =>
    intro k hk
    have hk : k = 8 := by omega
    subst hk
    rw [e41_6]
    simp only [e41_7, e41_9, e41_12, e41_13, e41_16, e41_17, e41_18, e41_19, e41_22, e41_25, e41_26, e41_27, e41_30, e41_33, e41_34, nI_lt8 (show 8 < 2147483648 by decide), Nat.lt_irrefl, if_false, lnF]
  | succ r ih =>
    intro k hk
    have h1 : k < 8 := by omega
    rw [e41_6]
    simp only [e41_7, e41_9, e41_12, e41_13, e41_16, e41_17, e41_18, e41_19, e41_22, e41_25, e41_26, e41_27, e41_30, e41_33, e41_34, cq_1, fg_1_0, fg_1_1, fp_1_1, fg_1_2, fp_1_2, fg_1_3, fg_1_4, fg_1_5, fg_1_6, fg_1_7, fp_1_7_0, fp_1_7_1, cq_78, fg_78_0, fg_78_1, cq_3, fg_3_0, fg_3_1, cq_80, fg_80_0, fg_80_1, fg_80_2, fg_80_3, fg_80_4, fg_80_5, fp_80_5, fg_80_6, fp_80_6, fg_80_7, fp_80_7, fg_80_8, fp_80_8, fg_80_9, fp_80_9, cq_94, fg_94_0, fg_94_1, fp_94_1, fg_94_2, fp_94_2, fg_94_3, fp_94_3, fg_94_4, fg_94_5, fg_94_6, fg_94_7, fg_94_8, fg_94_9, fg_94_10, fg_94_11, fg_94_12, fg_94_13, fg_94_14, fg_94_15, fp_94_15_0, fp_94_15_1, fg_94_16, fp_94_16, fg_94_17, fg_94_18, fg_94_19, fg_94_20, fg_94_21, fg_94_22, fg_94_23, fp_1_6, nI_lt8 (show k < 2147483648 by omega), h1, if_true, ob, tl1, gi_79 L s h1, m_contains, bz_eq0, nI_1, lnF]
    by_cases q : ¬ (s 79 k >>> (nI k &&& 31)) &&& 1 = 0
    · rw [if_neg (Classical.not_not.mpr q), if_pos q]
    · rw [if_pos q, if_neg q]
      exact ih _ (by omega)
theorem m_leastNeeding (d L : Nat) (s : St) (hs : lnE s) : rn (d + 3) 41 0 [some (.ref 78), none] [] (hH L s) = some (some (.int (lnF (gn s) 8 0)), hH L (gn s)) := by
  simp only [e41_0, e41_1, e41_4, e41_5, cq_78, eq_self, ob, tl0, (m_gatherNeeds d L s hs).1]
  exact l_leastNeeding (d + 2) L (gn s) 8 0 (by decide)
/-- THE CHECK -/
noncomputable def ffV (s : St) : Int32 × St :=
  if ¬ lmF s (lmW s 8 0 0) 8 0 = -1 then (-100 * 1 - lmF s (lmW s 8 0 0) 8 0, s) else
  if ¬ lrF s 8 0 = -1 then (-100 * 2 - lrF s 8 0, s) else
  if ¬ (luF 8 0 s).1 = -1 then (-100 * 3 - (luF 8 0 s).1, (luF 8 0 s).2) else
  if lnF (gn (luF 8 0 s).2) 8 0 = -1 then (0, gn (luF 8 0 s).2) else (-100 * 4 - lnF (gn (luF 8 0 s).2) 8 0, gn (luF 8 0 s).2)
theorem FKs.lnE {s : St} (h : FKs s) : lnE s := fun k hk => by
  obtain ⟨n, -, h2, h3, h4⟩ := h k hk
  exact ⟨h3, n, h2, h4⟩
theorem m_firstFault (d L : Nat) (s : St) (hs : FKs s) (hc : ckOK s) : rn (d + 4) 29 0 [some (.ref 78), none] [] (hH L s) = some (some (.int (ffV s).1), hH L (ffV s).2) := by
  obtain ⟨u1, u2⟩ := m_leastUnfit d L s hs
  have hs2 := u2.FKs hs
  simp only [e29_0, e29_1, e29_4, e29_5, e29_6, e29_7, e29_10, e29_11, e29_12, e29_15, e29_16, e29_17, e29_20, e29_21, e29_22, e29_23, e29_26, e29_27, e29_28, e29_31, e29_32, e29_33, e29_36, e29_37, e29_38, e29_39, e29_42, e29_43, e29_44, e29_47, e29_48, e29_49, e29_52, e29_53, e29_54, e29_55, e29_58, e29_59, e29_62, e29_63, e29_64, e29_67, cq_78, eq_self, ob, tl1, m_leastMissing (d + 1) L s hs.lnE, m_leastOnRing (d + 1) L s hs.ok hc, u1, m_leastNeeding d L _ hs2.lnE, m_faultAnswer, ffV]
  by_cases q1 : lmF s (lmW s 8 0 0) 8 0 = -1
  · rw [if_pos q1, if_neg (Classical.not_not.mpr q1)]
    by_cases q2 : lrF s 8 0 = -1
    · rw [if_pos q2, if_neg (Classical.not_not.mpr q2)]
      by_cases q3 : (luF 8 0 s).1 = -1
      · rw [if_pos q3, if_neg (Classical.not_not.mpr q3)]
        by_cases q4 : lnF (gn (luF 8 0 s).2) 8 0 = -1
        · rw [if_pos q4, if_pos q4]
        · rw [if_neg q4, if_neg q4]
      · rw [if_neg q3, if_pos q3]
    · rw [if_neg q2, if_pos q2]
  · rw [if_neg q1, if_pos q1]
/-- the order -/
def ar3 (c : Nat) : Nat → Nat → St → St
  | 0, _, s => s
  | r + 1, v, s => ar3 c r (v + 1) (if 0 < s (eqA s v) 1 ∧ bcV (s 79 v) = nI c then sU (sU s 84 (s 80 5).toNatClampNeg (nI v)) 80 5 (s 80 5 + 1) else s)
def ar2L : Nat → Nat → St → St
  | 0, _, s => s
  | r + 1, c, s => ar2L r (c + 1) (ar3 c 8 0 s)
def ar (s : St) : St := ar2L 8 0 (sU s 80 5 0)
