/-! types; THE CHECK: the class. -/
def ofL (c : Int32) : Prop := (¬ c < 48 ∧ ¬ 57 < c) ∨ (¬ c < 97 ∧ c < 105) ∨ (¬ c < 112 ∧ c < 116) ∨ isOpc c = true
def lenOK (s : St) : Prop := ∃ n, n ≤ 24 ∧ s 1 1 = nI n
noncomputable def tpC (s : St) (c : Int32) : Int32 × St := @ite _ (¬ ofL c) (Classical.propDecidable _) (-1, s) (if s 1 1 = 24 then (-2, s) else (s 1 1 + 1, sU (sU s 2 (s 1 1).toNatClampNeg c) 1 1 (s 1 1 + 1)))
theorem m_typeC (d L : Nat) (s : St) (c : Int32) (h : lenOK s) : rn (d + 7) 5 0 [some (.ref 1), some (.int c)] [] (hH L s) = some (some (.int (tpC s c).1), hH L (tpC s c).2) := by
  obtain ⟨n, hn, hl⟩ := h
  rw [m_type d L s c hn hl]
  unfold tpC ofL
  by_cases q : ¬ ((¬ c < 48 ∧ ¬ 57 < c) ∨ (¬ c < 97 ∧ c < 105) ∨ (¬ c < 112 ∧ c < 116) ∨ isOpc c = true)
  · rw [if_pos q, if_pos q]
  · rw [if_neg q, if_neg q, hl]
    by_cases h24 : n = 24
    · subst h24
      rw [if_pos rfl, if_pos (show nI 24 = 24 from rfl)]
    · have h24' : ¬ nI n = (24 : Int32) := fun z => h24 ((nI_eq (b := 24) (by omega) (by decide)).mp z)
      rw [if_neg h24, if_neg h24', nI_1, nI_clamp (by omega)]
theorem lenOK_tpC {s : St} {c : Int32} (h : lenOK s) : lenOK (tpC s c).2 := by
  obtain ⟨n, hn, hl⟩ := h
  unfold tpC
  split
  · exact ⟨n, hn, hl⟩
  · split
    · exact ⟨n, hn, hl⟩
    · next h24 =>
      refine ⟨n + 1, ?_, ?_⟩
      · apply Classical.byContradiction
        intro h9
        have : n = 24 := by omega
        subst this
        exact h24 hl
      · show sU (sU s 2 (s 1 1).toNatClampNeg c) 1 1 (s 1 1 + 1) 1 1 = _
        rw [sU_same, hl, nI_1]
/-- the k-th byte from below -/
def byt (e : Int64) (k : Nat) : Int32 := (e.toUInt64 >>> ((nI (8 * k)).toInt64.toUInt64 &&& Int64.toUInt64 63)).toInt64.toInt32 &&& 255
noncomputable def tyL (e : Int64) : Nat → St → Int32 × St
  | 0, s => (s 1 1, s)
  | k + 1, s => if byt e k = 0 then tyL e k s else if (tpC s (byt e k)).1 < 0 then tpC s (byt e k) else tyL e k (tpC s (byt e k)).2
theorem nI_m8 (k : Nat) : nI (8 * (k + 1)) + (-8) = nI (8 * k) := by
  have h : nI (8 * (k + 1)) = nI (8 * k) + nI 8 := by rw [nI_add]; congr 1
  rw [h, Int32.add_assoc]
  have h2 : nI 8 + (-8) = 0 := by decide
  rw [h2, Int32.add_zero]
theorem lenOK_n0 {s : St} (h : lenOK s) : ¬ s 1 1 < 0 := by
  obtain ⟨n, hn, hl⟩ := h
  rw [hl]
  exact nI_pos (by omega)
theorem l_types (d L : Nat) (e : Int64) : ∀ (k : Nat) (s : St) (a4 a5 : Option Value), k ≤ 8 → lenOK s → rn (d + 8) 10 3 [some (.ref 1), some (.long e), mSec, some (.int (nI (8 * k) + (-8))), a4, a5] [] (hH L s) = some (some (.int (tyL e k s).1), hH L (tyL e k s).2) := by
  intro k
  induction k with
  | zero =>
    intro s a4 a5 hk hs
    have h0 : nI (8 * 0) + (-8) < 0 := by decide
    rw [e10_3]
    simp only [e10_0, e10_2, e10_4, e10_7, e10_8, e10_9, e10_10, e10_11, e10_14, e10_15, e10_17, e10_19, e10_22, e10_23, e10_26, e10_29, e10_30, e10_32, e10_35, e10_37, e10_39, e10_42, e10_44, e10_45, e10_48, e10_51, e10_52, e10_55, cq_1, fg_1_0, fg_1_1, fp_1_1, fg_1_2, fp_1_2, fg_1_3, fg_1_4, fg_1_5, fg_1_6, fg_1_7, fp_1_7_0, fp_1_7_1, cq_78, fg_78_0, fg_78_1, cq_3, fg_3_0, fg_3_1, cq_80, fg_80_0, fg_80_1, fg_80_2, fg_80_3, fg_80_4, fg_80_5, fp_80_5, fg_80_6, fp_80_6, fg_80_7, fp_80_7, fg_80_8, fp_80_8, fg_80_9, fp_80_9, cq_94, fg_94_0, fg_94_1, fp_94_1, fg_94_2, fp_94_2, fg_94_3, fp_94_3, fg_94_4, fg_94_5, fg_94_6, fg_94_7, fg_94_8, fg_94_9, fg_94_10, fg_94_11, fg_94_12, fg_94_13, fg_94_14, fg_94_15, fp_94_15_0, fp_94_15_1, fg_94_16, fp_94_16, fg_94_17, fg_94_18, fg_94_19, fg_94_20, fg_94_21, fg_94_22, fg_94_23, fp_1_6, ob, h0, if_true, tyL]
  | succ k ih =>
    intro s a4 a5 hk hs
    have h0 : ¬ nI (8 * k) < 0 := nI_pos (by omega)
    have hb : (e.toUInt64 >>> ((nI (8 * k)).toInt64.toUInt64 &&& Int64.toUInt64 63)).toInt64.toInt32 &&& 255 = byt e k := rfl
    rw [nI_m8, e10_3]
    simp only [e10_0, e10_2, e10_4, e10_7, e10_8, e10_9, e10_10, e10_11, e10_14, e10_15, e10_17, e10_19, e10_22, e10_23, e10_26, e10_29, e10_30, e10_32, e10_35, e10_37, e10_39, e10_42, e10_44, e10_45, e10_48, e10_51, e10_52, e10_55, cq_1, fg_1_0, fg_1_1, fp_1_1, fg_1_2, fp_1_2, fg_1_3, fg_1_4, fg_1_5, fg_1_6, fg_1_7, fp_1_7_0, fp_1_7_1, cq_78, fg_78_0, fg_78_1, cq_3, fg_3_0, fg_3_1, cq_80, fg_80_0, fg_80_1, fg_80_2, fg_80_3, fg_80_4, fg_80_5, fp_80_5, fg_80_6, fp_80_6, fg_80_7, fp_80_7, fg_80_8, fp_80_8, fg_80_9, fp_80_9, cq_94, fg_94_0, fg_94_1, fp_94_1, fg_94_2, fp_94_2, fg_94_3, fp_94_3, fg_94_4, fg_94_5, fg_94_6, fg_94_7, fg_94_8, fg_94_9, fg_94_10, fg_94_11, fg_94_12, fg_94_13, fg_94_14, fg_94_15, fp_94_15_0, fp_94_15_1, fg_94_16, fp_94_16, fg_94_17, fg_94_18, fg_94_19, fg_94_20, fg_94_21, fg_94_22, fg_94_23, fp_1_6, ob, h0, if_false, hb, tl1, m_typeC d L s (byt e k) hs, tyL]
    by_cases q : byt e k = 0
    · rw [if_pos q, if_pos q, if_neg (lenOK_n0 hs)]
      exact ih s _ _ (by omega) hs
    · rw [if_neg q, if_neg q]
      by_cases q2 : (tpC s (byt e k)).1 < 0
      · rw [if_pos q2, if_pos q2]
      · rw [if_neg q2, if_neg q2]
        exact ih _ _ _ (by omega) (lenOK_tpC hs)
theorem m_types (d L : Nat) (e : Int64) (s : St) (hs : lenOK s) : rn (d + 8) 10 0 [some (.ref 1), some (.long e), mSec, none, none, none] [] (hH L s) = some (some (.int (tyL e 8 s).1), hH L (tyL e 8 s).2) := by
  simp only [e10_0, e10_2]
  exact l_types d L e 8 s none none (Nat.le_refl 8) hs
/-- the names in an equation; those outside every P -/
def anL (s : St) (e : Nat) : Nat → Nat → Int32 → Int32
  | 0, _, w => w
  | r + 1, i, w => anL s e r (i + 1) (if s (e + 3) i = -1 then w else w ||| (1 <<< (s (e + 3) i &&& 31)))
def noL (s : St) (e : Nat) : Nat → Nat → Int32 → Int32
  | 0, _, w => w
  | r + 1, i, w => noL s e r (i + 1) (if s (e + 3) i = -1 ∨ ¬ s (e + 5) i = 0 then w else w ||| (1 <<< (s (e + 3) i &&& 31)))
theorem l_allNames (d L : Nat) (s : St) {e n : Nat} (he : isE e) (hn : n ≤ 24) (hl : s e 1 = nI n) : ∀ (r i : Nat) (w : Int32), i + r = n → rn d 31 4 [some (.ref e), some (.int w), some (.int (nI i))] [] (hH L s) = some (some (.int (anL s e r i w)), hH L s) := by
  intro r
  induction r with
  | zero =>
    intro i w hi
    have hi : i = n := by omega
    subst hi
    rw [e31_4]
    simp only [e31_0, e31_1, e31_2, e31_3, e31_5, e31_6, e31_9, e31_12, e31_13, e31_16, e31_17, e31_18, e31_19, e31_22, e31_23, e31_24, e31_25, e31_28, e31_29, e31_30, e31_31, e31_32, e31_33, e31_36, e31_39, e31_40, ob, fg_E_1 L s he, hl, nI_ltP (show i < 2147483648 by omega) (show i < 2147483648 by omega), Nat.lt_irrefl, if_false, anL]
  | succ r ih =>
    intro i w hi
    rw [e31_4]
    simp only [e31_0, e31_1, e31_2, e31_3, e31_5, e31_6, e31_9, e31_12, e31_13, e31_16, e31_17, e31_18, e31_19, e31_22, e31_23, e31_24, e31_25, e31_28, e31_29, e31_30, e31_31, e31_32, e31_33, e31_36, e31_39, e31_40, ob, fg_E_1 L s he, fg_E_5 L s he, hl, nI_ltP (show i < 2147483648 by omega) (show n < 2147483648 by omega), show i < n by omega, if_true, gi_E3 L s he (show i < 24 by omega), nI_1, anL]
    by_cases q : s (e + 3) i = -1
    · rw [if_pos q, if_pos q]
      exact ih _ _ (by omega)
    · rw [if_neg q, if_neg q]
      exact ih _ _ (by omega)
theorem m_allNames (d L : Nat) (s : St) {e n : Nat} (he : isE e) (hn : n ≤ 24) (hl : s e 1 = nI n) : rn d 31 0 [some (.ref e), none, none] [] (hH L s) = some (some (.int (anL s e n 0 0)), hH L s) := by
  simp only [e31_0, e31_1, e31_2, e31_3]
  exact l_allNames d L s he hn hl n 0 0 (by omega)
theorem l_namesOutsideP (d L : Nat) (s : St) {e n : Nat} (he : isE e) (hn : n ≤ 24) (hl : s e 1 = nI n) : ∀ (r i : Nat) (w : Int32), i + r = n → rn d 43 4 [some (.ref e), some (.int w), some (.int (nI i))] [] (hH L s) = some (some (.int (noL s e r i w)), hH L s) := by
  intro r
  induction r with
  | zero =>
    intro i w hi
    have hi : i = n := by omega
    subst hi
    rw [e43_4]
    simp only [e43_0, e43_1, e43_2, e43_3, e43_5, e43_6, e43_9, e43_12, e43_13, e43_16, e43_17, e43_18, e43_19, e43_22, e43_23, e43_26, e43_27, e43_28, e43_31, e43_32, e43_33, e43_34, e43_37, e43_38, e43_39, e43_40, e43_41, e43_42, e43_45, e43_48, e43_49, ob, fg_E_1 L s he, hl, nI_ltP (show i < 2147483648 by omega) (show i < 2147483648 by omega), Nat.lt_irrefl, if_false, noL]
  | succ r ih =>
    intro i w hi
    rw [e43_4]
    simp only [e43_0, e43_1, e43_2, e43_3, e43_5, e43_6, e43_9, e43_12, e43_13, e43_16, e43_17, e43_18, e43_19, e43_22, e43_23, e43_26, e43_27, e43_28, e43_31, e43_32, e43_33, e43_34, e43_37, e43_38, e43_39, e43_40, e43_41, e43_42, e43_45, e43_48, e43_49, ob, fg_E_1 L s he, fg_E_5 L s he, fg_E_7 L s he, hl, nI_ltP (show i < 2147483648 by omega) (show n < 2147483648 by omega), show i < n by omega, if_true, gi_E3 L s he (show i < 24 by omega), gi_E5 L s he (show i < 24 by omega), nI_1, noL]
    by_cases q : s (e + 3) i = -1
    · rw [if_pos q, if_pos (Or.inl q)]
      exact ih _ _ (by omega)
    · by_cases q2 : s (e + 5) i = 0
      · rw [if_neg q, if_pos q2, if_neg (fun z => z.elim q (fun y => y q2))]
        exact ih _ _ (by omega)
      · rw [if_neg q, if_neg q2, if_pos (Or.inr q2)]
        exact ih _ _ (by omega)
theorem m_namesOutsideP (d L : Nat) (s : St) {e n : Nat} (he : isE e) (hn : n ≤ 24) (hl : s e 1 = nI n) : rn d 43 0 [some (.ref e), none, none] [] (hH L s) = some (some (.int (noL s e n 0 0)), hH L s) := by
  simp only [e43_0, e43_1, e43_2, e43_3]
  exact l_namesOutsideP d L s he hn hl n 0 0 (by omega)
/-- every equation's length is one -/
def lnE (s : St) : Prop := ∀ k, k < 8 → isE (eqA s k) ∧ ∃ n, n ≤ 24 ∧ s (eqA s k) 1 = nI n
theorem lnE.ok {s : St} (h : lnE s) : okE s := fun k hk => (h k hk).1
theorem lnE.ln {s : St} (h : lnE s) {k : Nat} (hk : k < 8) : ln_ s (eqA s k) ≤ 24 ∧ s (eqA s k) 1 = nI (ln_ s (eqA s k)) := by
  obtain ⟨n, hn, e⟩ := (h k hk).2
  unfold ln_
  rw [e, nI_clamp (by omega)]
  exact ⟨hn, rfl⟩
def ckS (s : St) (k : Nat) : Int32 := if s 5 k = -1 then 0 else 1 <<< (s 5 k &&& 31)
/-- what is mentioned -/
def lmW (s : St) : Nat → Nat → Int32 → Int32
  | 0, _, w => w
  | r + 1, k, w => lmW s r (k + 1) (if 0 < s (eqA s k) 1 then w ||| (anL s (eqA s k) (ln_ s (eqA s k)) 0 0 ||| ckS s k) else w)
def lmF (s : St) (w : Int32) : Nat → Nat → Int32
  | 0, _ => -1
  | r + 1, k => if ¬ (w >>> (nI k &&& 31)) &&& 1 = 0 ∧ ¬ 0 < s (eqA s k) 1 then nI k else lmF s w r (k + 1)
theorem l_leastMissing1 (d L : Nat) (s : St) (hs : lnE s) : ∀ (r k : Nat) (w : Int32), k + r = 8 → rn (d + 2) 30 4 [some (.ref 78), some (.int w), some (.int (nI k))] [] (hH L s) = rn (d + 2) 30 51 [some (.ref 78), some (.int (lmW s r k w)), some (.int (nI 8))] [] (hH L s) := by
  intro r
  induction r with
  | zero =>
    intro k w hk
    have hk : k = 8 := by omega
    subst hk
    rw [e30_4]
    simp only [e30_5, e30_7, nI_lt8 (show 8 < 2147483648 by decide), Nat.lt_irrefl, if_false, lmW]
  | succ r ih =>
    intro k w hk
    have h1 : k < 8 := by omega
    have hl := hs.ln h1
    rw [e30_4]
    simp only [e30_5, e30_7, e30_10, e30_11, e30_14, e30_15, e30_18, e30_21, e30_22, e30_23, e30_26, e30_29, e30_30, e30_31, e30_34, e30_35, e30_38, e30_39, e30_42, e30_43, e30_44, e30_45, e30_48, cq_1, fg_1_0, fg_1_1, fp_1_1, fg_1_2, fp_1_2, fg_1_3, fg_1_4, fg_1_5, fg_1_6, fg_1_7, fp_1_7_0, fp_1_7_1, cq_78, fg_78_0, fg_78_1, cq_3, fg_3_0, fg_3_1, cq_80, fg_80_0, fg_80_1, fg_80_2, fg_80_3, fg_80_4, fg_80_5, fp_80_5, fg_80_6, fp_80_6, fg_80_7, fp_80_7, fg_80_8, fp_80_8, fg_80_9, fp_80_9, cq_94, fg_94_0, fg_94_1, fp_94_1, fg_94_2, fp_94_2, fg_94_3, fp_94_3, fg_94_4, fg_94_5, fg_94_6, fg_94_7, fg_94_8, fg_94_9, fg_94_10, fg_94_11, fg_94_12, fg_94_13, fg_94_14, fg_94_15, fp_94_15_0, fp_94_15_1, fg_94_16, fp_94_16, fg_94_17, fg_94_18, fg_94_19, fg_94_20, fg_94_21, fg_94_22, fg_94_23, fp_1_6, cq_3, cq_E L s (hs.ok k h1), eq_self, nI_lt8 (show k < 2147483648 by omega), h1, if_true, ob, tl1, m_defines (d := d) L s hs.ok h1, bz_eq0, gr_4 L s h1, va_rf, m_allNames _ L s (hs.ok k h1) hl.1 hl.2, m_clockSet _ L s h1, nI_1, lmW, ckS]
    by_cases q : 0 < s (eqA s k) 1
    · rw [if_neg (Classical.not_not.mpr q), if_pos q]
      exact ih _ _ (by omega)
    · rw [if_pos q, if_neg q]
      exact ih _ _ (by omega)
theorem l_leastMissing2 (d L : Nat) (s : St) (hs : lnE s) (w : Int32) : ∀ (r k : Nat), k + r = 8 → rn (d + 2) 30 53 [some (.ref 78), some (.int w), some (.int (nI k))] [] (hH L s) = some (some (.int (lmF s w r k)), hH L s) := by
  intro r
  induction r with
  | zero =>
    intro k hk
    have hk : k = 8 := by omega
    subst hk
    rw [e30_53]
    simp only [e30_54, e30_56, e30_59, e30_60, e30_61, e30_64, e30_67, e30_68, e30_71, e30_72, e30_75, e30_78, e30_79, e30_80, e30_83, e30_86, e30_87, nI_lt8 (show 8 < 2147483648 by decide), Nat.lt_irrefl, if_false, lmF]
  | succ r ih =>
    intro k hk
    have h1 : k < 8 := by omega
    rw [e30_53]
    simp only [e30_54, e30_56, e30_59, e30_60, e30_61, e30_64, e30_67, e30_68, e30_71, e30_72, e30_75, e30_78, e30_79, e30_80, e30_83, e30_86, e30_87, cq_1, fg_1_0, fg_1_1, fp_1_1, fg_1_2, fp_1_2, fg_1_3, fg_1_4, fg_1_5, fg_1_6, fg_1_7, fp_1_7_0, fp_1_7_1, cq_78, fg_78_0, fg_78_1, cq_3, fg_3_0, fg_3_1, cq_80, fg_80_0, fg_80_1, fg_80_2, fg_80_3, fg_80_4, fg_80_5, fp_80_5, fg_80_6, fp_80_6, fg_80_7, fp_80_7, fg_80_8, fp_80_8, fg_80_9, fp_80_9, cq_94, fg_94_0, fg_94_1, fp_94_1, fg_94_2, fp_94_2, fg_94_3, fp_94_3, fg_94_4, fg_94_5, fg_94_6, fg_94_7, fg_94_8, fg_94_9, fg_94_10, fg_94_11, fg_94_12, fg_94_13, fg_94_14, fg_94_15, fp_94_15_0, fp_94_15_1, fg_94_16, fp_94_16, fg_94_17, fg_94_18, fg_94_19, fg_94_20, fg_94_21, fg_94_22, fg_94_23, fp_1_6, cq_3, eq_self, nI_lt8 (show k < 2147483648 by omega), h1, if_true, ob, tl1, m_contains, m_defines (d := d) L s hs.ok h1, bz_eq0, nI_1, lmF]
    by_cases q : ¬ (w >>> (nI k &&& 31)) &&& 1 = 0
    · by_cases q2 : 0 < s (eqA s k) 1
      · rw [if_neg (Classical.not_not.mpr q), if_neg (Classical.not_not.mpr q2), if_neg (fun z => z.2 q2)]
        exact ih _ (by omega)
      · rw [if_neg (Classical.not_not.mpr q), if_pos q2, if_pos ⟨q, q2⟩]
    · rw [if_pos q, if_neg (fun z => q z.1)]
      exact ih _ (by omega)
theorem m_leastMissing (d L : Nat) (s : St) (hs : lnE s) : rn (d + 2) 30 0 [some (.ref 78), none, none] [] (hH L s) = some (some (.int (lmF s (lmW s 8 0 0) 8 0)), hH L s) := by
  simp only [e30_0, e30_1, e30_2, e30_3]
  refine Eq.trans (l_leastMissing1 d L s hs 8 0 0 (by decide)) ?_
  simp only [e30_51, e30_52]
  exact l_leastMissing2 d L s hs _ 8 0 (by decide)
/-- every CLOCK is the BASE or a variable -/
def ckOK (s : St) : Prop := ∀ k, k < 8 → s 5 k = -1 ∨ ∃ j, j < 8 ∧ s 5 k = nI j
def cbL (s : St) (v : Int32) : Nat → Int32 → Int32
  | 0, a => a
  | r + 1, a => if a = -1 ∨ a = v then a else cbL s v r (s 5 a.toNatClampNeg)
theorem l_clocksLead (d L : Nat) (s : St) (hc : ckOK s) {v : Nat} (hv : v < 8) : ∀ (r i : Nat) (a : Int32), i + r = 8 → (a = -1 ∨ ∃ j, j < 8 ∧ a = nI j) → rn d 36 12 [some (.ref 78), some (.int (nI v)), some (.int a), some (.int (nI i))] [] (hH L s) = some (some (.int (bz (cbL s (nI v) r a = nI v))), hH L s) := by
  intro r
  induction r with
  | zero =>
    intro i a hi ha
    have hi : i = 8 := by omega
    subst hi
    rw [e36_12]
    simp only [e36_0, e36_1, e36_4, e36_7, e36_8, e36_9, e36_10, e36_11, e36_13, e36_15, e36_18, e36_19, e36_20, e36_23, e36_24, e36_25, e36_28, e36_29, e36_32, e36_35, e36_36, e36_37, e36_38, e36_41, e36_44, e36_45, e36_46, e36_49, e36_50, e36_53, e36_54, e36_54q0, e36_54q1, nI_lt8 (show 8 < 2147483648 by decide), Nat.lt_irrefl, if_false, cbL]
    by_cases q : a = nI v <;> simp [q, bz]
  | succ r ih =>
    intro i a hi ha
    rw [e36_12]
    simp only [e36_0, e36_1, e36_4, e36_7, e36_8, e36_9, e36_10, e36_11, e36_13, e36_15, e36_18, e36_19, e36_20, e36_23, e36_24, e36_25, e36_28, e36_29, e36_32, e36_35, e36_36, e36_37, e36_38, e36_41, e36_44, e36_45, e36_46, e36_49, e36_50, e36_53, e36_54, e36_54q0, e36_54q1, cq_1, fg_1_0, fg_1_1, fp_1_1, fg_1_2, fp_1_2, fg_1_3, fg_1_4, fg_1_5, fg_1_6, fg_1_7, fp_1_7_0, fp_1_7_1, cq_78, fg_78_0, fg_78_1, cq_3, fg_3_0, fg_3_1, cq_80, fg_80_0, fg_80_1, fg_80_2, fg_80_3, fg_80_4, fg_80_5, fp_80_5, fg_80_6, fp_80_6, fg_80_7, fp_80_7, fg_80_8, fp_80_8, fg_80_9, fp_80_9, cq_94, fg_94_0, fg_94_1, fp_94_1, fg_94_2, fp_94_2, fg_94_3, fp_94_3, fg_94_4, fg_94_5, fg_94_6, fg_94_7, fg_94_8, fg_94_9, fg_94_10, fg_94_11, fg_94_12, fg_94_13, fg_94_14, fg_94_15, fp_94_15_0, fp_94_15_1, fg_94_16, fp_94_16, fg_94_17, fg_94_18, fg_94_19, fg_94_20, fg_94_21, fg_94_22, fg_94_23, fp_1_6, nI_lt8 (show i < 2147483648 by omega), show i < 8 by omega, if_true, ob, nI_1]
    by_cases q : a = -1
    · have hz : ¬ (-1 : Int32) = nI v := fun z => nI_m1 (show v < 2147483648 by omega) z.symm
      have key : cbL s (nI v) (r + 1) a = a := if_pos (Or.inl q)
      rw [key]
      subst q
      simp [hz, bz]
    · by_cases q2 : a = nI v
      · have key : cbL s (nI v) (r + 1) a = a := if_pos (Or.inr q2)
        rw [key]
        subst q2
        simp [bz, nI_m1 (show v < 2147483648 by omega)]
      · obtain ⟨j, hj, rfl⟩ := ha.resolve_left q
        have key : cbL s (nI v) (r + 1) (nI j) = cbL s (nI v) r (s 5 j) := by
          show (if nI j = -1 ∨ nI j = nI v then nI j else cbL s (nI v) r (s 5 (nI j).toNatClampNeg)) = _
          rw [if_neg (fun z => z.elim q q2), nI_clamp (show j < 2 ^ 31 by omega)]
        rw [key, if_neg q, if_neg q2]
        simp only [gi_5 L s hj, ob]
        exact ih _ _ (by omega) (hc j hj)
theorem m_clocksLead (d L : Nat) (s : St) (hc : ckOK s) {v : Nat} (hv : v < 8) : rn d 36 0 [some (.ref 78), some (.int (nI v)), none, none] [] (hH L s) = some (some (.int (bz (cbL s (nI v) 7 (s 5 v) = nI v))), hH L s) := by
  simp only [e36_0, e36_1, e36_4, e36_7, e36_8, e36_9, e36_10, e36_11, cq_1, fg_1_0, fg_1_1, fp_1_1, fg_1_2, fp_1_2, fg_1_3, fg_1_4, fg_1_5, fg_1_6, fg_1_7, fp_1_7_0, fp_1_7_1, cq_78, fg_78_0, fg_78_1, cq_3, fg_3_0, fg_3_1, cq_80, fg_80_0, fg_80_1, fg_80_2, fg_80_3, fg_80_4, fg_80_5, fp_80_5, fg_80_6, fp_80_6, fg_80_7, fp_80_7, fg_80_8, fp_80_8, fg_80_9, fp_80_9, cq_94, fg_94_0, fg_94_1, fp_94_1, fg_94_2, fp_94_2, fg_94_3, fp_94_3, fg_94_4, fg_94_5, fg_94_6, fg_94_7, fg_94_8, fg_94_9, fg_94_10, fg_94_11, fg_94_12, fg_94_13, fg_94_14, fg_94_15, fp_94_15_0, fp_94_15_1, fg_94_16, fp_94_16, fg_94_17, fg_94_18, fg_94_19, fg_94_20, fg_94_21, fg_94_22, fg_94_23, fp_1_6, ob, gi_5 L s hv]
  exact l_clocksLead d L s hc hv 7 1 (s 5 v) (by decide) (hc v hv)
def lrF (s : St) : Nat → Nat → Int32
  | 0, _ => -1
  | r + 1, k => if 0 < s (eqA s k) 1 ∧ cbL s (nI k) 7 (s 5 k) = nI k then nI k else lrF s r (k + 1)
theorem l_leastOnRing (d L : Nat) (s : St) (hs : okE s) (hc : ckOK s) : ∀ (r k : Nat), k + r = 8 → rn (d + 2) 35 2 [some (.ref 78), some (.int (nI k))] [] (hH L s) = some (some (.int (lrF s r k)), hH L s) := by
  intro r
  induction r with
  | zero =>
    intro k hk
    have hk : k = 8 := by omega
    subst hk
    rw [e35_2]
    simp only [e35_0, e35_1, e35_3, e35_5, e35_8, e35_9, e35_12, e35_13, e35_16, e35_19, e35_20, e35_21, e35_24, e35_27, e35_28, e35_29, e35_32, e35_35, e35_36, nI_lt8 (show 8 < 2147483648 by decide), Nat.lt_irrefl, if_false, lrF]
  | succ r ih =>
    intro k hk
    have h1 : k < 8 := by omega
    rw [e35_2]
    simp only [e35_0, e35_1, e35_3, e35_5, e35_8, e35_9, e35_12, e35_13, e35_16, e35_19, e35_20, e35_21, e35_24, e35_27, e35_28, e35_29, e35_32, e35_35, e35_36, cq_1, fg_1_0, fg_1_1, fp_1_1, fg_1_2, fp_1_2, fg_1_3, fg_1_4, fg_1_5, fg_1_6, fg_1_7, fp_1_7_0, fp_1_7_1, cq_78, fg_78_0, fg_78_1, cq_3, fg_3_0, fg_3_1, cq_80, fg_80_0, fg_80_1, fg_80_2, fg_80_3, fg_80_4, fg_80_5, fp_80_5, fg_80_6, fp_80_6, fg_80_7, fp_80_7, fg_80_8, fp_80_8, fg_80_9, fp_80_9, cq_94, fg_94_0, fg_94_1, fp_94_1, fg_94_2, fp_94_2, fg_94_3, fp_94_3, fg_94_4, fg_94_5, fg_94_6, fg_94_7, fg_94_8, fg_94_9, fg_94_10, fg_94_11, fg_94_12, fg_94_13, fg_94_14, fg_94_15, fp_94_15_0, fp_94_15_1, fg_94_16, fp_94_16, fg_94_17, fg_94_18, fg_94_19, fg_94_20, fg_94_21, fg_94_22, fg_94_23, fp_1_6, cq_3, cq_78, eq_self, nI_lt8 (show k < 2147483648 by omega), h1, if_true, ob, tl1, m_defines (d := d) L s hs h1, m_clocksLead _ L s hc h1, bz_eq0, nI_1, lrF]
    by_cases q : 0 < s (eqA s k) 1
    · by_cases q2 : cbL s (nI k) 7 (s 5 k) = nI k
      · rw [if_neg (Classical.not_not.mpr q), if_neg (Classical.not_not.mpr q2), if_pos ⟨q, q2⟩]
      · rw [if_neg (Classical.not_not.mpr q), if_pos q2, if_neg (fun z => q2 z.2)]
        exact ih _ (by omega)
    · rw [if_pos q, if_neg (fun z => q z.1)]
      exact ih _ (by omega)
theorem m_leastOnRing (d L : Nat) (s : St) (hs : okE s) (hc : ckOK s) : rn (d + 2) 35 0 [some (.ref 78), none] [] (hH L s) = some (some (.int (lrF s 8 0)), hH L s) := by
  simp only [e35_0, e35_1]
  exact l_leastOnRing d L s hs hc 8 0 (by decide)
/-! FIT -/
def nmOK (s : St) (e i : Nat) : Prop := ((¬ s (e + 1) i < 97 ∧ s (e + 1) i < 105) ∨ s (e + 1) i = 67 ∨ s (e + 1) i = 87) → ∃ j, j < 8 ∧ s (e + 3) i = nI j
def fa (s : St) (e i : Nat) : Prop := if (¬ s (e + 1) i < 97 ∧ s (e + 1) i < 105) ∨ s (e + 1) i = 67 then s (e + 6) i = s 5 (s (e + 3) i).toNatClampNeg else if ¬ s (e + 1) i < 112 ∧ s (e + 1) i < 116 then s (e + 6) i = -1 else (¬ s (e + 1) i = 87 ∨ s (e + 6) i = s (e + 3) i)
noncomputable def bC (p : Prop) : Int32 := @bz p (Classical.propDecidable p)
theorem bC_pos {p : Prop} (h : p) : bC p = 1 := by unfold bC bz; rw [if_pos h]
theorem bC_neg {p : Prop} (h : ¬ p) : bC p = 0 := by unfold bC bz; rw [if_neg h]
theorem bC_eq0 (p : Prop) : bC p = 0 ↔ ¬ p := by
  constructor
  · intro h q
    rw [bC_pos q] at h
    exact absurd h (by decide)
  · exact bC_neg
theorem bC_1 (p : Prop) : bC p &&& 1 = bC p := by
  by_cases h : p
  · rw [bC_pos h]; rfl
  · rw [bC_neg h]; rfl
theorem m_fitsAt (d L : Nat) (s : St) {e i : Nat} (he : isE e) (hi : i < 24) (hn : nmOK s e i) : rn (d + 1) 39 0 [some (.ref e), some (.int (nI i)), some (.ref 5), none, none] [] (hH L s) = some (some (.int (bC (fa s e i))), hH L s) := by
  simp only [e39_0, e39_1, e39_4, e39_5, e39_6, e39_7, e39_8, e39_11, e39_12, e39_13, e39_15, e39_16, e39_19, e39_22, e39_23, e39_25, e39_28, e39_30, e39_31, e39_32, e39_35, e39_36, e39_37, e39_38, e39_41, e39_42, e39_45, e39_46, e39_46q0, e39_46q1, e39_47, e39_48, e39_51, e39_54, e39_56, e39_57, e39_60, e39_61, e39_64, e39_65, e39_65q0, e39_65q1, e39_66, e39_67, e39_69, e39_72, e39_74, e39_75, e39_78, e39_79, e39_80, e39_83, e39_84, e39_87, e39_88, e39_88q0, e39_88q1, cq_1, fg_1_0, fg_1_1, fp_1_1, fg_1_2, fp_1_2, fg_1_3, fg_1_4, fg_1_5, fg_1_6, fg_1_7, fp_1_7_0, fp_1_7_1, cq_78, fg_78_0, fg_78_1, cq_3, fg_3_0, fg_3_1, cq_80, fg_80_0, fg_80_1, fg_80_2, fg_80_3, fg_80_4, fg_80_5, fp_80_5, fg_80_6, fp_80_6, fg_80_7, fp_80_7, fg_80_8, fp_80_8, fg_80_9, fp_80_9, cq_94, fg_94_0, fg_94_1, fp_94_1, fg_94_2, fp_94_2, fg_94_3, fp_94_3, fg_94_4, fg_94_5, fg_94_6, fg_94_7, fg_94_8, fg_94_9, fg_94_10, fg_94_11, fg_94_12, fg_94_13, fg_94_14, fg_94_15, fp_94_15_0, fp_94_15_1, fg_94_16, fp_94_16, fg_94_17, fg_94_18, fg_94_19, fg_94_20, fg_94_21, fg_94_22, fg_94_23, fp_1_6, ob, tl1, fg_E_0 L s he, fg_E_5 L s he, fg_E_8 L s he, gi_E1 L s he hi, gi_E6 L s he hi, gi_E3 L s he hi, m_isVariableName, m_isInputName, bz_eq0]
  by_cases q1 : ¬ s (e + 1) i < 97 ∧ s (e + 1) i < 105
  · obtain ⟨j, hj, ej⟩ := hn (Or.inl q1)
    rw [if_neg (Classical.not_not.mpr q1)]
    simp only [ej, gi_5 L s hj, ob]
    have hf : fa s e i ↔ s (e + 6) i = s 5 j := by
      unfold fa
      rw [if_pos (Or.inl q1), ej, nI_clamp (by omega)]
    by_cases q : s (e + 6) i = s 5 j
    · rw [if_pos q, bC_pos (hf.mpr q)]
    · rw [if_neg q, bC_neg (fun z => q (hf.mp z))]
  · rw [if_pos q1]
    by_cases q2 : s (e + 1) i = 67
    · obtain ⟨j, hj, ej⟩ := hn (Or.inr (Or.inl q2))
      rw [if_pos q2]
      simp only [ej, gi_5 L s hj, ob]
      have hf : fa s e i ↔ s (e + 6) i = s 5 j := by
        unfold fa
        rw [if_pos (Or.inr q2), ej, nI_clamp (by omega)]
      by_cases q : s (e + 6) i = s 5 j
      · rw [if_pos q, bC_pos (hf.mpr q)]
      · rw [if_neg q, bC_neg (fun z => q (hf.mp z))]
    · rw [if_neg q2]
      by_cases q3 : ¬ s (e + 1) i < 112 ∧ s (e + 1) i < 116
      · rw [if_neg (Classical.not_not.mpr q3)]
        have hf : fa s e i ↔ s (e + 6) i = -1 := by
          unfold fa
          rw [if_neg (fun z => z.elim q1 q2), if_pos q3]
        by_cases q : s (e + 6) i = -1
        · rw [if_pos q, bC_pos (hf.mpr q)]
        · rw [if_neg q, bC_neg (fun z => q (hf.mp z))]
      · rw [if_pos q3]
        have hf : fa s e i ↔ (¬ s (e + 1) i = 87 ∨ s (e + 6) i = s (e + 3) i) := by
          unfold fa
          rw [if_neg (fun z => z.elim q1 q2), if_neg q3]
        by_cases q4 : s (e + 1) i = 87
        · rw [if_pos q4]
          by_cases q : s (e + 6) i = s (e + 3) i
          · rw [if_pos q, bC_pos (hf.mpr (Or.inr q))]
          · rw [if_neg q, bC_neg (fun z => (hf.mp z).elim (fun y => y q4) q)]
        · rw [if_neg q4, bC_pos (hf.mpr (Or.inl q4))]
/-- the CLOCK that is handed down; the places that get it -/
def hdC (s : St) (e i : Nat) : Int32 := if s (e + 1) i = 87 then s 5 (s (e + 3) i).toNatClampNeg else if s (e + 1) i = 67 then s (e + 3) i else s (e + 6) i
def hcL (s : St) (e i : Nat) (x : Int32) : Nat → Nat → St
  | 0, _ => s
  | r + 1, k => hcL (sU s (e + 6) (s (e + 2) (3 * i + k)).toNatClampNeg x) e i x r (k + 1)
def ptIn (s : St) (e i : Nat) : Prop := ∀ k, k < pcn (s (e + 1) i) → ∃ j, j < 24 ∧ s (e + 2) (3 * i + k) = nI j
theorem l_handClock (d L : Nat) {e i : Nat} (he : isE e) (hi : i < 24) (x c : Int32) (a2 : Option Value) : ∀ (r k : Nat) (s : St), s (e + 1) i = c → k + r = pcn c → ptIn s e i → rn (d + 1) 40 51 [some (.ref e), some (.int (nI i)), a2, some (.int c), some (.int x), some (.int (nI k))] [] (hH L s) = some (none, hH L (hcL s e i x r k)) := by
  intro r
  have h3 := (pcN_pcn c).2
  have hpc := (pcN_pcn c).1
  induction r with
  | zero =>
    intro k s hc hk hp
    have hk : k = pcn c := by omega
    subst hk
    rw [e40_51]
    simp only [e40_0, e40_1, e40_4, e40_5, e40_6, e40_7, e40_8, e40_11, e40_12, e40_13, e40_15, e40_16, e40_18, e40_21, e40_22, e40_23, e40_26, e40_27, e40_28, e40_29, e40_31, e40_34, e40_35, e40_37, e40_40, e40_41, e40_44, e40_45, e40_46, e40_48, e40_49, e40_53, e40_54, e40_57, e40_60, e40_61, e40_64, e40_65, e40_68, e40_69, e40_70, e40_71, e40_73, e40_74, e40_75, e40_77, e40_78, e40_81, e40_84, ob, tl1, m_partCount, hpc, nI_ltP (show pcn c < 2147483648 by omega) (show pcn c < 2147483648 by omega), Nat.lt_irrefl, if_false, hcL]
  | succ r ih =>
    intro k s hc hk hp
    obtain ⟨j, hj, ej⟩ := hp k (by rw [hc]; omega)
    rw [e40_51]
    simp only [e40_0, e40_1, e40_4, e40_5, e40_6, e40_7, e40_8, e40_11, e40_12, e40_13, e40_15, e40_16, e40_18, e40_21, e40_22, e40_23, e40_26, e40_27, e40_28, e40_29, e40_31, e40_34, e40_35, e40_37, e40_40, e40_41, e40_44, e40_45, e40_46, e40_48, e40_49, e40_53, e40_54, e40_57, e40_60, e40_61, e40_64, e40_65, e40_68, e40_69, e40_70, e40_71, e40_73, e40_74, e40_75, e40_77, e40_78, e40_81, e40_84, ob, tl1, m_partCount, hpc, nI_ltP (show k < 2147483648 by omega) (show pcn c < 2147483648 by omega), show k < pcn c by omega, if_true, fg_E_8 L s he, fg_E_4 L s he, m3, gi_E2 L s he (show 3 * i + k < 72 by omega), ej, pi_E6 L s he hj, nI_1, hcL, nI_clamp (show j < 2 ^ 31 by omega)]
    refine ih (k + 1) _ ?_ (by omega) ?_
    · rw [sU_a s _ _ _ (by omega)]
      exact hc
    · intro k' hk'
      rw [sU_a s _ _ _ (by omega)] at hk' ⊢
      exact hp k' hk'
theorem m_handClock (d L : Nat) (s : St) {e i : Nat} (he : isE e) (hi : i < 24) (hn : nmOK s e i) (hp : ptIn s e i) : rn (d + 1) 40 0 [some (.ref e), some (.int (nI i)), some (.ref 5), none, none, none] [] (hH L s) = some (none, hH L (hcL s e i (hdC s e i) (pcn (s (e + 1) i)) 0)) := by
  simp only [e40_0, e40_1, e40_4, e40_5, e40_6, e40_7, e40_8, e40_11, e40_12, e40_13, e40_15, e40_16, e40_18, e40_21, e40_22, e40_23, e40_26, e40_27, e40_28, e40_29, e40_31, e40_34, e40_35, e40_37, e40_40, e40_41, e40_44, e40_45, e40_46, e40_48, e40_49, ob, fg_E_0 L s he, fg_E_5 L s he, fg_E_8 L s he, gi_E1 L s he hi, gi_E6 L s he hi, gi_E3 L s he hi]
  by_cases q1 : s (e + 1) i = 87
  · obtain ⟨j, hj, ej⟩ := hn (Or.inr (Or.inr q1))
    have hd : hdC s e i = s 5 j := by
      unfold hdC
      rw [if_pos q1, ej, nI_clamp (by omega)]
    rw [if_pos q1, hd]
    simp only [ej, gi_5 L s hj, ob]
    exact l_handClock d L he hi (s 5 j) (s (e + 1) i) _ _ 0 s rfl (by omega) hp
  · rw [if_neg q1]
    by_cases q2 : s (e + 1) i = 67
    · have hd : hdC s e i = s (e + 3) i := by
        unfold hdC
        rw [if_neg q1, if_pos q2]
      rw [if_pos q2, hd]
      exact l_handClock d L he hi (s (e + 3) i) (s (e + 1) i) _ _ 0 s rfl (by omega) hp
    · have hd : hdC s e i = s (e + 6) i := by
        unfold hdC
        rw [if_neg q1, if_neg q2]
      rw [if_neg q2, hd]
      exact l_handClock d L he hi (s (e + 6) i) (s (e + 1) i) _ _ 0 s rfl (by omega) hp
/-- fits: from place i on -/
noncomputable def ftL (e : Nat) : Nat → Nat → St → Int32 × St
  | 0, _, s => (1, s)
  | r + 1, i, s => if s (e + 4) i = 0 then ftL e r (i + 1) s else @ite _ (fa s e i) (Classical.propDecidable _) (ftL e r (i + 1) (hcL s e i (hdC s e i) (pcn (s (e + 1) i)) 0)) (0, s)
theorem hcL_off {e i b j : Nat} {x : Int32} (hb : b ≠ e + 6) : ∀ (r k : Nat) (s : St), hcL s e i x r k b j = s b j
  | 0, _, _ => rfl
  | r + 1, k, s => by rw [hcL, hcL_off hb r, sU_a s _ j _ hb]
/-- rows whose TERMS can be looked at -/
def FK (s : St) (e n : Nat) : Prop := isE e ∧ s e 1 = nI n ∧ n ≤ 24 ∧ ∀ i, i < n → ¬ s (e + 4) i = 0 → nmOK s e i ∧ ptIn s e i
theorem FK_of {s s' : St} {e n : Nat} (h : FK s e n) (hs : ∀ a j, a ≠ e + 6 → s' a j = s a j) : FK s' e n := by
  refine ⟨h.1, by rw [hs e 1 (by omega)]; exact h.2.1, h.2.2.1, fun i hi ht => ?_⟩
  rw [hs (e + 4) i (by omega)] at ht
  obtain ⟨a1, a2⟩ := h.2.2.2 i hi ht
  unfold nmOK ptIn at *
  rw [hs (e + 1) i (by omega), hs (e + 3) i (by omega)]
  refine ⟨a1, fun k hk => ?_⟩
  rw [hs (e + 2) _ (by omega)]
  exact a2 k hk
theorem l_fits (d L : Nat) (a1 : Option Value) : ∀ (r i : Nat) (s : St) (e n : Nat), FK s e n → i + r = n → rn (d + 2) 38 9 [some (.ref e), a1, some (.ref 5), some (.int (nI i))] [] (hH L s) = some (some (.int (ftL e r i s).1), hH L (ftL e r i s).2) := by
  intro r
  induction r with
  | zero =>
    intro i s e n hf hi
    have hi : i = n := by omega
    subst hi
    have h24 := hf.2.2.1
    rw [e38_9]
    simp only [e38_0, e38_1, e38_4, e38_5, e38_6, e38_7, e38_8, e38_10, e38_11, e38_14, e38_17, e38_18, e38_21, e38_22, e38_23, e38_26, e38_27, e38_28, e38_29, e38_32, e38_35, e38_36, e38_36q0, e38_36q1, e38_37, e38_38, e38_39, e38_40, e38_43, e38_46, e38_49, e38_50, e38_50q0, e38_50q1, ob, fg_E_1 L s hf.1, hf.2.1, nI_ltP (show i < 2147483648 by omega) (show i < 2147483648 by omega), Nat.lt_irrefl, if_false, ftL]
  | succ r ih =>
    intro i s e n hf hi
    have h24 := hf.2.2.1
    have hin : i < n := by omega
    have hi24 : i < 24 := by omega
    rw [e38_9]
    simp only [e38_0, e38_1, e38_4, e38_5, e38_6, e38_7, e38_8, e38_10, e38_11, e38_14, e38_17, e38_18, e38_21, e38_22, e38_23, e38_26, e38_27, e38_28, e38_29, e38_32, e38_35, e38_36, e38_36q0, e38_36q1, e38_37, e38_38, e38_39, e38_40, e38_43, e38_46, e38_49, e38_50, e38_50q0, e38_50q1, ob, tl1, fg_E_1 L s hf.1, fg_E_6 L s hf.1, hf.2.1, nI_ltP (show i < 2147483648 by omega) (show n < 2147483648 by omega), hin, if_true, gi_E4 L s hf.1 hi24, cq_E L s hf.1, eq_self, nI_1, ftL]
    by_cases q : s (e + 4) i = 0
    · rw [if_pos q, if_pos q]
      exact ih _ _ e n hf (by omega)
    · obtain ⟨b1, b2⟩ := hf.2.2.2 i hin q
      rw [if_neg q, if_neg q]
      have hA := m_fitsAt d L s hf.1 hi24 b1
      by_cases q2 : fa s e i
      · rw [bC_pos q2] at hA
        rw [if_pos q2]
        simp only [e38_0, e38_1, e38_4, e38_5, e38_6, e38_7, e38_8, e38_10, e38_11, e38_14, e38_17, e38_18, e38_21, e38_22, e38_23, e38_26, e38_27, e38_28, e38_29, e38_32, e38_35, e38_36, e38_36q0, e38_36q1, e38_37, e38_38, e38_39, e38_40, e38_43, e38_46, e38_49, e38_50, e38_50q0, e38_50q1, hA, ob, tl1, i10, if_false, m_handClock d L s hf.1 hi24 b1 b2, tl0, cq_E L s hf.1, eq_self, nI_1]
        exact ih _ _ e n (FK_of hf (fun a j ha => hcL_off ha _ _ s)) (by omega)
      · rw [bC_neg q2] at hA
        rw [if_neg q2]
        simp only [e38_0, e38_1, e38_4, e38_5, e38_6, e38_7, e38_8, e38_10, e38_11, e38_14, e38_17, e38_18, e38_21, e38_22, e38_23, e38_26, e38_27, e38_28, e38_29, e38_32, e38_35, e38_36, e38_36q0, e38_36q1, e38_37, e38_38, e38_39, e38_40, e38_43, e38_46, e38_49, e38_50, e38_50q0, e38_50q1, hA, ob, tl1, if_true]
theorem m_fits (d L : Nat) (s : St) {e n : Nat} (hf : FK s e n) (x : Int32) : rn (d + 2) 38 0 [some (.ref e), some (.int x), some (.ref 5), none] [] (hH L s) = some (some (.int (ftL e n 0 (sU s (e + 6) 0 x)).1), hH L (ftL e n 0 (sU s (e + 6) 0 x)).2) := by
  have g6 : aputi (hH L s) 0 (e + 6) 0 x = some (hH L (sU s (e + 6) 0 x)) := pi_E6 L s hf.1 (k := 0) (by decide) x
  simp only [e38_0, e38_1, e38_4, e38_5, e38_6, e38_7, e38_8, ob, fg_E_8 L s hf.1, g6]
  exact l_fits d L _ n 0 _ e n (FK_of hf (fun a j ha => sU_a s 0 j x ha)) (by omega)
noncomputable def luF : Nat → Nat → St → Int32 × St
  | 0, _, s => (-1, s)
  | r + 1, k, s => if 0 < s (eqA s k) 1 then
      (if (ftL (eqA s k) (ln_ s (eqA s k)) 0 (sU s (eqA s k + 6) 0 (s 5 k))).1 = 0 then (nI k, (ftL (eqA s k) (ln_ s (eqA s k)) 0 (sU s (eqA s k + 6) 0 (s 5 k))).2)
       else luF r (k + 1) (ftL (eqA s k) (ln_ s (eqA s k)) 0 (sU s (eqA s k + 6) 0 (s 5 k))).2)
      else luF r (k + 1) s
theorem ftL_off {e b j : Nat} (hb : b ≠ e + 6) : ∀ (r i : Nat) (s : St), (ftL e r i s).2 b j = s b j
  | 0, _, _ => rfl
  | r + 1, i, s => by
    unfold ftL
    split
    · exact ftL_off hb r _ s
    · split
      · rw [ftL_off hb r, hcL_off hb]
      · rfl
/-- the equations of the variables can be looked at -/
def FKs (s : St) : Prop := ∀ k, k < 8 → ∃ n, (0 < n → FK s (eqA s k) n) ∧ n ≤ 24 ∧ isE (eqA s k) ∧ s (eqA s k) 1 = nI n
theorem FK_off {s s' : St} {e n : Nat} (h : FK s e n) (hs : ∀ i j, i < 5 → s' (e + i) j = s (e + i) j) : FK s' e n := by
  have g := fun i j (hi : i < 5) => hs i j hi
  refine ⟨h.1, by have := g 0 1 (by decide); rw [Nat.add_zero] at this; rw [this]; exact h.2.1, h.2.2.1, fun i hi ht => ?_⟩
  rw [g 4 i (by decide)] at ht
  obtain ⟨a1, a2⟩ := h.2.2.2 i hi ht
  unfold nmOK ptIn at *
  rw [g 1 i (by decide), g 3 i (by decide)]
  refine ⟨a1, fun k hk => ?_⟩
  rw [g 2 _ (by decide)]
  exact a2 k hk
/-- only CLOCKS of TERMS change -/
def only6 (s s' : St) : Prop := ∀ a j, (¬ ∃ e, isE e ∧ a = e + 6) → s' a j = s a j
theorem only6.eqA {s s' : St} (h : only6 s s') (k : Nat) : eqA s' k = eqA s k := by
  have h4 := h 4 k (fun ⟨e, he, ha⟩ => by have := isE_ge he; omega)
  show (s' 4 k).toNatClampNeg = (s 4 k).toNatClampNeg
  rw [h4]
theorem only6.E {s s' : St} (h : only6 s s') {e i j : Nat} (he : isE e) (hi : i < 9) (h6 : i ≠ 6) : s' (e + i) j = s (e + i) j := h _ _ (fun ⟨e', he', ha⟩ => by have := isE_ne he he' hi (by decide) ha; omega)
theorem only6.FKs {s s' : St} (h : only6 s s') (hF : FKs s) : FKs s' := by
  intro k hk
  obtain ⟨n, h1, h2, h3, h4⟩ := hF k hk
  have e1 := h.eqA k
  have g := h.E (j := 1) h3 (show 0 < 9 by decide) (by decide)
  rw [Nat.add_zero] at g
  refine ⟨n, fun hn => ?_, h2, by rw [e1]; exact h3, by rw [e1, g]; exact h4⟩
  rw [e1]
  exact FK_off (h1 hn) (fun i j hi => h.E h3 (by omega) (by omega))
theorem only6_ft {s : St} {e : Nat} (he : isE e) (r i : Nat) (x : Int32) : only6 s (ftL e r i (sU s (e + 6) 0 x)).2 := by
  intro a j ha
  have hn : a ≠ e + 6 := fun z => ha ⟨e, he, z⟩
  rw [ftL_off hn, sU_a s 0 j x hn]
theorem only6.tr {s s' s'' : St} (h1 : only6 s s') (h2 : only6 s' s'') : only6 s s'' := fun a j h => (h2 a j h).trans (h1 a j h)
theorem ftL_01 (e : Nat) : ∀ (r i : Nat) (s : St), (ftL e r i s).1 = 0 ∨ (ftL e r i s).1 = 1
  | 0, _, _ => Or.inr rfl
  | r + 1, i, s => by
    unfold ftL
    split
    · exact ftL_01 e r _ s
    · split
      · exact ftL_01 e r _ _
      · exact Or.inl rfl
theorem FKs.ok {s : St} (h : FKs s) : okE s := fun k hk => by
  obtain ⟨n, -, -, h3, -⟩ := h k hk
  exact h3
theorem l_leastUnfit (d L : Nat) : ∀ (r k : Nat) (s : St), FKs s → k + r = 8 → rn (d + 3) 37 2 [some (.ref 78), some (.int (nI k))] [] (hH L s) = some (some (.int (luF r k s).1), hH L (luF r k s).2) ∧ only6 s (luF r k s).2 := by
  intro r
  induction r with
  | zero =>
    intro k s hs hk
    have hk : k = 8 := by omega
    subst hk
    refine ⟨?_, fun _ _ _ => rfl⟩
    rw [e37_2]
    simp only [e37_0, e37_1, e37_3, e37_5, e37_8, e37_9, e37_12, e37_13, e37_16, e37_19, e37_20, e37_23, e37_26, e37_27, e37_28, e37_29, e37_32, e37_35, e37_36, e37_37, e37_38, e37_41, e37_44, e37_47, e37_50, e37_51, e37_52, e37_55, e37_58, e37_59, nI_lt8 (show 8 < 2147483648 by decide), Nat.lt_irrefl, if_false, luF]
  | succ r ih =>
    intro k s hs hk
    have h1 : k < 8 := by omega
    obtain ⟨n, hF, hn, he, hl⟩ := hs k h1
    have hln : ln_ s (eqA s k) = n := by unfold ln_; rw [hl, nI_clamp (by omega)]
    rw [e37_2]
    simp only [e37_0, e37_1, e37_3, e37_5, e37_8, e37_9, e37_12, e37_13, e37_16, e37_19, e37_20, e37_23, e37_26, e37_27, e37_28, e37_29, e37_32, e37_35, e37_36, e37_37, e37_38, e37_41, e37_44, e37_47, e37_50, e37_51, e37_52, e37_55, e37_58, e37_59, cq_1, fg_1_0, fg_1_1, fp_1_1, fg_1_2, fp_1_2, fg_1_3, fg_1_4, fg_1_5, fg_1_6, fg_1_7, fp_1_7_0, fp_1_7_1, cq_78, fg_78_0, fg_78_1, cq_3, fg_3_0, fg_3_1, cq_80, fg_80_0, fg_80_1, fg_80_2, fg_80_3, fg_80_4, fg_80_5, fp_80_5, fg_80_6, fp_80_6, fg_80_7, fp_80_7, fg_80_8, fp_80_8, fg_80_9, fp_80_9, cq_94, fg_94_0, fg_94_1, fp_94_1, fg_94_2, fp_94_2, fg_94_3, fp_94_3, fg_94_4, fg_94_5, fg_94_6, fg_94_7, fg_94_8, fg_94_9, fg_94_10, fg_94_11, fg_94_12, fg_94_13, fg_94_14, fg_94_15, fp_94_15_0, fp_94_15_1, fg_94_16, fp_94_16, fg_94_17, fg_94_18, fg_94_19, fg_94_20, fg_94_21, fg_94_22, fg_94_23, fp_1_6, cq_3, cq_E L s he, eq_self, nI_lt8 (show k < 2147483648 by omega), h1, if_true, ob, tl1, m_defines (d := d + 1) L s hs.ok h1, bz_eq0, gr_4 L s h1, va_rf, gi_5 L s h1, nI_1, luF, hln]
    by_cases q : 0 < s (eqA s k) 1
    · have hpos : 0 < n := by
        rw [hl] at q
        exact (nI_ltI (a := 0) (by decide) (by omega)).mp q
      have ho := only6_ft (s := s) he n 0 (s 5 k)
      rw [if_neg (Classical.not_not.mpr q), if_pos q]
      simp only [e37_0, e37_1, e37_3, e37_5, e37_8, e37_9, e37_12, e37_13, e37_16, e37_19, e37_20, e37_23, e37_26, e37_27, e37_28, e37_29, e37_32, e37_35, e37_36, e37_37, e37_38, e37_41, e37_44, e37_47, e37_50, e37_51, e37_52, e37_55, e37_58, e37_59, m_fits d L s (hF hpos), ob, tl1, nI_1]
      by_cases q2 : (ftL (eqA s k) n 0 (sU s (eqA s k + 6) 0 (s 5 k))).1 = 0
      · rw [if_pos q2, if_pos q2]
        exact ⟨rfl, ho⟩
      · rw [if_neg q2, if_neg q2]
        obtain ⟨b1, b2⟩ := ih (k + 1) _ (ho.FKs hs) (by omega)
        exact ⟨b1, ho.tr b2⟩
    · rw [if_pos q, if_neg q]
      exact ih (k + 1) s hs (by omega)
theorem m_leastUnfit (d L : Nat) (s : St) (hs : FKs s) : rn (d + 3) 37 0 [some (.ref 78), none] [] (hH L s) = some (some (.int (luF 8 0 s).1), hH L (luF 8 0 s).2) ∧ only6 s (luF 8 0 s).2 := by
  simp only [e37_0, e37_1]
  exact l_leastUnfit d L 8 0 s hs (by decide)
