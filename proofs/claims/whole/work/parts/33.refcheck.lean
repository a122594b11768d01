/-! The reference: THE CHECK. -/
/-- lengths -/
def lnR (s : St) : Prop := ∀ v, v < 8 → ∃ n, n ≤ 24 ∧ s 97 v = nI n
def lR (s : St) (v : Nat) : Nat := (s 97 v).toNatClampNeg
theorem lnR.l {s : St} (h : lnR s) {v : Nat} (hv : v < 8) : lR s v ≤ 24 ∧ s 97 v = nI (lR s v) := by
  obtain ⟨n, hn, e⟩ := h v hv
  unfold lR
  rw [e, nI_clamp (by omega)]
  exact ⟨hn, rfl⟩
theorem a_add (v : Nat) : 97 + nI v = nI (97 + v) := nI_add 97 v
def mi1 (s : St) (v u i : Nat) : Prop := ∃ j, i ≤ j ∧ j < lR s u ∧ tR s u j = nI (97 + v)
theorem lr_missing1 (d L : Nat) (s : St) {v u : Nat} (hu : u < 8) (hl : lR s u ≤ 24 ∧ s 97 u = nI (lR s u)) {R : Option (Option Value × MH)} (hT : R = some (some (.int 1), hH L s) ∨ ¬ mi1 s v u 0) : ∀ (r i : Nat), i + r = lR s u → (∀ j, j < i → ¬ tR s u j = nI (97 + v)) → ((∀ a3, rn d 79 81 [some (.ref 94), some (.int (nI v)), some (.int (nI u)), a3] [] (hH L s) = R) ∨ mi1 s v u 0) → rn d 79 45 [some (.ref 94), some (.int (nI v)), some (.int (nI u)), some (.int (nI i))] [] (hH L s) = R := by
  intro r
  induction r with
  | zero =>
    intro i hi hj hR
    have hi : i = lR s u := by omega
    subst hi
    rw [e79_45]
    simp only [e79_46, e79_47, e79_50, e79_51, e79_52, cq_1, fg_1_0, fg_1_1, fp_1_1, fg_1_2, fp_1_2, fg_1_3, fg_1_4, fg_1_5, fg_1_6, fg_1_7, fp_1_7_0, fp_1_7_1, cq_78, fg_78_0, fg_78_1, cq_3, fg_3_0, fg_3_1, cq_80, fg_80_0, fg_80_1, fg_80_2, fg_80_3, fg_80_4, fg_80_5, fp_80_5, fg_80_6, fp_80_6, fg_80_7, fp_80_7, fg_80_8, fp_80_8, fg_80_9, fp_80_9, cq_94, fg_94_0, fg_94_1, fp_94_1, fg_94_2, fp_94_2, fg_94_3, fp_94_3, fg_94_4, fg_94_5, fg_94_6, fg_94_7, fg_94_8, fg_94_9, fg_94_10, fg_94_11, fg_94_12, fg_94_13, fg_94_14, fg_94_15, fp_94_15_0, fp_94_15_1, fg_94_16, fp_94_16, fg_94_17, fg_94_18, fg_94_19, fg_94_20, fg_94_21, fg_94_22, fg_94_23, fp_1_6, ob, gi_97 L s hu, hl.2, nI_ltP (show lR s u < 2147483648 by omega) (show lR s u < 2147483648 by omega), Nat.lt_irrefl, if_false]
    rcases hR with z | ⟨j, -, z1, z2⟩
    · exact z _
    · exact absurd z2 (hj j z1)
  | succ r ih =>
    intro i hi hj hR
    have e : s 96 (24 * u + i) = tR s u i := rfl
    rw [e79_45]
    simp only [e79_46, e79_47, e79_50, e79_51, e79_52, e79_55, e79_56, e79_59, e79_60, e79_62, e79_63, e79_64, e79_65, e79_66, e79_68, e79_69, e79_70, e79_73, e79_74, e79_74q0, e79_74q1, e79_75, e79_78, cq_1, fg_1_0, fg_1_1, fp_1_1, fg_1_2, fp_1_2, fg_1_3, fg_1_4, fg_1_5, fg_1_6, fg_1_7, fp_1_7_0, fp_1_7_1, cq_78, fg_78_0, fg_78_1, cq_3, fg_3_0, fg_3_1, cq_80, fg_80_0, fg_80_1, fg_80_2, fg_80_3, fg_80_4, fg_80_5, fp_80_5, fg_80_6, fp_80_6, fg_80_7, fp_80_7, fg_80_8, fp_80_8, fg_80_9, fp_80_9, cq_94, fg_94_0, fg_94_1, fp_94_1, fg_94_2, fp_94_2, fg_94_3, fp_94_3, fg_94_4, fg_94_5, fg_94_6, fg_94_7, fg_94_8, fg_94_9, fg_94_10, fg_94_11, fg_94_12, fg_94_13, fg_94_14, fg_94_15, fp_94_15_0, fp_94_15_1, fg_94_16, fp_94_16, fg_94_17, fg_94_18, fg_94_19, fg_94_20, fg_94_21, fg_94_22, fg_94_23, fp_1_6, ob, gi_97 L s hu, hl.2, nI_ltP (show i < 2147483648 by omega) (show lR s u < 2147483648 by omega), show i < lR s u by omega, if_true, m24, gi_96 L s (show 24 * u + i < 192 by omega), e, a_add, nI_1]
    by_cases q : tR s u i = nI (97 + v)
    · rw [if_pos q]
      exact (hT.resolve_right (fun z => z ⟨i, by omega, by omega, q⟩)).symm
    · rw [if_neg q]
      refine ih (i + 1) (by omega) (fun j h1 => ?_) hR
      by_cases h2 : j = i
      · subst h2
        exact q
      · exact hj j (by omega)
/-- a variable is missing for one of those from u on -/
def mi2 (s : St) (v u : Nat) : Prop := ∃ w, u ≤ w ∧ w < 8 ∧ ¬ s 97 w = 0 ∧ (s 105 w = nI v ∨ mi1 s v w 0)
theorem lr_missing2 (d L : Nat) (s : St) (hs : lnR s) {v : Nat} (hv : v < 8) : ∀ (r u : Nat) (a3 : Option Value), u + r = 8 → rn d 79 13 [some (.ref 94), some (.int (nI v)), some (.int (nI u)), a3] [] (hH L s) = some (some (.int (bC (mi2 s v u))), hH L s) := by
  intro r
  induction r with
  | zero =>
    intro u a3 hu
    have hu : u = 8 := by omega
    subst hu
    have hz : ¬ mi2 s v 8 := fun ⟨w, h1, h2, _⟩ => by omega
    rw [e79_13, bC_neg hz]
    simp only [e79_14, e79_16, e79_87, e79_88q0, nI_lt8 (show 8 < 2147483648 by decide), Nat.lt_irrefl, if_false]
  | succ r ih =>
    intro u a3 hu
    have h1 : u < 8 := by omega
    have hl := hs.l h1
    have nxt : ∀ a3, rn d 79 81 [some (.ref 94), some (.int (nI v)), some (.int (nI u)), a3] [] (hH L s) = some (some (.int (bC (mi2 s v (u + 1)))), hH L s) := by
      intro a3
      simp only [e79_81, e79_84, nI_1]
      exact ih (u + 1) a3 (by omega)
    have stp : ∀ P : Prop, (¬ s 97 u = 0 ∧ (s 105 u = nI v ∨ mi1 s v u 0) ↔ P) → (mi2 s v u ↔ P ∨ mi2 s v (u + 1)) := by
      intro P hP
      constructor
      · rintro ⟨w, a, b, c, e⟩
        by_cases hw : w = u
        · subst hw
          exact Or.inl (hP.mp ⟨c, e⟩)
        · exact Or.inr ⟨w, by omega, b, c, e⟩
      · rintro (h | ⟨w, a, b, c, e⟩)
        · obtain ⟨c, e⟩ := hP.mpr h
          exact ⟨u, Nat.le_refl u, h1, c, e⟩
        · exact ⟨w, by omega, b, c, e⟩
    rw [e79_13]
    simp only [e79_14, e79_16, e79_19, e79_20, e79_23, e79_24, e79_25, e79_28, e79_31, e79_32, e79_35, e79_36, e79_37, e79_38, e79_41, e79_42, e79_42q0, e79_42q1, e79_43, e79_44, cq_1, fg_1_0, fg_1_1, fp_1_1, fg_1_2, fp_1_2, fg_1_3, fg_1_4, fg_1_5, fg_1_6, fg_1_7, fp_1_7_0, fp_1_7_1, cq_78, fg_78_0, fg_78_1, cq_3, fg_3_0, fg_3_1, cq_80, fg_80_0, fg_80_1, fg_80_2, fg_80_3, fg_80_4, fg_80_5, fp_80_5, fg_80_6, fp_80_6, fg_80_7, fp_80_7, fg_80_8, fp_80_8, fg_80_9, fp_80_9, cq_94, fg_94_0, fg_94_1, fp_94_1, fg_94_2, fp_94_2, fg_94_3, fp_94_3, fg_94_4, fg_94_5, fg_94_6, fg_94_7, fg_94_8, fg_94_9, fg_94_10, fg_94_11, fg_94_12, fg_94_13, fg_94_14, fg_94_15, fp_94_15_0, fp_94_15_1, fg_94_16, fp_94_16, fg_94_17, fg_94_18, fg_94_19, fg_94_20, fg_94_21, fg_94_22, fg_94_23, fp_1_6, ob, nI_lt8 (show u < 2147483648 by omega), h1, if_true, gi_97 L s h1, gi_105 L s h1]
    by_cases q : s 97 u = 0
    · rw [if_pos q, nxt]
      have e1 : mi2 s v u ↔ mi2 s v (u + 1) := (stp False ⟨fun z => z.1 q, False.elim⟩).trans ⟨fun z => z.resolve_left id, Or.inr⟩
      rw [propext e1]
    · rw [if_neg q]
      by_cases q2 : s 105 u = nI v
      · rw [if_pos q2, bC_pos ((stp True ⟨fun _ => trivial, fun _ => ⟨q, Or.inl q2⟩⟩).mpr (Or.inl trivial))]
      · rw [if_neg q2]
        by_cases q3 : mi1 s v u 0
        · refine lr_missing1 d L s h1 hl (Or.inl ?_) (lR s u) 0 (by omega) (fun j h => by omega) (Or.inr q3)
          rw [bC_pos ((stp True ⟨fun _ => trivial, fun _ => ⟨q, Or.inr q3⟩⟩).mpr (Or.inl trivial))]
        · refine lr_missing1 d L s h1 hl (Or.inr q3) (lR s u) 0 (by omega) (fun j h => by omega) (Or.inl (fun a3 => ?_))
          rw [nxt]
          have e1 : mi2 s v u ↔ mi2 s v (u + 1) := (stp False ⟨fun z => z.2.elim q2 q3, False.elim⟩).trans ⟨fun z => z.resolve_left id, Or.inr⟩
          rw [propext e1]
def msR (s : St) (v : Nat) : Prop := ¬ 0 < s 97 v ∧ mi2 s v 0
theorem r_missing (d L : Nat) (s : St) (hs : lnR s) {v : Nat} (hv : v < 8) : rn d 79 0 [some (.ref 94), some (.int (nI v)), none, none] [] (hH L s) = some (some (.int (bC (msR s v))), hH L s) := by
  simp only [e79_0, e79_1, e79_4, e79_5, e79_6, e79_9, e79_10, e79_10q0, e79_10q1, e79_11, e79_12, cq_1, fg_1_0, fg_1_1, fp_1_1, fg_1_2, fp_1_2, fg_1_3, fg_1_4, fg_1_5, fg_1_6, fg_1_7, fp_1_7_0, fp_1_7_1, cq_78, fg_78_0, fg_78_1, cq_3, fg_3_0, fg_3_1, cq_80, fg_80_0, fg_80_1, fg_80_2, fg_80_3, fg_80_4, fg_80_5, fp_80_5, fg_80_6, fp_80_6, fg_80_7, fp_80_7, fg_80_8, fp_80_8, fg_80_9, fp_80_9, cq_94, fg_94_0, fg_94_1, fp_94_1, fg_94_2, fp_94_2, fg_94_3, fp_94_3, fg_94_4, fg_94_5, fg_94_6, fg_94_7, fg_94_8, fg_94_9, fg_94_10, fg_94_11, fg_94_12, fg_94_13, fg_94_14, fg_94_15, fp_94_15_0, fp_94_15_1, fg_94_16, fp_94_16, fg_94_17, fg_94_18, fg_94_19, fg_94_20, fg_94_21, fg_94_22, fg_94_23, fp_1_6, ob, gi_97 L s hv]
  by_cases q : 0 < s 97 v
  · rw [if_pos q, bC_neg (fun z => z.1 q)]
  · rw [if_neg q]
    have e1 : msR s v ↔ mi2 s v 0 := ⟨fun z => z.2, fun z => ⟨q, z⟩⟩
    rw [propext e1]
    exact lr_missing2 d L s hs hv 8 0 none (by decide)
/-- every CLOCK is one -/
def ckR (s : St) : Prop := ∀ k, k < 8 → clk (s 105 k)
def crR (s : St) (v : Nat) : Nat → Int32 → Prop
  | 0, _ => False
  | r + 1, a => ¬ a < 0 ∧ (a = nI v ∨ crR s v r (s 105 a.toNatClampNeg))
theorem lr_circles (d L : Nat) (s : St) (hc : ckR s) {v : Nat} (hv : v < 8) : ∀ (r i : Nat) (a : Int32), i + r = 8 → clk a → rn d 80 9 [some (.ref 94), some (.int (nI v)), some (.int a), some (.int (nI i))] [] (hH L s) = some (some (.int (bC (crR s v r a))), hH L s) := by
  intro r
  induction r with
  | zero =>
    intro i a hi ha
    have hi : i = 8 := by omega
    subst hi
    rw [e80_9, bC_neg (show ¬ crR s v 0 a from id)]
    simp only [e80_10, e80_12, e80_39, e80_40q0, nI_lt8 (show 8 < 2147483648 by decide), Nat.lt_irrefl, if_false]
  | succ r ih =>
    intro i a hi ha
    rw [e80_9]
    simp only [e80_10, e80_12, e80_15, e80_16, e80_19, e80_20, e80_21, e80_24, e80_25, e80_25q0, e80_25q1, e80_26, e80_27, e80_30, e80_31, e80_32, e80_33, e80_36, cq_1, fg_1_0, fg_1_1, fp_1_1, fg_1_2, fp_1_2, fg_1_3, fg_1_4, fg_1_5, fg_1_6, fg_1_7, fp_1_7_0, fp_1_7_1, cq_78, fg_78_0, fg_78_1, cq_3, fg_3_0, fg_3_1, cq_80, fg_80_0, fg_80_1, fg_80_2, fg_80_3, fg_80_4, fg_80_5, fp_80_5, fg_80_6, fp_80_6, fg_80_7, fp_80_7, fg_80_8, fp_80_8, fg_80_9, fp_80_9, cq_94, fg_94_0, fg_94_1, fp_94_1, fg_94_2, fp_94_2, fg_94_3, fp_94_3, fg_94_4, fg_94_5, fg_94_6, fg_94_7, fg_94_8, fg_94_9, fg_94_10, fg_94_11, fg_94_12, fg_94_13, fg_94_14, fg_94_15, fp_94_15_0, fp_94_15_1, fg_94_16, fp_94_16, fg_94_17, fg_94_18, fg_94_19, fg_94_20, fg_94_21, fg_94_22, fg_94_23, fp_1_6, nI_lt8 (show i < 2147483648 by omega), show i < 8 by omega, if_true, ob, nI_1]
    rcases ha with rfl | ⟨j, hj, rfl⟩
    · have h1 : (-1 : Int32) < 0 := by decide
      rw [if_pos h1, bC_neg (show ¬ crR s v (r + 1) (-1) from fun z => z.1 h1)]
      simp only [e80_39, e80_40q0]
    · have h1 : ¬ nI j < 0 := nI_pos (by omega)
      rw [if_neg h1]
      by_cases q : nI j = nI v
      · rw [if_pos q, bC_pos (show crR s v (r + 1) (nI j) from ⟨h1, Or.inl q⟩)]
      · have e1 : crR s v (r + 1) (nI j) ↔ crR s v r (s 105 j) := by
          show (¬ nI j < 0 ∧ (nI j = nI v ∨ crR s v r (s 105 (nI j).toNatClampNeg))) ↔ _
          rw [nI_clamp (show j < 2 ^ 31 by omega)]
          exact ⟨fun z => z.2.resolve_left q, fun z => ⟨h1, Or.inr z⟩⟩
        rw [if_neg q, propext e1]
        simp only [gi_105 L s hj, ob]
        exact ih _ _ (by omega) (hc j hj)
theorem r_circles (d L : Nat) (s : St) (hc : ckR s) {v : Nat} (hv : v < 8) : rn d 80 0 [some (.ref 94), some (.int (nI v)), none, none] [] (hH L s) = some (some (.int (bC (crR s v 8 (s 105 v)))), hH L s) := by
  simp only [e80_0, e80_1, e80_4, e80_5, e80_6, e80_7, e80_8, cq_1, fg_1_0, fg_1_1, fp_1_1, fg_1_2, fp_1_2, fg_1_3, fg_1_4, fg_1_5, fg_1_6, fg_1_7, fp_1_7_0, fp_1_7_1, cq_78, fg_78_0, fg_78_1, cq_3, fg_3_0, fg_3_1, cq_80, fg_80_0, fg_80_1, fg_80_2, fg_80_3, fg_80_4, fg_80_5, fp_80_5, fg_80_6, fp_80_6, fg_80_7, fp_80_7, fg_80_8, fp_80_8, fg_80_9, fp_80_9, cq_94, fg_94_0, fg_94_1, fp_94_1, fg_94_2, fp_94_2, fg_94_3, fp_94_3, fg_94_4, fg_94_5, fg_94_6, fg_94_7, fg_94_8, fg_94_9, fg_94_10, fg_94_11, fg_94_12, fg_94_13, fg_94_14, fg_94_15, fp_94_15_0, fp_94_15_1, fg_94_16, fp_94_16, fg_94_17, fg_94_18, fg_94_19, fg_94_20, fg_94_21, fg_94_22, fg_94_23, fp_1_6, ob, gi_105 L s hv]
  exact lr_circles d L s hc hv 8 0 (s 105 v) (by decide) (hc v hv)
/-- findNeeds -/
def fn1 (v : Nat) : Nat → Nat → St → St
  | 0, _, s => s
  | r + 1, u, s => fn1 v r (u + 1) (sU s 109 (8 * v + u) (bz (0 < s 97 v ∧ s 105 v = nI u)))
def fn2 (v : Nat) : Nat → Nat → St → St
  | 0, _, s => s
  | r + 1, i, s => fn2 v r (i + 1) (if (¬ tR s v i < 97 ∧ tR s v i < 105) ∧ s 100 (24 * v + i) = 0 then sU s 109 (8 * v + (tR s v i - 97).toNatClampNeg) 1 else s)
def fn3 : Nat → Nat → St → St
  | 0, _, s => s
  | r + 1, v, s => fn3 r (v + 1) (fn2 v (lR s v) 0 (fn1 v 8 0 s))
def only109 (s s' : St) : Prop := ∀ a j, a ≠ 109 → s' a j = s a j
theorem only109.tr {s s' s'' : St} (h1 : only109 s s') (h2 : only109 s' s'') : only109 s s'' := fun a j h => (h2 a j h).trans (h1 a j h)
theorem only109_U (s : St) (k : Nat) (x : Int32) : only109 s (sU s 109 k x) := fun _ j h => sU_a s k j x h
theorem lr_needs1 (d L : Nat) {v : Nat} (hv : v < 8) (a3 : Option Value) : ∀ (r u : Nat) (s : St), u + r = 8 → rn d 84 10 [some (.ref 94), some (.int (nI v)), some (.int (nI u)), a3] [] (hH L s) = rn d 84 57 [some (.ref 94), some (.int (nI v)), some (.int (nI 8)), a3] [] (hH L (fn1 v r u s)) ∧ only109 s (fn1 v r u s) := by
  intro r
  induction r with
  | zero =>
    intro u s hu
    have hu : u = 8 := by omega
    subst hu
    refine ⟨?_, fun _ _ _ => rfl⟩
    rw [e84_10]
    simp only [e84_11, e84_13, nI_lt8 (show 8 < 2147483648 by decide), Nat.lt_irrefl, if_false, fn1]
  | succ r ih =>
    intro u s hu
    have h1 : u < 8 := by omega
    obtain ⟨b1, b2⟩ := ih (u + 1) (sU s 109 (8 * v + u) (bz (0 < s 97 v ∧ s 105 v = nI u))) (by omega)
    refine ⟨?_, (only109_U s _ _).tr b2⟩
    rw [e84_10]
    simp only [e84_11, e84_13, e84_16, e84_17, e84_20, e84_21, e84_23, e84_24, e84_25, e84_26, e84_27, e84_30, e84_31, e84_32, e84_35, e84_36, e84_39, e84_40, e84_41, e84_42, e84_45, e84_46, e84_49, e84_50, e84_50q0, e84_50q1, e84_51, e84_54, cq_1, fg_1_0, fg_1_1, fp_1_1, fg_1_2, fp_1_2, fg_1_3, fg_1_4, fg_1_5, fg_1_6, fg_1_7, fp_1_7_0, fp_1_7_1, cq_78, fg_78_0, fg_78_1, cq_3, fg_3_0, fg_3_1, cq_80, fg_80_0, fg_80_1, fg_80_2, fg_80_3, fg_80_4, fg_80_5, fp_80_5, fg_80_6, fp_80_6, fg_80_7, fp_80_7, fg_80_8, fp_80_8, fg_80_9, fp_80_9, cq_94, fg_94_0, fg_94_1, fp_94_1, fg_94_2, fp_94_2, fg_94_3, fp_94_3, fg_94_4, fg_94_5, fg_94_6, fg_94_7, fg_94_8, fg_94_9, fg_94_10, fg_94_11, fg_94_12, fg_94_13, fg_94_14, fg_94_15, fp_94_15_0, fp_94_15_1, fg_94_16, fp_94_16, fg_94_17, fg_94_18, fg_94_19, fg_94_20, fg_94_21, fg_94_22, fg_94_23, fp_1_6, ob, nI_lt8 (show u < 2147483648 by omega), h1, if_true, m8, gi_97 L s hv, gi_105 L s hv, nI_1, fn1, pi_109 L s (show 8 * v + u < 64 by omega)]
    unfold bz at b1 ⊢
    by_cases q : 0 < s 97 v
    · rw [if_pos q]
      by_cases q2 : s 105 v = nI u
      · rw [if_pos q2]
        rw [if_pos ⟨q, q2⟩] at b1 ⊢
        exact b1
      · rw [if_neg q2]
        rw [if_neg (fun z => q2 z.2)] at b1 ⊢
        exact b1
    · rw [if_neg q]
      rw [if_neg (fun z => q z.1)] at b1 ⊢
      exact b1
theorem var_k2 {c : Int32} {v k : Nat} (ek : c - 97 = nI k) : nI v * 8 + c - 97 = nI (8 * v + k) := by
  rw [← m8 v k, ← ek, Int32.sub_eq_add_neg, Int32.sub_eq_add_neg, Int32.add_assoc]
theorem lr_needs2 (d L : Nat) {v n : Nat} (hv : v < 8) (hn : n ≤ 24) : ∀ (r i : Nat) (s : St) (a3 : Option Value), i + r = n → s 97 v = nI n → (∃ a3', rn (d + 1) 84 59 [some (.ref 94), some (.int (nI v)), some (.int (nI i)), a3] [] (hH L s) = rn (d + 1) 84 123 [some (.ref 94), some (.int (nI v)), some (.int (nI n)), a3'] [] (hH L (fn2 v r i s))) ∧ only109 s (fn2 v r i s) := by
  intro r
  induction r with
  | zero =>
    intro i s a3 hi hl
    have hi : i = n := by omega
    subst hi
    refine ⟨⟨a3, ?_⟩, fun _ _ _ => rfl⟩
    rw [e84_59]
    simp only [e84_60, e84_61, e84_64, e84_65, e84_66, cq_1, fg_1_0, fg_1_1, fp_1_1, fg_1_2, fp_1_2, fg_1_3, fg_1_4, fg_1_5, fg_1_6, fg_1_7, fp_1_7_0, fp_1_7_1, cq_78, fg_78_0, fg_78_1, cq_3, fg_3_0, fg_3_1, cq_80, fg_80_0, fg_80_1, fg_80_2, fg_80_3, fg_80_4, fg_80_5, fp_80_5, fg_80_6, fp_80_6, fg_80_7, fp_80_7, fg_80_8, fp_80_8, fg_80_9, fp_80_9, cq_94, fg_94_0, fg_94_1, fp_94_1, fg_94_2, fp_94_2, fg_94_3, fp_94_3, fg_94_4, fg_94_5, fg_94_6, fg_94_7, fg_94_8, fg_94_9, fg_94_10, fg_94_11, fg_94_12, fg_94_13, fg_94_14, fg_94_15, fp_94_15_0, fp_94_15_1, fg_94_16, fp_94_16, fg_94_17, fg_94_18, fg_94_19, fg_94_20, fg_94_21, fg_94_22, fg_94_23, fp_1_6, ob, gi_97 L s hv, hl, nI_ltP (show i < 2147483648 by omega) (show i < 2147483648 by omega), Nat.lt_irrefl, if_false, fn2]
  | succ r ih =>
    intro i s a3 hi hl
    have e : s 96 (24 * v + i) = tR s v i := rfl
    have hd : rn (d + 1) 84 59 [some (.ref 94), some (.int (nI v)), some (.int (nI i)), a3] [] (hH L s) = rn (d + 1) 84 81 [some (.ref 94), some (.int (nI v)), some (.int (nI i)), some (.int (tR s v i))] [] (hH L s) := by
      rw [e84_59]
      simp only [e84_60, e84_61, e84_64, e84_65, e84_66, e84_69, e84_70, e84_73, e84_74, e84_76, e84_77, e84_78, e84_79, e84_80, cq_1, fg_1_0, fg_1_1, fp_1_1, fg_1_2, fp_1_2, fg_1_3, fg_1_4, fg_1_5, fg_1_6, fg_1_7, fp_1_7_0, fp_1_7_1, cq_78, fg_78_0, fg_78_1, cq_3, fg_3_0, fg_3_1, cq_80, fg_80_0, fg_80_1, fg_80_2, fg_80_3, fg_80_4, fg_80_5, fp_80_5, fg_80_6, fp_80_6, fg_80_7, fp_80_7, fg_80_8, fp_80_8, fg_80_9, fp_80_9, cq_94, fg_94_0, fg_94_1, fp_94_1, fg_94_2, fp_94_2, fg_94_3, fp_94_3, fg_94_4, fg_94_5, fg_94_6, fg_94_7, fg_94_8, fg_94_9, fg_94_10, fg_94_11, fg_94_12, fg_94_13, fg_94_14, fg_94_15, fp_94_15_0, fp_94_15_1, fg_94_16, fp_94_16, fg_94_17, fg_94_18, fg_94_19, fg_94_20, fg_94_21, fg_94_22, fg_94_23, fp_1_6, ob, gi_97 L s hv, hl, nI_ltP (show i < 2147483648 by omega) (show n < 2147483648 by omega), show i < n by omega, if_true, m24, gi_96 L s (show 24 * v + i < 192 by omega), e]
    rw [hd]
    simp only [e84_81, e84_82, e84_85, e84_88, e84_89, e84_92, e84_93, e84_95, e84_96, e84_97, e84_98, e84_99, e84_102, e84_103, e84_106, e84_107, e84_109, e84_110, e84_111, e84_112, e84_114, e84_115, e84_116, e84_116q0, e84_116q1, e84_117, e84_120, cq_1, fg_1_0, fg_1_1, fp_1_1, fg_1_2, fp_1_2, fg_1_3, fg_1_4, fg_1_5, fg_1_6, fg_1_7, fp_1_7_0, fp_1_7_1, cq_78, fg_78_0, fg_78_1, cq_3, fg_3_0, fg_3_1, cq_80, fg_80_0, fg_80_1, fg_80_2, fg_80_3, fg_80_4, fg_80_5, fp_80_5, fg_80_6, fp_80_6, fg_80_7, fp_80_7, fg_80_8, fp_80_8, fg_80_9, fp_80_9, cq_94, fg_94_0, fg_94_1, fp_94_1, fg_94_2, fp_94_2, fg_94_3, fp_94_3, fg_94_4, fg_94_5, fg_94_6, fg_94_7, fg_94_8, fg_94_9, fg_94_10, fg_94_11, fg_94_12, fg_94_13, fg_94_14, fg_94_15, fp_94_15_0, fp_94_15_1, fg_94_16, fp_94_16, fg_94_17, fg_94_18, fg_94_19, fg_94_20, fg_94_21, fg_94_22, fg_94_23, fp_1_6, ob, tl1, r_variable, bz_eq0, m24, gi_100 L s (show 24 * v + i < 192 by omega), nI_1, fn2]
    by_cases q : ¬ tR s v i < 97 ∧ tR s v i < 105
    · rw [if_neg (Classical.not_not.mpr q)]
      by_cases q2 : s 100 (24 * v + i) = 0
      · obtain ⟨k, hk, ek⟩ := var_k q
        have hcl : (tR s v i - 97).toNatClampNeg = k := by rw [ek, nI_clamp (by omega)]
        obtain ⟨⟨a3', b1⟩, b2⟩ := ih (i + 1) (sU s 109 (8 * v + k) 1) (some (.int (tR s v i))) (by omega) (by rw [sU_a _ _ _ _ (by decide)]; exact hl)
        rw [if_pos q2, if_pos ⟨q, q2⟩, hcl]
        refine ⟨⟨a3', ?_⟩, (only109_U s _ _).tr b2⟩
        simp only [var_k2 ek, pi_109 L s (show 8 * v + k < 64 by omega), ob]
        exact b1
      · rw [if_neg q2, if_neg (fun z => q2 z.2)]
        exact ih (i + 1) s _ (by omega) hl
    · rw [if_pos q, if_neg (fun z => q z.1)]
      exact ih (i + 1) s _ (by omega) hl
theorem lnR_of {s s' : St} (h : lnR s) (hs : ∀ j, s' 97 j = s 97 j) : lnR s' := fun v hv => by
  obtain ⟨n, hn, e⟩ := h v hv
  exact ⟨n, hn, by rw [hs]; exact e⟩
theorem lr_needs3 (d L : Nat) : ∀ (r v : Nat) (s : St) (a2 a3 : Option Value), lnR s → v + r = 8 → rn (d + 1) 84 2 [some (.ref 94), some (.int (nI v)), a2, a3] [] (hH L s) = some (none, hH L (fn3 r v s)) ∧ only109 s (fn3 r v s) := by
  intro r
  induction r with
  | zero =>
    intro v s a2 a3 hs hv
    have hv : v = 8 := by omega
    subst hv
    refine ⟨?_, fun _ _ _ => rfl⟩
    rw [e84_2]
    simp only [e84_3, e84_5, e84_129, nI_lt8 (show 8 < 2147483648 by decide), Nat.lt_irrefl, if_false, fn3]
  | succ r ih =>
    intro v s a2 a3 hs hv
    have h1 : v < 8 := by omega
    have hl := hs.l h1
    obtain ⟨b1, b2⟩ := lr_needs1 (d + 1) L h1 a3 8 0 s (by decide)
    have hl2 : fn1 v 8 0 s 97 v = nI (lR s v) := by rw [b2 97 v (by decide)]; exact hl.2
    obtain ⟨⟨a3', c1⟩, c2⟩ := lr_needs2 d L h1 hl.1 (lR s v) 0 (fn1 v 8 0 s) a3 (by omega) hl2
    have ho := b2.tr c2
    obtain ⟨d1, d2⟩ := ih (v + 1) (fn2 v (lR s v) 0 (fn1 v 8 0 s)) (some (.int (nI (lR s v)))) a3' (lnR_of hs (fun j => ho 97 j (by decide))) (by omega)
    refine ⟨?_, ho.tr d2⟩
    rw [e84_2]
    simp only [e84_3, e84_5, e84_8, e84_9, nI_lt8 (show v < 2147483648 by omega), h1, if_true]
    refine Eq.trans b1 ?_
    simp only [e84_57, e84_58]
    refine Eq.trans c1 ?_
    simp only [e84_123, e84_126, nI_1]
    exact d1
theorem r_findNeeds (d L : Nat) (s : St) (hs : lnR s) : rn (d + 1) 84 0 [some (.ref 94), none, none, none] [] (hH L s) = some (none, hH L (fn3 8 0 s)) ∧ only109 s (fn3 8 0 s) := by
  simp only [e84_0, e84_1]
  exact lr_needs3 d L 8 0 s none none hs (by decide)
/-- needsItself -/
def nr1 (s : St) (v : Nat) : Nat → Nat → Int32 → Int32
  | 0, _, w => w
  | r + 1, u, w => nr1 s v r (u + 1) (if s 109 (8 * v + u) = 0 then w else w ||| (1 <<< (nI u &&& 31)))
def nr2 (s : St) : Nat → Nat → Int32 → Int32
  | 0, _, w => w
  | r + 1, x, w => nr2 s r (x + 1) (if s 109 x = 0 ∨ (w >>> (nI (x / 8) &&& 31)) &&& 1 = 0 then w else w ||| (1 <<< (nI (x % 8) &&& 31)))
def nr3 (s : St) : Nat → Int32 → Int32
  | 0, w => w
  | r + 1, w => nr3 s r (nr2 s 64 0 w)
theorem lr_it1 (d L : Nat) (s : St) {v : Nat} (hv : v < 8) (a4 : Option Value) : ∀ (r u : Nat) (w : Int32), u + r = 8 → rn d 85 4 [some (.ref 94), some (.int (nI v)), some (.int w), some (.int (nI u)), a4] [] (hH L s) = rn d 85 36 [some (.ref 94), some (.int (nI v)), some (.int (nr1 s v r u w)), some (.int (nI 8)), a4] [] (hH L s) := by
  intro r
  induction r with
  | zero =>
    intro u w hu
    have hu : u = 8 := by omega
    subst hu
    rw [e85_4]
    simp only [e85_5, e85_7, nI_lt8 (show 8 < 2147483648 by decide), Nat.lt_irrefl, if_false, nr1]
  | succ r ih =>
    intro u w hu
    have h1 : u < 8 := by omega
    rw [e85_4]
    simp only [e85_5, e85_7, e85_10, e85_11, e85_14, e85_15, e85_17, e85_18, e85_19, e85_20, e85_21, e85_24, e85_25, e85_26, e85_27, e85_28, e85_29, e85_30, e85_33, cq_1, fg_1_0, fg_1_1, fp_1_1, fg_1_2, fp_1_2, fg_1_3, fg_1_4, fg_1_5, fg_1_6, fg_1_7, fp_1_7_0, fp_1_7_1, cq_78, fg_78_0, fg_78_1, cq_3, fg_3_0, fg_3_1, cq_80, fg_80_0, fg_80_1, fg_80_2, fg_80_3, fg_80_4, fg_80_5, fp_80_5, fg_80_6, fp_80_6, fg_80_7, fp_80_7, fg_80_8, fp_80_8, fg_80_9, fp_80_9, cq_94, fg_94_0, fg_94_1, fp_94_1, fg_94_2, fp_94_2, fg_94_3, fp_94_3, fg_94_4, fg_94_5, fg_94_6, fg_94_7, fg_94_8, fg_94_9, fg_94_10, fg_94_11, fg_94_12, fg_94_13, fg_94_14, fg_94_15, fp_94_15_0, fp_94_15_1, fg_94_16, fp_94_16, fg_94_17, fg_94_18, fg_94_19, fg_94_20, fg_94_21, fg_94_22, fg_94_23, fp_1_6, ob, nI_lt8 (show u < 2147483648 by omega), h1, if_true, m8, gi_109 L s (show 8 * v + u < 64 by omega), nI_1, nr1]
    by_cases q : s 109 (8 * v + u) = 0
    · rw [if_pos q, if_pos q]
      exact ih _ _ (by omega)
    · rw [if_neg q, if_neg q]
      exact ih _ _ (by omega)
theorem nI_d8 {x : Nat} (hx : x < 64) : nI x / 8 = nI (x / 8) ∧ nI x - nI x / 8 * 8 = nI (x % 8) := by
  have : ∀ x : Fin 64, nI x.1 / 8 = nI (x.1 / 8) ∧ nI x.1 - nI x.1 / 8 * 8 = nI (x.1 % 8) := by decide
  exact this ⟨x, hx⟩
theorem nI_lt64 {a : Nat} (ha : a < 2147483648) : (nI a < 64) = (a < 64) := nI_ltP (b := 64) ha (by decide)
theorem lr_it2 (d L : Nat) (s : St) (a1 a3 : Option Value) : ∀ (r x : Nat) (w : Int32), x + r = 64 → rn d 85 47 [some (.ref 94), a1, some (.int w), a3, some (.int (nI x))] [] (hH L s) = rn d 85 92 [some (.ref 94), a1, some (.int (nr2 s r x w)), a3, some (.int (nI 64))] [] (hH L s) := by
  intro r
  induction r with
  | zero =>
    intro x w hx
    have hx : x = 64 := by omega
    subst hx
    rw [e85_47]
    simp only [e85_49, e85_51, nI_lt64 (show 64 < 2147483648 by decide), Nat.lt_irrefl, if_false, nr2]
  | succ r ih =>
    intro x w hx
    have h1 : x < 64 := by omega
    obtain ⟨q1, q2⟩ := nI_d8 h1
    have h8 : ¬ (8 : Int32) = 0 := by decide
    rw [e85_47]
    simp only [e85_49, e85_51, e85_54, e85_55, e85_58, e85_60, e85_61, e85_64, e85_65, e85_67, e85_69, e85_70, e85_71, e85_72, e85_73, e85_76, e85_77, e85_78, e85_80, e85_82, e85_83, e85_84, e85_85, e85_86, e85_89, cq_1, fg_1_0, fg_1_1, fp_1_1, fg_1_2, fp_1_2, fg_1_3, fg_1_4, fg_1_5, fg_1_6, fg_1_7, fp_1_7_0, fp_1_7_1, cq_78, fg_78_0, fg_78_1, cq_3, fg_3_0, fg_3_1, cq_80, fg_80_0, fg_80_1, fg_80_2, fg_80_3, fg_80_4, fg_80_5, fp_80_5, fg_80_6, fp_80_6, fg_80_7, fp_80_7, fg_80_8, fp_80_8, fg_80_9, fp_80_9, cq_94, fg_94_0, fg_94_1, fp_94_1, fg_94_2, fp_94_2, fg_94_3, fp_94_3, fg_94_4, fg_94_5, fg_94_6, fg_94_7, fg_94_8, fg_94_9, fg_94_10, fg_94_11, fg_94_12, fg_94_13, fg_94_14, fg_94_15, fp_94_15_0, fp_94_15_1, fg_94_16, fp_94_16, fg_94_17, fg_94_18, fg_94_19, fg_94_20, fg_94_21, fg_94_22, fg_94_23, fp_1_6, ob, nI_lt64 (show x < 2147483648 by omega), h1, if_true, gi_109 L s h1, h8, not_false_eq_true, q1, q2, nI_1, nr2]
    rw [← q1, q2]
    by_cases q : s 109 x = 0
    · rw [if_pos q, if_pos (Or.inl q)]
      exact ih _ _ (by omega)
    · rw [if_neg q]
      by_cases q3 : (w >>> (nI x / 8 &&& 31)) &&& 1 = 0
      · rw [if_pos q3, if_pos (Or.inr q3)]
        exact ih _ _ (by omega)
      · rw [if_neg q3, if_neg (fun z => z.elim q q3)]
        exact ih _ _ (by omega)
