/-! The reference: check. -/
noncomputable def fst_ (P : Nat → Prop) : Nat → Nat → Option Nat
  | 0, _ => none
  | r + 1, k => @ite _ (P k) (Classical.propDecidable _) (some k) (fst_ P r (k + 1))
/-- what the reference holds of all equations -/
def RA (s : St) (N : Nat → Nat) (isT : Nat → Nat → Bool) (en : Nat → Nat → Nat) : Prop := ∀ v, v < 8 → s 97 v = nI (N v) ∧ N v ≤ 24 ∧ (0 < N v → RF s v (N v) (isT v) (en v))
theorem RA.ln {s : St} {N : Nat → Nat} {isT : Nat → Nat → Bool} {en : Nat → Nat → Nat} (h : RA s N isT en) : lnR s := fun v hv => ⟨N v, (h v hv).2.1, (h v hv).1⟩
theorem RA_of {s s' : St} {N : Nat → Nat} {isT : Nat → Nat → Bool} {en : Nat → Nat → Nat} (h : RA s N isT en) (hs : ∀ a j, a = 96 ∨ a = 97 ∨ a = 98 ∨ a = 103 → s' a j = s a j) : RA s' N isT en := fun v hv => ⟨by rw [hs 97 v (by omega)]; exact (h v hv).1, (h v hv).2.1, fun hn => RF_of ((h v hv).2.2 hn) hs⟩
theorem RA.pos {s : St} {N : Nat → Nat} {isT : Nat → Nat → Bool} {en : Nat → Nat → Nat} (h : RA s N isT en) {v : Nat} (hv : v < 8) : 0 < s 97 v ↔ 0 < N v := by
  rw [(h v hv).1]
  exact nI_ltI (a := 0) (by decide) (by have := (h v hv).2.1; omega)
theorem ck1 (d L : Nat) (s : St) (hs : lnR s) (a2 a3 : Option Value) : ∀ (r v : Nat), v + r = 8 → rn (d + 1) 78 7 [some (.ref 94), some (.int (nI v)), a2, a3] [] (hH L s) = match fst_ (msR s) r v with
    | some k => some (some (.int (-100 - nI k)), hH L s)
    | none => rn (d + 1) 78 32 [some (.ref 94), some (.int (nI 8)), a2, a3] [] (hH L s) := by
  intro r
  induction r with
  | zero =>
    intro v hv
    have hv : v = 8 := by omega
    subst hv
    rw [e78_7]
    simp only [e78_8, e78_10, nI_lt8 (show 8 < 2147483648 by decide), Nat.lt_irrefl, if_false, fst_]
  | succ r ih =>
    intro v hv
    have h1 : v < 8 := by omega
    rw [e78_7]
    simp only [e78_8, e78_10, e78_13, e78_14, e78_15, e78_18, e78_21, e78_23, e78_24, e78_25, e78_26, e78_29, cq_94, eq_self, ob, tl1, nI_lt8 (show v < 2147483648 by omega), h1, if_true, r_missing d L s hs h1, bC_eq0, nI_1, fst_]
    by_cases q : msR s v
    · rw [bC_pos q]
      simp only [if_pos q, i10, if_false]
    · rw [bC_neg q]
      simp only [if_neg q, if_true]
      exact ih (v + 1) (by omega)
theorem ck2 (d L : Nat) (s : St) (hc : ckR s) (a2 a3 : Option Value) : ∀ (r v : Nat), v + r = 8 → rn (d + 1) 78 34 [some (.ref 94), some (.int (nI v)), a2, a3] [] (hH L s) = match fst_ (fun k => 0 < s 97 k ∧ crR s k 8 (s 105 k)) r v with
    | some k => some (some (.int (-200 - nI k)), hH L s)
    | none => rn (d + 1) 78 69 [some (.ref 94), some (.int (nI 8)), a2, a3] [] (hH L s) := by
  intro r
  induction r with
  | zero =>
    intro v hv
    have hv : v = 8 := by omega
    subst hv
    rw [e78_34]
    simp only [e78_35, e78_37, nI_lt8 (show 8 < 2147483648 by decide), Nat.lt_irrefl, if_false, fst_]
  | succ r ih =>
    intro v hv
    have h1 : v < 8 := by omega
    have e1 : fst_ (fun k => 0 < s 97 k ∧ crR s k 8 (s 105 k)) (r + 1) v = @ite _ (0 < s 97 v ∧ crR s v 8 (s 105 v)) (Classical.propDecidable _) (some v) (fst_ (fun k => 0 < s 97 k ∧ crR s k 8 (s 105 k)) r (v + 1)) := rfl
    rw [e78_34, e1]
    simp only [e78_35, e78_37, e78_40, e78_41, e78_44, e78_45, e78_46, e78_49, e78_50, e78_51, e78_54, e78_57, e78_60, e78_61, e78_62, e78_63, e78_66, cq_1, fg_1_0, fg_1_1, fp_1_1, fg_1_2, fp_1_2, fg_1_3, fg_1_4, fg_1_5, fg_1_6, fg_1_7, fp_1_7_0, fp_1_7_1, cq_78, fg_78_0, fg_78_1, cq_3, fg_3_0, fg_3_1, cq_80, fg_80_0, fg_80_1, fg_80_2, fg_80_3, fg_80_4, fg_80_5, fp_80_5, fg_80_6, fp_80_6, fg_80_7, fp_80_7, fg_80_8, fp_80_8, fg_80_9, fp_80_9, cq_94, fg_94_0, fg_94_1, fp_94_1, fg_94_2, fp_94_2, fg_94_3, fp_94_3, fg_94_4, fg_94_5, fg_94_6, fg_94_7, fg_94_8, fg_94_9, fg_94_10, fg_94_11, fg_94_12, fg_94_13, fg_94_14, fg_94_15, fp_94_15_0, fp_94_15_1, fg_94_16, fp_94_16, fg_94_17, fg_94_18, fg_94_19, fg_94_20, fg_94_21, fg_94_22, fg_94_23, fp_1_6, cq_94, eq_self, ob, tl1, nI_lt8 (show v < 2147483648 by omega), h1, if_true, gi_97 L s h1, r_circles d L s hc h1, nI_1]
    by_cases q : 0 < s 97 v
    · rw [if_pos q]
      by_cases q2 : crR s v 8 (s 105 v)
      · rw [bC_pos q2, if_pos (show 0 < s 97 v ∧ crR s v 8 (s 105 v) from ⟨q, q2⟩), if_neg (show ¬ (1 : Int32) = 0 by decide)]
      · rw [bC_neg q2, if_neg (show ¬ (0 < s 97 v ∧ crR s v 8 (s 105 v)) from fun z => q2 z.2)]
        simp only [if_true]
        exact ih (v + 1) (by omega)
    · rw [if_neg q, if_neg (show ¬ (0 < s 97 v ∧ crR s v 8 (s 105 v)) from fun z => q z.1)]
      exact ih (v + 1) (by omega)
noncomputable def ftA (N : Nat → Nat) (isT : Nat → Nat → Bool) (en : Nat → Nat → Nat) : Nat → Int32 → St → Int32 × St
  | 0, x, s => (x, s)
  | v + 1, x, s => if 0 < s 97 v then ftA N isT en v (if (ffR v (isT v) (en v) (N v) 0 1 (fR0 s v)).1 = 0 then nI v else x) (ffR v (isT v) (en v) (N v) 0 1 (fR0 s v)).2 else ftA N isT en v x s
theorem ck3 (d L : Nat) {N : Nat → Nat} {isT : Nat → Nat → Bool} {en : Nat → Nat → Nat} (a3 : Option Value) : ∀ (v : Nat) (x : Int32) (s : St), RA s N isT en → v ≤ 8 → rn (d + 2) 78 74 [some (.ref 94), some (.int x), some (.int (nI v + (-1))), a3] [] (hH L s) = rn (d + 2) 78 103 [some (.ref 94), some (.int (ftA N isT en v x s).1), some (.int (-1)), a3] [] (hH L (ftA N isT en v x s).2) ∧ onlyF s (ftA N isT en v x s).2 := by
  intro v
  induction v with
  | zero =>
    intro x s h hv
    refine ⟨?_, fun _ _ _ _ => rfl⟩
    have e0 : (nI 0 + (-1) : Int32) = -1 := by decide
    have h0 : (-1 : Int32) < 0 := by decide
    rw [e78_74, e0]
    simp only [e78_75, h0, if_true, ftA]
  | succ v ih =>
    intro x s h hv
    have h1 : v < 8 := by omega
    rw [m1_nI, e78_74]
    simp only [e78_75, e78_78, e78_79, e78_82, e78_83, e78_84, cq_1, fg_1_0, fg_1_1, fp_1_1, fg_1_2, fp_1_2, fg_1_3, fg_1_4, fg_1_5, fg_1_6, fg_1_7, fp_1_7_0, fp_1_7_1, cq_78, fg_78_0, fg_78_1, cq_3, fg_3_0, fg_3_1, cq_80, fg_80_0, fg_80_1, fg_80_2, fg_80_3, fg_80_4, fg_80_5, fp_80_5, fg_80_6, fp_80_6, fg_80_7, fp_80_7, fg_80_8, fp_80_8, fg_80_9, fp_80_9, cq_94, fg_94_0, fg_94_1, fp_94_1, fg_94_2, fp_94_2, fg_94_3, fp_94_3, fg_94_4, fg_94_5, fg_94_6, fg_94_7, fg_94_8, fg_94_9, fg_94_10, fg_94_11, fg_94_12, fg_94_13, fg_94_14, fg_94_15, fp_94_15_0, fp_94_15_1, fg_94_16, fp_94_16, fg_94_17, fg_94_18, fg_94_19, fg_94_20, fg_94_21, fg_94_22, fg_94_23, fp_1_6, ob, nI_n0 (show v < 2147483648 by omega), if_false, gi_97 L s h1, ftA]
    by_cases q : 0 < s 97 v
    · have hF := (h v h1).2.2 ((h.pos h1).mp q)
      obtain ⟨f1, f2, f3⟩ := r_fit d L s hF
      obtain ⟨b1, b2⟩ := ih (if (ffR v (isT v) (en v) (N v) 0 1 (fR0 s v)).1 = 0 then nI v else x) _ (RA_of h (fun a j ha => f2 a j (by omega) (by omega))) (by omega)
      rw [if_pos q, if_pos q]
      refine ⟨?_, f2.tr b2⟩
      rw [← b1]
      simp only [e78_87, e78_88, e78_89, e78_92, e78_95, e78_96, e78_97, e78_100, cq_94, eq_self, ob, tl1, f1]
      split <;> rfl
    · rw [if_neg q, if_neg q]
      simp only [e78_97, e78_100]
      exact ih x s h (by omega)
theorem ck4 (d L : Nat) (s : St) (a1 a3 : Option Value) : ∀ (r v : Nat), v + r = 8 → rn (d + 1) 78 119 [some (.ref 94), a1, some (.int (nI v)), a3] [] (hH L s) = match fst_ (fun k => 0 < s 97 k ∧ niR s k) r v with
    | some k => some (some (.int (-400 - nI k)), hH L s)
    | none => rn (d + 1) 78 154 [some (.ref 94), a1, some (.int (nI 8)), a3] [] (hH L s) := by
  intro r
  induction r with
  | zero =>
    intro v hv
    have hv : v = 8 := by omega
    subst hv
    rw [e78_119]
    simp only [e78_120, e78_122, nI_lt8 (show 8 < 2147483648 by decide), Nat.lt_irrefl, if_false, fst_]
  | succ r ih =>
    intro v hv
    have h1 : v < 8 := by omega
    have e1 : fst_ (fun k => 0 < s 97 k ∧ niR s k) (r + 1) v = @ite _ (0 < s 97 v ∧ niR s v) (Classical.propDecidable _) (some v) (fst_ (fun k => 0 < s 97 k ∧ niR s k) r (v + 1)) := rfl
    rw [e78_119, e1]
    simp only [e78_120, e78_122, e78_125, e78_126, e78_129, e78_130, e78_131, e78_134, e78_135, e78_136, e78_139, e78_142, e78_145, e78_146, e78_147, e78_148, e78_151, cq_1, fg_1_0, fg_1_1, fp_1_1, fg_1_2, fp_1_2, fg_1_3, fg_1_4, fg_1_5, fg_1_6, fg_1_7, fp_1_7_0, fp_1_7_1, cq_78, fg_78_0, fg_78_1, cq_3, fg_3_0, fg_3_1, cq_80, fg_80_0, fg_80_1, fg_80_2, fg_80_3, fg_80_4, fg_80_5, fp_80_5, fg_80_6, fp_80_6, fg_80_7, fp_80_7, fg_80_8, fp_80_8, fg_80_9, fp_80_9, cq_94, fg_94_0, fg_94_1, fp_94_1, fg_94_2, fp_94_2, fg_94_3, fp_94_3, fg_94_4, fg_94_5, fg_94_6, fg_94_7, fg_94_8, fg_94_9, fg_94_10, fg_94_11, fg_94_12, fg_94_13, fg_94_14, fg_94_15, fp_94_15_0, fp_94_15_1, fg_94_16, fp_94_16, fg_94_17, fg_94_18, fg_94_19, fg_94_20, fg_94_21, fg_94_22, fg_94_23, fp_1_6, cq_94, eq_self, ob, tl1, nI_lt8 (show v < 2147483648 by omega), h1, if_true, gi_97 L s h1, r_needsItself d L s h1, bz_eq0, nI_1]
    by_cases q : 0 < s 97 v
    · rw [if_pos q]
      by_cases q2 : niR s v
      · rw [if_neg (Classical.not_not.mpr q2), if_pos ⟨q, q2⟩]
      · rw [if_pos q2, if_neg (show ¬ (0 < s 97 v ∧ niR s v) from fun z => q2 z.2)]
        exact ih (v + 1) (by omega)
    · rw [if_neg q, if_neg (show ¬ (0 < s 97 v ∧ niR s v) from fun z => q z.1)]
      exact ih (v + 1) (by omega)
def z5 : Nat → Nat → St → St
  | 0, _, s => s
  | r + 1, v, s => z5 r (v + 1) (sU (sU s 111 v 0) 112 (v + 1) 0)
def cntR (s : St) : Nat → Nat → Int32 → Int32
  | 0, _, c => c
  | r + 1, v, c => cntR s r (v + 1) (if 0 < s 97 v then c + 1 else c)
theorem cntR_of {s s' : St} (h : ∀ j, s' 97 j = s 97 j) : ∀ (r v : Nat) (c : Int32), cntR s' r v c = cntR s r v c
  | 0, _, _ => rfl
  | r + 1, v, c => by rw [cntR, cntR, h, cntR_of h r]
theorem ck5 (d L : Nat) (a1 : Option Value) : ∀ (r v : Nat) (c : Int32) (s : St), v + r = 8 → rn d 78 168 [some (.ref 94), a1, some (.int c), some (.int (nI v))] [] (hH L s) = rn d 78 208 [some (.ref 94), a1, some (.int (cntR s r v c)), some (.int (nI 8))] [] (hH L (z5 r v s)) := by
  intro r
  induction r with
  | zero =>
    intro v c s hv
    have hv : v = 8 := by omega
    subst hv
    rw [e78_168]
    simp only [e78_169, e78_171, nI_lt8 (show 8 < 2147483648 by decide), Nat.lt_irrefl, if_false, z5, cntR]
  | succ r ih =>
    intro v c s hv
    have h1 : v < 8 := by omega
    have e97 : ∀ j, sU (sU s 111 v 0) 112 (v + 1) 0 97 j = s 97 j := fun j => by rw [sU_a _ _ _ _ (by decide), sU_a _ _ _ _ (by decide)]
    have hc := fun c => cntR_of e97 r (v + 1) c
    rw [e78_168]
    simp only [e78_169, e78_171, e78_174, e78_175, e78_178, e78_179, e78_180, e78_181, e78_182, e78_185, e78_186, e78_187, e78_188, e78_189, e78_190, e78_191, e78_194, e78_195, e78_196, e78_199, e78_202, e78_205, cq_1, fg_1_0, fg_1_1, fp_1_1, fg_1_2, fp_1_2, fg_1_3, fg_1_4, fg_1_5, fg_1_6, fg_1_7, fp_1_7_0, fp_1_7_1, cq_78, fg_78_0, fg_78_1, cq_3, fg_3_0, fg_3_1, cq_80, fg_80_0, fg_80_1, fg_80_2, fg_80_3, fg_80_4, fg_80_5, fp_80_5, fg_80_6, fp_80_6, fg_80_7, fp_80_7, fg_80_8, fp_80_8, fg_80_9, fp_80_9, cq_94, fg_94_0, fg_94_1, fp_94_1, fg_94_2, fp_94_2, fg_94_3, fp_94_3, fg_94_4, fg_94_5, fg_94_6, fg_94_7, fg_94_8, fg_94_9, fg_94_10, fg_94_11, fg_94_12, fg_94_13, fg_94_14, fg_94_15, fp_94_15_0, fp_94_15_1, fg_94_16, fp_94_16, fg_94_17, fg_94_18, fg_94_19, fg_94_20, fg_94_21, fg_94_22, fg_94_23, fp_1_6, ob, nI_lt8 (show v < 2147483648 by omega), h1, if_true, pi_111 L s h1, nI_1, pi_112 L _ (show v + 1 < 9 by omega), gi_97 L _ h1, e97, z5, cntR]
    by_cases q : 0 < s 97 v
    · rw [if_pos q, if_pos q]
      refine (ih (v + 1) _ _ (by omega)).trans ?_
      rw [hc]
    · rw [if_neg q, if_neg q]
      refine (ih (v + 1) _ _ (by omega)).trans ?_
      rw [hc]
theorem ck6 (d L : Nat) (a1 : Option Value) (c : Int32) : ∀ (r k : Nat) (s : St), k + r = 192 → rn d 78 217 [some (.ref 94), a1, some (.int c), some (.int (nI k))] [] (hH L s) = some (some (.int c), hH L (sF s 102 k 192 0)) := by
  intro r
  induction r with
  | zero =>
    intro k s hk
    have hk : k = 192 := by omega
    subst hk
    have h0 : ¬ nI 192 < 192 := by decide
    rw [e78_217]
    simp only [e78_218, e78_221, e78_237, e78_238, h0, if_false, sF_end]
  | succ r ih =>
    intro k s hk
    have h1 : k < 192 := by omega
    have h0 : nI k < 192 := nI_lt h1 (by decide)
    rw [e78_217]
    simp only [e78_218, e78_221, e78_224, e78_225, e78_228, e78_229, e78_230, e78_231, e78_234, cq_1, fg_1_0, fg_1_1, fp_1_1, fg_1_2, fp_1_2, fg_1_3, fg_1_4, fg_1_5, fg_1_6, fg_1_7, fp_1_7_0, fp_1_7_1, cq_78, fg_78_0, fg_78_1, cq_3, fg_3_0, fg_3_1, cq_80, fg_80_0, fg_80_1, fg_80_2, fg_80_3, fg_80_4, fg_80_5, fp_80_5, fg_80_6, fp_80_6, fg_80_7, fp_80_7, fg_80_8, fp_80_8, fg_80_9, fp_80_9, cq_94, fg_94_0, fg_94_1, fp_94_1, fg_94_2, fp_94_2, fg_94_3, fp_94_3, fg_94_4, fg_94_5, fg_94_6, fg_94_7, fg_94_8, fg_94_9, fg_94_10, fg_94_11, fg_94_12, fg_94_13, fg_94_14, fg_94_15, fp_94_15_0, fp_94_15_1, fg_94_16, fp_94_16, fg_94_17, fg_94_18, fg_94_19, fg_94_20, fg_94_21, fg_94_22, fg_94_23, fp_1_6, ob, h0, if_true, pi_102 L s h1, nI_1]
    rw [ih (k + 1) _ (by omega), sF_step h1]
/-- what a good check leaves -/
def ckZ (s : St) : St := sF (sU (z5 8 0 (sU (sU s 94 15 1) 94 16 0)) 112 0 0) 102 0 192 0
noncomputable def ckRV (N : Nat → Nat) (isT : Nat → Nat → Bool) (en : Nat → Nat → Nat) (s : St) : Int32 × St :=
  match fst_ (msR s) 8 0 with
  | some k => (-100 - nI k, s)
  | none => match fst_ (fun k => 0 < s 97 k ∧ crR s k 8 (s 105 k)) 8 0 with
    | some k => (-200 - nI k, s)
    | none => if (ftA N isT en 8 (-1) s).1 < 0 then
        (match fst_ (fun k => 0 < fn3 8 0 (ftA N isT en 8 (-1) s).2 97 k ∧ niR (fn3 8 0 (ftA N isT en 8 (-1) s).2) k) 8 0 with
        | some k => (-400 - nI k, fn3 8 0 (ftA N isT en 8 (-1) s).2)
        | none => (cntR (fn3 8 0 (ftA N isT en 8 (-1) s).2) 8 0 0, ckZ (fn3 8 0 (ftA N isT en 8 (-1) s).2)))
      else (-300 - (ftA N isT en 8 (-1) s).1, (ftA N isT en 8 (-1) s).2)
theorem r_check (d L : Nat) {N : Nat → Nat} {isT : Nat → Nat → Bool} {en : Nat → Nat → Nat} (s : St) (h : RA s N isT en) (hc : ckR s) : rn (d + 2) 78 0 [some (.ref 94), none, none, none] [] (hH L s) = some (some (.int (ckRV N isT en (sU s 94 15 0)).1), hH L (ckRV N isT en (sU s 94 15 0)).2) := by
  have h' : RA (sU s 94 15 0) N isT en := RA_of h (fun a j ha => sU_a _ _ _ _ (by omega))
  have hc' : ckR (sU s 94 15 0) := fun k hk => by rw [sU_a _ _ _ _ (by decide)]; exact hc k hk
  simp only [e78_0, e78_1, e78_2, e78_5, e78_6, cq_1, fg_1_0, fg_1_1, fp_1_1, fg_1_2, fp_1_2, fg_1_3, fg_1_4, fg_1_5, fg_1_6, fg_1_7, fp_1_7_0, fp_1_7_1, cq_78, fg_78_0, fg_78_1, cq_3, fg_3_0, fg_3_1, cq_80, fg_80_0, fg_80_1, fg_80_2, fg_80_3, fg_80_4, fg_80_5, fp_80_5, fg_80_6, fp_80_6, fg_80_7, fp_80_7, fg_80_8, fp_80_8, fg_80_9, fp_80_9, cq_94, fg_94_0, fg_94_1, fp_94_1, fg_94_2, fp_94_2, fg_94_3, fp_94_3, fg_94_4, fg_94_5, fg_94_6, fg_94_7, fg_94_8, fg_94_9, fg_94_10, fg_94_11, fg_94_12, fg_94_13, fg_94_14, fg_94_15, fp_94_15_0, fp_94_15_1, fg_94_16, fp_94_16, fg_94_17, fg_94_18, fg_94_19, fg_94_20, fg_94_21, fg_94_22, fg_94_23, fp_1_6, ob]
  generalize sU s 94 15 0 = s at h' hc' ⊢
  refine Eq.trans (ck1 (d + 1) L s h'.ln none none 8 0 (by decide)) ?_
  unfold ckRV
  cases q1 : fst_ (msR s) 8 0 with
  | some k => rfl
  | none =>
    dsimp only
    simp only [e78_32, e78_33]
    refine Eq.trans (ck2 (d + 1) L s hc' none none 8 0 (by decide)) ?_
    cases q2 : fst_ (fun k => 0 < s 97 k ∧ crR s k 8 (s 105 k)) 8 0 with
    | some k => rfl
    | none =>
      dsimp only
      obtain ⟨c1, c2⟩ := ck3 d L (none : Option Value) 8 (-1) s h' (Nat.le_refl 8)
      simp only [e78_69, e78_70, e78_71, e78_73]
      refine Eq.trans c1 ?_
      simp only [e78_103, e78_104, e78_107, e78_110, e78_111, e78_112]
      by_cases q3 : (ftA N isT en 8 (-1) s).1 < 0
      · rw [if_pos q3, if_pos q3]
        generalize (ftA N isT en 8 (-1) s).2 = s3 at c2 ⊢
        generalize (ftA N isT en 8 (-1) s).1 = x3
        have hl3 : lnR s3 := lnR_of h'.ln (fun j => c2 97 j (by decide) (by decide))
        obtain ⟨n1, n2⟩ := r_findNeeds d L s3 hl3
        simp only [e78_113, e78_114, e78_117, e78_118, cq_94, eq_self, ob, tl0, n1]
        generalize fn3 8 0 s3 = s4 at n1 n2 ⊢
        refine Eq.trans (ck4 (d + 1) L s4 _ none 8 0 (by decide)) ?_
        cases q4 : fst_ (fun k => 0 < s4 97 k ∧ niR s4 k) 8 0 with
        | some k => rfl
        | none =>
          dsimp only
          simp only [e78_154, e78_155, e78_156, e78_159, e78_160, e78_161, e78_164, e78_165, e78_166, e78_167, cq_1, fg_1_0, fg_1_1, fp_1_1, fg_1_2, fp_1_2, fg_1_3, fg_1_4, fg_1_5, fg_1_6, fg_1_7, fp_1_7_0, fp_1_7_1, cq_78, fg_78_0, fg_78_1, cq_3, fg_3_0, fg_3_1, cq_80, fg_80_0, fg_80_1, fg_80_2, fg_80_3, fg_80_4, fg_80_5, fp_80_5, fg_80_6, fp_80_6, fg_80_7, fp_80_7, fg_80_8, fp_80_8, fg_80_9, fp_80_9, cq_94, fg_94_0, fg_94_1, fp_94_1, fg_94_2, fp_94_2, fg_94_3, fp_94_3, fg_94_4, fg_94_5, fg_94_6, fg_94_7, fg_94_8, fg_94_9, fg_94_10, fg_94_11, fg_94_12, fg_94_13, fg_94_14, fg_94_15, fp_94_15_0, fp_94_15_1, fg_94_16, fp_94_16, fg_94_17, fg_94_18, fg_94_19, fg_94_20, fg_94_21, fg_94_22, fg_94_23, fp_1_6, ob]
          refine Eq.trans (ck5 (d + 2) L _ 8 0 0 _ (by decide)) ?_
          have g0 : ∀ s, aputi (hH L s) 0 112 0 0 = some (hH L (sU s 112 0 0)) := fun s => pi_112 L s (k := 0) (by decide) 0
          simp only [e78_208, e78_209, e78_212, e78_213, e78_214, e78_215, e78_216, cq_1, fg_1_0, fg_1_1, fp_1_1, fg_1_2, fp_1_2, fg_1_3, fg_1_4, fg_1_5, fg_1_6, fg_1_7, fp_1_7_0, fp_1_7_1, cq_78, fg_78_0, fg_78_1, cq_3, fg_3_0, fg_3_1, cq_80, fg_80_0, fg_80_1, fg_80_2, fg_80_3, fg_80_4, fg_80_5, fp_80_5, fg_80_6, fp_80_6, fg_80_7, fp_80_7, fg_80_8, fp_80_8, fg_80_9, fp_80_9, cq_94, fg_94_0, fg_94_1, fp_94_1, fg_94_2, fp_94_2, fg_94_3, fp_94_3, fg_94_4, fg_94_5, fg_94_6, fg_94_7, fg_94_8, fg_94_9, fg_94_10, fg_94_11, fg_94_12, fg_94_13, fg_94_14, fg_94_15, fp_94_15_0, fp_94_15_1, fg_94_16, fp_94_16, fg_94_17, fg_94_18, fg_94_19, fg_94_20, fg_94_21, fg_94_22, fg_94_23, fp_1_6, ob, g0]
          refine Eq.trans (ck6 (d + 2) L _ _ 192 0 _ (by decide)) ?_
          rw [cntR_of (s := s4) (fun j => by rw [sU_a _ _ _ _ (by decide), sU_a _ _ _ _ (by decide)])]
          rfl
      · rw [if_neg q3, if_neg q3]
