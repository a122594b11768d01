/-! The reference: where TERMS lie, what they are worth. -/
def tR (s : St) (v : Nat) : Nat → Int32 := fun j => s 96 (24 * v + j)
def clk (x : Int32) : Prop := x = -1 ∨ ∃ j, j < 8 ∧ x = nI j
abbrev actR (s : St) (k : Int32) : Prop := k < 0 ∨ (¬ s 107 k.toNatClampNeg = 0 ∧ ¬ s 110 k.toNatClampNeg = 0)
theorem r_active (d L : Nat) (s : St) {k : Int32} (hk : clk k) : rn d 89 0 [some (.ref 94), some (.int k)] [] (hH L s) = some (some (.int (bz (actR s k))), hH L s) := by
  rcases hk with rfl | ⟨j, hj, rfl⟩
  · have h1 : (-1 : Int32) < 0 := by decide
    simp only [e89_0, e89_1, e89_4, e89_5, e89_8, e89_9, e89_10, e89_13, e89_14, e89_17, e89_18, e89_19, e89_22, e89_23, e89_26, e89_27, e89_27q0, e89_27q1, h1, if_true, actR, true_or, bz]
  · have ej : (nI j).toNatClampNeg = j := nI_clamp (by omega)
    simp only [e89_0, e89_1, e89_4, e89_5, e89_8, e89_9, e89_10, e89_13, e89_14, e89_17, e89_18, e89_19, e89_22, e89_23, e89_26, e89_27, e89_27q0, e89_27q1, cq_1, fg_1_0, fg_1_1, fp_1_1, fg_1_2, fp_1_2, fg_1_3, fg_1_4, fg_1_5, fg_1_6, fg_1_7, fp_1_7_0, fp_1_7_1, cq_78, fg_78_0, fg_78_1, cq_3, fg_3_0, fg_3_1, cq_80, fg_80_0, fg_80_1, fg_80_2, fg_80_3, fg_80_4, fg_80_5, fp_80_5, fg_80_6, fp_80_6, fg_80_7, fp_80_7, fg_80_8, fp_80_8, fg_80_9, fp_80_9, cq_94, fg_94_0, fg_94_1, fp_94_1, fg_94_2, fp_94_2, fg_94_3, fp_94_3, fg_94_4, fg_94_5, fg_94_6, fg_94_7, fg_94_8, fg_94_9, fg_94_10, fg_94_11, fg_94_12, fg_94_13, fg_94_14, fg_94_15, fp_94_15_0, fp_94_15_1, fg_94_16, fp_94_16, fg_94_17, fg_94_18, fg_94_19, fg_94_20, fg_94_21, fg_94_22, fg_94_23, fp_1_6, ob, nI_n0 (show j < 2147483648 by omega), if_false, gi_107 L s hj, gi_110 L s hj, actR, ej, false_or]
    by_cases h1 : s 107 j = 0
    · simp [h1, bz]
    · by_cases h2 : s 110 j = 0 <;> simp [h1, h2, bz]
theorem lr_child (d L : Nat) (s : St) {v i K : Nat} (hv : v < 8) (en : Nat → Nat) (a2 : Option Value) (hK : K ≤ 3) (h : ∀ m, m < K → ch (tR s v) en i m < 24 ∧ s 98 (24 * v + ch (tR s v) en i m) = nI (en (ch (tR s v) en i m))) : ∀ (r k : Nat), k + r = K → rn d 83 30 [some (.ref 94), some (.int (nI v)), a2, some (.int (nI K)), some (.int (nI (ch (tR s v) en i k))), some (.int (nI k))] [] (hH L s) = some (some (.int (nI (ch (tR s v) en i K))), hH L s) := by
  intro r
  induction r with
  | zero =>
    intro k hk
    have hk : k = K := by omega
    subst hk
    rw [e83_30]
    simp only [e83_32, e83_33, e83_36, e83_37, e83_40, e83_41, e83_43, e83_44, e83_46, e83_47, e83_48, e83_50, e83_53, e83_56, e83_58, nI_ltP (show k < 2147483648 by omega) (show k < 2147483648 by omega), Nat.lt_irrefl, if_false]
  | succ r ih =>
    intro k hk
    obtain ⟨h1, h2⟩ := h k (by omega)
    rw [e83_30]
    simp only [e83_32, e83_33, e83_36, e83_37, e83_40, e83_41, e83_43, e83_44, e83_46, e83_47, e83_48, e83_50, e83_53, e83_56, e83_58, cq_1, fg_1_0, fg_1_1, fp_1_1, fg_1_2, fp_1_2, fg_1_3, fg_1_4, fg_1_5, fg_1_6, fg_1_7, fp_1_7_0, fp_1_7_1, cq_78, fg_78_0, fg_78_1, cq_3, fg_3_0, fg_3_1, cq_80, fg_80_0, fg_80_1, fg_80_2, fg_80_3, fg_80_4, fg_80_5, fp_80_5, fg_80_6, fp_80_6, fg_80_7, fp_80_7, fg_80_8, fp_80_8, fg_80_9, fp_80_9, cq_94, fg_94_0, fg_94_1, fp_94_1, fg_94_2, fp_94_2, fg_94_3, fp_94_3, fg_94_4, fg_94_5, fg_94_6, fg_94_7, fg_94_8, fg_94_9, fg_94_10, fg_94_11, fg_94_12, fg_94_13, fg_94_14, fg_94_15, fp_94_15_0, fp_94_15_1, fg_94_16, fp_94_16, fg_94_17, fg_94_18, fg_94_19, fg_94_20, fg_94_21, fg_94_22, fg_94_23, fp_1_6, ob, nI_ltP (show k < 2147483648 by omega) (show K < 2147483648 by omega), show k < K by omega, if_true, m24, gi_98 L s (show 24 * v + ch (tR s v) en i k < 192 by omega), h2, nI_1]
    exact ih (k + 1) (by omega)
theorem r_child (d L : Nat) (s : St) {v i K : Nat} (hv : v < 8) (hi : i < 24) (en : Nat → Nat) (hK : K ≤ 3) (h : ∀ m, m < K → ch (tR s v) en i m < 24 ∧ s 98 (24 * v + ch (tR s v) en i m) = nI (en (ch (tR s v) en i m))) : rn d 83 0 [some (.ref 94), some (.int (nI v)), some (.int (nI i)), some (.int (nI K)), none, none] [] (hH L s) = some (some (.int (nI (ch (tR s v) en i K))), hH L s) := by
  have hl := lr_child d L s hv en (some (.int (nI i))) hK h K 0 (by omega)
  have ht : s 96 (24 * v + i) = tR s v i := rfl
  have e2 : nI i + 2 = nI (i + 2) := nI_add i 2
  simp only [e83_0, e83_1, e83_4, e83_5, e83_7, e83_8, e83_9, e83_10, e83_11, e83_13, e83_16, e83_17, e83_18, e83_19, e83_22, e83_23, e83_24, e83_25, e83_27, e83_28, cq_1, fg_1_0, fg_1_1, fp_1_1, fg_1_2, fp_1_2, fg_1_3, fg_1_4, fg_1_5, fg_1_6, fg_1_7, fp_1_7_0, fp_1_7_1, cq_78, fg_78_0, fg_78_1, cq_3, fg_3_0, fg_3_1, cq_80, fg_80_0, fg_80_1, fg_80_2, fg_80_3, fg_80_4, fg_80_5, fp_80_5, fg_80_6, fp_80_6, fg_80_7, fp_80_7, fg_80_8, fp_80_8, fg_80_9, fp_80_9, cq_94, fg_94_0, fg_94_1, fp_94_1, fg_94_2, fp_94_2, fg_94_3, fp_94_3, fg_94_4, fg_94_5, fg_94_6, fg_94_7, fg_94_8, fg_94_9, fg_94_10, fg_94_11, fg_94_12, fg_94_13, fg_94_14, fg_94_15, fp_94_15_0, fp_94_15_1, fg_94_16, fp_94_16, fg_94_17, fg_94_18, fg_94_19, fg_94_20, fg_94_21, fg_94_22, fg_94_23, fp_1_6, ob, m24, gi_96 L s (show 24 * v + i < 192 by omega), ht, nI_1, e2]
  by_cases q : tR s v i = 67
  · have e0 : ch (tR s v) en i 0 = i + 2 := if_pos q
    rw [e0] at hl
    rw [if_pos q]
    exact hl
  · have e0 : ch (tR s v) en i 0 = i + 1 := if_neg q
    rw [e0] at hl
    rw [if_neg q]
    exact hl
/-- what the reference holds of a variable's equation -/
def RF (s : St) (v n : Nat) (isT : Nat → Bool) (en : Nat → Nat) : Prop := v < 8 ∧ s 97 v = nI n ∧ LineOK (tR s v) n isT en ∧ (∀ i, i < n → s 103 (24 * v + i) = bI (isT i)) ∧ (∀ i, i < n → isT i = true → s 98 (24 * v + i) = nI (en i))
theorem RF_ch {s : St} {v n : Nat} {isT : Nat → Bool} {en : Nat → Nat} (h : RF s v n isT en) {i m : Nat} (hi : i < n) (ht : isT i = true) (hm : m < pcn (tR s v i)) : ch (tR s v) en i m < 24 ∧ s 98 (24 * v + ch (tR s v) en i m) = nI (en (ch (tR s v) en i m)) := by
  obtain ⟨h1, h2, h3, h4, h5⟩ := h
  have hl := h3.2.1
  have a := (h3.2.2.2.2.2 i hi ht).1 m hm
  exact ⟨by omega, h5 _ a.1 a.2⟩
theorem pn1 {c : Int32} (h : c = 33 ∨ c = 80 ∨ c = 87 ∨ c = 67) : pcn c = 1 := by
  rcases h with rfl | rfl | rfl | rfl <;> decide
theorem pn2 {c : Int32} (h : 0 < pcn c) (h1 : ¬ c = 33) (h2 : ¬ c = 80) (h3 : ¬ c = 87) (h4 : ¬ c = 67) : 2 ≤ pcn c := by
  unfold pcn pcN at *
  repeat' split at h
  all_goals first | (exact absurd (by assumption) (by assumption)) | (simp_all; done) | skip
  all_goals simp_all
  all_goals decide
theorem pn3 {c : Int32} (h : 0 < pcn c) (h1 : ¬ c = 33) (h2 : ¬ c = 80) (h3 : ¬ c = 87) (h4 : ¬ c = 67) (h5 : ¬ cPr c) (h6 : ¬ c = 70) : c = 63 := by
  apply Classical.byContradiction
  intro h7
  have : pcN c = 0 := by
    unfold cPr at h5
    unfold pcN
    simp only [not_or] at h5
    simp [h1, h2, h3, h4, h5, h6, h7]
  unfold pcn at h
  rw [this] at h
  exact absurd h (by decide)
theorem nI_s1 {m : Nat} (h : 0 < m) : nI m - 1 = nI (m - 1) := by
  obtain ⟨k, rfl⟩ : ∃ k, m = k + 1 := ⟨m - 1, by omega⟩
  rw [Int32.sub_eq_add_neg]
  exact pk_m1 k
theorem nv87 : ¬ (¬ (87 : Int32) < 97 ∧ (87 : Int32) < 105) := by decide
theorem nv67 : ¬ (¬ (67 : Int32) < 97 ∧ (67 : Int32) < 105) := by decide
theorem nmF87 {t : Nat → Int32} {en : Nat → Nat} {i : Nat} (h : t i = 87) : nmF t en i = t (en i - 1) - 97 := by
  unfold nmF
  rw [h, if_neg nv87, if_pos rfl]
theorem nmF67 {t : Nat → Int32} {en : Nat → Nat} {i : Nat} (h : t i = 67) : nmF t en i = t (i + 1) - 97 := by
  unfold nmF
  rw [h, if_neg nv67, if_neg (by decide), if_pos rfl]
theorem LineOK.nm {t : Nat → Int32} {n : Nat} {isT : Nat → Bool} {en : Nat → Nat} (h : LineOK t n isT en) {i : Nat} (hi : i < n) (ht : isT i = true) (hq : t i = 87 ∨ t i = 67 ∨ cVar (t i)) : ∃ j, j < 8 ∧ nmF t en i = nI j := by
  have a := h.2.2.2.2.2 i hi ht
  rcases hq with hq | hq | hq
  · rw [nmF87 hq]
    have b := a.2.2.2.2.2.1 hq
    have c := a.2.2.1
    have c2 := a.2.1
    exact var_k (h.2.2.2.2.1 _ (by omega) b).1
  · rw [nmF67 hq]
    have b := a.2.2.2.2.1 hq
    exact var_k (h.2.2.2.2.1 _ b.1 b.2).1
  · have e : nmF t en i = t i - 97 := if_pos hq
    rw [e]
    exact var_k hq
theorem r_about (d L : Nat) (s : St) {v n i : Nat} {isT : Nat → Bool} {en : Nat → Nat} (h : RF s v n isT en) (hi : i < n) (ht : isT i = true) (hq : tR s v i = 87 ∨ tR s v i = 67) : rn d 82 0 [some (.ref 94), some (.int (nI v)), some (.int (nI i)), none] [] (hH L s) = some (some (.int (nmF (tR s v) en i)), hH L s) := by
  obtain ⟨hv, h2, h3, h4, h5⟩ := h
  have hn := h3.2.1
  have a := h3.2.2.2.2.2 i hi ht
  have e : s 96 (24 * v + i) = tR s v i := rfl
  by_cases q : tR s v i = 87
  · have c := a.2.2.1
    have c2 := a.2.1
    have e2 : s 96 (24 * v + (en i - 1)) = tR s v (en i - 1) := rfl
    simp only [e82_0, e82_1, e82_4, e82_5, e82_7, e82_8, e82_9, e82_10, e82_11, e82_13, e82_16, e82_17, e82_20, e82_21, e82_23, e82_24, e82_25, e82_26, e82_27, e82_28, e82_29, e82_32, e82_33, e82_34, e82_35, e82_36, e82_37, e82_40, e82_41, e82_43, e82_44, e82_45, e82_46, e82_47, e82_49, e82_50, cq_1, fg_1_0, fg_1_1, fp_1_1, fg_1_2, fp_1_2, fg_1_3, fg_1_4, fg_1_5, fg_1_6, fg_1_7, fp_1_7_0, fp_1_7_1, cq_78, fg_78_0, fg_78_1, cq_3, fg_3_0, fg_3_1, cq_80, fg_80_0, fg_80_1, fg_80_2, fg_80_3, fg_80_4, fg_80_5, fp_80_5, fg_80_6, fp_80_6, fg_80_7, fp_80_7, fg_80_8, fp_80_8, fg_80_9, fp_80_9, cq_94, fg_94_0, fg_94_1, fp_94_1, fg_94_2, fp_94_2, fg_94_3, fp_94_3, fg_94_4, fg_94_5, fg_94_6, fg_94_7, fg_94_8, fg_94_9, fg_94_10, fg_94_11, fg_94_12, fg_94_13, fg_94_14, fg_94_15, fp_94_15_0, fp_94_15_1, fg_94_16, fp_94_16, fg_94_17, fg_94_18, fg_94_19, fg_94_20, fg_94_21, fg_94_22, fg_94_23, fp_1_6, ob, m24, gi_96 L s (show 24 * v + i < 192 by omega), e, q, if_true, gi_98 L s (show 24 * v + i < 192 by omega), h5 i hi ht, nI_s1 (show 0 < en i by omega), gi_96 L s (show 24 * v + (en i - 1) < 192 by omega), nmF87 q, e2]
  · have b := a.2.2.2.2.1 (hq.resolve_left q)
    have e2 : s 96 (24 * v + (i + 1)) = tR s v (i + 1) := rfl
    simp only [e82_0, e82_1, e82_4, e82_5, e82_7, e82_8, e82_9, e82_10, e82_11, e82_13, e82_16, e82_17, e82_20, e82_21, e82_23, e82_24, e82_25, e82_26, e82_27, e82_28, e82_29, e82_32, e82_33, e82_34, e82_35, e82_36, e82_37, e82_40, e82_41, e82_43, e82_44, e82_45, e82_46, e82_47, e82_49, e82_50, cq_1, fg_1_0, fg_1_1, fp_1_1, fg_1_2, fp_1_2, fg_1_3, fg_1_4, fg_1_5, fg_1_6, fg_1_7, fp_1_7_0, fp_1_7_1, cq_78, fg_78_0, fg_78_1, cq_3, fg_3_0, fg_3_1, cq_80, fg_80_0, fg_80_1, fg_80_2, fg_80_3, fg_80_4, fg_80_5, fp_80_5, fg_80_6, fp_80_6, fg_80_7, fp_80_7, fg_80_8, fp_80_8, fg_80_9, fp_80_9, cq_94, fg_94_0, fg_94_1, fp_94_1, fg_94_2, fp_94_2, fg_94_3, fp_94_3, fg_94_4, fg_94_5, fg_94_6, fg_94_7, fg_94_8, fg_94_9, fg_94_10, fg_94_11, fg_94_12, fg_94_13, fg_94_14, fg_94_15, fp_94_15_0, fp_94_15_1, fg_94_16, fp_94_16, fg_94_17, fg_94_18, fg_94_19, fg_94_20, fg_94_21, fg_94_22, fg_94_23, fp_1_6, ob, m24, gi_96 L s (show 24 * v + i < 192 by omega), e, q, if_false, nI_1, gi_96 L s (show 24 * v + (i + 1) < 192 by omega), nmF67 (hq.resolve_left q), e2]
def wkO (s : St) (v : Nat) (en : Nat → Nat) (i : Nat) (a b c : Int32) : Int32 :=
  if tR s v i = 33 then bz (a = 0) else
  if tR s v i = 80 then s 102 (24 * v + i) else
  if tR s v i = 87 then a else
  if tR s v i = 67 then (if actR s (nmF (tR s v) en i) then a else s 102 (24 * v + i)) else
  if tR s v i = 43 then a + b else
  if tR s v i = 45 then a - b else
  if tR s v i = 42 then a * b else
  if tR s v i = 60 then bz (a < b) else
  if tR s v i = 61 then bz (a = b) else
  if tR s v i = 38 then bz (¬ a = 0 ∧ ¬ b = 0) else
  if tR s v i = 70 then (if s 112 (s 99 (24 * v + i) + 1).toNatClampNeg = 0 then a else b) else
  if a = 0 then c else b
def wkV (s : St) (v : Nat) (en : Nat → Nat) (i : Nat) : Int32 :=
  if ¬ tR s v i < 48 ∧ ¬ 57 < tR s v i then tR s v i - 48 else
  if ¬ tR s v i < 97 ∧ tR s v i < 105 then s 110 (tR s v i - 97).toNatClampNeg else
  if ¬ tR s v i < 112 ∧ tR s v i < 116 then s 106 (tR s v i - 112).toNatClampNeg else
  wkO s v en i (s 101 (24 * v + ch (tR s v) en i 0)) (s 101 (24 * v + ch (tR s v) en i 1)) (s 101 (24 * v + ch (tR s v) en i 2))
theorem clk1 {k : Int32} (h : clk k) : ∃ j, j < 9 ∧ k + 1 = nI j := by
  rcases h with rfl | ⟨j, hj, rfl⟩
  · exact ⟨0, by decide, by decide⟩
  · exact ⟨j + 1, by omega, nI_1 j⟩
theorem r_work (d L : Nat) (s : St) {v n i : Nat} {isT : Nat → Bool} {en : Nat → Nat} (h : RF s v n isT en) (hi : i < n) (ht : isT i = true) (hc : clk (s 99 (24 * v + i))) : rn (d + 1) 91 0 [some (.ref 94), some (.int (nI v)), some (.int (nI i)), none, none, none, none] [] (hH L s) = some (some (.int (wkV s v en i)), hH L s) := by
  have hv := h.1
  have h3 := h.2.2.1
  have hn := h3.2.1
  have e : s 96 (24 * v + i) = tR s v i := rfl
  have a := h3.2.2.2.2.2 i hi ht
  have start : rn (d + 1) 91 0 [some (.ref 94), some (.int (nI v)), some (.int (nI i)), none, none, none, none] [] (hH L s) = rn (d + 1) 91 15 [some (.ref 94), some (.int (nI v)), some (.int (nI i)), some (.int (nI (24 * v + i))), some (.int (tR s v i)), none, none] [] (hH L s) := by
    simp only [e91_0, e91_1, e91_3, e91_4, e91_5, e91_6, e91_7, e91_8, e91_11, e91_12, e91_13, cq_1, fg_1_0, fg_1_1, fp_1_1, fg_1_2, fp_1_2, fg_1_3, fg_1_4, fg_1_5, fg_1_6, fg_1_7, fp_1_7_0, fp_1_7_1, cq_78, fg_78_0, fg_78_1, cq_3, fg_3_0, fg_3_1, cq_80, fg_80_0, fg_80_1, fg_80_2, fg_80_3, fg_80_4, fg_80_5, fp_80_5, fg_80_6, fp_80_6, fg_80_7, fp_80_7, fg_80_8, fp_80_8, fg_80_9, fp_80_9, cq_94, fg_94_0, fg_94_1, fp_94_1, fg_94_2, fp_94_2, fg_94_3, fp_94_3, fg_94_4, fg_94_5, fg_94_6, fg_94_7, fg_94_8, fg_94_9, fg_94_10, fg_94_11, fg_94_12, fg_94_13, fg_94_14, fg_94_15, fp_94_15_0, fp_94_15_1, fg_94_16, fp_94_16, fg_94_17, fg_94_18, fg_94_19, fg_94_20, fg_94_21, fg_94_22, fg_94_23, fp_1_6, ob, m24, gi_96 L s (show 24 * v + i < 192 by omega), e]
  rw [start]
  simp only [e91_15, e91_17, e91_20, e91_23, e91_25, e91_27, e91_28, e91_29, e91_31, e91_34, e91_37, e91_38, e91_41, e91_43, e91_45, e91_46, e91_47, e91_48, e91_50, e91_53, e91_56, e91_57, e91_60, e91_62, e91_64, e91_65, e91_66, cq_1, fg_1_0, fg_1_1, fp_1_1, fg_1_2, fp_1_2, fg_1_3, fg_1_4, fg_1_5, fg_1_6, fg_1_7, fp_1_7_0, fp_1_7_1, cq_78, fg_78_0, fg_78_1, cq_3, fg_3_0, fg_3_1, cq_80, fg_80_0, fg_80_1, fg_80_2, fg_80_3, fg_80_4, fg_80_5, fp_80_5, fg_80_6, fp_80_6, fg_80_7, fp_80_7, fg_80_8, fp_80_8, fg_80_9, fp_80_9, cq_94, fg_94_0, fg_94_1, fp_94_1, fg_94_2, fp_94_2, fg_94_3, fp_94_3, fg_94_4, fg_94_5, fg_94_6, fg_94_7, fg_94_8, fg_94_9, fg_94_10, fg_94_11, fg_94_12, fg_94_13, fg_94_14, fg_94_15, fp_94_15_0, fp_94_15_1, fg_94_16, fp_94_16, fg_94_17, fg_94_18, fg_94_19, fg_94_20, fg_94_21, fg_94_22, fg_94_23, fp_1_6, ob, tl1, r_digit, r_variable, r_isInput, bz_eq0, wkV]
  by_cases q1 : ¬ tR s v i < 48 ∧ ¬ 57 < tR s v i
  · rw [if_neg (Classical.not_not.mpr q1), if_pos q1]
  · rw [if_pos q1, if_neg q1]
    by_cases q2 : ¬ tR s v i < 97 ∧ tR s v i < 105
    · obtain ⟨k, hk, ek⟩ := var_k q2
      simp only [if_neg (Classical.not_not.mpr q2), if_pos q2, ek, gi_110 L s hk, ob, nI_clamp (show k < 2 ^ 31 by omega)]
    · rw [if_pos q2, if_neg q2]
      by_cases q3 : ¬ tR s v i < 112 ∧ tR s v i < 116
      · obtain ⟨k, hk, ek⟩ := inp_k q3
        simp only [if_neg (Classical.not_not.mpr q3), if_pos q3, ek, gi_106 L s hk, ob, nI_clamp (show k < 2 ^ 31 by omega)]
      · rw [if_pos q3, if_neg q3]
        have hp : 0 < pcn (tR s v i) := by
          rcases a.2.2.2.2.2.2 with z | z | z | z
          · exact absurd z q2
          · exact absurd z q3
          · exact absurd z q1
          · exact z
        have h24 : ∀ m, m < pcn (tR s v i) → 24 * v + ch (tR s v) en i m < 192 := fun m hm => by have := (RF_ch h hi ht hm).1; omega
        have k0 := r_child d L s (K := 0) hv (show i < 24 by omega) en (by decide) (fun m hm => absurd hm (by omega))
        have k0' : rn d 83 0 [some (.ref 94), some (.int (nI v)), some (.int (nI i)), some (.int 0), none, none] [] (hH L s) = some (some (.int (nI (ch (tR s v) en i 0))), hH L s) := k0
        simp only [e91_67, e91_68, e91_71, e91_72, e91_74, e91_75, e91_76, e91_77, e91_78, e91_79, e91_82, e91_83, e91_84, cq_1, fg_1_0, fg_1_1, fp_1_1, fg_1_2, fp_1_2, fg_1_3, fg_1_4, fg_1_5, fg_1_6, fg_1_7, fp_1_7_0, fp_1_7_1, cq_78, fg_78_0, fg_78_1, cq_3, fg_3_0, fg_3_1, cq_80, fg_80_0, fg_80_1, fg_80_2, fg_80_3, fg_80_4, fg_80_5, fp_80_5, fg_80_6, fp_80_6, fg_80_7, fp_80_7, fg_80_8, fp_80_8, fg_80_9, fp_80_9, cq_94, fg_94_0, fg_94_1, fp_94_1, fg_94_2, fp_94_2, fg_94_3, fp_94_3, fg_94_4, fg_94_5, fg_94_6, fg_94_7, fg_94_8, fg_94_9, fg_94_10, fg_94_11, fg_94_12, fg_94_13, fg_94_14, fg_94_15, fp_94_15_0, fp_94_15_1, fg_94_16, fp_94_16, fg_94_17, fg_94_18, fg_94_19, fg_94_20, fg_94_21, fg_94_22, fg_94_23, fp_1_6, cq_94, eq_self, ob, tl1, k0', m24, gi_101 L s (h24 0 hp)]
        simp only [e91_86, e91_88, e91_90, e91_93, e91_95, e91_98, e91_99, e91_102, e91_103, e91_104, e91_106, e91_108, e91_111, e91_112, e91_115, e91_116, e91_117, e91_118, e91_120, e91_122, e91_125, e91_127, e91_128, e91_130, e91_132, cq_1, fg_1_0, fg_1_1, fp_1_1, fg_1_2, fp_1_2, fg_1_3, fg_1_4, fg_1_5, fg_1_6, fg_1_7, fp_1_7_0, fp_1_7_1, cq_78, fg_78_0, fg_78_1, cq_3, fg_3_0, fg_3_1, cq_80, fg_80_0, fg_80_1, fg_80_2, fg_80_3, fg_80_4, fg_80_5, fp_80_5, fg_80_6, fp_80_6, fg_80_7, fp_80_7, fg_80_8, fp_80_8, fg_80_9, fp_80_9, cq_94, fg_94_0, fg_94_1, fp_94_1, fg_94_2, fp_94_2, fg_94_3, fp_94_3, fg_94_4, fg_94_5, fg_94_6, fg_94_7, fg_94_8, fg_94_9, fg_94_10, fg_94_11, fg_94_12, fg_94_13, fg_94_14, fg_94_15, fp_94_15_0, fp_94_15_1, fg_94_16, fp_94_16, fg_94_17, fg_94_18, fg_94_19, fg_94_20, fg_94_21, fg_94_22, fg_94_23, fp_1_6, ob, wkO, gi_102 L s (show 24 * v + i < 192 by omega)]
        generalize s 101 (24 * v + ch (tR s v) en i 0) = x
        by_cases c1 : tR s v i = 33
        · simp only [if_pos c1]
          by_cases q : x = 0 <;> simp [q, bz]
        · simp only [if_neg c1]
          by_cases c2 : tR s v i = 80
          · simp only [if_pos c2]
          · simp only [if_neg c2]
            by_cases c3 : tR s v i = 87
            · simp only [if_pos c3]
            · simp only [if_neg c3]
              by_cases c4 : tR s v i = 67
              · have hk : clk (nmF (tR s v) en i) := Or.inr (h3.nm hi ht (Or.inr (Or.inl c4)))
                simp only [if_pos c4, e91_135, e91_136, e91_137, e91_138, e91_139, e91_142, e91_145, e91_148, e91_150, e91_153, e91_154, e91_157, e91_158, e91_159, cq_1, fg_1_0, fg_1_1, fp_1_1, fg_1_2, fp_1_2, fg_1_3, fg_1_4, fg_1_5, fg_1_6, fg_1_7, fp_1_7_0, fp_1_7_1, cq_78, fg_78_0, fg_78_1, cq_3, fg_3_0, fg_3_1, cq_80, fg_80_0, fg_80_1, fg_80_2, fg_80_3, fg_80_4, fg_80_5, fp_80_5, fg_80_6, fp_80_6, fg_80_7, fp_80_7, fg_80_8, fp_80_8, fg_80_9, fp_80_9, cq_94, fg_94_0, fg_94_1, fp_94_1, fg_94_2, fp_94_2, fg_94_3, fp_94_3, fg_94_4, fg_94_5, fg_94_6, fg_94_7, fg_94_8, fg_94_9, fg_94_10, fg_94_11, fg_94_12, fg_94_13, fg_94_14, fg_94_15, fp_94_15_0, fp_94_15_1, fg_94_16, fp_94_16, fg_94_17, fg_94_18, fg_94_19, fg_94_20, fg_94_21, fg_94_22, fg_94_23, fp_1_6, cq_94, eq_self, ob, tl1, r_about d L s h hi ht (Or.inr c4), r_active d L s hk, bz_eq0, gi_102 L s (show 24 * v + i < 192 by omega)]
                by_cases q : actR s (nmF (tR s v) en i)
                · rw [if_neg (Classical.not_not.mpr q), if_pos q]
                · rw [if_pos q, if_neg q]
              · simp only [if_neg c4]
                have hp2 := pn2 hp c1 c2 c3 c4
                have k1 := r_child d L s (K := 1) hv (show i < 24 by omega) en (by decide) (fun m hm => RF_ch h hi ht (by omega))
                have k1' : rn d 83 0 [some (.ref 94), some (.int (nI v)), some (.int (nI i)), some (.int 1), none, none] [] (hH L s) = some (some (.int (nI (ch (tR s v) en i 1))), hH L s) := k1
                simp only [e91_160, e91_161, e91_164, e91_165, e91_167, e91_168, e91_169, e91_170, e91_171, e91_172, e91_175, e91_176, e91_177, cq_1, fg_1_0, fg_1_1, fp_1_1, fg_1_2, fp_1_2, fg_1_3, fg_1_4, fg_1_5, fg_1_6, fg_1_7, fp_1_7_0, fp_1_7_1, cq_78, fg_78_0, fg_78_1, cq_3, fg_3_0, fg_3_1, cq_80, fg_80_0, fg_80_1, fg_80_2, fg_80_3, fg_80_4, fg_80_5, fp_80_5, fg_80_6, fp_80_6, fg_80_7, fp_80_7, fg_80_8, fp_80_8, fg_80_9, fp_80_9, cq_94, fg_94_0, fg_94_1, fp_94_1, fg_94_2, fp_94_2, fg_94_3, fp_94_3, fg_94_4, fg_94_5, fg_94_6, fg_94_7, fg_94_8, fg_94_9, fg_94_10, fg_94_11, fg_94_12, fg_94_13, fg_94_14, fg_94_15, fp_94_15_0, fp_94_15_1, fg_94_16, fp_94_16, fg_94_17, fg_94_18, fg_94_19, fg_94_20, fg_94_21, fg_94_22, fg_94_23, fp_1_6, cq_94, eq_self, ob, tl1, k1', m24, gi_101 L s (h24 1 (by omega))]
                obtain ⟨j, hj, ej⟩ := clk1 hc
                simp only [e91_179, e91_181, e91_183, e91_186, e91_188, e91_190, e91_191, e91_192, e91_194, e91_196, e91_199, e91_201, e91_203, e91_204, e91_205, e91_207, e91_209, e91_212, e91_214, e91_216, e91_217, e91_218, e91_220, e91_222, e91_225, e91_227, e91_229, e91_232, e91_233, e91_236, e91_237, e91_238, e91_240, e91_242, e91_245, e91_247, e91_249, e91_252, e91_253, e91_256, e91_257, e91_258, e91_260, e91_262, e91_265, e91_267, e91_270, e91_272, e91_275, e91_276, e91_279, e91_280, e91_281, e91_283, e91_285, e91_288, e91_289, e91_292, e91_293, e91_296, e91_297, e91_298, e91_299, e91_300, e91_301, e91_304, e91_306, e91_309, e91_311, e91_312, e91_314, e91_317, e91_319, cq_1, fg_1_0, fg_1_1, fp_1_1, fg_1_2, fp_1_2, fg_1_3, fg_1_4, fg_1_5, fg_1_6, fg_1_7, fp_1_7_0, fp_1_7_1, cq_78, fg_78_0, fg_78_1, cq_3, fg_3_0, fg_3_1, cq_80, fg_80_0, fg_80_1, fg_80_2, fg_80_3, fg_80_4, fg_80_5, fp_80_5, fg_80_6, fp_80_6, fg_80_7, fp_80_7, fg_80_8, fp_80_8, fg_80_9, fp_80_9, cq_94, fg_94_0, fg_94_1, fp_94_1, fg_94_2, fp_94_2, fg_94_3, fp_94_3, fg_94_4, fg_94_5, fg_94_6, fg_94_7, fg_94_8, fg_94_9, fg_94_10, fg_94_11, fg_94_12, fg_94_13, fg_94_14, fg_94_15, fp_94_15_0, fp_94_15_1, fg_94_16, fp_94_16, fg_94_17, fg_94_18, fg_94_19, fg_94_20, fg_94_21, fg_94_22, fg_94_23, fp_1_6, ob, gi_99 L s (show 24 * v + i < 192 by omega), ej, gi_112 L s hj, nI_clamp (show j < 2 ^ 31 by omega)]
                generalize s 101 (24 * v + ch (tR s v) en i 1) = y
                by_cases d1 : tR s v i = 43
                · simp only [if_pos d1]
                · simp only [if_neg d1]
                  by_cases d2 : tR s v i = 45
                  · simp only [if_pos d2]
                  · simp only [if_neg d2]
                    by_cases d3 : tR s v i = 42
                    · simp only [if_pos d3]
                    · simp only [if_neg d3]
                      by_cases d4 : tR s v i = 60
                      · simp only [if_pos d4]
                        by_cases q : x < y <;> simp [q, bz]
                      · simp only [if_neg d4]
                        by_cases d5 : tR s v i = 61
                        · simp only [if_pos d5]
                          by_cases q : x = y <;> simp [q, bz]
                        · simp only [if_neg d5]
                          by_cases d6 : tR s v i = 38
                          · simp only [if_pos d6]
                            by_cases q : x = 0 <;> by_cases q' : y = 0 <;> simp [q, q', bz]
                          · simp only [if_neg d6]
                            by_cases d7 : tR s v i = 70
                            · simp only [if_pos d7]
                              by_cases q : s 112 j = 0
                              · rw [if_pos q, if_pos q]
                              · rw [if_neg q, if_neg q]
                            · simp only [if_neg d7]
                              have c63 := pn3 hp c1 c2 c3 c4 (fun z => by rcases z with z | z | z | z | z | z <;> contradiction) d7
                              by_cases q : x = 0
                              · have hp3 : pcn (tR s v i) = 3 := by rw [c63]; decide
                                have k2 := r_child d L s (K := 2) hv (show i < 24 by omega) en (by decide) (fun m hm => RF_ch h hi ht (by omega))
                                have k2' : rn d 83 0 [some (.ref 94), some (.int (nI v)), some (.int (nI i)), some (.int 2), none, none] [] (hH L s) = some (some (.int (nI (ch (tR s v) en i 2))), hH L s) := k2
                                rw [if_pos q, if_pos q]
                                simp only [e91_322, e91_323, e91_326, e91_327, e91_329, e91_330, e91_331, e91_332, e91_333, e91_334, e91_337, e91_338, e91_339, cq_1, fg_1_0, fg_1_1, fp_1_1, fg_1_2, fp_1_2, fg_1_3, fg_1_4, fg_1_5, fg_1_6, fg_1_7, fp_1_7_0, fp_1_7_1, cq_78, fg_78_0, fg_78_1, cq_3, fg_3_0, fg_3_1, cq_80, fg_80_0, fg_80_1, fg_80_2, fg_80_3, fg_80_4, fg_80_5, fp_80_5, fg_80_6, fp_80_6, fg_80_7, fp_80_7, fg_80_8, fp_80_8, fg_80_9, fp_80_9, cq_94, fg_94_0, fg_94_1, fp_94_1, fg_94_2, fp_94_2, fg_94_3, fp_94_3, fg_94_4, fg_94_5, fg_94_6, fg_94_7, fg_94_8, fg_94_9, fg_94_10, fg_94_11, fg_94_12, fg_94_13, fg_94_14, fg_94_15, fp_94_15_0, fp_94_15_1, fg_94_16, fp_94_16, fg_94_17, fg_94_18, fg_94_19, fg_94_20, fg_94_21, fg_94_22, fg_94_23, fp_1_6, cq_94, eq_self, ob, tl1, k2', m24, gi_101 L s (h24 2 (by omega))]
                              · rw [if_neg q, if_neg q]
                                simp only [e91_319, e91_339]
/-- all TERMS of a variable -/
def wkL (v : Nat) (isT : Nat → Bool) (en : Nat → Nat) : Nat → St → St
  | 0, s => s
  | i + 1, s => wkL v isT en i (if isT i = true then sU s 101 (24 * v + i) (wkV s v en i) else s)
theorem RF_of {s s' : St} {v n : Nat} {isT : Nat → Bool} {en : Nat → Nat} (h : RF s v n isT en) (hs : ∀ a j, a = 96 ∨ a = 97 ∨ a = 98 ∨ a = 103 → s' a j = s a j) : RF s' v n isT en := by
  obtain ⟨h1, h2, h3, h4, h5⟩ := h
  have e : tR s' v = tR s v := funext (fun j => hs 96 _ (by omega))
  refine ⟨h1, by rw [hs 97 _ (by omega)]; exact h2, by rw [e]; exact h3, fun i hi => by rw [hs 103 _ (by omega)]; exact h4 i hi, fun i hi ht => by rw [hs 98 _ (by omega)]; exact h5 i hi ht⟩
theorem RF_U {s : St} {v n a j : Nat} {x : Int32} {isT : Nat → Bool} {en : Nat → Nat} (h : RF s v n isT en) (ha : a ≠ 96 ∧ a ≠ 97 ∧ a ≠ 98 ∧ a ≠ 103) : RF (sU s a j x) v n isT en := RF_of h (fun b k hb => sU_a s j k x (by omega))
theorem bI_t : bI true = 1 := rfl
theorem bI_f : bI false = 0 := rfl
theorem lr_workAll (d L : Nat) {v n : Nat} {isT : Nat → Bool} {en : Nat → Nat} : ∀ (i : Nat) (s : St), RF s v n isT en → (∀ j, j < n → isT j = true → clk (s 99 (24 * v + j))) → i ≤ n → rn (d + 2) 90 9 [some (.ref 94), some (.int (nI v)), some (.int (nI i + (-1)))] [] (hH L s) = some (none, hH L (wkL v isT en i s)) := by
  intro i
  induction i with
  | zero =>
    intro s h hc hn
    have h0 : (nI 0 + (-1) : Int32) < 0 := by decide
    rw [e90_9]
    simp only [e90_10, e90_13, e90_14, e90_17, e90_18, e90_20, e90_21, e90_22, e90_23, e90_24, e90_27, e90_28, e90_31, e90_32, e90_34, e90_35, e90_36, e90_37, e90_38, e90_39, e90_40, e90_43, e90_44, e90_47, e90_50, h0, if_true, wkL]
  | succ i ih =>
    intro s h hc hn
    have hv := h.1
    have h24 := h.2.2.1.2.1
    rw [m1_nI, e90_9]
    simp only [e90_10, e90_13, e90_14, e90_17, e90_18, e90_20, e90_21, e90_22, e90_23, e90_24, e90_27, e90_28, e90_31, e90_32, e90_34, e90_35, e90_36, e90_37, e90_38, e90_39, e90_40, e90_43, e90_44, e90_47, cq_1, fg_1_0, fg_1_1, fp_1_1, fg_1_2, fp_1_2, fg_1_3, fg_1_4, fg_1_5, fg_1_6, fg_1_7, fp_1_7_0, fp_1_7_1, cq_78, fg_78_0, fg_78_1, cq_3, fg_3_0, fg_3_1, cq_80, fg_80_0, fg_80_1, fg_80_2, fg_80_3, fg_80_4, fg_80_5, fp_80_5, fg_80_6, fp_80_6, fg_80_7, fp_80_7, fg_80_8, fp_80_8, fg_80_9, fp_80_9, cq_94, fg_94_0, fg_94_1, fp_94_1, fg_94_2, fp_94_2, fg_94_3, fp_94_3, fg_94_4, fg_94_5, fg_94_6, fg_94_7, fg_94_8, fg_94_9, fg_94_10, fg_94_11, fg_94_12, fg_94_13, fg_94_14, fg_94_15, fp_94_15_0, fp_94_15_1, fg_94_16, fp_94_16, fg_94_17, fg_94_18, fg_94_19, fg_94_20, fg_94_21, fg_94_22, fg_94_23, fp_1_6, cq_94, eq_self, ob, tl1, nI_n0 (show i < 2147483648 by omega), if_false, m24, gi_103 L s (show 24 * v + i < 192 by omega), h.2.2.2.1 i (by omega), wkL]
    cases q : isT i with
    | true =>
      simp only [bI_t, i10, if_false, if_true, r_work d L s h (show i < n by omega) q (hc i (by omega) q), ob, tl1, pi_101 L s (show 24 * v + i < 192 by omega), e90_43, e90_44, e90_47]
      refine ih _ (RF_U h (by decide)) (fun j hj hj2 => ?_) (by omega)
      rw [sU_a _ _ _ _ (by decide)]
      exact hc j hj hj2
    | false =>
      simp only [bI_f, if_true, Bool.false_eq_true, if_false]
      exact ih s h hc (by omega)
theorem r_workAll (d L : Nat) (s : St) {v n : Nat} {isT : Nat → Bool} {en : Nat → Nat} (h : RF s v n isT en) (hc : ∀ j, j < n → isT j = true → clk (s 99 (24 * v + j))) : rn (d + 2) 90 0 [some (.ref 94), some (.int (nI v)), none] [] (hH L s) = some (none, hH L (wkL v isT en n s)) := by
  have h1 : nI n - 1 = nI n + (-1) := Int32.sub_eq_add_neg ..
  simp only [e90_0, e90_1, e90_4, e90_5, e90_6, e90_7, e90_8, cq_1, fg_1_0, fg_1_1, fp_1_1, fg_1_2, fp_1_2, fg_1_3, fg_1_4, fg_1_5, fg_1_6, fg_1_7, fp_1_7_0, fp_1_7_1, cq_78, fg_78_0, fg_78_1, cq_3, fg_3_0, fg_3_1, cq_80, fg_80_0, fg_80_1, fg_80_2, fg_80_3, fg_80_4, fg_80_5, fp_80_5, fg_80_6, fp_80_6, fg_80_7, fp_80_7, fg_80_8, fp_80_8, fg_80_9, fp_80_9, cq_94, fg_94_0, fg_94_1, fp_94_1, fg_94_2, fp_94_2, fg_94_3, fp_94_3, fg_94_4, fg_94_5, fg_94_6, fg_94_7, fg_94_8, fg_94_9, fg_94_10, fg_94_11, fg_94_12, fg_94_13, fg_94_14, fg_94_15, fp_94_15_0, fp_94_15_1, fg_94_16, fp_94_16, fg_94_17, fg_94_18, fg_94_19, fg_94_20, fg_94_21, fg_94_22, fg_94_23, fp_1_6, ob, gi_97 L s h.1, h.2.1, h1]
  exact lr_workAll d L n s h hc (Nat.le_refl n)
theorem r_workAll0 (d L : Nat) (s : St) {v : Nat} (hv : v < 8) (h : s 97 v = 0) : rn (d + 2) 90 0 [some (.ref 94), some (.int (nI v)), none] [] (hH L s) = some (none, hH L s) := by
  have h0 : (0 - 1 : Int32) < 0 := by decide
  simp only [e90_0, e90_1, e90_4, e90_5, e90_6, e90_7, e90_8, e90_9, e90_10, e90_50, cq_1, fg_1_0, fg_1_1, fp_1_1, fg_1_2, fp_1_2, fg_1_3, fg_1_4, fg_1_5, fg_1_6, fg_1_7, fp_1_7_0, fp_1_7_1, cq_78, fg_78_0, fg_78_1, cq_3, fg_3_0, fg_3_1, cq_80, fg_80_0, fg_80_1, fg_80_2, fg_80_3, fg_80_4, fg_80_5, fp_80_5, fg_80_6, fp_80_6, fg_80_7, fp_80_7, fg_80_8, fp_80_8, fg_80_9, fp_80_9, cq_94, fg_94_0, fg_94_1, fp_94_1, fg_94_2, fp_94_2, fg_94_3, fp_94_3, fg_94_4, fg_94_5, fg_94_6, fg_94_7, fg_94_8, fg_94_9, fg_94_10, fg_94_11, fg_94_12, fg_94_13, fg_94_14, fg_94_15, fp_94_15_0, fp_94_15_1, fg_94_16, fp_94_16, fg_94_17, fg_94_18, fg_94_19, fg_94_20, fg_94_21, fg_94_22, fg_94_23, fp_1_6, ob, gi_97 L s hv, h, h0, if_true]
