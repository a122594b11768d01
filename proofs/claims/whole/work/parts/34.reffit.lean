/-! The reference: FIT, check. -/
theorem lr_it3 (d L : Nat) (s : St) (a1 : Option Value) : ∀ (r k : Nat) (w : Int32) (a4 : Option Value), k + r = 8 → ∃ a4', rn d 85 38 [some (.ref 94), a1, some (.int w), some (.int (nI k)), a4] [] (hH L s) = rn d 85 98 [some (.ref 94), a1, some (.int (nr3 s r w)), some (.int (nI 8)), a4'] [] (hH L s) := by
  intro r
  induction r with
  | zero =>
    intro k w a4 hk
    have hk : k = 8 := by omega
    subst hk
    refine ⟨a4, ?_⟩
    rw [e85_38]
    simp only [e85_39, e85_41, nI_lt8 (show 8 < 2147483648 by decide), Nat.lt_irrefl, if_false, nr3]
  | succ r ih =>
    intro k w a4 hk
    have h1 : k < 8 := by omega
    obtain ⟨a4', h⟩ := ih (k + 1) (nr2 s 64 0 w) (some (.int (nI 64))) (by omega)
    refine ⟨a4', ?_⟩
    rw [e85_38]
    simp only [e85_39, e85_41, e85_44, e85_45, nI_lt8 (show k < 2147483648 by omega), h1, if_true]
    refine Eq.trans (lr_it2 d L s a1 (some (.int (nI k))) 64 0 w (by decide)) ?_
    simp only [e85_92, e85_95, nI_1, nr3]
    exact h
abbrev niR (s : St) (v : Nat) : Prop := ¬ (nr3 s 8 (nr1 s v 8 0 0) >>> (nI v &&& 31)) &&& 1 = 0
theorem r_needsItself (d L : Nat) (s : St) {v : Nat} (hv : v < 8) : rn d 85 0 [some (.ref 94), some (.int (nI v)), none, none, none] [] (hH L s) = some (some (.int (bz (niR s v))), hH L s) := by
  obtain ⟨a4', h⟩ := lr_it3 d L s (some (.int (nI v))) 8 0 (nr1 s v 8 0 0) none (by decide)
  simp only [e85_0, e85_1, e85_2, e85_3]
  refine Eq.trans (lr_it1 d L s hv none 8 0 0 (by decide)) ?_
  simp only [e85_36, e85_37]
  refine Eq.trans h ?_
  simp only [e85_98, e85_99, e85_100, e85_101, e85_102, e85_103, e85_106, e85_107, e85_110, e85_111, e85_111q0, e85_111q1]
  by_cases q : (nr3 s 8 (nr1 s v 8 0 0) >>> (nI v &&& 31)) &&& 1 = 0 <;> simp [q, bz]
/-- FIT: a place -/
def fcL (v : Nat) (t : Nat → Int32) (en : Nat → Nat) (i : Nat) (x : Int32) : Nat → Nat → St → St
  | 0, _, s => s
  | r + 1, k, s => fcL v t en i x r (k + 1) (sU (sU s 99 (24 * v + ch t en i k) x) 100 (24 * v + ch t en i k) (s 100 (24 * v + i) + (if t i = 80 then 1 else 0)))
/-- a misfit at i -/
def nf (s : St) (v : Nat) (en : Nat → Nat) (i : Nat) : Prop :=
  (cVar (tR s v i) ∧ ¬ s 105 (tR s v i - 97).toNatClampNeg = s 99 (24 * v + i)) ∨ (cInp (tR s v i) ∧ ¬ s 99 (24 * v + i) = -1) ∨
  (tR s v i = 87 ∧ ¬ s 99 (24 * v + i) = nmF (tR s v) en i) ∨ (tR s v i = 67 ∧ ¬ s 99 (24 * v + i) = s 105 (nmF (tR s v) en i).toNatClampNeg)
/-- the CLOCK inside -/
def inR (s : St) (v : Nat) (en : Nat → Nat) (i : Nat) : Int32 := if tR s v i = 87 then s 105 (nmF (tR s v) en i).toNatClampNeg else if tR s v i = 67 then nmF (tR s v) en i else s 99 (24 * v + i)
def fw (v : Nat) (t : Nat → Int32) (en : Nat → Nat) (i : Nat) (s : St) : St := if t i = 87 then sU s 100 (24 * v + (en i - 1)) (s 100 (24 * v + i)) else if t i = 67 then sU s 100 (24 * v + (i + 1)) (s 100 (24 * v + i)) else s
def fs (v : Nat) (en : Nat → Nat) (i : Nat) (s : St) : St := fw v (tR s v) en i (fcL v (tR s v) en i (inR s v en i) (pcn (tR s v i)) 0 s)
noncomputable def ffR (v : Nat) (isT : Nat → Bool) (en : Nat → Nat) : Nat → Nat → Int32 → St → Int32 × St
  | 0, _, b, s => (b, s)
  | r + 1, i, b, s => if isT i = true then ffR v isT en r (i + 1) (@ite _ (nf s v en i) (Classical.propDecidable _) 0 b) (fs v en i s) else ffR v isT en r (i + 1) b s
/-- only the rows of CLOCKS and insides change -/
def onlyF (s s' : St) : Prop := ∀ a j, a ≠ 99 → a ≠ 100 → s' a j = s a j
theorem onlyF.tr {s s' s'' : St} (h1 : onlyF s s') (h2 : onlyF s' s'') : onlyF s s'' := fun a j h k => (h2 a j h k).trans (h1 a j h k)
theorem onlyF_U9 (s : St) (k : Nat) (x : Int32) : onlyF s (sU s 99 k x) := fun _ j h _ => sU_a s k j x h
theorem onlyF_U0 (s : St) (k : Nat) (x : Int32) : onlyF s (sU s 100 k x) := fun _ j _ h => sU_a s k j x h
theorem onlyF_fcL {v : Nat} {t : Nat → Int32} {en : Nat → Nat} {i : Nat} {x : Int32} : ∀ (r k : Nat) (s : St), onlyF s (fcL v t en i x r k s)
  | 0, _, _ => fun _ _ _ _ => rfl
  | r + 1, k, s => ((onlyF_U9 s _ _).tr (onlyF_U0 _ _ _)).tr (onlyF_fcL r (k + 1) _)
theorem onlyF_fw {v : Nat} {t : Nat → Int32} {en : Nat → Nat} {i : Nat} {s : St} : onlyF s (fw v t en i s) := by
  unfold fw
  split
  · exact onlyF_U0 _ _ _
  · split
    · exact onlyF_U0 _ _ _
    · exact fun _ _ _ _ => rfl
theorem onlyF_fs {v : Nat} {en : Nat → Nat} {i : Nat} {s : St} : onlyF s (fs v en i s) := (onlyF_fcL _ _ _).tr onlyF_fw
theorem onlyF.RF {s s' : St} {v n : Nat} {isT : Nat → Bool} {en : Nat → Nat} (h : onlyF s s') (hF : RF s v n isT en) : RF s' v n isT en := RF_of hF (fun a j ha => h a j (by omega) (by omega))
theorem onlyF.tR {s s' : St} (h : onlyF s s') (v : Nat) : tR s' v = tR s v := funext (fun _ => h 96 _ (by decide) (by decide))
theorem l81_in (d L : Nat) {v n i : Nat} {isT : Nat → Bool} {en : Nat → Nat} (hi : i < n) (ht : isT i = true) (x : Int32) (a2 : Option Value) : ∀ (r k : Nat) (s : St) (a10 : Option Value), RF s v n isT en → k + r = pcn (tR s v i) → ∃ a10', rn (d + 1) 81 255 [some (.ref 94), some (.int (nI v)), a2, some (.int (nI i)), some (.int (nI (24 * v + i))), some (.int (tR s v i)), some (.int (s 99 (24 * v + i))), some (.int (nI (pcn (tR s v i)))), some (.int x), some (.int (nI k)), a10] [] (hH L s) = rn (d + 1) 81 319 [some (.ref 94), some (.int (nI v)), a2, some (.int (nI i)), some (.int (nI (24 * v + i))), some (.int (tR s v i)), some (.int (s 99 (24 * v + i))), some (.int (nI (pcn (tR s v i)))), some (.int x), some (.int (nI (pcn (tR s v i)))), a10'] [] (hH L (fcL v (tR s v) en i x r k s)) := by
  intro r
  induction r with
  | zero =>
    intro k s a10 h hk
    have h3 := (pcN_pcn (tR s v i)).2
    have hk : k = pcn (tR s v i) := by omega
    subst hk
    refine ⟨a10, ?_⟩
    rw [e81_255]
    simp only [e81_257, e81_259, nI_ltP (show pcn (tR s v i) < 2147483648 by omega) (show pcn (tR s v i) < 2147483648 by omega), Nat.lt_irrefl, if_false, fcL]
  | succ r ih =>
    intro k s a10 h hk
    have hv := h.1
    have h24 := h.2.2.1.2.1
    have h3 := (pcN_pcn (tR s v i)).2
    have hc := RF_ch h hi ht (m := k) (by omega)
    have kk := r_child d L s hv (show i < 24 by omega) en (show k ≤ 3 by omega) (fun m hm => RF_ch h hi ht (by omega))
    have ho : onlyF s (sU (sU s 99 (24 * v + ch (tR s v) en i k) x) 100 (24 * v + ch (tR s v) en i k) (s 100 (24 * v + i) + (if tR s v i = 80 then 1 else 0))) := (onlyF_U9 s _ _).tr (onlyF_U0 _ _ _)
    obtain ⟨a10', e1⟩ := ih (k + 1) _ (some (.int (nI (24 * v + ch (tR s v) en i k)))) (ho.RF h) (by rw [ho.tR]; omega)
    have hne : 24 * v + i ≠ 24 * v + ch (tR s v) en i k := by
      have hge : ∀ m, m ≤ k → i < ch (tR s v) en i m := by
        intro m
        induction m with
        | zero =>
          intro _
          show i < c0 (tR s v) i
          unfold c0
          split <;> omega
        | succ m ihm =>
          intro hm1
          have b1 := ihm (by omega)
          have b2 := (h.2.2.1.2.2.2.2.2 i hi ht).1 m (by omega)
          have b3 := (h.2.2.1.2.2.2.2.2 _ b2.1 b2.2).2.1
          show i < en (ch (tR s v) en i m)
          omega
      have := hge k (Nat.le_refl k)
      omega
    have e99 : sU (sU s 99 (24 * v + ch (tR s v) en i k) x) 100 (24 * v + ch (tR s v) en i k) (s 100 (24 * v + i) + (if tR s v i = 80 then 1 else 0)) 99 (24 * v + i) = s 99 (24 * v + i) := by
      rw [sU_a _ _ _ _ (by decide), sU_j _ _ _ _ hne]
    rw [ho.tR, e99] at e1
    refine ⟨a10', ?_⟩
    rw [e81_255]
    simp only [e81_257, e81_259, e81_262, e81_263, e81_265, e81_266, e81_267, e81_268, e81_269, e81_271, e81_274, e81_275, e81_277, e81_278, e81_281, e81_283, e81_285, e81_286, e81_287, e81_290, e81_292, e81_293, e81_296, e81_298, cq_1, fg_1_0, fg_1_1, fp_1_1, fg_1_2, fp_1_2, fg_1_3, fg_1_4, fg_1_5, fg_1_6, fg_1_7, fp_1_7_0, fp_1_7_1, cq_78, fg_78_0, fg_78_1, cq_3, fg_3_0, fg_3_1, cq_80, fg_80_0, fg_80_1, fg_80_2, fg_80_3, fg_80_4, fg_80_5, fp_80_5, fg_80_6, fp_80_6, fg_80_7, fp_80_7, fg_80_8, fp_80_8, fg_80_9, fp_80_9, cq_94, fg_94_0, fg_94_1, fp_94_1, fg_94_2, fp_94_2, fg_94_3, fp_94_3, fg_94_4, fg_94_5, fg_94_6, fg_94_7, fg_94_8, fg_94_9, fg_94_10, fg_94_11, fg_94_12, fg_94_13, fg_94_14, fg_94_15, fp_94_15_0, fp_94_15_1, fg_94_16, fp_94_16, fg_94_17, fg_94_18, fg_94_19, fg_94_20, fg_94_21, fg_94_22, fg_94_23, fp_1_6, cq_94, eq_self, ob, tl1, nI_ltP (show k < 2147483648 by omega) (show pcn (tR s v i) < 2147483648 by omega), show k < pcn (tR s v i) by omega, if_true, kk, m24, pi_99 L s (show 24 * v + ch (tR s v) en i k < 192 by omega), gi_100 L _ (show 24 * v + i < 192 by omega), sU_a s _ _ _ (show 100 ≠ 99 by decide)]
    simp only [e81_299, e81_301, e81_303, e81_306, e81_307, e81_310, e81_311, e81_312, e81_313, e81_316, cq_1, fg_1_0, fg_1_1, fp_1_1, fg_1_2, fp_1_2, fg_1_3, fg_1_4, fg_1_5, fg_1_6, fg_1_7, fp_1_7_0, fp_1_7_1, cq_78, fg_78_0, fg_78_1, cq_3, fg_3_0, fg_3_1, cq_80, fg_80_0, fg_80_1, fg_80_2, fg_80_3, fg_80_4, fg_80_5, fp_80_5, fg_80_6, fp_80_6, fg_80_7, fp_80_7, fg_80_8, fp_80_8, fg_80_9, fp_80_9, cq_94, fg_94_0, fg_94_1, fp_94_1, fg_94_2, fp_94_2, fg_94_3, fp_94_3, fg_94_4, fg_94_5, fg_94_6, fg_94_7, fg_94_8, fg_94_9, fg_94_10, fg_94_11, fg_94_12, fg_94_13, fg_94_14, fg_94_15, fp_94_15_0, fp_94_15_1, fg_94_16, fp_94_16, fg_94_17, fg_94_18, fg_94_19, fg_94_20, fg_94_21, fg_94_22, fg_94_23, fp_1_6, ob, pi_100 L _ (show 24 * v + ch (tR s v) en i k < 192 by omega), nI_1, fcL]
    by_cases q : tR s v i = 80
    · rw [if_pos q]
      rw [if_pos q] at e1 ⊢
      exact e1
    · rw [if_neg q]
      rw [if_neg q] at e1 ⊢
      exact e1
