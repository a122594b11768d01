/-! The order of the variables: the class. -/
def cntB (p : Nat → Bool) : Nat → Nat
  | 0 => 0
  | n + 1 => cntB p n + (if p n = true then 1 else 0)
theorem cntB_le (p : Nat → Bool) : ∀ n, cntB p n ≤ n
  | 0 => Nat.le_refl 0
  | n + 1 => by
    have := cntB_le p n
    unfold cntB
    split <;> omega
theorem cntB_congr {p q : Nat → Bool} : ∀ n, (∀ k, k < n → p k = q k) → cntB p n = cntB q n
  | 0, _ => rfl
  | n + 1, h => by
    unfold cntB
    rw [cntB_congr n (fun k hk => h k (by omega)), h n (by omega)]
theorem cntB_one {p q : Nat → Bool} {v : Nat} (hp : p v = false) (hq : q v = true) : ∀ n, (∀ k, k < n → k ≠ v → p k = q k) → v < n → cntB q n = cntB p n + 1
  | 0, _, h => absurd h (by omega)
  | n + 1, h, hv => by
    unfold cntB
    by_cases hn : n = v
    · subst hn
      rw [hp, hq, cntB_congr n (fun k hk => h k (by omega) (by omega))]
      simp
    · rw [cntB_one hp hq n (fun k hk => h k (by omega)) (by omega), h n (by omega) hn]
      omega
/-- a variable's rank: how many it NEEDS; 99 without an equation -/
def rk (s : St) (u : Nat) : Nat := if 0 < s (eqA s u) 1 then (bcV (s 79 u)).toNatClampNeg else 99
/-- how many come before (c, v) -/
def gB (f : Nat → Nat) (c v : Nat) : Nat := cntB (fun k => decide (f k < c) || (decide (f k = c) && decide (k < v))) 8
theorem gB_step {f : Nat → Nat} {c v : Nat} (hv : v < 8) : gB f c (v + 1) = gB f c v + (if f v = c then 1 else 0) := by
  unfold gB
  by_cases h : f v = c
  · rw [if_pos h]
    refine cntB_one (v := v) ?_ ?_ 8 (fun k _ hk => ?_) hv
    · simp [h]
    · simp [h]
    · congr 2
      exact decide_eq_decide.mpr (by omega)
  · rw [if_neg h, Nat.add_zero]
    refine cntB_congr 8 (fun k _ => ?_)
    by_cases hk : k = v
    · subst hk
      simp [h]
    · congr 2
      exact decide_eq_decide.mpr (by omega)
theorem gB_next (f : Nat → Nat) (c : Nat) : gB f (c + 1) 0 = gB f c 8 := by
  unfold gB
  refine cntB_congr 8 (fun k hk => ?_)
  rw [Bool.eq_iff_iff]
  simp
  omega
theorem gB_0 (f : Nat → Nat) : gB f 0 0 = 0 := by
  unfold gB
  rw [cntB_congr (q := fun _ => false) 8 (fun k hk => by simp)]
  rfl
theorem gB_lt {f : Nat → Nat} {c v : Nat} (hv : v < 8) (h : f v = c) : gB f c v < 8 := by
  have h1 := gB_step (f := f) (c := c) hv
  rw [if_pos h] at h1
  have h2 : gB f c (v + 1) ≤ 8 := cntB_le _ 8
  omega
theorem bcV_n (x : Int32) : ∃ k, k < 64 ∧ bcV x = nI k := by
  obtain ⟨j, hj, e⟩ := pk_andE ((bcV x)) (m := 63) 6 (by decide)
  refine ⟨j, hj, ?_⟩
  rw [← e]
  unfold bcV
  dsimp only
  rw [Int32.and_assoc]
  rfl
def ordI (f : Nat → Nat) (s : St) (c v : Nat) : Prop := s 80 5 = nI (gB f c v) ∧ (∀ i, i < gB f c v → ∃ u, u < 8 ∧ s 84 i = nI u ∧ f u < 8 ∧ i = gB f (f u) u) ∧ (∀ u, u < 8 → (f u < c ∨ (f u = c ∧ u < v)) → s 84 (gB f (f u) u) = nI u)
theorem gB_mono {f : Nat → Nat} {c v c' v' : Nat} (h : c < c' ∨ (c = c' ∧ v ≤ v')) : gB f c v ≤ gB f c' v' := by
  have key : ∀ (p q : Nat → Bool), (∀ k, p k = true → q k = true) → ∀ n, cntB p n ≤ cntB q n := by
    intro p q hpq n
    induction n with
    | zero => exact Nat.le_refl 0
    | succ n ih =>
      unfold cntB
      by_cases hp : p n = true
      · rw [if_pos hp, if_pos (hpq n hp)]; omega
      · rw [if_neg hp]; omega
  refine key _ _ (fun k hk => ?_) 8
  simp at hk ⊢
  omega
/-- only the order changes -/
def onlyO (s s' : St) : Prop := ∀ a j, a ≠ 84 → ¬ (a = 80 ∧ j = 5) → s' a j = s a j
theorem onlyO.tr {s s' s'' : St} (h1 : onlyO s s') (h2 : onlyO s' s'') : onlyO s s'' := fun a j h k => (h2 a j h k).trans (h1 a j h k)
theorem onlyO_rk {s s' : St} (h : onlyO s s') (hs : okE s) {u : Nat} (hu : u < 8) : rk s' u = rk s u := by
  have e1 : eqA s' u = eqA s u := by
    show (s' 4 u).toNatClampNeg = (s 4 u).toNatClampNeg
    rw [h 4 u (by decide) (by omega)]
  have he := isE_rng (hs u hu) (show 0 < 9 by decide) (Nat.add_zero _).symm
  unfold rk
  rw [e1, h _ 1 (by omega) (by omega), h 79 u (by decide) (by omega)]
theorem onlyO.okE {s s' : St} (h : onlyO s s') (hs : okE s) : okE s' := fun k hk => by
  show isE (s' 4 k).toNatClampNeg
  rw [h 4 k (by decide) (by omega)]
  exact hs k hk
theorem stepLt {f : Nat → Nat} {c u v : Nat} (hfc : ¬ f v = c) (h : f u < c ∨ (f u = c ∧ u < v + 1)) : f u < c ∨ (f u = c ∧ u < v) := by
  rcases h with h | ⟨h, h2⟩
  · exact Or.inl h
  · refine Or.inr ⟨h, ?_⟩
    rcases Nat.lt_or_ge u v with z | z
    · exact z
    · have : u = v := by omega
      subst this
      exact absurd h hfc
theorem l_arrange3 (d L : Nat) (f : Nat → Nat) {c : Nat} (hc : c < 8) : ∀ (r v : Nat) (s : St), okE s → (∀ u, u < 8 → rk s u = f u) → v + r = 8 → ordI f s c v → rn (d + 2) 44 15 [some (.ref 80), some (.ref 79), some (.int (nI c)), some (.int (nI v))] [] (hH L s) = rn (d + 2) 44 68 [some (.ref 80), some (.ref 79), some (.int (nI c)), some (.int (nI 8))] [] (hH L (ar3 c r v s)) ∧ onlyO s (ar3 c r v s) ∧ ordI f (ar3 c r v s) c 8 := by
  intro r
  induction r with
  | zero =>
    intro v s hs hf hv hi
    have hv : v = 8 := by omega
    subst hv
    refine ⟨?_, fun _ _ _ _ => rfl, hi⟩
    rw [e44_15]
    simp only [e44_16, e44_18, nI_lt8 (show 8 < 2147483648 by decide), Nat.lt_irrefl, if_false, ar3]
  | succ r ih =>
    intro v s hs hf hv hi
    have h1 : v < 8 := by omega
    obtain ⟨b, hb, eb⟩ := bcV_n (s 79 v)
    rw [e44_15]
    simp only [e44_16, e44_18, e44_21, e44_22, e44_25, e44_26, e44_29, e44_32, e44_33, e44_34, e44_35, e44_38, e44_39, e44_42, e44_43, e44_46, e44_47, e44_50, e44_51, e44_52, e44_53, e44_54, e44_57, e44_58, e44_59, e44_62, e44_65, cq_1, fg_1_0, fg_1_1, fp_1_1, fg_1_2, fp_1_2, fg_1_3, fg_1_4, fg_1_5, fg_1_6, fg_1_7, fp_1_7_0, fp_1_7_1, cq_78, fg_78_0, fg_78_1, cq_3, fg_3_0, fg_3_1, cq_80, fg_80_0, fg_80_1, fg_80_2, fg_80_3, fg_80_4, fg_80_5, fp_80_5, fg_80_6, fp_80_6, fg_80_7, fp_80_7, fg_80_8, fp_80_8, fg_80_9, fp_80_9, cq_94, fg_94_0, fg_94_1, fp_94_1, fg_94_2, fp_94_2, fg_94_3, fp_94_3, fg_94_4, fg_94_5, fg_94_6, fg_94_7, fg_94_8, fg_94_9, fg_94_10, fg_94_11, fg_94_12, fg_94_13, fg_94_14, fg_94_15, fp_94_15_0, fp_94_15_1, fg_94_16, fp_94_16, fg_94_17, fg_94_18, fg_94_19, fg_94_20, fg_94_21, fg_94_22, fg_94_23, fp_1_6, cq_3, eq_self, nI_lt8 (show v < 2147483648 by omega), h1, if_true, ob, tl1, m_defines (d := d) L s hs h1, bz_eq0, gi_79 L s h1, m_bitCount, nI_1, ar3]
    by_cases q : 0 < s (eqA s v) 1
    · have hfv : f v = b := by
        rw [← hf v h1]
        unfold rk
        rw [if_pos q, eb, nI_clamp (by omega)]
      by_cases q2 : bcV (s 79 v) = nI c
      · have hbc : b = c := by
          rw [eb] at q2
          exact (nI_eq (by omega) (by omega)).mp q2
        have hfc : f v = c := hfv.trans hbc
        have hg := gB_lt h1 hfc
        have hg1 := gB_step (f := f) (c := c) h1
        rw [if_pos hfc] at hg1
        have eg : (nI (gB f c v)).toNatClampNeg = gB f c v := nI_clamp (by omega)
        rw [if_neg (Classical.not_not.mpr q), if_pos q2, if_pos ⟨q, q2⟩]
        have ho : onlyO s (sU (sU s 84 (gB f c v) (nI v)) 80 5 (nI (gB f c v) + 1)) := by
          intro a j ha hj
          unfold sU
          rw [if_neg hj, if_neg (fun z => ha z.1)]
        simp only [e44_42, e44_43, e44_46, e44_47, e44_50, e44_51, e44_52, e44_53, e44_54, e44_57, e44_58, e44_59, e44_62, e44_65, cq_1, fg_1_0, fg_1_1, fp_1_1, fg_1_2, fp_1_2, fg_1_3, fg_1_4, fg_1_5, fg_1_6, fg_1_7, fp_1_7_0, fp_1_7_1, cq_78, fg_78_0, fg_78_1, cq_3, fg_3_0, fg_3_1, cq_80, fg_80_0, fg_80_1, fg_80_2, fg_80_3, fg_80_4, fg_80_5, fp_80_5, fg_80_6, fp_80_6, fg_80_7, fp_80_7, fg_80_8, fp_80_8, fg_80_9, fp_80_9, cq_94, fg_94_0, fg_94_1, fp_94_1, fg_94_2, fp_94_2, fg_94_3, fp_94_3, fg_94_4, fg_94_5, fg_94_6, fg_94_7, fg_94_8, fg_94_9, fg_94_10, fg_94_11, fg_94_12, fg_94_13, fg_94_14, fg_94_15, fp_94_15_0, fp_94_15_1, fg_94_16, fp_94_16, fg_94_17, fg_94_18, fg_94_19, fg_94_20, fg_94_21, fg_94_22, fg_94_23, fp_1_6, ob, hi.1, pi_84 L s hg, sU_a s _ 5 _ (show 80 ≠ 84 by decide), eg, nI_1]
        have hrec := ih (v + 1) (sU (sU s 84 (gB f c v) (nI v)) 80 5 (nI (gB f c v) + 1)) (ho.okE hs) (fun u hu => (onlyO_rk ho hs hu).trans (hf u hu)) (by omega) ?_
        · rw [nI_1] at hrec
          obtain ⟨c1, c2, c3⟩ := hrec
          rw [nI_1] at ho
          exact ⟨c1, ho.tr c2, c3⟩
        · refine ⟨?_, fun i hi2 => ?_, fun u hu hlt => ?_⟩
          · rw [sU_same, nI_1, hg1]
          · rw [hg1] at hi2
            by_cases hii : i = gB f c v
            · subst hii
              refine ⟨v, h1, ?_, by omega, by rw [hfc]⟩
              rw [sU_a _ _ _ _ (show 84 ≠ 80 by decide), sU_same]
            · obtain ⟨u, a1, a2, a3, a4⟩ := hi.2.1 i (by omega)
              refine ⟨u, a1, ?_, a3, a4⟩
              rw [sU_a _ _ _ _ (show 84 ≠ 80 by decide), sU_j s 84 84 _ hii]
              exact a2
          · rw [sU_a _ _ _ _ (show 84 ≠ 80 by decide)]
            by_cases huv : u = v
            · subst huv
              rw [hfc, sU_same]
            · have hne : gB f (f u) u ≠ gB f c v := by
                have e1 := gB_step (f := f) (c := f u) hu
                rw [if_pos rfl] at e1
                have e2 : gB f (f u) (u + 1) ≤ gB f c v := gB_mono (by omega)
                omega
              rw [sU_j s 84 84 _ hne]
              exact hi.2.2 u hu (by omega)
      · rw [if_neg (Classical.not_not.mpr q), if_neg q2, if_neg (fun z => q2 z.2)]
        have hfc : ¬ f v = c := fun z => q2 (by rw [eb, ← hfv, z])
        have hg1 := gB_step (f := f) (c := c) h1
        rw [if_neg hfc, Nat.add_zero] at hg1
        exact ih (v + 1) s hs hf (by omega) ⟨by rw [hg1]; exact hi.1, by rw [hg1]; exact hi.2.1, fun u hu hlt => hi.2.2 u hu (stepLt hfc hlt)⟩
    · rw [if_pos q, if_neg (fun z => q z.1)]
      have hfv : f v = 99 := by
        rw [← hf v h1]
        unfold rk
        rw [if_neg q]
      have hfc : ¬ f v = c := by omega
      have hg1 := gB_step (f := f) (c := c) h1
      rw [if_neg hfc, Nat.add_zero] at hg1
      exact ih (v + 1) s hs hf (by omega) ⟨by rw [hg1]; exact hi.1, by rw [hg1]; exact hi.2.1, fun u hu hlt => hi.2.2 u hu (stepLt hfc hlt)⟩
theorem l_arrange2 (d L : Nat) (f : Nat → Nat) : ∀ (r c : Nat) (s : St) (a3 : Option Value), okE s → (∀ u, u < 8 → rk s u = f u) → c + r = 8 → ordI f s c 0 → rn (d + 2) 44 7 [some (.ref 80), some (.ref 79), some (.int (nI c)), a3] [] (hH L s) = some (none, hH L (ar2L r c s)) ∧ onlyO s (ar2L r c s) ∧ ordI f (ar2L r c s) 8 0 := by
  intro r
  induction r with
  | zero =>
    intro c s a3 hs hf hc hi
    have hc : c = 8 := by omega
    subst hc
    refine ⟨?_, fun _ _ _ _ => rfl, hi⟩
    rw [e44_7]
    simp only [e44_8, e44_10, e44_74, nI_lt8 (show 8 < 2147483648 by decide), Nat.lt_irrefl, if_false, ar2L]
  | succ r ih =>
    intro c s a3 hs hf hc hi
    have h1 : c < 8 := by omega
    obtain ⟨b1, b2, b3⟩ := l_arrange3 d L f h1 8 0 s hs hf (by decide) hi
    have b1' : rn (d + 2) 44 15 [some (.ref 80), some (.ref 79), some (.int (nI c)), some (.int 0)] [] (hH L s) = rn (d + 2) 44 68 [some (.ref 80), some (.ref 79), some (.int (nI c)), some (.int (nI 8))] [] (hH L (ar3 c 8 0 s)) := b1
    rw [e44_7]
    simp only [e44_8, e44_10, e44_13, e44_14, nI_lt8 (show c < 2147483648 by omega), h1, if_true]
    rw [b1']
    simp only [e44_68, e44_71, nI_1, ar2L]
    have b4 : ordI f (ar3 c 8 0 s) (c + 1) 0 := by
      refine ⟨by rw [gB_next]; exact b3.1, by rw [gB_next]; exact b3.2.1, fun u hu hlt => b3.2.2 u hu (by omega)⟩
    obtain ⟨c1, c2, c3⟩ := ih (c + 1) _ (some (.int (nI 8))) (b2.okE hs) (fun u hu => (onlyO_rk b2 hs hu).trans (hf u hu)) (by omega) b4
    exact ⟨c1, b2.tr c2, c3⟩
theorem m_arrange (d L : Nat) (s : St) (hs : okE s) : rn (d + 2) 44 0 [some (.ref 80), some (.ref 79), none, none] [] (hH L s) = some (none, hH L (ar s)) ∧ onlyO s (ar s) ∧ ordI (rk s) (ar s) 8 0 := by
  have ho : onlyO s (sU s 80 5 0) := fun a j ha hj => by
    unfold sU
    rw [if_neg hj]
  have hi : ordI (rk s) (sU s 80 5 0) 0 0 := by
    refine ⟨by rw [sU_same, gB_0]; rfl, fun i hi => by rw [gB_0] at hi; omega, fun u hu h => by omega⟩
  obtain ⟨c1, c2, c3⟩ := l_arrange2 d L (rk s) 8 0 _ none (ho.okE hs) (fun u hu => onlyO_rk ho hs hu) (by decide) hi
  refine ⟨?_, ho.tr c2, c3⟩
  simp only [e44_0, e44_1, e44_2, e44_5, e44_6, cq_1, fg_1_0, fg_1_1, fp_1_1, fg_1_2, fp_1_2, fg_1_3, fg_1_4, fg_1_5, fg_1_6, fg_1_7, fp_1_7_0, fp_1_7_1, cq_78, fg_78_0, fg_78_1, cq_3, fg_3_0, fg_3_1, cq_80, fg_80_0, fg_80_1, fg_80_2, fg_80_3, fg_80_4, fg_80_5, fp_80_5, fg_80_6, fp_80_6, fg_80_7, fp_80_7, fg_80_8, fp_80_8, fg_80_9, fp_80_9, cq_94, fg_94_0, fg_94_1, fp_94_1, fg_94_2, fp_94_2, fg_94_3, fp_94_3, fg_94_4, fg_94_5, fg_94_6, fg_94_7, fg_94_8, fg_94_9, fg_94_10, fg_94_11, fg_94_12, fg_94_13, fg_94_14, fg_94_15, fp_94_15_0, fp_94_15_1, fg_94_16, fp_94_16, fg_94_17, fg_94_18, fg_94_19, fg_94_20, fg_94_21, fg_94_22, fg_94_23, fp_1_6, ob]
  exact c1
/-- check -/
noncomputable def ckV (s : St) : Int32 × St :=
  if (ffV (sRst s)).1 = 0 then (cntE (ar (sU (ffV (sRst s)).2 1 7 1)) 8 0, ar (sU (ffV (sRst s)).2 1 7 1)) else ((ffV (sRst s)).1, sU (ffV (sRst s)).2 1 7 0)
theorem eqA_U {s : St} {a j k : Nat} {x : Int32} (h : 4 ≠ a) : eqA (sU s a j x) k = eqA s k := by
  show (sU s a j x 4 k).toNatClampNeg = _
  rw [sU_a s j k x h]
  rfl
/-- what a check leaves as it was -/
theorem sMem_off {b j : Nat} : ∀ (r k : Nat) (s : St), okE s → k + r = 8 → (¬ ∃ e, isE e ∧ b = e + 8) → sMem s r k b j = s b j
  | 0, _, _, _, _, _ => rfl
  | r + 1, k, s, hs, hk, hb => by
    have he := hs k (by omega)
    rw [sMem, sMem_off r (k + 1) _ (okE_sF (by omega) hs) (by omega) hb, sF_off (fun z => hb ⟨_, he, z⟩)]
theorem sRst_off {s : St} (hs : okE s) {b j : Nat} (hb : ¬ ∃ e, isE e ∧ b = e + 8) (h1 : b ≠ 82) (h2 : b ≠ 83) (h3 : ¬ (b = 80 ∧ (j = 6 ∨ j = 7 ∨ j = 8 ∨ j = 9))) : sRst s b j = s b j := by
  unfold sRst
  have q : ∀ (s : St) (i : Nat) (x : Int32), i = 6 ∨ i = 7 ∨ i = 8 ∨ i = 9 → sU s 80 i x b j = s b j := by
    intro s i x hi
    unfold sU
    rw [if_neg]
    rintro ⟨z1, z2⟩
    exact h3 ⟨z1, by omega⟩
  rw [q _ 9 0 (by omega), q _ 8 0 (by omega), q _ 7 0 (by omega), q _ 6 0 (by omega), sMem_off 8 0 _ (okE_sF (by decide) (okE_sF (by decide) hs)) (by decide) hb, sF_off h2, sF_off h1]
theorem sRst_E {s : St} (hs : okE s) {e i j : Nat} (he : isE e) (hi : i < 8) : sRst s (e + i) j = s (e + i) j := by
  have hr := isE_rng he (show i < 9 by omega) rfl
  exact sRst_off hs (fun ⟨e', he', z⟩ => by have := isE_ne he he' (by omega) (by decide) z; omega) (by omega) (by omega) (by omega)
theorem sRst_4 {s : St} (hs : okE s) (k : Nat) : sRst s 4 k = s 4 k := sRst_off hs (fun ⟨e', he', z⟩ => by have := isE_ge he'; omega) (by decide) (by decide) (by omega)
theorem sRst_5 {s : St} (hs : okE s) (k : Nat) : sRst s 5 k = s 5 k := sRst_off hs (fun ⟨e', he', z⟩ => by have := isE_ge he'; omega) (by decide) (by decide) (by omega)
theorem sRst_FKs {s : St} (hF : FKs s) : FKs (sRst s) := by
  intro k hk
  obtain ⟨n, h1, h2, h3, h4⟩ := hF k hk
  have e1 : eqA (sRst s) k = eqA s k := by
    show (sRst s 4 k).toNatClampNeg = _
    rw [sRst_4 hF.ok]
    rfl
  have g := sRst_E hF.ok (j := 1) h3 (show 0 < 8 by decide)
  rw [Nat.add_zero] at g
  refine ⟨n, fun hn => ?_, h2, by rw [e1]; exact h3, by rw [e1, g]; exact h4⟩
  rw [e1]
  exact FK_off (h1 hn) (fun i j hi => sRst_E hF.ok h3 (by omega))
theorem ffV_off {s : St} (hF : FKs s) {b j : Nat} (hb : ¬ ∃ e, isE e ∧ b = e + 6) (h79 : b ≠ 79) : (ffV s).2 b j = s b j := by
  have u2 := (m_leastUnfit 0 0 s hF).2 b j hb
  have g2 := (m_gatherNeeds 0 0 _ ((m_leastUnfit 0 0 s hF).2.FKs hF).lnE).2 b j h79
  unfold ffV
  repeat' split
  · rfl
  · rfl
  · exact u2
  · exact g2.trans u2
  · exact g2.trans u2
theorem m_check (d L : Nat) (s : St) (hF : FKs s) (hc : ckOK s) : rn (d + 5) 28 0 [some (.ref 1), none] [] (hH L s) = some (some (.int (ckV s).1), hH L (ckV s).2) := by
  have hF2 := sRst_FKs hF
  have hc2 : ckOK (sRst s) := fun k hk => by rw [sRst_5 hF.ok]; exact hc k hk
  have h4 : ∀ k, (ffV (sRst s)).2 4 k = s 4 k := fun k => (ffV_off hF2 (fun ⟨e', he', z⟩ => by have := isE_ge he'; omega) (by decide)).trans (sRst_4 hF.ok k)
  have ho : ∀ x, okE (sU (ffV (sRst s)).2 1 7 x) := fun x k hk => by
    show isE (sU (ffV (sRst s)).2 1 7 x 4 k).toNatClampNeg
    rw [sU_a _ _ _ _ (by decide), h4]
    exact hF.ok k hk
  have ha := m_arrange (d + 2) L _ (ho 1)
  have hd := m_definedCount (d + 2) L _ (ha.2.1.okE (ho 1))
  simp only [e28_0, e28_1, e28_4, e28_7, e28_8, e28_11, e28_14, e28_15, e28_16, e28_17, e28_20, e28_21, e28_24, e28_25, e28_28, e28_29, e28_32, e28_35, e28_36, e28_37, e28_38, e28_41, e28_42, e28_45, e28_48, e28_51, e28_52, e28_55, e28_58, cq_1, fg_1_0, fg_1_1, fp_1_1, fg_1_2, fp_1_2, fg_1_3, fg_1_4, fg_1_5, fg_1_6, fg_1_7, fp_1_7_0, fp_1_7_1, cq_78, fg_78_0, fg_78_1, cq_3, fg_3_0, fg_3_1, cq_80, fg_80_0, fg_80_1, fg_80_2, fg_80_3, fg_80_4, fg_80_5, fp_80_5, fg_80_6, fp_80_6, fg_80_7, fp_80_7, fg_80_8, fp_80_8, fg_80_9, fp_80_9, cq_94, fg_94_0, fg_94_1, fp_94_1, fg_94_2, fp_94_2, fg_94_3, fp_94_3, fg_94_4, fg_94_5, fg_94_6, fg_94_7, fg_94_8, fg_94_9, fg_94_10, fg_94_11, fg_94_12, fg_94_13, fg_94_14, fg_94_15, fp_94_15_0, fp_94_15_1, fg_94_16, fp_94_16, fg_94_17, fg_94_18, fg_94_19, fg_94_20, fg_94_21, fg_94_22, fg_94_23, fp_1_6, cq_80, cq_78, cq_3, eq_self, ob, tl1, tl0, m_restart (d + 3) L s hF.ok, m_firstFault d L _ hF2 hc2, ckV]
  by_cases q : (ffV (sRst s)).1 = 0
  · simp only [q, if_true]
    simp only [e28_0, e28_1, e28_4, e28_7, e28_8, e28_11, e28_14, e28_15, e28_16, e28_17, e28_20, e28_21, e28_24, e28_25, e28_28, e28_29, e28_32, e28_35, e28_36, e28_37, e28_38, e28_41, e28_42, e28_45, e28_48, e28_51, e28_52, e28_55, e28_58, cq_1, fg_1_0, fg_1_1, fp_1_1, fg_1_2, fp_1_2, fg_1_3, fg_1_4, fg_1_5, fg_1_6, fg_1_7, fp_1_7_0, fp_1_7_1, cq_78, fg_78_0, fg_78_1, cq_3, fg_3_0, fg_3_1, cq_80, fg_80_0, fg_80_1, fg_80_2, fg_80_3, fg_80_4, fg_80_5, fp_80_5, fg_80_6, fp_80_6, fg_80_7, fp_80_7, fg_80_8, fp_80_8, fg_80_9, fp_80_9, cq_94, fg_94_0, fg_94_1, fp_94_1, fg_94_2, fp_94_2, fg_94_3, fp_94_3, fg_94_4, fg_94_5, fg_94_6, fg_94_7, fg_94_8, fg_94_9, fg_94_10, fg_94_11, fg_94_12, fg_94_13, fg_94_14, fg_94_15, fp_94_15_0, fp_94_15_1, fg_94_16, fp_94_16, fg_94_17, fg_94_18, fg_94_19, fg_94_20, fg_94_21, fg_94_22, fg_94_23, fp_1_6, cq_80, cq_78, cq_3, eq_self, ob, tl1, tl0, sU_same, i10, if_false, ha.1, hd]
  · simp only [q, if_false]
    simp only [e28_0, e28_1, e28_4, e28_7, e28_8, e28_11, e28_14, e28_15, e28_16, e28_17, e28_20, e28_21, e28_24, e28_25, e28_28, e28_29, e28_32, e28_35, e28_36, e28_37, e28_38, e28_41, e28_42, e28_45, e28_48, e28_51, e28_52, e28_55, e28_58, cq_1, fg_1_0, fg_1_1, fp_1_1, fg_1_2, fp_1_2, fg_1_3, fg_1_4, fg_1_5, fg_1_6, fg_1_7, fp_1_7_0, fp_1_7_1, cq_78, fg_78_0, fg_78_1, cq_3, fg_3_0, fg_3_1, cq_80, fg_80_0, fg_80_1, fg_80_2, fg_80_3, fg_80_4, fg_80_5, fp_80_5, fg_80_6, fp_80_6, fg_80_7, fp_80_7, fg_80_8, fp_80_8, fg_80_9, fp_80_9, cq_94, fg_94_0, fg_94_1, fp_94_1, fg_94_2, fp_94_2, fg_94_3, fp_94_3, fg_94_4, fg_94_5, fg_94_6, fg_94_7, fg_94_8, fg_94_9, fg_94_10, fg_94_11, fg_94_12, fg_94_13, fg_94_14, fg_94_15, fp_94_15_0, fp_94_15_1, fg_94_16, fp_94_16, fg_94_17, fg_94_18, fg_94_19, fg_94_20, fg_94_21, fg_94_22, fg_94_23, fp_1_6, ob, sU_same, if_true]
