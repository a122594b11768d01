/-! Reading a line: the class. -/
def RK (s : St) (e n : Nat) (t : Nat → Int32) : Prop := isE e ∧ s e 1 = nI n ∧ n ≤ 24 ∧ s (e + 1) = t
def resK (n : Nat) (x : Int32) : Prop := x = -1 ∨ ∃ q, q ≤ n ∧ x = nI q
theorem RK_U {s : St} {e n a j : Nat} {t : Nat → Int32} {x : Int32} (h : RK s e n t) (h1 : ¬ (e = a ∧ 1 = j)) (h2 : e + 1 ≠ a) : RK (sU s a j x) e n t := by
  refine ⟨h.1, ?_, h.2.2.1, ?_⟩
  · unfold sU
    rw [if_neg h1]
    exact h.2.1
  · funext k
    rw [sU_a s j k x h2, h.2.2.2]
/-- the name that belongs to a W or C -/
def rdN (e : Nat) (x : Int32) (o : Nat) (s : St) : Int32 × St :=
  if x = -1 then (-1, s) else
  if x < s e 1 ∧ (¬ s (e + 1) x.toNatClampNeg < 97 ∧ s (e + 1) x.toNatClampNeg < 105) then (x + 1, sU (sU (sU s (e + 3) o (s (e + 1) x.toNatClampNeg - 97)) (e + 3) x.toNatClampNeg (-1)) (e + 4) x.toNatClampNeg 0)
  else (-1, sU s e 3 x)
theorem m_readName (d L : Nat) (s : St) {e n o : Nat} {t : Nat → Int32} (hR : RK s e n t) (ho : o < 24) {x : Int32} (hx : resK n x) : rn (d + 1) 19 0 [some (.ref e), some (.int x), some (.int (nI o))] [] (hH L s) = some (some (.int (rdN e x o s).1), hH L (rdN e x o s).2) ∧ RK (rdN e x o s).2 e n t ∧ resK n (rdN e x o s).1 := by
  obtain ⟨he, hl, hn, ht⟩ := hR
  rcases hx with rfl | ⟨q, hq, rfl⟩
  · refine ⟨?_, ⟨he, hl, hn, ht⟩, Or.inl rfl⟩
    simp only [e19_0, e19_1, e19_2, e19_5, e19_6, if_true, rdN]
  · have hm := nI_m1 (show q < 2147483648 by omega)
    have eq : (nI q).toNatClampNeg = q := nI_clamp (by omega)
    by_cases q1 : q < n
    · have q24 : q < 24 := by omega
      by_cases q2 : ¬ s (e + 1) q < 97 ∧ s (e + 1) q < 105
      · have er : rdN e (nI q) o s = (nI (q + 1), sU (sU (sU s (e + 3) o (s (e + 1) q - 97)) (e + 3) q (-1)) (e + 4) q 0) := by
          unfold rdN
          rw [if_neg hm, eq, hl, if_pos ⟨nI_lt q1 (by omega), q2⟩, nI_1]
        rw [er]
        refine ⟨?_, RK_U (RK_U (RK_U ⟨he, hl, hn, ht⟩ (by omega) (by omega)) (by omega) (by omega)) (by omega) (by omega), Or.inr ⟨q + 1, by omega, rfl⟩⟩
        simp only [e19_0, e19_1, e19_2, e19_5, e19_6, e19_7, e19_8, e19_9, e19_12, e19_15, e19_16, e19_19, e19_20, e19_21, e19_24, e19_27, e19_28, e19_29, e19_32, e19_33, e19_34, e19_35, e19_38, e19_39, e19_40, e19_43, e19_44, e19_45, e19_47, e19_48, e19_49, e19_50, e19_53, e19_54, e19_55, e19_56, e19_57, e19_60, e19_61, e19_62, e19_62q0, e19_62q1, e19_63, e19_64, e19_65, e19_66, ob, tl1, hm, if_false, fg_E_1 L s he, hl, nI_ltP (show q < 2147483648 by omega) (show n < 2147483648 by omega), q1, if_true, fg_E_0 L s he, gi_E1 L s he q24, m_isVariableName, bz_eq0, q2, not_true, not_false_eq_true, and_self, fg_E_5 L _ he, pi_E3 L _ he ho, pi_E3 L _ he q24, fg_E_6 L _ he, pi_E4 L _ he q24, nI_1]
      · have er : rdN e (nI q) o s = (-1, sU s e 3 (nI q)) := by
          unfold rdN
          rw [if_neg hm, eq, if_neg (fun z => q2 z.2)]
        rw [er]
        refine ⟨?_, RK_U ⟨he, hl, hn, ht⟩ (by omega) (by omega), Or.inl rfl⟩
        simp only [e19_0, e19_1, e19_2, e19_5, e19_6, e19_7, e19_8, e19_9, e19_12, e19_15, e19_16, e19_19, e19_20, e19_21, e19_24, e19_27, e19_28, e19_29, e19_32, e19_33, e19_34, e19_35, e19_38, e19_39, e19_40, e19_43, e19_44, e19_45, e19_47, e19_48, e19_49, e19_50, e19_53, e19_54, e19_55, e19_56, e19_57, e19_60, e19_61, e19_62, e19_62q0, e19_62q1, e19_63, e19_64, e19_65, e19_66, ob, tl1, hm, if_false, fg_E_1 L s he, hl, nI_ltP (show q < 2147483648 by omega) (show n < 2147483648 by omega), q1, if_true, fg_E_0 L s he, gi_E1 L s he q24, m_isVariableName, bz_eq0, q2, not_false_eq_true, fp_E_3 L s he]
    · have er : rdN e (nI q) o s = (-1, sU s e 3 (nI q)) := by
        unfold rdN
        rw [if_neg hm, hl, if_neg (fun z => q1 ((nI_ltI (by omega) (by omega)).mp z.1))]
      rw [er]
      refine ⟨?_, RK_U ⟨he, hl, hn, ht⟩ (by omega) (by omega), Or.inl rfl⟩
      simp only [e19_0, e19_1, e19_2, e19_5, e19_6, e19_7, e19_8, e19_9, e19_12, e19_15, e19_16, e19_19, e19_20, e19_21, e19_24, e19_27, e19_28, e19_29, e19_32, e19_33, e19_34, e19_35, e19_38, e19_39, e19_40, e19_43, e19_44, e19_45, e19_47, e19_48, e19_49, e19_50, e19_53, e19_54, e19_55, e19_56, e19_57, e19_60, e19_61, e19_62, e19_62q0, e19_62q1, e19_63, e19_64, e19_65, e19_66, ob, tl1, hm, if_false, fg_E_1 L s he, hl, nI_ltP (show q < 2147483648 by omega) (show n < 2147483648 by omega), q1, if_true, fp_E_3 L s he]
def apV (s : St) (e o : Nat) : Int32 := if s (e + 5) o = 0 ∧ ¬ s (e + 1) o = 80 then 0 else 1
def rdPL (T : Nat → Int32 → St → Int32 × St) (e o : Nat) : Nat → Nat → Int32 → St → Int32 × St
  | 0, _, x, s => (x, s)
  | r + 1, k, x, s => if x = -1 then (x, s) else rdPL T e o r (k + 1) (T x.toNatClampNeg (apV s e o) (sU s (e + 2) (3 * o + k) x)).1 (T x.toNatClampNeg (apV s e o) (sU s (e + 2) (3 * o + k) x)).2
/-- a reader of TERMS at a level -/
def TOK (L d lv e n : Nat) (t : Nat → Int32) (T : Nat → Int32 → St → Int32 × St) : Prop := ∀ (p : Nat) (a : Int32) (s : St), RK s e n t → p ≤ n → (a = 0 ∨ a = 1) → rn d 15 0 [some (.ref e), some (.int (nI p)), some (.int (nI lv)), some (.int a), none, none] [] (hH L s) = some (some (.int (T p a s).1), hH L (T p a s).2) ∧ RK (T p a s).2 e n t ∧ resK n (T p a s).1
theorem apV_01 (s : St) (e o : Nat) : apV s e o = 0 ∨ apV s e o = 1 := by
  unfold apV
  split
  · exact Or.inl rfl
  · exact Or.inr rfl
theorem l_readParts (d L lv e n : Nat) (t : Nat → Int32) (T : Nat → Int32 → St → Int32 × St) (hT : TOK L (d + 1) (lv + 1) e n t T) {o : Nat} (ho : o < n) (a1 : Option Value) : ∀ (r k : Nat) (x : Int32) (s : St), RK s e n t → resK n x → k + r = pcn (t o) → rn (d + 2) 20 14 [some (.ref e), a1, some (.int (nI o)), some (.int (nI lv)), some (.int (t o)), some (.int x), some (.int (nI k))] [] (hH L s) = some (some (.int (rdPL T e o r k x s).1), hH L (rdPL T e o r k x s).2) ∧ RK (rdPL T e o r k x s).2 e n t ∧ resK n (rdPL T e o r k x s).1 := by
  intro r
  have h3 := (pcN_pcn (t o)).2
  have hpc := (pcN_pcn (t o)).1
  induction r with
  | zero =>
    intro k x s hR hx hk
    have hk : k = pcn (t o) := by omega
    subst hk
    refine ⟨?_, hR, hx⟩
    rw [e20_14]
    simp only [e20_0, e20_1, e20_4, e20_5, e20_6, e20_8, e20_9, e20_11, e20_12, e20_16, e20_18, e20_21, e20_24, e20_26, e20_27, e20_30, e20_31, e20_34, e20_35, e20_36, e20_37, e20_39, e20_40, e20_42, e20_43, e20_44, e20_46, e20_47, e20_48, e20_49, e20_50, e20_53, e20_54, e20_55, e20_58, e20_60, e20_62, e20_65, e20_66, e20_69, e20_70, e20_73, e20_75, e20_78, e20_81, e20_83, ob, tl1, m_partCount, hpc, nI_ltP (show pcn (t o) < 2147483648 by omega) (show pcn (t o) < 2147483648 by omega), Nat.lt_irrefl, if_false, rdPL]
  | succ r ih =>
    intro k x s hR hx hk
    have hn := hR.2.2.1
    rcases hx with rfl | ⟨q, hq, rfl⟩
    · refine ⟨?_, hR, Or.inl rfl⟩
      rw [e20_14]
      simp only [e20_0, e20_1, e20_4, e20_5, e20_6, e20_8, e20_9, e20_11, e20_12, e20_16, e20_18, e20_21, e20_24, e20_26, e20_27, e20_30, e20_31, e20_34, e20_35, e20_36, e20_37, e20_39, e20_40, e20_42, e20_43, e20_44, e20_46, e20_47, e20_48, e20_49, e20_50, e20_53, e20_54, e20_55, e20_58, e20_60, e20_62, e20_65, e20_66, e20_69, e20_70, e20_73, e20_75, e20_78, e20_81, e20_83, ob, tl1, m_partCount, hpc, nI_ltP (show k < 2147483648 by omega) (show pcn (t o) < 2147483648 by omega), show k < pcn (t o) by omega, if_true, rdPL]
    · have hm := nI_m1 (show q < 2147483648 by omega)
      have eq : (nI q).toNatClampNeg = q := nI_clamp (by omega)
      have hR2 : RK (sU s (e + 2) (3 * o + k) (nI q)) e n t := RK_U hR (by omega) (by omega)
      have e5 : sU s (e + 2) (3 * o + k) (nI q) (e + 5) o = s (e + 5) o := sU_a s _ _ _ (by omega)
      have e1 : s (e + 1) o = t o := congrFun hR.2.2.2 o
      obtain ⟨t1, t2, t3⟩ := hT q (apV s e o) _ hR2 hq (apV_01 s e o)
      obtain ⟨b1, b2, b3⟩ := ih (k + 1) _ _ t2 t3 (by omega)
      have key : rdPL T e o (r + 1) k (nI q) s = rdPL T e o r (k + 1) (T q (apV s e o) (sU s (e + 2) (3 * o + k) (nI q))).1 (T q (apV s e o) (sU s (e + 2) (3 * o + k) (nI q))).2 := by
        show (if nI q = -1 then _ else _) = _
        rw [if_neg hm, eq]
      rw [key]
      refine ⟨?_, b2, b3⟩
      rw [e20_14]
      simp only [e20_0, e20_1, e20_4, e20_5, e20_6, e20_8, e20_9, e20_11, e20_12, e20_16, e20_18, e20_21, e20_24, e20_26, e20_27, e20_30, e20_31, e20_34, e20_35, e20_36, e20_37, e20_39, e20_40, e20_42, e20_43, e20_44, e20_46, e20_47, e20_48, e20_49, e20_50, e20_53, e20_54, e20_55, e20_58, e20_60, e20_62, e20_65, e20_66, e20_69, e20_70, e20_73, e20_75, e20_78, e20_81, e20_83, ob, tl1, m_partCount, hpc, nI_ltP (show k < 2147483648 by omega) (show pcn (t o) < 2147483648 by omega), show k < pcn (t o) by omega, if_true, hm, if_false, fg_E_4 L s hR.1, m3, pi_E2 L s hR.1 (show 3 * o + k < 72 by omega), fg_E_7 L _ hR.1, gi_E5 L _ hR.1 (show o < 24 by omega), e5, cq_E L _ hR.1, eq_self, nI_1]
      by_cases q1 : s (e + 5) o = 0
      · by_cases q2 : t o = 80
        · have ea : apV s e o = 1 := by
            unfold apV
            rw [if_neg (fun z => z.2 (e1.trans q2))]
          rw [ea] at t1 b1
          rw [if_pos q1, if_pos q2]
          simp only [t1, ob, tl1, e20_73, e20_75, e20_78, nI_1, ea]
          exact b1
        · have ea : apV s e o = 0 := by
            unfold apV
            rw [if_pos ⟨q1, fun z => q2 (e1.symm.trans z)⟩]
          rw [ea] at t1 b1
          rw [if_pos q1, if_neg q2]
          simp only [t1, ob, tl1, e20_73, e20_75, e20_78, nI_1, ea]
          exact b1
      · have ea : apV s e o = 1 := by
          unfold apV
          rw [if_neg (fun z => q1 z.1)]
        rw [ea] at t1 b1
        rw [if_neg q1]
        simp only [t1, ob, tl1, e20_73, e20_75, e20_78, nI_1, ea]
        exact b1
theorem m_readParts (d L lv e n : Nat) (t : Nat → Int32) (T : Nat → Int32 → St → Int32 × St) (hT : TOK L (d + 1) (lv + 1) e n t T) {o : Nat} (ho : o < n) (s : St) (hR : RK s e n t) {x : Int32} (hx : resK n x) : rn (d + 2) 20 0 [some (.ref e), some (.int x), some (.int (nI o)), some (.int (nI lv)), none, none, none] [] (hH L s) = some (some (.int (rdPL T e o (pcn (t o)) 0 x s).1), hH L (rdPL T e o (pcn (t o)) 0 x s).2) ∧ RK (rdPL T e o (pcn (t o)) 0 x s).2 e n t ∧ resK n (rdPL T e o (pcn (t o)) 0 x s).1 := by
  have e1 : s (e + 1) o = t o := congrFun hR.2.2.2 o
  have hn := hR.2.2.1
  simp only [e20_0, e20_1, e20_4, e20_5, e20_6, e20_8, e20_9, e20_11, e20_12, ob, fg_E_0 L s hR.1, gi_E1 L s hR.1 (show o < 24 by omega), e1]
  exact l_readParts d L lv e n t T hT ho _ (pcn (t o)) 0 x s hR hx (by omega)
/-- a TERM at place p, level lv -/
def rd4 (e lv p : Nat) (a : Int32) (s : St) : St := sU (sU (sU (sU s e 2 (if s e 2 < nI lv then nI lv else s e 2)) (e + 3) p (if ¬ s (e + 1) p < 97 ∧ s (e + 1) p < 105 then s (e + 1) p - 97 else -1)) (e + 4) p 1) (e + 5) p a
def rdB (e lv : Nat) (T : Nat → Int32 → St → Int32 × St) (p : Nat) (a : Int32) (s : St) : Int32 × St :=
  let r1 := if s (e + 1) p = 67 then rdN e (nI (p + 1)) p (rd4 e lv p a s) else (nI (p + 1), rd4 e lv p a s)
  let r2 := rdPL T e p (pcn (s (e + 1) p)) 0 r1.1 r1.2
  if s (e + 1) p = 87 then rdN e r2.1 p r2.2 else r2
def rdT (e n : Nat) : Nat → Nat → Int32 → St → Int32 × St
  | 0, p, a, s => if p < n ∧ pcn (s (e + 1) p) = 0 then rdB e 6 (fun _ _ s => (-1, s)) p a s else (-1, sU s e 3 (nI p))
  | f + 1, p, a, s => if p < n then rdB e (5 - f) (rdT e n f) p a s else (-1, sU s e 3 (nI p))
theorem m_mayBegin (d L : Nat) (s : St) {e n p lv : Nat} {t : Nat → Int32} (hR : RK s e n t) (hp : p ≤ n) (hlv : lv ≤ 6) : rn (d + 1) 16 0 [some (.ref e), some (.int (nI p)), some (.int (nI lv))] [] (hH L s) = some (some (.int (bz (p < n ∧ (lv < 6 ∨ pcn (t p) = 0)))), hH L s) := by
  have hn := hR.2.2.1
  have c6 : (nI lv < 6) = (lv < 6) := nI_ltP (b := 6) (by omega) (by decide)
  by_cases q : p < n
  · have e1 : s (e + 1) p = t p := congrFun hR.2.2.2 p
    have hz : (pcN (t p) = 0) = (pcn (t p) = 0) := propext (by
      rw [(pcN_pcn (t p)).1]
      exact nI_eq (b := 0) (by have := (pcN_pcn (t p)).2; omega) (by decide))
    by_cases q2 : lv < 6
    · simp only [e16_0, e16_1, e16_2, e16_5, e16_8, e16_9, e16_11, e16_14, e16_15, e16_17, e16_20, e16_21, e16_24, e16_25, e16_26, e16_29, e16_32, e16_33, e16_36, e16_37, e16_37q0, e16_37q1, ob, tl1, fg_E_1 L s hR.1, hR.2.1, nI_ltP (show p < 2147483648 by omega) (show n < 2147483648 by omega), q, if_true, c6, q2, bz, true_or, and_self]
    · have h6 : lv = 6 := by omega
      subst h6
      have e6 : (nI 6 = 6) = True := eq_true rfl
      simp only [e16_0, e16_1, e16_2, e16_5, e16_8, e16_9, e16_11, e16_14, e16_15, e16_17, e16_20, e16_21, e16_24, e16_25, e16_26, e16_29, e16_32, e16_33, e16_36, e16_37, e16_37q0, e16_37q1, ob, tl1, fg_E_1 L s hR.1, hR.2.1, nI_ltP (show p < 2147483648 by omega) (show n < 2147483648 by omega), q, if_true, c6, q2, if_false, e6, fg_E_0 L s hR.1, gi_E1 L s hR.1 (show p < 24 by omega), m_partCount, e1, hz]
      by_cases q3 : pcn (t p) = 0 <;> simp [q3, bz]
  · simp only [e16_0, e16_1, e16_2, e16_5, e16_8, e16_9, e16_11, e16_14, e16_15, e16_17, e16_20, e16_21, e16_24, e16_25, e16_26, e16_29, e16_32, e16_33, e16_36, e16_37, e16_37q0, e16_37q1, ob, tl1, fg_E_1 L s hR.1, hR.2.1, nI_ltP (show p < 2147483648 by omega) (show n < 2147483648 by omega), q, if_false, bz, false_and]
theorem b01 {a : Int32} (h : a = 0 ∨ a = 1) : a &&& 1 = a := by rcases h with rfl | rfl <;> rfl
theorem m_readTermB (d L lv e n : Nat) (t : Nat → Int32) (T : Nat → Int32 → St → Int32 × St) (hT : TOK L (d + 1) (lv + 1) e n t T ∨ (lv = 6 ∧ T = fun _ _ s => (-1, s))) (hlv : lv ≤ 6) {p : Nat} {a : Int32} {s : St} (hR : RK s e n t) (hp : p < n) (hb : lv < 6 ∨ pcn (t p) = 0) (ha : a = 0 ∨ a = 1) : rn (d + 3) 15 0 [some (.ref e), some (.int (nI p)), some (.int (nI lv)), some (.int a), none, none] [] (hH L s) = some (some (.int (rdB e lv T p a s).1), hH L (rdB e lv T p a s).2) ∧ RK (rdB e lv T p a s).2 e n t ∧ resK n (rdB e lv T p a s).1 := by
  have hn := hR.2.2.1
  have p24 : p < 24 := by omega
  have e1 : s (e + 1) p = t p := congrFun hR.2.2.2 p
  have hm := m_mayBegin (d + 1) L s hR (Nat.le_of_lt hp) hlv
  have ht : p < n ∧ (lv < 6 ∨ pcn (t p) = 0) := ⟨hp, hb⟩
  have h4 : RK (rd4 e lv p a s) e n t := RK_U (RK_U (RK_U (RK_U hR (by omega) (by omega)) (by omega) (by omega)) (by omega) (by omega)) (by omega) (by omega)
  have hx1 : resK n (nI (p + 1)) := Or.inr ⟨p + 1, by omega, rfl⟩
  -- the parts, also where there are none
  have hparts : ∀ (s' : St) (x : Int32), RK s' e n t → resK n x → rn (d + 2) 20 0 [some (.ref e), some (.int x), some (.int (nI p)), some (.int (nI lv)), none, none, none] [] (hH L s') = some (some (.int (rdPL T e p (pcn (t p)) 0 x s').1), hH L (rdPL T e p (pcn (t p)) 0 x s').2) ∧ RK (rdPL T e p (pcn (t p)) 0 x s').2 e n t ∧ resK n (rdPL T e p (pcn (t p)) 0 x s').1 := by
    intro s' x hR' hx
    rcases hT with hT | ⟨h6, rfl⟩
    · exact m_readParts d L lv e n t T hT hp s' hR' hx
    · have h0 : pcn (t p) = 0 := hb.resolve_left (by omega)
      have e1' : s' (e + 1) p = t p := congrFun hR'.2.2.2 p
      have hpc := (pcN_pcn (t p)).1
      rw [h0] at hpc ⊢
      refine ⟨?_, hR', hx⟩
      have hz : ¬ (0 : Int32) < nI 0 := by decide
      simp only [e20_0, e20_1, e20_4, e20_5, e20_6, e20_8, e20_9, e20_11, e20_12, e20_14, e20_16, e20_18, e20_21, e20_24, e20_26, e20_27, e20_30, e20_31, e20_34, e20_35, e20_36, e20_37, e20_39, e20_40, e20_42, e20_43, e20_44, e20_46, e20_47, e20_48, e20_49, e20_50, e20_53, e20_54, e20_55, e20_58, e20_60, e20_62, e20_65, e20_66, e20_69, e20_70, e20_73, e20_75, e20_78, e20_81, e20_83, ob, tl1, fg_E_0 L s' hR'.1, gi_E1 L s' hR'.1 p24, e1', m_partCount, hpc, hz, if_false, rdPL]
  -- the first name, if any
  have key : ∀ (x : Int32) (s5 : St) (a5 : Option Value), RK s5 e n t → resK n x →
      rn (d + 3) 15 94 [some (.ref e), some (.int (nI p)), some (.int (nI lv)), some (.int a), some (.int (t p)), some (.int x)] [] (hH L s5) =
        some (some (.int (if t p = 87 then rdN e (rdPL T e p (pcn (t p)) 0 x s5).1 p (rdPL T e p (pcn (t p)) 0 x s5).2 else rdPL T e p (pcn (t p)) 0 x s5).1), hH L (if t p = 87 then rdN e (rdPL T e p (pcn (t p)) 0 x s5).1 p (rdPL T e p (pcn (t p)) 0 x s5).2 else rdPL T e p (pcn (t p)) 0 x s5).2) ∧
      RK (if t p = 87 then rdN e (rdPL T e p (pcn (t p)) 0 x s5).1 p (rdPL T e p (pcn (t p)) 0 x s5).2 else rdPL T e p (pcn (t p)) 0 x s5).2 e n t ∧ resK n (if t p = 87 then rdN e (rdPL T e p (pcn (t p)) 0 x s5).1 p (rdPL T e p (pcn (t p)) 0 x s5).2 else rdPL T e p (pcn (t p)) 0 x s5).1 := by
    intro x s5 a5 h5 hx
    obtain ⟨c1, c2, c3⟩ := hparts s5 x h5 hx
    obtain ⟨n1, n2, n3⟩ := m_readName (d + 1) L _ c2 p24 c3
    by_cases q : t p = 87
    · simp only [if_pos q]
      refine ⟨?_, n2, n3⟩
      simp only [e15_94, e15_95, e15_97, e15_98, e15_99, e15_102, e15_104, e15_106, e15_108, cq_E L _ hR.1, eq_self, ob, tl1, c1]
      rw [if_pos q]
      simp only [e15_111, e15_112, e15_114, e15_115, e15_118, e15_120, e15_122, cq_E L _ hR.1, eq_self, ob, tl1, n1]
    · simp only [if_neg q]
      refine ⟨?_, c2, c3⟩
      simp only [e15_94, e15_95, e15_97, e15_98, e15_99, e15_102, e15_104, e15_106, e15_108, cq_E L _ hR.1, eq_self, ob, tl1, c1]
      rw [if_neg q]
      simp only [e15_120, e15_122]
  have eB : rdB e lv T p a s = (if t p = 87 then rdN e (rdPL T e p (pcn (t p)) 0 (if t p = 67 then rdN e (nI (p + 1)) p (rd4 e lv p a s) else (nI (p + 1), rd4 e lv p a s)).1 (if t p = 67 then rdN e (nI (p + 1)) p (rd4 e lv p a s) else (nI (p + 1), rd4 e lv p a s)).2).1 p (rdPL T e p (pcn (t p)) 0 (if t p = 67 then rdN e (nI (p + 1)) p (rd4 e lv p a s) else (nI (p + 1), rd4 e lv p a s)).1 (if t p = 67 then rdN e (nI (p + 1)) p (rd4 e lv p a s) else (nI (p + 1), rd4 e lv p a s)).2).2 else rdPL T e p (pcn (t p)) 0 (if t p = 67 then rdN e (nI (p + 1)) p (rd4 e lv p a s) else (nI (p + 1), rd4 e lv p a s)).1 (if t p = 67 then rdN e (nI (p + 1)) p (rd4 e lv p a s) else (nI (p + 1), rd4 e lv p a s)).2) := by
    unfold rdB
    rw [e1]
  rw [eB]
  have hd4 : rd4 e lv p a s = sU (sU (sU (sU s e 2 (if s e 2 < nI lv then nI lv else s e 2)) (e + 3) p (if ¬ t p < 97 ∧ t p < 105 then t p - 97 else -1)) (e + 4) p 1) (e + 5) p a := by
    unfold rd4
    rw [e1]
  have start : rn (d + 3) 15 0 [some (.ref e), some (.int (nI p)), some (.int (nI lv)), some (.int a), none, none] [] (hH L s) = rn (d + 3) 15 78 [some (.ref e), some (.int (nI p)), some (.int (nI lv)), some (.int a), some (.int (t p)), some (.int (nI (p + 1)))] [] (hH L (rd4 e lv p a s)) := by
    rw [hd4]
    simp only [e15_0, e15_1, e15_2, e15_3, e15_6, e15_9, e15_10, e15_11, e15_14, e15_15, e15_16, e15_17, e15_20, e15_21, e15_22, e15_24, e15_25, e15_26, e15_29, e15_30, e15_33, e15_36, e15_37, e15_40, e15_41, e15_43, e15_46, e15_49, e15_51, e15_53, e15_54, e15_57, e15_58, e15_59, e15_60, e15_63, e15_64, e15_65, e15_65q0, e15_65q1, e15_66, e15_67, e15_70, e15_71, e15_72, e15_72q0, e15_72q1, e15_73, e15_74, e15_75, e15_76, cq_E L _ hR.1, eq_self, ob, tl1, hm, bz_eq0, ht, not_true, if_false, fg_E_0 L _ hR.1, gi_E1 L _ hR.1 p24, e1, fg_E_2 L _ hR.1, m_max, fp_E_2 L _ hR.1, fg_E_5 L _ hR.1, m_isVariableName, and_self]
    by_cases q : ¬ t p < 97 ∧ t p < 105
    · rw [if_neg (Classical.not_not.mpr q), if_pos q]
      simp only [e15_49, e15_51, e15_53, e15_54, e15_57, e15_58, e15_59, e15_60, e15_63, e15_64, e15_65, e15_65q0, e15_65q1, e15_66, e15_67, e15_70, e15_71, e15_72, e15_72q0, e15_72q1, e15_73, e15_74, e15_75, e15_76, ob, pi_E3 L _ hR.1 p24, fg_E_6 L _ hR.1, pi_E4 L _ hR.1 p24, fg_E_7 L _ hR.1, b01 ha, eq_self, pi_E5 L _ hR.1 p24, nI_1]
    · rw [if_pos q, if_neg q]
      simp only [e15_49, e15_51, e15_53, e15_54, e15_57, e15_58, e15_59, e15_60, e15_63, e15_64, e15_65, e15_65q0, e15_65q1, e15_66, e15_67, e15_70, e15_71, e15_72, e15_72q0, e15_72q1, e15_73, e15_74, e15_75, e15_76, ob, pi_E3 L _ hR.1 p24, fg_E_6 L _ hR.1, pi_E4 L _ hR.1 p24, fg_E_7 L _ hR.1, b01 ha, eq_self, pi_E5 L _ hR.1 p24, nI_1]
  rw [start]
  by_cases q67 : t p = 67
  · obtain ⟨n1, n2, n3⟩ := m_readName (d + 1) L _ h4 p24 hx1
    simp only [if_pos q67]
    obtain ⟨k1, k2, k3⟩ := key _ _ none n2 n3
    refine ⟨?_, k2, k3⟩
    rw [← k1]
    simp only [e15_78, e15_80, e15_82]
    rw [if_pos q67]
    simp only [e15_85, e15_86, e15_88, e15_89, e15_92, cq_E L _ hR.1, eq_self, ob, tl1, n1]
  · simp only [if_neg q67]
    obtain ⟨k1, k2, k3⟩ := key _ _ none h4 hx1
    refine ⟨?_, k2, k3⟩
    rw [← k1]
    simp only [e15_78, e15_80, e15_82]
    rw [if_neg q67]
theorem rdT_ok (L e n : Nat) (t : Nat → Int32) : ∀ (f d : Nat), f ≤ 5 → TOK L (d + 2 * f + 3) (6 - f) e n t (rdT e n f) := by
  intro f
  induction f with
  | zero =>
    intro d hf p a s hR hp ha
    have hm := m_mayBegin (d + 1) L s hR hp (show 6 ≤ 6 by decide)
    by_cases q : p < n ∧ pcn (s (e + 1) p) = 0
    · have e1 : s (e + 1) p = t p := congrFun hR.2.2.2 p
      have er : rdT e n 0 p a s = rdB e 6 (fun _ _ s => (-1, s)) p a s := if_pos q
      rw [er]
      exact m_readTermB d L 6 e n t _ (Or.inr ⟨rfl, rfl⟩) (by decide) hR q.1 (Or.inr (by rw [← e1]; exact q.2)) ha
    · have er : rdT e n 0 p a s = (-1, sU s e 3 (nI p)) := if_neg q
      have ht : ¬ (p < n ∧ (6 < 6 ∨ pcn (t p) = 0)) := by
        rintro ⟨z1, z2⟩
        have e1 : s (e + 1) p = t p := congrFun hR.2.2.2 p
        exact q ⟨z1, by rw [e1]; exact z2.resolve_left (by omega)⟩
      rw [er]
      refine ⟨?_, RK_U hR (by omega) (by omega), Or.inl rfl⟩
      show rn (d + 2 + 1) 15 0 [some (.ref e), some (.int (nI p)), some (.int (nI 6)), some (.int a), none, none] [] (hH L s) = _
      simp only [e15_0, e15_1, e15_2, e15_3, e15_6, e15_9, e15_10, e15_11, e15_14, e15_15, cq_E L _ hR.1, eq_self, ob, tl1, hm, bz_eq0, ht, not_false_eq_true, if_true, fp_E_3 L _ hR.1]
  | succ f ih =>
    intro d hf p a s hR hp ha
    have hlv : 6 - (f + 1) < 6 := by omega
    have hm := m_mayBegin (d + 2 * f + 3) L s hR hp (show 6 - (f + 1) ≤ 6 by omega)
    have hlv5 : 6 - (f + 1) = 5 - f := by omega
    by_cases q : p < n
    · have er : rdT e n (f + 1) p a s = rdB e (5 - f) (rdT e n f) p a s := if_pos q
      rw [er]
      have hT := ih d (by omega)
      have hl6 : 6 - f = (5 - f) + 1 := by omega
      rw [hl6] at hT
      have := m_readTermB (d + 2 * f + 2) L (5 - f) e n t (rdT e n f) (Or.inl hT) (by omega) hR q (Or.inl (by omega)) ha
      rw [hlv5]
      exact this
    · have er : rdT e n (f + 1) p a s = (-1, sU s e 3 (nI p)) := if_neg q
      have ht : ¬ (p < n ∧ (6 - (f + 1) < 6 ∨ pcn (t p) = 0)) := fun z => q z.1
      rw [er]
      refine ⟨?_, RK_U hR (by omega) (by omega), Or.inl rfl⟩
      show rn (d + 2 * f + 4 + 1) 15 0 [some (.ref e), some (.int (nI p)), some (.int (nI (6 - (f + 1)))), some (.int a), none, none] [] (hH L s) = _
      simp only [e15_0, e15_1, e15_2, e15_3, e15_6, e15_9, e15_10, e15_11, e15_14, e15_15, cq_E L _ hR.1, eq_self, ob, tl1, hm, bz_eq0, ht, not_false_eq_true, if_true, fp_E_3 L _ hR.1]
/-- the line is copied: the first n characters -/
def sCp (s : St) (a b n : Nat) : St := fun x j => if x = b ∧ j < n then s a j else s x j
theorem m_copy (L : Nat) (s : St) {e n : Nat} (he : isE e) (hn : n ≤ 24) : acopy (hH L s) 2 0 (e + 1) 0 (nI n) = some (hH L (sCp s 2 (e + 1) n)) := by
  have h1 : (hH L s).2.2 2 = some (.inl (0, 24, .inl (s 2))) := rfl
  have h2 : (hH L s).2.2 (e + 1) = some (.inl (0, al L (e + 1), .inl (s (e + 1)))) := hp_arr (isE_kd he).2.1.1 (Or.inl rfl)
  have ha : al L (e + 1) = 24 := ((isE_kd he).2.2 L).1
  have en : (nI n).toNatClampNeg = n := nI_clamp (by omega)
  have ez : (0 : Int32).toNatClampNeg = 0 := rfl
  unfold acopy
  rw [h1, h2]
  have hc : (0 : Nat) = 0 ∧ (0 : Nat) = 0 ∧ ¬ (0 : Int32) < 0 ∧ ¬ (0 : Int32) < 0 ∧ ¬ nI n < 0 ∧ (0 : Int32).toNatClampNeg + (nI n).toNatClampNeg ≤ 24 ∧ (0 : Int32).toNatClampNeg + (nI n).toNatClampNeg ≤ al L (e + 1) ∧ (2 : Nat) ≠ 0 ∧ e + 1 ≠ 0 := ⟨rfl, rfl, by decide, by decide, nI_pos (by omega), by rw [en, ez]; omega, by rw [en, ez, ha]; omega, by decide, by omega⟩
  refine (if_pos hc).trans ?_
  show some (114, 3922, va_up (hp L s) (e + 1) (some (.inl (0, al L (e + 1), .inl (va_cpy (s 2) (s (e + 1)) 0 0 (nI n).toNatClampNeg))))) = some (114, 3922, hp L (sCp s 2 (e + 1) n))
  rw [en]
  congr 3
  funext b
  by_cases hb : b = e + 1
  · subst hb
    rw [va_up_self, hp_arr (isE_kd he).2.1.1 (Or.inl rfl)]
    congr 5
    funext j
    unfold va_cpy sCp
    by_cases hj : j < n <;> simp [hj]
  · rw [va_up_ne _ _ hb]
    refine hp_off (fun j => ?_)
    unfold sCp
    rw [if_neg (fun z => hb z.1)]
/-- readLine -/
def rlS (s : St) (e n : Nat) : St := sU (sU (sU (sF (sCp s 2 (e + 1) n) (e + 2) 0 72 (-1)) e 1 (nI n)) e 2 0) e 3 (-1)
def rlV (s : St) (e n : Nat) : Int32 × St :=
  let r := rdT e n 5 0 0 (rlS s e n)
  let s1 := if r.1 = -1 then r.2 else if r.1 < nI n then sU r.2 e 3 r.1 else r.2
  (if s1 e 3 = -1 then 1 else 0, s1)
theorem m_readLine (d L : Nat) (s : St) {e n : Nat} (he : isE e) (hn : n ≤ 24) : rn (d + 14) 13 0 [some (.ref e), some (.ref 2), some (.int (nI n)), none] [] (hH L s) = some (some (.int (rlV s e n).1), hH L (rlV s e n).2) ∧ RK (rlV s e n).2 e n (sCp s 2 (e + 1) n (e + 1)) := by
  have hal : al L (e + 2) = 72 := ((isE_kd he).2.2 L).2.1
  have hf := m_fill (d + 13) L (e + 2) (-1) (sCp s 2 (e + 1) n) (isE_kd he).2.1.2.1 (by omega) (by rw [hal]; decide) (by rw [hal]; exact ln_E2 L _ he)
  rw [hal] at hf
  have hR : RK (rlS s e n) e n (sCp s 2 (e + 1) n (e + 1)) := by
    refine ⟨he, ?_, hn, ?_⟩
    · unfold rlS
      rw [sU_j _ _ _ _ (by decide), sU_j _ _ _ _ (by decide), sU_same]
    · funext j
      unfold rlS
      rw [sU_a _ _ _ _ (by omega), sU_a _ _ _ _ (by omega), sU_a _ _ _ _ (by omega), sF_off (by omega)]
  have h0 : TOK L (d + 13) 1 e n (sCp s 2 (e + 1) n (e + 1)) (rdT e n 5) := rdT_ok L e n _ 5 d (by decide)
  obtain ⟨t1, t2, t3⟩ := h0 0 0 (rlS s e n) hR (by omega) (Or.inl rfl)
  have t1' : rn (d + 13) 15 0 [some (.ref e), some (.int 0), some (.int 1), some (.int 0), none, none] [] (hH L (rlS s e n)) = some (some (.int (rdT e n 5 0 0 (rlS s e n)).1), hH L (rdT e n 5 0 0 (rlS s e n)).2) := t1
  have hstart : rn (d + 14) 13 0 [some (.ref e), some (.ref 2), some (.int (nI n)), none] [] (hH L s) = rn (d + 14) 13 41 [some (.ref e), some (.ref 2), some (.int (nI n)), none] [.int (rdT e n 5 0 0 (rlS s e n)).1] (hH L (rdT e n 5 0 0 (rlS s e n)).2) := by
    simp only [e13_0, e13_1, e13_2, e13_3, e13_6, e13_7, fg_E_0 L _ he, ob]
    rw [e13_8 (d + 8) _ _ _ _ _ _ _ _ _ _ _ (m_copy L s he hn)]
    simp only [e13_11, e13_12, e13_15, e13_16, e13_19, e13_20, e13_21, e13_24, e13_25, e13_26, e13_29, e13_30, e13_31, e13_34, e13_35, e13_36, e13_37, e13_38, fg_E_4 L _ he, ob, tl0, tl1, hf, fp_E_1 L _ he, fp_E_2 L _ he, fp_E_3 L _ he, cq_E L _ he, eq_self]
    show (rn (d + 13) 15 0 [some (.ref e), some (.int 0), some (.int 1), some (.int 0), none, none] [] (hH L (rlS s e n))).bind _ = _
    rw [t1']
    simp only [ob, tl1]
  rw [hstart]
  have hln := t2.2.1
  refine ⟨?_, ?_⟩
  · unfold rlV
    dsimp only
    generalize rdT e n 5 0 0 (rlS s e n) = r at t2 t3 hln
    obtain ⟨x, s1⟩ := r
    dsimp only at t2 t3 hln ⊢
    simp only [e13_41, e13_42, e13_43, e13_44, e13_47, e13_48, e13_49, e13_52, e13_55, e13_56, e13_57, e13_60, e13_61, e13_64, e13_65, e13_68, e13_69, e13_72, e13_73, e13_73q0, e13_73q1, fg_E_1 L s1 he, hln, ob, fg_E_3 L _ he, fp_E_3 L s1 he]
    by_cases q : x = -1
    · rw [if_pos q, if_pos q]
      by_cases q3 : s1 e 3 = -1
      · rw [if_pos q3, if_pos q3]
      · rw [if_neg q3, if_neg q3]
    · rw [if_neg q, if_neg q]
      by_cases q2 : x < nI n
      · rw [if_pos q2, if_pos q2]
        by_cases q3 : sU s1 e 3 x e 3 = -1
        · rw [if_pos q3, if_pos q3]
        · rw [if_neg q3, if_neg q3]
      · rw [if_neg q2, if_neg q2]
        by_cases q3 : s1 e 3 = -1
        · rw [if_pos q3, if_pos q3]
        · rw [if_neg q3, if_neg q3]
  · unfold rlV
    dsimp only
    split
    · exact t2
    · split
      · exact RK_U t2 (by omega) (by omega)
      · exact t2
/-- define -/
def dfV (s : St) (k n : Nat) : Int32 × St :=
  let r := rlV s (dfA s) n
  let s1 := sU r.2 1 1 0
  if r.1 = 0 then (-3, sU s1 1 2 (s1 (dfA s) 3))
  else (s1 (dfA s) 2, sRst (sU (sU (sU s1 4 k (nI (dfA s))) 1 6 (nI (eqA s1 k))) 1 7 0))
/-- reading touches the draft alone -/
def offE (e b : Nat) : Prop := b ≠ e ∧ b ≠ e + 2 ∧ b ≠ e + 3 ∧ b ≠ e + 4 ∧ b ≠ e + 5
theorem rdN_off {e b j o : Nat} {x : Int32} {s : St} (hb : offE e b) : (rdN e x o s).2 b j = s b j := by
  obtain ⟨h0, h2, h3, h4, h5⟩ := hb
  unfold rdN
  split
  · rfl
  · split
    · show sU _ _ _ _ b j = _
      rw [sU_a _ _ _ _ h4, sU_a _ _ _ _ h3, sU_a _ _ _ _ h3]
    · exact sU_a _ _ _ _ h0
theorem rdPL_off {e b j o : Nat} {T : Nat → Int32 → St → Int32 × St} (hb : offE e b) (hT : ∀ p a s, (T p a s).2 b j = s b j) : ∀ (r k : Nat) (x : Int32) (s : St), (rdPL T e o r k x s).2 b j = s b j
  | 0, _, _, _ => rfl
  | r + 1, k, x, s => by
    unfold rdPL
    split
    · rfl
    · rw [rdPL_off hb hT r, hT, sU_a _ _ _ _ hb.2.1]
theorem rdB_off {e b j lv p : Nat} {a : Int32} {T : Nat → Int32 → St → Int32 × St} {s : St} (hb : offE e b) (hT : ∀ p a s, (T p a s).2 b j = s b j) : (rdB e lv T p a s).2 b j = s b j := by
  have h4 : rd4 e lv p a s b j = s b j := by
    obtain ⟨h0, h2, h3, h4, h5⟩ := hb
    unfold rd4
    rw [sU_a _ _ _ _ h5, sU_a _ _ _ _ h4, sU_a _ _ _ _ h3, sU_a _ _ _ _ h0]
  have h1 : (if s (e + 1) p = 67 then rdN e (nI (p + 1)) p (rd4 e lv p a s) else (nI (p + 1), rd4 e lv p a s)).2 b j = s b j := by
    split
    · rw [rdN_off hb, h4]
    · exact h4
  unfold rdB
  dsimp only
  split
  · rw [rdN_off hb, rdPL_off hb hT, h1]
  · rw [rdPL_off hb hT, h1]
theorem rdT_off {e n b j : Nat} (hb : offE e b) : ∀ (f p : Nat) (a : Int32) (s : St), (rdT e n f p a s).2 b j = s b j
  | 0, p, a, s => by
    unfold rdT
    split
    · exact rdB_off hb (fun _ _ _ => rfl)
    · exact sU_a _ _ _ _ hb.1
  | f + 1, p, a, s => by
    unfold rdT
    split
    · exact rdB_off hb (fun p a s => rdT_off hb f p a s)
    · exact sU_a _ _ _ _ hb.1
theorem rlV_off {s : St} {e n b j : Nat} (hb : offE e b) (h1 : b ≠ e + 1) : (rlV s e n).2 b j = s b j := by
  have h0 : rlS s e n b j = s b j := by
    unfold rlS
    rw [sU_a _ _ _ _ hb.1, sU_a _ _ _ _ hb.1, sU_a _ _ _ _ hb.1, sF_off hb.2.1]
    unfold sCp
    rw [if_neg (fun z => h1 z.1)]
  unfold rlV
  dsimp only
  split
  · rw [rdT_off hb, h0]
  · split
    · rw [sU_a _ _ _ _ hb.1, rdT_off hb, h0]
    · rw [rdT_off hb, h0]
theorem offE_c {e b : Nat} (he : isE e) (hb : b < 6 ∨ (78 ≤ b ∧ b ≤ 84) ∨ 94 ≤ b) : offE e b ∧ b ≠ e + 1 := by
  have h0 := isE_rng he (show 0 < 9 by decide) (Nat.add_zero e).symm
  have h1 := isE_rng he (show 1 < 9 by decide) rfl
  have h2 := isE_rng he (show 2 < 9 by decide) rfl
  have h3 := isE_rng he (show 3 < 9 by decide) rfl
  have h4 := isE_rng he (show 4 < 9 by decide) rfl
  have h5 := isE_rng he (show 5 < 9 by decide) rfl
  unfold offE
  omega
theorem m_define (d L : Nat) (s : St) (hs : okE s) (hd : isE (dfA s)) {k n : Nat} (hk : k < 8) (hn : n ≤ 24) (hl : s 1 1 = nI n) : rn (d + 15) 11 0 [some (.ref 1), some (.int (nI k)), none, none] [] (hH L s) = some (some (.int (dfV s k n).1), hH L (dfV s k n).2) := by
  have hv : ¬ nI k < 0 ∧ nI k < 8 := in_nI hk (by decide)
  obtain ⟨r1, r2⟩ := m_readLine d L s hd hn
  have off := fun (b j : Nat) (hb : b < 6 ∨ (78 ≤ b ∧ b ≤ 84) ∨ 94 ≤ b) => rlV_off (s := s) (n := n) (j := j) (offE_c hd hb).1 (offE_c hd hb).2
  have e16 : ∀ x, sU (rlV s (dfA s) n).2 1 1 x 1 6 = s 1 6 := fun x => by rw [sU_j _ _ _ _ (by decide), off 1 6 (by omega)]
  have ed : ∀ x, (sU (rlV s (dfA s) n).2 1 1 x 1 6).toNatClampNeg = dfA s := fun x => by rw [e16]; rfl
  have ho : ∀ x, okE (sU (rlV s (dfA s) n).2 1 1 x) := fun x i hi => by
    show isE (sU (rlV s (dfA s) n).2 1 1 x 4 i).toNatClampNeg
    rw [sU_a _ _ _ _ (by decide), off 4 i (by omega)]
    exact hs i hi
  have hq := ho 0 k hk
  have hlt := isE_ge hq
  have ho2 : okE (sU (sU (sU (rlV s (dfA s) n).2 1 1 0) 4 k (nI (dfA s))) 1 6 (nI (eqA (sU (rlV s (dfA s) n).2 1 1 0) k))) := by
    refine okE_U ?_ (by decide)
    intro i hi
    show isE (sU (sU (rlV s (dfA s) n).2 1 1 0) 4 k (nI (dfA s)) 4 i).toNatClampNeg
    by_cases hik : i = k
    · subst hik
      rw [sU_same, nI_clamp (by have := isE_ge hd; omega)]
      exact hd
    · rw [sU_j _ _ _ _ hik]
      exact ho 0 i hi
  have fd : (s 1 6).toNatClampNeg = dfA s := rfl
  simp only [e11_0, e11_1, e11_4, e11_7, e11_8, e11_9, e11_10, e11_13, e11_14, e11_17, e11_18, e11_21, e11_24, e11_25, e11_26, e11_27, e11_30, e11_31, cq_1, fg_1_0, fg_1_1, fp_1_1, fg_1_2, fp_1_2, fg_1_3, fg_1_4, fg_1_5, fg_1_6, fg_1_7, fp_1_7_0, fp_1_7_1, cq_78, fg_78_0, fg_78_1, cq_3, fg_3_0, fg_3_1, cq_80, fg_80_0, fg_80_1, fg_80_2, fg_80_3, fg_80_4, fg_80_5, fp_80_5, fg_80_6, fp_80_6, fg_80_7, fp_80_7, fg_80_8, fp_80_8, fg_80_9, fp_80_9, cq_94, fg_94_0, fg_94_1, fp_94_1, fg_94_2, fp_94_2, fg_94_3, fp_94_3, fg_94_4, fg_94_5, fg_94_6, fg_94_7, fg_94_8, fg_94_9, fg_94_10, fg_94_11, fg_94_12, fg_94_13, fg_94_14, fg_94_15, fp_94_15_0, fp_94_15_1, fg_94_16, fp_94_16, fg_94_17, fg_94_18, fg_94_19, fg_94_20, fg_94_21, fg_94_22, fg_94_23, fp_1_6, ob, tl1, m_isVariable, bz_eq0, hv, not_true, not_false_eq_true, and_self, if_false, fd, cq_E L s hd, eq_self, hl, r1, dfV]
  by_cases q : (rlV s (dfA s) n).1 = 0
  · rw [if_pos q, if_pos q]
    simp only [e11_34, e11_35, e11_36, e11_39, e11_42, e11_45, e11_47, cq_1, fg_1_0, fg_1_1, fp_1_1, fg_1_2, fp_1_2, fg_1_3, fg_1_4, fg_1_5, fg_1_6, fg_1_7, fp_1_7_0, fp_1_7_1, cq_78, fg_78_0, fg_78_1, cq_3, fg_3_0, fg_3_1, cq_80, fg_80_0, fg_80_1, fg_80_2, fg_80_3, fg_80_4, fg_80_5, fp_80_5, fg_80_6, fp_80_6, fg_80_7, fp_80_7, fg_80_8, fp_80_8, fg_80_9, fp_80_9, cq_94, fg_94_0, fg_94_1, fp_94_1, fg_94_2, fp_94_2, fg_94_3, fp_94_3, fg_94_4, fg_94_5, fg_94_6, fg_94_7, fg_94_8, fg_94_9, fg_94_10, fg_94_11, fg_94_12, fg_94_13, fg_94_14, fg_94_15, fp_94_15_0, fp_94_15_1, fg_94_16, fp_94_16, fg_94_17, fg_94_18, fg_94_19, fg_94_20, fg_94_21, fg_94_22, fg_94_23, fp_1_6, ob, ed, fg_E_3 L _ hd]
  · rw [if_neg q, if_neg q]
    simp only [e11_48, e11_49, e11_52, e11_55, e11_56, e11_57, e11_58, e11_61, e11_62, e11_63, e11_66, e11_69, e11_72, e11_73, e11_76, e11_77, cq_1, fg_1_0, fg_1_1, fp_1_1, fg_1_2, fp_1_2, fg_1_3, fg_1_4, fg_1_5, fg_1_6, fg_1_7, fp_1_7_0, fp_1_7_1, cq_78, fg_78_0, fg_78_1, cq_3, fg_3_0, fg_3_1, cq_80, fg_80_0, fg_80_1, fg_80_2, fg_80_3, fg_80_4, fg_80_5, fp_80_5, fg_80_6, fp_80_6, fg_80_7, fp_80_7, fg_80_8, fp_80_8, fg_80_9, fp_80_9, cq_94, fg_94_0, fg_94_1, fp_94_1, fg_94_2, fp_94_2, fg_94_3, fp_94_3, fg_94_4, fg_94_5, fg_94_6, fg_94_7, fg_94_8, fg_94_9, fg_94_10, fg_94_11, fg_94_12, fg_94_13, fg_94_14, fg_94_15, fp_94_15_0, fp_94_15_1, fg_94_16, fp_94_16, fg_94_17, fg_94_18, fg_94_19, fg_94_20, fg_94_21, fg_94_22, fg_94_23, fp_1_6, ob, tl1, tl0, ed, fg_E_2 L _ hd, cq_3, cq_1, eq_self, m_exchange _ L _ hk hd, fp_1_6 L _ _ (show eqA (sU (rlV s (dfA s) n).2 1 1 0) k < 2147483648 by omega), m_becomeUnready (d + 12) L _ ho2]
theorem m_defineN (d L : Nat) (s : St) {v : Int32} (hv : ¬ (¬ v < 0 ∧ v < 8)) : rn (d + 15) 11 0 [some (.ref 1), some (.int v), none, none] [] (hH L s) = some (some (.int (-1)), hH L s) := by
  simp only [e11_0, e11_1, e11_4, e11_7, e11_8, ob, tl1, m_isVariable, bz_eq0, hv, not_false_eq_true, if_true]
