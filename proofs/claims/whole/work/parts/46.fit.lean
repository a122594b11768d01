/-! FIT: what the CLOCKS of TERMS are. -/
def fP (t : Nat → Int32) (en : Nat → Nat) (cl : Nat → Int32) (i : Nat) (x : Int32) : Prop :=
  ¬ ((cVar (t i) ∧ ¬ cl (t i - 97).toNatClampNeg = x) ∨ (cInp (t i) ∧ ¬ x = -1) ∨ (t i = 87 ∧ ¬ x = nmF t en i) ∨ (t i = 67 ∧ ¬ x = cl (nmF t en i).toNatClampNeg))
def iC (t : Nat → Int32) (en : Nat → Nat) (cl : Nat → Int32) (i : Nat) (x : Int32) : Int32 := if t i = 87 then cl (nmF t en i).toNatClampNeg else if t i = 67 then nmF t en i else x
/-- CLOCKS handed down from the TERMS before j -/
def CK (t : Nat → Int32) (isT : Nat → Bool) (en : Nat → Nat) (cl : Nat → Int32) (k0 : Int32) (K : Nat → Int32) (j : Nat) : Prop := K 0 = k0 ∧ ∀ i, i < j → isT i = true → ∀ k, k < pcn (t i) → K (ch t en i k) = iC t en cl i (K i)
theorem CK_uni {t : Nat → Int32} {n : Nat} {isT : Nat → Bool} {en : Nat → Nat} {cl : Nat → Int32} {k0 : Int32} {K K' : Nat → Int32} {j : Nat} (h : LineOK t n isT en) (h1 : CK t isT en cl k0 K j) (h2 : CK t isT en cl k0 K' j) : ∀ m i, i ≤ m → i ≤ j → i < n → isT i = true → K i = K' i
  | 0, i, a, b, c, d => by
    have : i = 0 := by omega
    subst this
    exact h1.1.trans h2.1.symm
  | m + 1, i, a, b, c, d => by
    by_cases z : i = 0
    · subst z
      exact h1.1.trans h2.1.symm
    · obtain ⟨o, k, o1, o2, o3, o4⟩ := LK_parent h d c (by omega)
      have ih := CK_uni h h1 h2 m o (by omega) (by omega) (by omega) o2
      rw [o4, h1.2 o (by omega) o2 k o3, h2.2 o (by omega) o2 k o3, ih]
theorem fP_fa {s : St} {e n i : Nat} {isT : Nat → Bool} {en : Nat → Nat} (hi : i < n) (ht : isT i = true) (hL : LineOK (s (e + 1)) n isT en) (h3 : s (e + 3) i = nmF (s (e + 1)) en i) : fa s e i ↔ fP (s (e + 1)) en (s 5) i (s (e + 6) i) := by
  unfold fa fP
  rw [h3]
  by_cases q1 : ¬ s (e + 1) i < 97 ∧ s (e + 1) i < 105
  · have en1 : nmF (s (e + 1)) en i = s (e + 1) i - 97 := if_pos q1
    have n87 : ¬ s (e + 1) i = 87 := fun z => by rw [z] at q1; exact nv87 q1
    have n67 : ¬ s (e + 1) i = 67 := fun z => by rw [z] at q1; exact nv67 q1
    have nin : ¬ cInp (s (e + 1) i) := fun z => z.1 (Int32.lt_trans q1.2 (by decide))
    rw [if_pos (Or.inl q1), en1]
    constructor
    · intro hh
      rintro (⟨_, z⟩ | ⟨z, _⟩ | ⟨z, _⟩ | ⟨z, _⟩)
      · exact z hh.symm
      · exact nin z
      · exact n87 z
      · exact n67 z
    · intro hh
      apply Classical.byContradiction
      intro z
      exact hh (Or.inl ⟨q1, fun y => z y.symm⟩)
  · have nv : ¬ cVar (s (e + 1) i) := q1
    by_cases q2 : s (e + 1) i = 67
    · have n87 : ¬ s (e + 1) i = 87 := by rw [q2]; decide
      have nin : ¬ cInp (s (e + 1) i) := fun z => by rw [q2] at z; exact z.1 (by decide)
      rw [if_pos (Or.inr q2)]
      constructor
      · intro hh
        rintro (⟨z, _⟩ | ⟨z, _⟩ | ⟨z, _⟩ | ⟨_, z⟩)
        · exact nv z
        · exact nin z
        · exact n87 z
        · exact z hh
      · intro hh
        apply Classical.byContradiction
        intro z
        exact hh (Or.inr (Or.inr (Or.inr ⟨q2, z⟩)))
    · rw [if_neg (fun z => z.elim q1 q2)]
      by_cases q3 : ¬ s (e + 1) i < 112 ∧ s (e + 1) i < 116
      · have n87 : ¬ s (e + 1) i = 87 := fun z => by rw [z] at q3; exact q3.1 (by decide)
        rw [if_pos q3]
        constructor
        · intro hh
          rintro (⟨z, _⟩ | ⟨_, z⟩ | ⟨z, _⟩ | ⟨z, _⟩)
          · exact nv z
          · exact z hh
          · exact n87 z
          · exact q2 z
        · intro hh
          apply Classical.byContradiction
          intro z
          exact hh (Or.inr (Or.inl ⟨q3, z⟩))
      · rw [if_neg q3]
        constructor
        · intro hh
          rintro (⟨z, _⟩ | ⟨z, _⟩ | ⟨z, y⟩ | ⟨z, _⟩)
          · exact nv z
          · exact q3 z
          · exact hh.elim (fun w => w z) y
          · exact q2 z
        · intro hh
          by_cases z : s (e + 1) i = 87
          · right
            apply Classical.byContradiction
            intro y
            exact hh (Or.inr (Or.inr (Or.inl ⟨z, y⟩)))
          · exact Or.inl z
/-- the class hands down -/
theorem hcL_6 {e i : Nat} {x : Int32} {t : Nat → Int32} {en : Nat → Nat} : ∀ (r k : Nat) (s : St), (∀ m, k ≤ m → m < k + r → s (e + 2) (3 * i + m) = nI (ch t en i m) ∧ ch t en i m < 24) → (∀ j, (∃ m, k ≤ m ∧ m < k + r ∧ j = ch t en i m) → hcL s e i x r k (e + 6) j = x) ∧ (∀ j, (¬ ∃ m, k ≤ m ∧ m < k + r ∧ j = ch t en i m) → hcL s e i x r k (e + 6) j = s (e + 6) j)
  | 0, k, s, _ => ⟨fun j ⟨m, a, b, _⟩ => absurd b (by omega), fun _ _ => rfl⟩
  | r + 1, k, s, h => by
    obtain ⟨h1, h2⟩ := h k (Nat.le_refl k) (by omega)
    have ek : (s (e + 2) (3 * i + k)).toNatClampNeg = ch t en i k := by rw [h1, nI_clamp (by omega)]
    obtain ⟨a, b⟩ := hcL_6 (e := e) (i := i) (x := x) (t := t) (en := en) r (k + 1) (sU s (e + 6) (ch t en i k) x) (fun m m1 m2 => by rw [sU_n (by omega)]; exact h m (by omega) (by omega))
    have eh : hcL s e i x (r + 1) k = hcL (sU s (e + 6) (ch t en i k) x) e i x r (k + 1) := by rw [hcL, ek]
    rw [eh]
    refine ⟨fun j hj => ?_, fun j hj => ?_⟩
    · by_cases z : ∃ m, k + 1 ≤ m ∧ m < k + 1 + r ∧ j = ch t en i m
      · exact a j z
      · rw [b j z]
        obtain ⟨m, m1, m2, m3⟩ := hj
        have : m = k := by
          apply Classical.byContradiction
          intro y
          exact z ⟨m, by omega, by omega, m3⟩
        subst this
        rw [m3, sU_same]
    · rw [b j (fun ⟨m, m1, m2, m3⟩ => hj ⟨m, by omega, by omega, m3⟩)]
      exact sU_n (fun ⟨_, z⟩ => hj ⟨k, Nat.le_refl k, by omega, z⟩)
/-- what fits makes of an equation -/
theorem fits_ok {e n : Nat} {isT : Nat → Bool} {en : Nat → Nat} {ip : Nat → Bool} {k0 : Int32} {S : St} (hE : EqOK S e n isT en ip) : ∀ (r i : Nat) (s : St), i + r = n → (∀ a j, a ≠ e + 6 → s a j = S a j) → CK (S (e + 1)) isT en (S 5) k0 (s (e + 6)) i → (∀ o, o < i → isT o = true → fP (S (e + 1)) en (S 5) o (s (e + 6) o)) →
    ((ftL e r i s).1 = 1 ∧ CK (S (e + 1)) isT en (S 5) k0 ((ftL e r i s).2 (e + 6)) n ∧ ∀ o, o < n → isT o = true → fP (S (e + 1)) en (S 5) o ((ftL e r i s).2 (e + 6) o)) ∨
    ((ftL e r i s).1 = 0 ∧ ∃ j, j < n ∧ isT j = true ∧ CK (S (e + 1)) isT en (S 5) k0 ((ftL e r i s).2 (e + 6)) j ∧ ¬ fP (S (e + 1)) en (S 5) j ((ftL e r i s).2 (e + 6) j)) := by
  obtain ⟨he, hl, hL, hT, hI, hN, hP, hi0, hip⟩ := hE
  have hr := isE_rng he (show 0 < 9 by decide) (Nat.add_zero e).symm
  have h24 := hL.2.1
  intro r
  induction r with
  | zero =>
    intro i s hi hs hc hf
    have : i = n := by omega
    subst this
    exact Or.inl ⟨rfl, hc, hf⟩
  | succ r ih =>
    intro i s hi hs hc hf
    have hin : i < n := by omega
    have eT : s (e + 4) i = bI (isT i) := by rw [hs _ _ (by omega)]; exact hT i hin
    cases hti : isT i with
    | false =>
      have ef : ftL e (r + 1) i s = ftL e r (i + 1) s := if_pos (by rw [eT, hti]; rfl)
      rw [ef]
      refine ih (i + 1) s (by omega) hs ⟨hc.1, fun o ho ht => ?_⟩ (fun o ho ht => ?_)
      · by_cases z : o = i
        · subst z; rw [hti] at ht; exact absurd ht (by decide)
        · exact hc.2 o (by omega) ht
      · by_cases z : o = i
        · subst z; rw [hti] at ht; exact absurd ht (by decide)
        · exact hf o (by omega) ht
    | true =>
      have e1 : s (e + 1) = S (e + 1) := funext (fun j => hs _ j (by omega))
      have e5 : s 5 = S 5 := funext (fun j => hs _ j (by omega))
      have e3 : s (e + 3) i = nmF (s (e + 1)) en i := by
        rw [e1, hs _ _ (by omega), hN i hin, if_pos hti]
      have hfa := fP_fa hin hti (by rw [e1]; exact hL) e3
      rw [e1, e5] at hfa
      have hz : ¬ s (e + 4) i = 0 := by rw [eT, hti]; decide
      by_cases q : fa s e i
      · have ef : ftL e (r + 1) i s = ftL e r (i + 1) (hcL s e i (hdC s e i) (pcn (s (e + 1) i)) 0) := (if_neg hz).trans (if_pos q)
        have ehd : hdC s e i = iC (S (e + 1)) en (S 5) i (s (e + 6) i) := by
          unfold hdC iC
          rw [e3, e1, e5]
        rw [ef, ehd, e1]
        have hk := hcL_6 (e := e) (i := i) (x := iC (S (e + 1)) en (S 5) i (s (e + 6) i)) (t := S (e + 1)) (en := en) (pcn (S (e + 1) i)) 0 s (fun m m1 m2 => by
          have kd := LK_kid hL hin hti (show m < pcn (S (e + 1) i) by omega)
          have h3 := (pcN_pcn (S (e + 1) i)).2
          refine ⟨?_, by omega⟩
          rw [hs _ _ (by omega), hP i m hin (by omega), if_pos ⟨hti, by omega⟩])
        have keep : ∀ j, (¬ ∃ m, m < pcn (S (e + 1) i) ∧ j = ch (S (e + 1)) en i m) → hcL s e i (iC (S (e + 1)) en (S 5) i (s (e + 6) i)) (pcn (S (e + 1) i)) 0 (e + 6) j = s (e + 6) j := fun j hj => hk.2 j (fun ⟨m, _, b, c⟩ => hj ⟨m, by omega, c⟩)
        have kle : ∀ j, j ≤ i → hcL s e i (iC (S (e + 1)) en (S 5) i (s (e + 6) i)) (pcn (S (e + 1) i)) 0 (e + 6) j = s (e + 6) j := fun j hj => keep j (fun ⟨m, m1, m2⟩ => by have := (LK_kle hL hin hti m1).1; omega)
        refine ih (i + 1) _ (by omega) (fun a j ha => by rw [hcL_off ha]; exact hs a j ha) ⟨by rw [kle 0 (by omega)]; exact hc.1, fun o ho ht k hk2 => ?_⟩ (fun o ho ht => ?_)
        · rw [kle o (by omega)]
          by_cases z : o = i
          · subst z
            exact hk.1 _ ⟨k, by omega, by omega, rfl⟩
          · rw [keep _ (fun ⟨m, m1, m2⟩ => z (LK_inj hL (by omega) ht hk2 hin hti m1 m2))]
            exact hc.2 o (by omega) ht k hk2
        · rw [kle o (by omega)]
          by_cases z : o = i
          · subst z
            exact hfa.mp q
          · exact hf o (by omega) ht
      · have ef : ftL e (r + 1) i s = (0, s) := (if_neg hz).trans (if_neg q)
        rw [ef]
        exact Or.inr ⟨rfl, i, hin, hti, hc, fun z => q (hfa.mpr z)⟩
