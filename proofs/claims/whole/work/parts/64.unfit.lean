/-! Who does not FIT: the class. -/
/-- the equation of v FITS with the CLOCKS K -/
def FT (S : St) (N : Nat → Nat) (isT : Nat → Nat → Bool) (en : Nat → Nat → Nat) (v : Nat) (K : Nat → Int32) : Prop := CK (S (eqA S v + 1)) (isT v) (en v) (S 5) (S 5 v) K (N v) ∧ ∀ o, o < N v → isT v o = true → fP (S (eqA S v + 1)) (en v) (S 5) o (K o)
def UF (S : St) (N : Nat → Nat) (isT : Nat → Nat → Bool) (en : Nat → Nat → Nat) (v : Nat) : Prop := 0 < N v ∧ ¬ ∃ K, FT S N isT en v K
theorem CK_le {t : Nat → Int32} {isT : Nat → Bool} {en : Nat → Nat} {cl : Nat → Int32} {k0 : Int32} {K : Nat → Int32} {j n : Nat} (h : CK t isT en cl k0 K n) (hj : j ≤ n) : CK t isT en cl k0 K j := ⟨h.1, fun i hi => h.2 i (by omega)⟩
theorem CK_ext {t : Nat → Int32} {isT : Nat → Bool} {en : Nat → Nat} {cl : Nat → Int32} {k0 : Int32} {K K' : Nat → Int32} {n : Nat} (h : CK t isT en cl k0 K n) (e : ∀ j, K' j = K j) : CK t isT en cl k0 K' n := by
  have : K' = K := funext e
  rw [this]
  exact h
section UNF
variable {S : St} {N : Nat → Nat} {isT : Nat → Nat → Bool} {en : Nat → Nat → Nat} {ip : Nat → Nat → Bool}
theorem EqOK_6 {s : St} {e n : Nat} {isT : Nat → Bool} {en : Nat → Nat} {ip : Nat → Bool} (h : EqOK S e n isT en ip) (hs : only6 S s) : EqOK s e n isT en ip := by
  have e0 := hs.E (j := 1) h.1 (show 0 < 9 by decide) (by decide)
  rw [Nat.add_zero] at e0
  exact EqOK_of h e0 (fun i j _ hi => hs.E h.1 (by omega) (by omega))
theorem luF_ok (h : IE S N isT en ip) : ∀ (r k : Nat) (s : St), k + r = 8 → only6 S s →
    (luF r k s).1 = fI (fst_ (UF S N isT en) r k) ∧ only6 S (luF r k s).2 ∧ (∀ v j, v < k → (luF r k s).2 (eqA S v + 6) j = s (eqA S v + 6) j) ∧ (fst_ (UF S N isT en) r k = none → ∀ v, k ≤ v → v < 8 → 0 < N v → FT S N isT en v ((luF r k s).2 (eqA S v + 6)))
  | 0, k, s, hk, hs => ⟨rfl, hs, fun _ _ _ => rfl, fun _ v a b => by omega⟩
  | r + 1, k, s, hk, hs => by
    have hk8 : k < 8 := by omega
    have he := h.ok k hk8
    have ea : eqA s k = eqA S k := hs.eqA k
    have e0 := hs.E (j := 1) he (show 0 < 9 by decide) (by decide)
    rw [Nat.add_zero] at e0
    have e5 : s 5 = S 5 := funext (fun j => hs 5 j (fun ⟨e, he, z⟩ => by have := isE_ge he; omega))
    obtain ⟨l1, l2, l3, l4, l5⟩ := IE_len h hk8
    have el : ln_ s (eqA S k) = N k := by
      rw [← l1]
      unfold ln_
      rw [e0]
    rw [luF, ea, e0, el, e5]
    by_cases q : 0 < S (eqA S k) 1
    · have hN := l3.mp q
      rw [if_pos q]
      have hE := ((h.2.2.2 k hk8).2.2.2 hN).1
      have hL := hE.2.2.1
      have hsU : only6 S (sU s (eqA S k + 6) 0 (S 5 k)) := fun a j ha => by
        rw [sU_n (fun z => ha ⟨_, he, z.1⟩)]
        exact hs a j ha
      have e1 : sU s (eqA S k + 6) 0 (S 5 k) (eqA S k + 1) = S (eqA S k + 1) := funext (fun j => hsU.E he (by decide) (by decide))
      have f := fits_ok (k0 := S 5 k) (EqOK_6 hE hsU) (N k) 0 (sU s (eqA S k + 6) 0 (S 5 k)) (by omega) (fun _ _ _ => rfl) ⟨sU_same _ _ _ _, fun _ z => absurd z (by omega)⟩ (fun _ z => absurd z (by omega))
      have e5' : sU s (eqA S k + 6) 0 (S 5 k) 5 = S 5 := funext (fun j => hsU 5 j (fun ⟨e, he, z⟩ => by have := isE_ge he; omega))
      rw [e1, e5'] at f
      have ho : only6 S (ftL (eqA S k) (N k) 0 (sU s (eqA S k + 6) 0 (S 5 k))).2 := fun a j ha => by
        rw [ftL_off (fun z => ha ⟨_, he, z⟩)]
        exact hsU a j ha
      have oth : ∀ v j, v < 8 → v ≠ k → (ftL (eqA S k) (N k) 0 (sU s (eqA S k + 6) 0 (S 5 k))).2 (eqA S v + 6) j = s (eqA S v + 6) j := fun v j hv hvk => by
        have hne : eqA S v + 6 ≠ eqA S k + 6 := fun z => hvk (h.2.2.1 v k hv hk8 (by omega))
        rw [ftL_off hne, sU_n (fun z => hne z.1)]
      rcases f with ⟨f1, f2, f3⟩ | ⟨f1, j, j1, j2, j3, j4⟩
      · have hP : ¬ UF S N isT en k := fun z => z.2 ⟨_, f2, f3⟩
        rw [if_neg (by rw [f1]; decide), fst_n hP]
        obtain ⟨a1, a2, a3, a4⟩ := luF_ok h r (k + 1) _ (by omega) ho
        refine ⟨a1, a2, fun v j hv => ?_, fun hn v v1 v2 v3 => ?_⟩
        · rw [a3 v j (by omega), oth v j (by omega) (by omega)]
        · by_cases z : v = k
          · subst z
            have : (luF r (v + 1) (ftL (eqA S v) (N v) 0 (sU s (eqA S v + 6) 0 (S 5 v))).2).2 (eqA S v + 6) = (ftL (eqA S v) (N v) 0 (sU s (eqA S v + 6) 0 (S 5 v))).2 (eqA S v + 6) := funext (fun j => a3 v j (by omega))
            rw [this]
            exact ⟨f2, f3⟩
          · exact a4 hn v (by omega) v2 v3
      · have hP : UF S N isT en k := by
          refine ⟨hN, fun ⟨K, k1, k2⟩ => j4 ?_⟩
          rw [← CK_uni hL (CK_le k1 (by omega)) j3 j j (Nat.le_refl j) (Nat.le_refl j) j1 j2]
          exact k2 j j1 j2
        rw [if_pos f1, fst_p hP]
        exact ⟨rfl, ho, fun v j hv => oth v j (by omega) (by omega), fun z => absurd z (by simp)⟩
    · have hP : ¬ UF S N isT en k := fun z => q (l3.mpr z.1)
      rw [if_neg q, fst_n hP]
      obtain ⟨a1, a2, a3, a4⟩ := luF_ok h r (k + 1) s (by omega) hs
      refine ⟨a1, a2, fun v j hv => a3 v j (by omega), fun hn v v1 v2 v3 => ?_⟩
      by_cases z : v = k
      · subst z
        exact absurd (l3.mpr v3) q
      · exact a4 hn v (by omega) v2 v3
end UNF
