/-! Who does not FIT: the reference. -/
section CONG
variable {t t' : Nat → Int32} {n : Nat} {isT : Nat → Bool} {en : Nat → Nat} {cl cl' : Nat → Int32}
theorem nmF_congr (h : LineOK t n isT en) (ht : ∀ j, j < n → t' j = t j) {i : Nat} (hi : i < n) (hT : isT i = true) : nmF t' en i = nmF t en i := by
  have a := h.2.2.2.2.2 i hi hT
  unfold nmF
  rw [ht i hi]
  by_cases q : ¬ t i < 97 ∧ t i < 105
  · rw [if_pos q, if_pos q]
  · rw [if_neg q, if_neg q]
    by_cases q2 : t i = 87
    · have b := LK_en h hi hT
      rw [if_pos q2, if_pos q2, ht _ (by omega)]
    · rw [if_neg q2, if_neg q2]
      by_cases q3 : t i = 67
      · rw [if_pos q3, if_pos q3, ht _ (a.2.2.2.2.1 q3).1]
      · rw [if_neg q3, if_neg q3]
theorem iC_congr (h : LineOK t n isT en) (ht : ∀ j, j < n → t' j = t j) (hc : ∀ k, k < 8 → cl' k = cl k) {i : Nat} (hi : i < n) (hT : isT i = true) (x : Int32) : iC t' en cl' i x = iC t en cl i x := by
  unfold iC
  rw [ht i hi, nmF_congr h ht hi hT]
  by_cases q : t i = 87
  · obtain ⟨j, hj, e⟩ := h.nm hi hT (Or.inl q)
    rw [if_pos q, if_pos q, e, nI_clamp (by omega), hc j hj]
  · rw [if_neg q, if_neg q]
theorem fP_congr (h : LineOK t n isT en) (ht : ∀ j, j < n → t' j = t j) (hc : ∀ k, k < 8 → cl' k = cl k) {i : Nat} (hi : i < n) (hT : isT i = true) (x : Int32) : fP t' en cl' i x ↔ fP t en cl i x := by
  unfold fP
  rw [ht i hi, nmF_congr h ht hi hT]
  by_cases qv : cVar (t i)
  · obtain ⟨k, hk, ek⟩ := var_k qv
    rw [ek, nI_clamp (by omega), hc k hk]
    have n67 : ¬ t i = 67 := fun z => by rw [z] at qv; exact nv67 qv
    simp only [n67, false_and, or_false]
  · by_cases q67 : t i = 67
    · obtain ⟨j, hj, e⟩ := h.nm hi hT (Or.inr (Or.inl q67))
      rw [e, nI_clamp (by omega), hc j hj]
      simp only [qv, false_and, false_or]
    · simp only [qv, q67, false_and, false_or, or_false]
theorem CK_congr {k0 : Int32} {K : Nat → Int32} (h : LineOK t n isT en) (ht : ∀ j, j < n → t' j = t j) (hc : ∀ k, k < 8 → cl' k = cl k) (hK : CK t isT en cl k0 K n) : CK t' isT en cl' k0 K n := by
  refine ⟨hK.1, fun i hi hT k hk => ?_⟩
  rw [ht i hi] at hk
  rw [ch_congr (ht i hi), iC_congr h ht hc hi hT]
  exact hK.2 i hi hT k hk
end CONG
theorem fcL_rng {v i y : Nat} {t : Nat → Int32} {en : Nat → Nat} {x : Int32} (hy : ¬ (24 * v ≤ y ∧ y < 24 * v + 24)) : ∀ (r k : Nat) (s : St), (∀ m, k ≤ m → m < k + r → ch t en i m < 24) → fcL v t en i x r k s 99 y = s 99 y ∧ fcL v t en i x r k s 100 y = s 100 y
  | 0, _, _, _ => ⟨rfl, rfl⟩
  | r + 1, k, s, h => by
    have hk := h k (Nat.le_refl k) (by omega)
    obtain ⟨a, b⟩ := fcL_rng (v := v) (i := i) (y := y) (t := t) (en := en) (x := x) hy r (k + 1) (sU (sU s 99 (24 * v + ch t en i k) x) 100 (24 * v + ch t en i k) (s 100 (24 * v + i) + (if t i = 80 then 1 else 0))) (fun m m1 m2 => h m (by omega) (by omega))
    rw [fcL, a, b]
    exact ⟨by rw [sU_n (by omega), sU_n (by omega)], by rw [sU_n (by omega), sU_n (by omega)]⟩
theorem ffR_rng {S : St} {v n y : Nat} {isT : Nat → Bool} {en : Nat → Nat} (hL : LineOK (tR S v) n isT en) (hy : ¬ (24 * v ≤ y ∧ y < 24 * v + 24)) : ∀ (r i : Nat) (b : Int32) (s : St), i + r = n → onlyF S s → (ffR v isT en r i b s).2 99 y = s 99 y ∧ (ffR v isT en r i b s).2 100 y = s 100 y
  | 0, _, _, _, _, _ => ⟨rfl, rfl⟩
  | r + 1, i, b, s, hi, hs => by
    have hin : i < n := by omega
    have h24 := hL.2.1
    cases hti : isT i with
    | false =>
      have e2 : ffR v isT en (r + 1) i b s = ffR v isT en r (i + 1) b s := if_neg (by rw [hti]; decide)
      rw [e2]
      exact ffR_rng hL hy r (i + 1) b s (by omega) hs
    | true =>
      have e2 : ffR v isT en (r + 1) i b s = ffR v isT en r (i + 1) (cI (nf s v en i) b) (fs v en i s) := if_pos hti
      rw [e2]
      obtain ⟨a1, a2⟩ := ffR_rng hL hy r (i + 1) (cI (nf s v en i) b) (fs v en i s) (by omega) (hs.tr onlyF_fs)
      rw [a1, a2]
      have ht : tR s v = tR S v := hs.tR v
      have f := fcL_rng (v := v) (i := i) (t := tR S v) (en := en) (x := inR s v en i) hy (pcn (tR S v i)) 0 s (fun m _ m2 => by have := LK_kid hL hin hti (show m < pcn (tR S v i) by omega); omega)
      unfold fs
      rw [ht]
      unfold fw
      by_cases q : tR S v i = 87
      · have := (LK_en hL hin hti).2
        have := (LK_en hL hin hti).1
        rw [if_pos q, sU_n (by omega), sU_n (by omega)]
        exact f
      · rw [if_neg q]
        by_cases q2 : tR S v i = 67
        · have := (hL.2.2.2.2.2 i hin hti).2.2.2.2.1 q2
          rw [if_pos q2, sU_n (by omega), sU_n (by omega)]
          exact f
        · rw [if_neg q2]
          exact f
