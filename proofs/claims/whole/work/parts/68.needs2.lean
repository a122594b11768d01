/-! Direct needs of both. -/
theorem noL_congr {s s' : St} {e : Nat} (h3 : ∀ j, s' (e + 3) j = s (e + 3) j) (h5 : ∀ j, s' (e + 5) j = s (e + 5) j) : ∀ (r i : Nat) (w : Int32), noL s' e r i w = noL s e r i w
  | 0, _, _ => rfl
  | r + 1, i, w => by
    rw [noL, noL, noL_congr h3 h5 r, h3, h5]
theorem ndV_congr {s s' : St} (hs : okE s) (h : only79 s s') {k : Nat} (hk : k < 8) : ndV s' k = ndV s k := by
  have he := hs k hk
  have ea : eqA s' k = eqA s k := eqA_of (h 4 k (by decide))
  have r := fun i (hi : i < 9) => isE_rng he hi rfl
  have r0 := r 0 (by decide)
  have r3 := r 3 (by decide)
  have r5 := r 5 (by decide)
  unfold ndV ckS ln_
  rw [ea, h _ 1 (by omega), h 5 k (by decide), noL_congr (fun j => h _ j (by omega)) (fun j => h _ j (by omega))]
theorem gn1_79 : ∀ (r k : Nat) (s : St), okE s → k + r = 8 → ∀ j, gn1 r k s 79 j = if k ≤ j ∧ j < 8 then ndV s j else s 79 j
  | 0, k, s, _, hk, j => by rw [if_neg (by omega)]; rfl
  | r + 1, k, s, hs, hk, j => by
    have o : only79 s (sU s 79 k (ndV s k)) := only79_U s k _
    have hs' : okE (sU s 79 k (ndV s k)) := okE_U hs (by decide)
    rw [gn1, gn1_79 r (k + 1) _ hs' (by omega)]
    by_cases z : k + 1 ≤ j ∧ j < 8
    · rw [if_pos z, if_pos (by omega), ndV_congr hs o z.2]
    · rw [if_neg z]
      by_cases y : j = k
      · subst y
        rw [sU_same, if_pos (by omega)]
      · rw [sU_n (by omega), if_neg (by omega)]
theorem ckS_hi {s : St} {k u : Nat} (hc : clk (s 5 k)) (hu : 8 ≤ u) : bt (ckS s k) u = false := by
  unfold ckS
  rcases hc with h | ⟨j, hj, h⟩
  · rw [if_pos h, bt_0]
  · rw [if_neg (by rw [h]; exact nI_m1 (by omega)), h]
    by_cases z : u < 32
    · rw [bt_1 (by omega) z, decide_eq_false (by omega)]
    · unfold bt
      exact BitVec.getLsbD_of_ge _ _ (by omega)
theorem noL_hi {s : St} {e n u : Nat} (hr : nmR s e n) (hu : 8 ≤ u) : ∀ (r i : Nat) (w : Int32), i + r = n → bt w u = false → bt (noL s e r i w) u = false
  | 0, i, w, hi, h => h
  | r + 1, i, w, hi, h => by
    rw [noL]
    refine noL_hi hr hu r (i + 1) _ (by omega) ?_
    by_cases hq : s (e + 3) i = -1 ∨ ¬ s (e + 5) i = 0
    · rw [if_pos hq]
      exact h
    · rw [if_neg hq]
      obtain ⟨k, hk, h3⟩ := (hr i (by omega)).resolve_left (fun z => hq (Or.inl z))
      rw [h3, bt_or, h]
      by_cases z : u < 32
      · rw [bt_1 (by omega) z, decide_eq_false (by omega)]
        rfl
      · unfold bt
        rw [BitVec.getLsbD_of_ge _ _ (by omega)]
        rfl
section ND
variable {s : St} {N : Nat → Nat} {isT : Nat → Nat → Bool} {en : Nat → Nat → Nat} {ip : Nat → Nat → Bool}
theorem gn1_B (h : IE s N isT en ip) (hc : ∀ k, k < 8 → clk (s 5 k)) (v u : Nat) : B79 (gn1 8 0 s) v u ↔ Dc s N v u := by
  unfold B79 Dc
  by_cases hv : v < 8
  · by_cases hu : u < 8
    · obtain ⟨l1, l2, l3, l4, l5⟩ := IE_len h hv
      rw [gn1_79 8 0 s h.ok (by decide), if_pos (by omega)]
      unfold ndV
      by_cases q : 0 < s (eqA s v) 1
      · have hN := l3.mp q
        have hE := ((h.2.2.2 v hv).2.2.2 hN).1
        rw [if_pos q, bt_or, Bool.or_eq_true, ckS_ok (hc v hv) hu, l1, noL_ok (EqOK_nmR hE) hu (N v) 0 0 (by omega), bt_0]
        constructor
        · rintro ⟨_, _, (z | ⟨j, _, a⟩) | z⟩
          · exact absurd z (by decide)
          · exact ⟨hv, hu, hN, Or.inl ⟨j, a⟩⟩
          · exact ⟨hv, hu, hN, Or.inr z⟩
        · rintro ⟨_, _, _, ⟨j, a⟩ | z⟩
          · exact ⟨hv, hu, Or.inl (Or.inr ⟨j, by omega, a⟩)⟩
          · exact ⟨hv, hu, Or.inr z⟩
      · rw [if_neg q, bt_0]
        exact ⟨fun z => absurd z.2.2 (by decide), fun z => absurd (l3.mpr z.2.2.1) q⟩
    · exact ⟨fun z => absurd z.2.1 hu, fun z => absurd z.2.1 hu⟩
  · exact ⟨fun z => absurd z.1 hv, fun z => absurd z.1 hv⟩
theorem gn1_r8 (h : IE s N isT en ip) (hc : ∀ k, k < 8 → clk (s 5 k)) : r8 (gn1 8 0 s) := by
  intro v hv u hu
  obtain ⟨l1, l2, l3, l4, l5⟩ := IE_len h hv
  rw [gn1_79 8 0 s h.ok (by decide), if_pos (by omega)]
  unfold ndV
  by_cases q : 0 < s (eqA s v) 1
  · have hN := l3.mp q
    have hE := ((h.2.2.2 v hv).2.2.2 hN).1
    rw [if_pos q, bt_or, ckS_hi (hc v hv) hu, l1, noL_hi (EqOK_nmR hE) hu (N v) 0 0 (by omega) (bt_0 u)]
    rfl
  · rw [if_neg q, bt_0]
end ND
