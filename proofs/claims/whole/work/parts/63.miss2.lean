/-! Missing: both. -/
theorem lmW_ok {s : St} {u : Nat} : ∀ (r k : Nat) (w : Int32), k + r = 8 → (bt (lmW s r k w) u = true ↔ bt w u = true ∨ ∃ v, k ≤ v ∧ v < 8 ∧ 0 < s (eqA s v) 1 ∧ (bt (anL s (eqA s v) (ln_ s (eqA s v)) 0 0) u = true ∨ bt (ckS s v) u = true))
  | 0, k, w, hk => ⟨fun h => Or.inl h, fun h => h.elim id (fun ⟨v, a, b, _⟩ => by omega)⟩
  | r + 1, k, w, hk => by
    rw [lmW, lmW_ok r (k + 1) _ (by omega)]
    by_cases q : 0 < s (eqA s k) 1
    · rw [if_pos q, bt_or, bt_or, Bool.or_eq_true, Bool.or_eq_true]
      constructor
      · rintro ((z | z) | ⟨v, a, b, c⟩)
        · exact Or.inl z
        · exact Or.inr ⟨k, Nat.le_refl k, by omega, q, z⟩
        · exact Or.inr ⟨v, by omega, b, c⟩
      · rintro (z | ⟨v, a, b, c⟩)
        · exact Or.inl (Or.inl z)
        · by_cases y : v = k
          · subst y
            exact Or.inl (Or.inr c.2)
          · exact Or.inr ⟨v, by omega, b, c⟩
    · rw [if_neg q]
      constructor
      · rintro (z | ⟨v, a, b, c⟩)
        · exact Or.inl z
        · exact Or.inr ⟨v, by omega, b, c⟩
      · rintro (z | ⟨v, a, b, c⟩)
        · exact Or.inl z
        · by_cases y : v = k
          · subst y
            exact absurd c.1 q
          · exact Or.inr ⟨v, by omega, b, c⟩
section MISS
variable {s : St} {N : Nat → Nat} {isT : Nat → Nat → Bool} {en : Nat → Nat → Nat} {ip : Nat → Nat → Bool}
theorem IE_len (h : IE s N isT en ip) {v : Nat} (hv : v < 8) : ln_ s (eqA s v) = N v ∧ lR s v = N v ∧ (0 < s (eqA s v) 1 ↔ 0 < N v) ∧ (0 < s 97 v ↔ 0 < N v) ∧ (s 97 v = 0 ↔ N v = 0) := by
  obtain ⟨b1, b2, b3, b4⟩ := h.2.2.2 v hv
  unfold ln_ lR
  rw [b1, b3, nI_clamp (by omega)]
  exact ⟨rfl, rfl, nI_p (by omega), nI_p (by omega), nI_z (by omega)⟩
theorem names_in (h : IE s N isT en ip) {v u : Nat} (hv : v < 8) (hu : u < 8) (hN : 0 < N v) : bt (anL s (eqA s v) (N v) 0 0) u = true ↔ mi1 s u v 0 := by
  obtain ⟨b1, b2, b3, b4⟩ := h.2.2.2 v hv
  obtain ⟨d1, d2, d3⟩ := b4 hN
  have hl := (IE_len h hv).2.1
  rw [anL_ok (EqOK_nmR d1) hu (N v) 0 0 (by omega), bt_0]
  have key := nm_iff d1 hu (Q := fun _ => True) (R := fun _ => True) (fun _ _ _ _ => Iff.rfl) (fun _ _ _ _ => Iff.rfl)
  unfold mi1
  rw [hl]
  constructor
  · rintro (z | ⟨j, _, a, b⟩)
    · exact absurd z (by decide)
    · obtain ⟨p, p1, p2, _⟩ := key.mp ⟨j, a, b, trivial⟩
      exact ⟨p, by omega, p1, by rw [d3 p p1]; exact p2⟩
  · rintro ⟨p, _, p1, p2⟩
    rw [d3 p p1] at p2
    obtain ⟨j, j1, j2, _⟩ := key.mpr ⟨p, p1, p2, trivial⟩
    exact Or.inr ⟨j, by omega, j1, j2⟩
theorem miss_rel (h : IE s N isT en ip) (hc : ∀ k, k < 8 → s 105 k = s 5 k ∧ clk (s 5 k)) : lmF s (lmW s 8 0 0) 8 0 = fI (fst_ (msR s) 8 0) := by
  rw [lmF_fst 8 0 (by decide)]
  congr 1
  refine fst_congr 8 0 (fun u _ hu => ?_)
  have hu8 : u < 8 := by omega
  rw [lmW_ok 8 0 0 (by decide), bt_0, (IE_len h hu8).2.2.1]
  unfold msR mi2
  rw [(IE_len h hu8).2.2.2.1]
  constructor
  · rintro ⟨z | ⟨v, _, a, b, c⟩, q⟩
    · exact absurd z (by decide)
    · obtain ⟨l1, l2, l3, l4, l5⟩ := IE_len h a
      have hN := l3.mp b
      refine ⟨q, v, by omega, a, fun z => by have := l5.mp z; omega, ?_⟩
      rw [l1] at c
      rcases c with c | c
      · exact Or.inr ((names_in h a hu8 hN).mp c)
      · exact Or.inl (by rw [(hc v a).1]; exact (ckS_ok (hc v a).2 hu8).mp c)
  · rintro ⟨q, v, _, a, b, c⟩
    obtain ⟨l1, l2, l3, l4, l5⟩ := IE_len h a
    have hN : 0 < N v := by
      apply Classical.byContradiction
      intro z
      exact b (l5.mpr (by omega))
    refine ⟨Or.inr ⟨v, by omega, a, l3.mpr hN, ?_⟩, q⟩
    rw [l1]
    rcases c with c | c
    · exact Or.inr ((ckS_ok (hc v a).2 hu8).mpr (by rw [← (hc v a).1]; exact c))
    · exact Or.inl ((names_in h a hu8 hN).mpr c)
theorem ring_rel (h : IE s N isT en ip) (hc : ∀ k, k < 8 → s 105 k = s 5 k ∧ clk (s 5 k)) : lrF s 8 0 = fI (fst_ (fun k => 0 < s 97 k ∧ crR s k 8 (s 105 k)) 8 0) := by
  rw [lrF_fst 8 0]
  congr 1
  refine fst_congr 8 0 (fun u _ hu => ?_)
  have hu8 : u < 8 := by omega
  obtain ⟨l1, l2, l3, l4, l5⟩ := IE_len h hu8
  rw [l3, l4, (hc u hu8).1, ring_ok hu8 hc 7 (s 5 u) (hc u hu8).2]
end MISS
