/-! info -/
theorem g6 (c : Int32) : (6 < c) = ¬ c < 7 := propext (by
  rw [Int32.lt_iff_toInt_lt, Int32.lt_iff_toInt_lt]
  have e1 : (6 : Int32).toInt = 6 := by decide
  have e2 : (7 : Int32).toInt = 7 := by decide
  omega)
theorem if2 {s : St} (h : ∀ k, k < 8 → s 97 k = s (eqA s k) 1) : ∀ (r k : Nat) (a : Int32), k + r = 8 → ifR s 2 r k a = a + cntE s r k
  | 0, k, a, _ => by rw [ifR, cntE, Int32.add_zero]
  | r + 1, k, a, hk => by
    rw [ifR, cntE, if2 h r (k + 1) _ (by omega), if_neg (show ¬ (2 : Int32) = 5 by decide), Int32.add_zero]
    by_cases q : 0 < s 97 k
    · have q' : 0 < s (eqA s k) 1 := by rw [← h k (by omega)]; exact q
      rw [if_pos (Or.inl ⟨rfl, q⟩), if_pos q', Int32.add_assoc]
    · have q' : ¬ 0 < s (eqA s k) 1 := by rw [← h k (by omega)]; exact q
      rw [if_neg (show ¬ ((2 : Int32) = 2 ∧ 0 < s 97 k ∨ (2 : Int32) = 6 ∧ snR s k) from fun z => z.elim (fun y => q y.2) (fun y => absurd y.1 (by decide))), if_neg q', Int32.zero_add]
theorem if5 {s : St} (h : ∀ k, k < 8 → s 97 k = s (eqA s k) 1) : ∀ (r k : Nat) (a : Int32), k + r = 8 → ifR s 5 r k a = a + cntC s r k
  | 0, k, a, _ => by rw [ifR, cntC, Int32.add_zero]
  | r + 1, k, a, hk => by
    rw [ifR, cntC, if5 h r (k + 1) _ (by omega), if_pos rfl, if_neg (show ¬ ((5 : Int32) = 2 ∧ 0 < s 97 k ∨ (5 : Int32) = 6 ∧ snR s k) from fun z => z.elim (fun y => absurd y.1 (by decide)) (fun y => absurd y.1 (by decide))), h k (by omega), Int32.add_assoc]
theorem if6 {s : St} {p : Nat → Bool} (h : ∀ k, k < 8 → (p k = true ↔ snR s k)) : ∀ (r k : Nat), k + r = 8 → ifR s 6 r k (nI (cntB p k)) = nI (cntB p 8)
  | 0, k, hk => by
    have : k = 8 := by omega
    subst this
    rfl
  | r + 1, k, hk => by
    have e : (if (6 : Int32) = 2 ∧ 0 < s 97 k ∨ (6 : Int32) = 6 ∧ snR s k then nI (cntB p k) + 1 else nI (cntB p k)) + (if (6 : Int32) = 5 then s 97 k else 0) = nI (cntB p (k + 1)) := by
      rw [if_neg (show ¬ (6 : Int32) = 5 by decide), Int32.add_zero]
      show _ = nI (cntB p k + (if p k = true then 1 else 0))
      by_cases q : snR s k
      · rw [if_pos (Or.inr ⟨rfl, q⟩), if_pos ((h k (by omega)).mpr q), nI_1]
      · rw [if_neg (show ¬ ((6 : Int32) = 2 ∧ 0 < s 97 k ∨ (6 : Int32) = 6 ∧ snR s k) from fun z => z.elim (fun y => absurd y.1 (by decide)) (fun y => q y.2)), if_neg (fun z => q ((h k (by omega)).mp z)), Nat.add_zero]
    rw [ifR, e]
    exact if6 h r (k + 1) (by omega)
theorem c_info (d L : Nat) {s : St} {c : Nat} (h : Inv s c) (hc : 20 * c < 2147483648) (w : Int32) : ∃ a s1 s2, rn (d + 15) 63 0 [some (.ref 1), some (.int w)] [] (hH L s) = some (some (.int a), hH L s1) ∧ rn (d + 15) 96 0 [some (.ref 94), some (.int w), none, none] [] (hH L s1) = some (some (.int a), hH L s2) ∧ Inv s2 (c + 1) := by
  have h' := h
  have hseen := fun k (hk : k < 8) => (seen_rel h hc hk).1
  obtain ⟨N, isT, en, ip, h1, h2, h3, h4⟩ := h
  have hl : ∀ k, k < 8 → s 97 k = s (eqA s k) 1 := fun k hk => by
    obtain ⟨b1, b2, b3, b4⟩ := h1.2.2.2 k hk
    rw [b1, b3]
  obtain ⟨⟨n, n1, n2, n3, n4⟩, i2, i3, i4, i5, i6⟩ := h2
  refine ⟨_, _, _, m_info (d + 12) L s h1.ok w, ?_, h'.up⟩
  rw [r_info (d + 14) L s w]
  congr 4
  rcases in_n w 7 (by decide) with hw | ⟨j, hj, rfl⟩
  · have hz : w < 0 ∨ 6 < w := by
      rw [g6]
      by_cases y : w < 0
      · exact Or.inl y
      · exact Or.inr (fun z => hw ⟨y, z⟩)
    rw [if_pos hz]
    have ne : ∀ x : Int32, (¬ x < 0 ∧ x < 7) → ¬ w = x := fun x hx z => hw (by rw [z]; exact hx)
    rw [if_neg (ne 0 (by decide)), if_neg (ne 1 (by decide)), if_neg (ne 2 (by decide)), if_neg (ne 3 (by decide)), if_neg (ne 4 (by decide)), if_neg (ne 5 (by decide)), if_neg (ne 6 (by decide))]
  · have hz : ¬ (nI j < 0 ∨ 6 < nI j) := by
      rw [g6]
      exact fun z => z.elim (nI_pos (by omega)) (fun y => y (nI_lt (b := 7) hj (by decide)))
    rw [if_neg hz]
    have hj7 : j = 0 ∨ j = 1 ∨ j = 2 ∨ j = 3 ∨ j = 4 ∨ j = 5 ∨ j = 6 := by omega
    rcases hj7 with rfl | rfl | rfl | rfl | rfl | rfl | rfl
    · exact n3.trans n2.symm
    · exact i2
    · have := if2 hl 8 0 0 (by decide)
      rw [Int32.zero_add] at this
      exact this
    · show (if s 94 15 = 0 then (0 : Int32) else 1) = (if s 1 7 = 0 then 0 else 1)
      rw [i4]
    · show (if s 94 15 = 0 then 0 else s 94 16) = s 80 9
      rw [i4]
      by_cases q : s 1 7 = 0
      · rw [if_pos q, (h3 q).2.2]
      · obtain ⟨_, M, hM, hR⟩ := h4 q
        rw [if_neg q, hR.1, hR.2.1]
    · have := if5 hl 8 0 0 (by decide)
      rw [Int32.zero_add] at this
      exact this
    · have h8 : s8 (s 80 6) := by
        by_cases q : s 1 7 = 0
        · rw [(h3 q).1]
          exact fun u _ => bt_0 u
        · obtain ⟨_, M, hM, hR⟩ := h4 q
          exact hR.2.2.2.2.2.2.1
      show ifR s 6 8 0 0 = bcV (s 80 6)
      rw [s8_bc h8]
      exact if6 hseen 8 0 (by decide)
