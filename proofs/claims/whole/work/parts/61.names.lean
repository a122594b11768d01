/-! Names: rows of the class, characters of the reference. -/
theorem sub97 {c : Int32} {u : Nat} (h : c - 97 = nI u) : c = nI (97 + u) := by
  rw [← a_add, ← h, Int32.add_comm, Int32.sub_add_cancel]
theorem add97 {c : Int32} {u : Nat} (h : c = nI (97 + u)) : c - 97 = nI u := by
  rw [h, ← a_add, Int32.add_comm, Int32.add_sub_cancel]
theorem cVar97 {u : Nat} (hu : u < 8) : cVar (nI (97 + u)) := by
  have : ∀ u : Fin 8, ¬ nI (97 + u.1) < 97 ∧ nI (97 + u.1) < 105 := by decide
  exact this ⟨u, hu⟩
section NAMES
variable {s : St} {e n : Nat} {isT : Nat → Bool} {en : Nat → Nat} {ip : Nat → Bool}
theorem EqOK_nmR (h : EqOK s e n isT en ip) : nmR s e n := by
  obtain ⟨he, hl, hL, hT, hI, hN, hP, hi0, hip⟩ := h
  intro j hj
  rw [hN j hj]
  cases q : isT j with
  | false => exact Or.inl (if_neg (by decide))
  | true =>
    rw [if_pos rfl]
    by_cases q1 : cVar (s (e + 1) j) ∨ s (e + 1) j = 87 ∨ s (e + 1) j = 67
    · refine Or.inr (hL.nm hj q ?_)
      rcases q1 with z | z | z
      · exact Or.inr (Or.inr z)
      · exact Or.inl z
      · exact Or.inr (Or.inl z)
    · refine Or.inl ?_
      rw [nmF_op (fun z => q1 (Or.inr (Or.inl z))) (fun z => q1 (Or.inr (Or.inr z)))]
      exact if_neg (fun z => q1 (Or.inl z))
/-- who names u: a TERM j; where: the place p -/
theorem nm_iff (h : EqOK s e n isT en ip) {u : Nat} (hu : u < 8) {Q : Nat → Prop} {R : Nat → Prop} (h1 : ∀ j, j < n → isT j = true → cVar (s (e + 1) j) → (Q j ↔ R j)) (h2 : ∀ j, j < n → isT j = true → (s (e + 1) j = 87 ∨ s (e + 1) j = 67) → (Q j ↔ R (nmP (s (e + 1)) en j))) : (∃ j, j < n ∧ s (e + 3) j = nI u ∧ Q j) ↔ ∃ p, p < n ∧ s (e + 1) p = nI (97 + u) ∧ R p := by
  obtain ⟨he, hl, hL, hT, hI, hN, hP, hi0, hip⟩ := h
  constructor
  · rintro ⟨j, hj, h3, hq⟩
    rw [hN j hj] at h3
    have tj : isT j = true := by
      cases z : isT j with
      | true => rfl
      | false =>
        rw [z, if_neg (by decide)] at h3
        exact absurd h3.symm (nI_m1 (by omega))
    rw [if_pos tj] at h3
    by_cases q87 : s (e + 1) j = 87
    · have hh := LK_nm hL hj tj (Or.inl q87)
      have ep : nmP (s (e + 1)) en j = en j - 1 := if_pos q87
      rw [nmF87 q87] at h3
      refine ⟨nmP (s (e + 1)) en j, hh.2.1, ?_, (h2 j hj tj (Or.inl q87)).mp hq⟩
      rw [ep]
      exact sub97 h3
    · by_cases q67 : s (e + 1) j = 67
      · have hh := LK_nm hL hj tj (Or.inr q67)
        have ep : nmP (s (e + 1)) en j = j + 1 := if_neg q87
        rw [nmF67 q67] at h3
        refine ⟨nmP (s (e + 1)) en j, hh.2.1, ?_, (h2 j hj tj (Or.inr q67)).mp hq⟩
        rw [ep]
        exact sub97 h3
      · rw [nmF_op q87 q67] at h3
        by_cases qv : ¬ s (e + 1) j < 97 ∧ s (e + 1) j < 105
        · rw [if_pos qv] at h3
          exact ⟨j, hj, sub97 h3, (h1 j hj tj qv).mp hq⟩
        · rw [if_neg qv] at h3
          exact absurd h3.symm (nI_m1 (by omega))
  · rintro ⟨p, hp, h3, hq⟩
    have cv : cVar (s (e + 1) p) := by rw [h3]; exact cVar97 hu
    cases tp : isT p with
    | true =>
      refine ⟨p, hp, ?_, (h1 p hp tp cv).mpr hq⟩
      rw [hN p hp, if_pos tp]
      have : nmF (s (e + 1)) en p = s (e + 1) p - 97 := if_pos cv
      rw [this]
      exact add97 h3
    | false =>
      obtain ⟨_, o, ho, to, hw⟩ := LK_own hL hp tp
      have hq2 : s (e + 1) o = 87 ∨ s (e + 1) o = 67 := hw.elim (fun z => Or.inr z.1) (fun z => Or.inl z.1)
      have ep : nmP (s (e + 1)) en o = p := by
        rcases hw with ⟨z1, z2⟩ | ⟨z1, z2⟩
        · have : nmP (s (e + 1)) en o = o + 1 := if_neg (by rw [z1]; decide)
          omega
        · have : nmP (s (e + 1)) en o = en o - 1 := if_pos z1
          omega
      refine ⟨o, ho, ?_, (h2 o ho to hq2).mpr (by rw [ep]; exact hq)⟩
      rw [hN o ho, if_pos to]
      rcases hw with ⟨z1, z2⟩ | ⟨z1, z2⟩
      · rw [nmF67 z1, ← z2]
        exact add97 h3
      · rw [nmF87 z1, ← z2]
        exact add97 h3
end NAMES
