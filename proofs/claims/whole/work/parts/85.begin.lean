/-! Where the law begins, and that it answers yes. -/
theorem s0_eqA (f : Nat → Int32) {k : Nat} (hk : k < 8) : eqA (s0 f) k = 6 + 9 * k := by
  have e1 : s0 f 4 k = nI (6 + 9 * k) := by
    unfold s0
    rw [if_neg (by omega), if_pos rfl, if_pos hk]
  show (s0 f 4 k).toNatClampNeg = _
  rw [e1, nI_clamp (by omega)]
theorem s0_dfA (f : Nat → Int32) : dfA (s0 f) = 85 := by
  have e1 : s0 f 1 6 = 85 := rfl
  show (s0 f 1 6).toNatClampNeg = _
  rw [e1]
  decide
theorem Inv_0 (f : Nat → Int32) : Inv (s0 f) 0 := by
  have e5 : ∀ k, k < 8 → s0 f 5 k = -1 ∧ s0 f 105 k = -1 := fun k hk => by
    unfold s0 Ck
    rw [if_neg (by omega), if_neg (by omega), if_pos (Or.inl rfl), if_pos hk, if_neg (by omega), if_neg (by omega), if_pos (Or.inr rfl)]
    exact ⟨rfl, rfl⟩
  have e17 : s0 f 1 7 = 0 := s0_z (by omega)
  refine ⟨fun _ => 0, fun _ _ => true, fun _ _ => 0, fun _ _ => false, ⟨?_, fun k hk => ?_, fun k j hk hj h => ?_, fun v hv => ?_⟩, ⟨⟨0, by omega, s0_z (by omega), s0_z (by omega), fun i hi => absurd hi (by omega)⟩, rfl, Or.inl e17, ?_, fun k hk => ?_, fun k hk => ?_⟩, fun _ => ⟨s0_z (by omega), fun k hk => s0_z (by omega), s0_z (by omega)⟩, fun z => absurd e17 z⟩
  · rw [s0_dfA]
    unfold isE
    omega
  · rw [s0_eqA f hk, s0_dfA]
    exact ⟨isE_9 hk, by omega⟩
  · rw [s0_eqA f hk, s0_eqA f hj] at h
    omega
  · refine ⟨s0_z (by omega), Nat.zero_le 24, ?_, fun z => absurd z (Nat.lt_irrefl 0)⟩
    rw [s0_eqA f hv]
    exact s0_z (by omega)
  · rw [e17]
    exact s0_z (by omega)
  · rw [(e5 k hk).1, (e5 k hk).2]
    exact ⟨rfl, Or.inl rfl⟩
  · rw [s0_z (by omega), s0_z (by omega)]
theorem law_ok (d L : Nat) (hL : L ≤ 1536) (f : Nat → Int32) : ∃ s', rn (d + 16) 97 0 [some (.ref 0), none, none, none] [] (HP 1 0 (hp L (s0 f))) = some (some (.int 1), hH L s') := by
  have hf := i_face (d + 7) L f
  have hm := i_model (d + 9) L f
  obtain ⟨h', hl⟩ := law_loop d L hL L 0 0 (s0 f) rfl (by omega) (by omega) (Inv_0 f)
  refine ⟨h', ?_⟩
  rw [e97_0, HP_1, HP_new, e97_3, e97_4, hf, ob]
  dsimp only
  rw [tl0, e97_7, e97_8, HP_1, HP_new, e97_11, e97_12, hm, ob]
  dsimp only
  rw [tl0, e97_15, e97_16, e97_17, HP_hH]
  exact hl
