/-! define: a good line -/
/-- what the class holds behind a good line -/
theorem def_S {s : St} {N : Nat → Nat} {isT : Nat → Nat → Bool} {en : Nat → Nat → Nat} {ip : Nat → Nat → Bool} (h1 : IE s N isT en ip) {k n : Nat} (hk : k < 8) (h0 : ¬ (rlV s (dfA s) n).1 = 0) :
    (dfV s k n).1 = (rlV s (dfA s) n).2 (dfA s) 2 ∧ IZ (dfV s k n).2 ∧ eqA (dfV s k n).2 k = dfA s ∧ dfA (dfV s k n).2 = eqA s k ∧ (∀ v, v < 8 → v ≠ k → eqA (dfV s k n).2 v = eqA s v) ∧ (∀ i j, i < 8 → (dfV s k n).2 (dfA s + i) j = (rlV s (dfA s) n).2 (dfA s + i) j) ∧
    (∀ v i j, v < 8 → i < 8 → (dfV s k n).2 (eqA s v + i) j = s (eqA s v + i) j) ∧ (dfV s k n).2 1 1 = 0 ∧ (dfV s k n).2 1 7 = 0 ∧ (∀ a j, (a = 1 ∧ j = 2) ∨ a = 2 ∨ a = 5 ∨ a = 81 ∨ 94 ≤ a → (dfV s k n).2 a j = s a j) := by
  have hd := h1.1
  have off := fun (b j : Nat) (hb : b < 6 ∨ (78 ≤ b ∧ b ≤ 84) ∨ 94 ≤ b) => rlV_off (s := s) (n := n) (j := j) (offE_c hd hb).1 (offE_c hd hb).2
  have hV : dfV s k n = (sU (rlV s (dfA s) n).2 1 1 0 (dfA s) 2, sRst (sU (sU (sU (sU (rlV s (dfA s) n).2 1 1 0) 4 k (nI (dfA s))) 1 6 (nI (eqA (sU (rlV s (dfA s) n).2 1 1 0) k))) 1 7 0)) := if_neg h0
  rw [hV]
  dsimp only
  have ek : eqA (sU (rlV s (dfA s) n).2 1 1 0) k = eqA s k := eqA_of (by rw [sU_n (by omega), off 4 k (by omega)])
  rw [ek]
  have hge := isE_ge hd
  have hgk := isE_ge (h1.ok k hk)
  have hde := isE_rng hd (show 0 < 9 by decide) (Nat.add_zero _).symm
  have ho : okE (sU (sU (sU (sU (rlV s (dfA s) n).2 1 1 0) 4 k (nI (dfA s))) 1 6 (nI (eqA s k))) 1 7 0) := by
    refine okE_U (okE_U ?_ (by decide)) (by decide)
    intro i hi
    show isE (sU (sU (rlV s (dfA s) n).2 1 1 0) 4 k (nI (dfA s)) 4 i).toNatClampNeg
    by_cases hik : i = k
    · subst hik
      rw [sU_same, nI_clamp (by omega)]
      exact hd
    · rw [sU_n (by omega), sU_n (by omega), off 4 i (by omega)]
      exact h1.ok i hi
  have lo : ∀ a j, a < 6 ∨ 94 ≤ a ∨ a = 81 → ¬ (a = 1 ∧ (j = 7 ∨ j = 6 ∨ j = 1)) → ¬ (a = 4 ∧ j = k) → sRst (sU (sU (sU (sU (rlV s (dfA s) n).2 1 1 0) 4 k (nI (dfA s))) 1 6 (nI (eqA s k))) 1 7 0) a j = s a j := fun a j ha hb hc => by
    rw [sRst_o ho ha, sU_n (by omega), sU_n (by omega), sU_n (by omega), sU_n (by omega), off a j (by omega)]
  have eE : ∀ e i j, isE e → i < 8 → sRst (sU (sU (sU (sU (rlV s (dfA s) n).2 1 1 0) 4 k (nI (dfA s))) 1 6 (nI (eqA s k))) 1 7 0) (e + i) j = (rlV s (dfA s) n).2 (e + i) j := fun e i j he hi => by
    have := isE_rng he (show i < 9 by omega) rfl
    rw [sRst_E ho he hi, sU_n (by omega), sU_n (by omega), sU_n (by omega), sU_n (by omega)]
  refine ⟨sU_n (by omega), sRst_z ho, ?_, ?_, fun v hv hvk => ?_, fun i j hi => eE _ i j hd hi, fun v i j hv hi => ?_, ?_, ?_, fun a j ha => lo a j (by omega) (by omega) (by omega)⟩
  · show (sRst _ 4 k).toNatClampNeg = _
    rw [sRst_o ho (by omega), sU_n (by omega), sU_n (by omega), sU_same, nI_clamp (by omega)]
  · show (sRst _ 1 6).toNatClampNeg = _
    rw [sRst_o ho (by omega), sU_n (by omega), sU_same, nI_clamp (by omega)]
  · exact eqA_of (lo 4 v (by omega) (by omega) (by omega))
  · have hne := (h1.2.1 v hv).2
    have hv' := h1.ok v hv
    rw [eE _ i j hv' hi]
    have nn : ∀ m, m < 9 → eqA s v + i ≠ dfA s + m := fun m hm z => hne (isE_ne hv' hd (by omega) hm z).1
    exact rlV_off ⟨nn 0 (by decide), nn 2 (by decide), nn 3 (by decide), nn 4 (by decide), nn 5 (by decide)⟩ (nn 1 (by decide))
  · rw [sRst_o ho (by omega), sU_n (by omega), sU_n (by omega), sU_n (by omega), sU_same]
  · rw [sRst_o ho (by omega), sU_same]
/-- the class behind a bad line -/
theorem def_B {s : St} {k n : Nat} (hd : isE (dfA s)) (h0 : (rlV s (dfA s) n).1 = 0) : (dfV s k n).1 = -3 ∧ (dfV s k n).2 1 1 = 0 ∧ (dfV s k n).2 1 2 = (rlV s (dfA s) n).2 (dfA s) 3 ∧ (∀ a j, ¬ (a = 1 ∧ (j = 1 ∨ j = 2)) → (¬ ∃ i, i < 9 ∧ a = dfA s + i) → (dfV s k n).2 a j = s a j) := by
  have hV : dfV s k n = (-3, sU (sU (rlV s (dfA s) n).2 1 1 0) 1 2 (sU (rlV s (dfA s) n).2 1 1 0 (dfA s) 3)) := if_pos h0
  have hde := isE_rng hd (show 0 < 9 by decide) (Nat.add_zero _).symm
  rw [hV]
  dsimp only
  refine ⟨rfl, by rw [sU_n (by omega), sU_same], by rw [sU_same, sU_n (by omega)], fun a j h1 h2 => ?_⟩
  rw [sU_n (by omega), sU_n (by omega)]
  have nn : ∀ m, m < 9 → a ≠ dfA s + m := fun m hm z => h2 ⟨m, hm, z⟩
  exact rlV_off ⟨nn 0 (by decide), nn 2 (by decide), nn 3 (by decide), nn 4 (by decide), nn 5 (by decide)⟩ (nn 1 (by decide))
