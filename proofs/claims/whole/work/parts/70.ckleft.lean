/-! check: what it leaves, and what both look at. -/
def ckq (a j : Nat) : Prop := (∃ e, isE e ∧ a = e + 6) ∨ (a = 79 ∨ a = 84 ∨ a = 99 ∨ a = 100 ∨ a = 102 ∨ a = 109 ∨ a = 111 ∨ a = 112 ∨ (a = 1 ∧ j = 7) ∨ (a = 94 ∧ (j = 15 ∨ j = 16)) ∨ (a = 80 ∧ j = 5))
theorem ckq_o {a j : Nat} (h : a < 6 ∨ (78 ≤ a ∧ a < 85) ∨ 94 ≤ a) (h2 : ¬ (a = 79 ∨ a = 84 ∨ a = 99 ∨ a = 100 ∨ a = 102 ∨ a = 109 ∨ a = 111 ∨ a = 112 ∨ (a = 1 ∧ j = 7) ∨ (a = 94 ∧ (j = 15 ∨ j = 16)) ∨ (a = 80 ∧ j = 5))) : ¬ ckq a j := by
  rintro (⟨e, he, z⟩ | z)
  · have := isE_rng he (show 6 < 9 by decide) z
    omega
  · exact h2 z
theorem ckq_E {e i j : Nat} (he : isE e) (hi : i < 9) (h6 : i ≠ 6) : ¬ ckq (e + i) j := by
  have r := isE_rng he hi rfl
  rintro (⟨e', he', z⟩ | z)
  · have := isE_ne he he' hi (by decide) z
    omega
  · omega
section CKL
variable {N : Nat → Nat} {isT : Nat → Nat → Bool} {en : Nat → Nat → Nat} {ip : Nat → Nat → Bool}
theorem ck_ie {s s2 : St} (h1 : IE s N isT en ip) (hq : ∀ a j, ¬ ckq a j → s2 a j = sRst s a j) : IE s2 N isT en ip := by
  have o := h1.ok
  have oo : ∀ a j, (a < 6 ∨ 94 ≤ a ∨ a = 81) → ¬ (a = 79 ∨ a = 84 ∨ a = 99 ∨ a = 100 ∨ a = 102 ∨ a = 109 ∨ a = 111 ∨ a = 112 ∨ (a = 1 ∧ j = 7) ∨ (a = 94 ∧ (j = 15 ∨ j = 16)) ∨ (a = 80 ∧ j = 5)) → s2 a j = s a j := fun a j ha hb => (hq a j (ckq_o (by omega) hb)).trans (sRst_o o ha)
  have oE : ∀ k i j, k < 8 → i < 6 → s2 (eqA s k + i) j = s (eqA s k + i) j := fun k i j hk hi => (hq _ j (ckq_E (o k hk) (by omega) (by omega))).trans (sRst_E o (o k hk) (by omega))
  exact IE_of h1 (oo 1 6 (by omega) (by omega)) (fun k => oo 4 k (by omega) (by omega)) (fun a j ha => oo a j (by omega) (by omega)) (fun k hk => ⟨oE k 0 1 hk (by decide), fun i j _ hi => oE k i j hk hi⟩)
theorem ck_keep {s s2 : St} (h1 : IE s N isT en ip) (h2 : IL s) (hq : ∀ a j, ¬ ckq a j → s2 a j = sRst s a j) (h7 : s2 1 7 = 0 ∨ s2 1 7 = 1) (h15 : s2 94 15 = s2 1 7) : IE s2 N isT en ip ∧ IL s2 ∧ IZ s2 := by
  have o := h1.ok
  have oo : ∀ a j, (a < 6 ∨ 94 ≤ a ∨ a = 81) → ¬ (a = 79 ∨ a = 84 ∨ a = 99 ∨ a = 100 ∨ a = 102 ∨ a = 109 ∨ a = 111 ∨ a = 112 ∨ (a = 1 ∧ j = 7) ∨ (a = 94 ∧ (j = 15 ∨ j = 16)) ∨ (a = 80 ∧ j = 5)) → s2 a j = s a j := fun a j ha hb => (hq a j (ckq_o (by omega) hb)).trans (sRst_o o ha)
  refine ⟨ck_ie h1 hq, ?_, ?_⟩
  · obtain ⟨⟨n, n1, n2, n3, n4⟩, i2, i3, i4, i5, i6⟩ := h2
    exact ⟨⟨n, n1, by rw [oo 1 1 (by omega) (by omega)]; exact n2, by rw [oo 94 1 (by omega) (by omega)]; exact n3, fun i hi => by rw [oo 95 i (by omega) (by omega), oo 2 i (by omega) (by omega)]; exact n4 i hi⟩, by rw [oo 94 2 (by omega) (by omega), oo 1 2 (by omega) (by omega)]; exact i2, h7, h15, fun j hj => by rw [oo 105 j (by omega) (by omega), oo 5 j (by omega) (by omega)]; exact i5 j hj, fun j hj => by rw [oo 106 j (by omega) (by omega), oo 81 j (by omega) (by omega)]; exact i6 j hj⟩
  · obtain ⟨z1, z2, z3⟩ := sRst_z o
    exact ⟨by rw [hq 80 6 (ckq_o (by omega) (by omega))]; exact z1, fun j hj => by rw [hq 83 j (ckq_o (by omega) (by omega))]; exact z2 j hj, by rw [hq 80 9 (ckq_o (by omega) (by omega))]; exact z3⟩
theorem ck_fail {s s2 : St} (h1 : IE s N isT en ip) (h2 : IL s) (hq : ∀ a j, ¬ ckq a j → s2 a j = sRst s a j) (h7 : s2 1 7 = 0) (h15 : s2 94 15 = 0) (c : Nat) : Inv s2 c := by
  obtain ⟨a1, a2, a3⟩ := ck_keep h1 h2 hq (Or.inl h7) (h15.trans h7.symm)
  exact ⟨N, isT, en, ip, a1, a2, fun _ => a3, fun z => absurd h7 z⟩
theorem EqOK_FK {s : St} {e n : Nat} {isT : Nat → Bool} {en : Nat → Nat} {ip : Nat → Bool} (h : EqOK s e n isT en ip) : FK s e n := by
  obtain ⟨he, hl, hL, hT, hI, hN, hP, hi0, hip⟩ := h
  refine ⟨he, hl, hL.2.1, fun i hi ht => ?_⟩
  have ti : isT i = true := by
    cases z : isT i with
    | true => rfl
    | false =>
      rw [hT i hi, z] at ht
      exact absurd rfl ht
  refine ⟨fun hq => ?_, fun k hk => ?_⟩
  · rw [hN i hi, if_pos ti]
    refine hL.nm hi ti ?_
    rcases hq with z | z | z
    · exact Or.inr (Or.inr z)
    · exact Or.inr (Or.inl z)
    · exact Or.inl z
  · have h3 := (pcN_pcn (s (e + 1) i)).2
    have kd := LK_kid hL hi ti hk
    have h24 := hL.2.1
    refine ⟨ch (s (e + 1)) en i k, by omega, ?_⟩
    rw [hP i k hi (by omega), if_pos ⟨ti, hk⟩]
theorem IE.FKs {s : St} (h : IE s N isT en ip) : FKs s := fun k hk => by
  obtain ⟨b1, b2, b3, b4⟩ := h.2.2.2 k hk
  exact ⟨N k, fun hn => EqOK_FK (b4 hn).1, b2, h.ok k hk, b3⟩
theorem IE.RA {s : St} (h : IE s N isT en ip) : RA s N isT en := fun v hv => by
  obtain ⟨b1, b2, b3, b4⟩ := h.2.2.2 v hv
  exact ⟨b1, b2, fun hn => (b4 hn).2.1⟩
theorem sMem_on {j : Nat} (hj : j < 24) : ∀ (r k : Nat) (s : St), okE s → k + r = 8 → ∀ v, v < 8 → (k ≤ v ∨ s (eqA s v + 8) j = 0) → sMem s r k (eqA s v + 8) j = 0
  | 0, k, s, _, hk, v, hv, h => h.elim (fun z => by omega) id
  | r + 1, k, s, hs, hk, v, hv, h => by
    have hne : 4 ≠ eqA s k + 8 := by have := isE_ge (hs k (by omega)); omega
    have ea : ∀ w, eqA (sF s (eqA s k + 8) 0 24 0) w = eqA s w := fun w => eqA_sF hne
    have ih := sMem_on hj r (k + 1) (sF s (eqA s k + 8) 0 24 0) (okE_sF (by omega) hs) (by omega) v hv
    rw [ea] at ih
    rw [sMem]
    refine ih ?_
    by_cases z : k + 1 ≤ v
    · exact Or.inl z
    · refine Or.inr ?_
      by_cases y : eqA s v = eqA s k
      · rw [y]
        unfold sF
        rw [if_pos ⟨rfl, by omega, hj⟩]
      · rw [sF_off (by omega)]
        refine h.resolve_left (fun w => y ?_)
        have : v = k := by omega
        rw [this]
theorem sRst_8 {s : St} (hs : okE s) {v j : Nat} (hv : v < 8) (hj : j < 24) : sRst s (eqA s v + 8) j = 0 := by
  have r := isE_rng (hs v hv) (show 8 < 9 by decide) rfl
  unfold sRst
  rw [sU_n (by omega), sU_n (by omega), sU_n (by omega), sU_n (by omega)]
  have h0 := sMem_on hj 8 0 (sF (sF s 82 0 8 0) 83 0 8 0) (okE_sF (by decide) (okE_sF (by decide) hs)) (by decide) v hv (Or.inl (by omega))
  rw [eqA_sF (by decide), eqA_sF (by decide)] at h0
  exact h0
/-! what both look at is the same in states that differ in those cells -/
theorem crR_congr {s s' : St} (h : s' 105 = s 105) (v : Nat) : ∀ (r : Nat) (a : Int32), crR s' v r a ↔ crR s v r a
  | 0, _ => Iff.rfl
  | r + 1, a => by
    show (¬ a < 0 ∧ (a = nI v ∨ crR s' v r (s' 105 a.toNatClampNeg))) ↔ (¬ a < 0 ∧ (a = nI v ∨ crR s v r (s 105 a.toNatClampNeg)))
    rw [h, crR_congr h v r]
section CGR
variable {S T : St}
theorem q_row (hq : ∀ a j, ¬ ckq a j → T a j = S a j) {a : Nat} (ha : a = 4 ∨ a = 5 ∨ a = 96 ∨ a = 97 ∨ a = 98 ∨ a = 103 ∨ a = 105) : T a = S a := funext (fun j => hq a j (ckq_o (by omega) (by omega)))
theorem q_eqA (hq : ∀ a j, ¬ ckq a j → T a j = S a j) (v : Nat) : eqA T v = eqA S v := eqA_of (hq 4 v (ckq_o (by omega) (by omega)))
theorem q_E (hq : ∀ a j, ¬ ckq a j → T a j = S a j) {e i : Nat} (he : isE e) (hi : i < 9) (h6 : i ≠ 6) : T (e + i) = S (e + i) := funext (fun j => hq _ j (ckq_E he hi h6))
theorem msR_congr (hq : ∀ a j, ¬ ckq a j → T a j = S a j) : msR T = msR S := by
  funext v
  unfold msR mi2 mi1 lR tR
  rw [q_row hq (a := 97) (by omega), q_row hq (a := 96) (by omega), q_row hq (a := 105) (by omega)]
theorem ring_congr (hq : ∀ a j, ¬ ckq a j → T a j = S a j) : (fun k => 0 < T 97 k ∧ crR T k 8 (T 105 k)) = (fun k => 0 < S 97 k ∧ crR S k 8 (S 105 k)) := by
  funext k
  rw [q_row hq (a := 97) (by omega), propext (crR_congr (q_row hq (a := 105) (by omega)) k 8 (T 105 k)), q_row hq (a := 105) (by omega)]
theorem UF_congr (hq : ∀ a j, ¬ ckq a j → T a j = S a j) (hS : okE S) {v : Nat} (hv : v < 8) : UF T N isT en v ↔ UF S N isT en v := by
  unfold UF FT
  rw [q_eqA hq, q_E hq (hS v hv) (show 1 < 9 by decide) (by decide), q_row hq (a := 5) (by omega)]
theorem Dc_congr (hq : ∀ a j, ¬ ckq a j → T a j = S a j) (hS : okE S) (v u : Nat) : Dc T N v u ↔ Dc S N v u := by
  unfold Dc
  by_cases hv : v < 8
  · rw [q_eqA hq, q_E hq (hS v hv) (show 3 < 9 by decide) (by decide), q_E hq (hS v hv) (show 5 < 9 by decide) (by decide), q_row hq (a := 5) (by omega)]
  · exact ⟨fun z => absurd z.1 hv, fun z => absurd z.1 hv⟩
end CGR
end CKL
