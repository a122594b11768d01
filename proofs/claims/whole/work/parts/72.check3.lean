/-! check: the call. -/
theorem ckV_f {s : St} {a : Int32} {X : St} (h : ffV (sRst s) = (a, X)) (ha : ¬ a = 0) : ckV s = (a, sU X 1 7 0) := by
  unfold ckV
  rw [h]
  exact if_neg ha
theorem ckV_g {s : St} {X : St} (h : ffV (sRst s) = (0, X)) : ckV s = (cntE (ar (sU X 1 7 1)) 8 0, ar (sU X 1 7 1)) := by
  unfold ckV
  rw [h]
  exact if_pos rfl
theorem z5_off {a j : Nat} (h1 : a ≠ 111) (h2 : a ≠ 112) : ∀ (r v : Nat) (s : St), z5 r v s a j = s a j
  | 0, _, _ => rfl
  | r + 1, v, s => by rw [z5, z5_off h1 h2 r, sU_n (by omega), sU_n (by omega)]
theorem z5_on : ∀ (r v : Nat) (s : St), v + r = 8 → (∀ k, k < 8 → (v ≤ k ∨ s 111 k = 0) → z5 r v s 111 k = 0) ∧ (∀ k, 0 < k → k < 9 → (v < k ∨ s 112 k = 0) → z5 r v s 112 k = 0)
  | 0, v, s, hv => ⟨fun k hk h => h.elim (fun z => by omega) id, fun k h0 hk h => h.elim (fun z => by omega) id⟩
  | r + 1, v, s, hv => by
    obtain ⟨a, b⟩ := z5_on r (v + 1) (sU (sU s 111 v 0) 112 (v + 1) 0) (by omega)
    rw [z5]
    refine ⟨fun k hk h => a k hk ?_, fun k h0 hk h => b k h0 hk ?_⟩
    · by_cases z : k = v
      · subst z
        exact Or.inr (by rw [sU_n (by omega), sU_same])
      · refine h.elim (fun y => Or.inl (by omega)) (fun y => Or.inr ?_)
        rw [sU_n (by omega), sU_n (by omega)]
        exact y
    · by_cases z : k = v + 1
      · subst z
        exact Or.inr (by rw [sU_same])
      · refine h.elim (fun y => Or.inl (by omega)) (fun y => Or.inr ?_)
        rw [sU_n (by omega), sU_n (by omega)]
        exact y
theorem ckZ_off {s : St} {a j : Nat} (h : ¬ (a = 102 ∨ a = 111 ∨ a = 112 ∨ (a = 94 ∧ (j = 15 ∨ j = 16)))) : ckZ s a j = s a j := by
  unfold ckZ
  rw [sF_off (by omega), sU_n (by omega), z5_off (by omega) (by omega), sU_n (by omega), sU_n (by omega)]
theorem ckZ_15 (s : St) : ckZ s 94 15 = 1 := by
  unfold ckZ
  rw [sF_off (by omega), sU_n (by omega), z5_off (by omega) (by omega), sU_n (by omega), sU_same]
theorem ckZ_16 (s : St) : ckZ s 94 16 = 0 := by
  unfold ckZ
  rw [sF_off (by omega), sU_n (by omega), z5_off (by omega) (by omega), sU_same]
theorem ckZ_111 (s : St) {k : Nat} (hk : k < 8) : ckZ s 111 k = 0 := by
  unfold ckZ
  rw [sF_off (by omega), sU_n (by omega)]
  exact (z5_on 8 0 _ (by decide)).1 k hk (Or.inl (by omega))
theorem ckZ_112 (s : St) {k : Nat} (hk : k < 9) : ckZ s 112 k = 0 := by
  unfold ckZ
  rw [sF_off (by omega)]
  by_cases z : k = 0
  · subst z
    rw [sU_same]
  · rw [sU_n (by omega)]
    exact (z5_on 8 0 _ (by decide)).2 k (by omega) hk (Or.inl (by omega))
theorem ckZ_102 (s : St) {k : Nat} (hk : k < 192) : ckZ s 102 k = 0 := by
  unfold ckZ sF
  rw [if_pos ⟨rfl, by omega, hk⟩]
/-- the state where the reference begins -/
theorem fT {S X : St} (hX : ∀ a j, ¬ ckq a j → X a j = S a j) : (∀ a j, ¬ ckq a j → sU (sU X 1 7 0) 94 15 0 a j = S a j) ∧ sU (sU X 1 7 0) 94 15 0 1 7 = 0 ∧ sU (sU X 1 7 0) 94 15 0 94 15 = 0 := by
  refine ⟨fun a j ha => ?_, ?_, sU_same _ _ _ _⟩
  · rw [sU_n (fun z => ha (Or.inr (by omega))), sU_n (fun z => ha (Or.inr (by omega)))]
    exact hX a j ha
  · rw [sU_n (by omega), sU_same]
section CKM
variable {s : St} {N : Nat → Nat} {isT : Nat → Nat → Bool} {en : Nat → Nat → Nat} {ip : Nat → Nat → Bool}
/-- a good check -/
theorem ck_good (h1 : IE s N isT en ip) (h2 : IL s) {S XL T2 Z : St} (eS : S = sRst s) (hS : IE S N isT en ip) (hc : ∀ k, k < 8 → S 105 k = S 5 k ∧ clk (S 5 k)) (z1 : fst_ (msR S) 8 0 = none) (z3 : fst_ (UF S N isT en) 8 0 = none) (z4 : fst_ (fun k => Rch (Dc S N) k k) 8 0 = none)
    (hq : ∀ a j, ¬ ckq a j → Z a j = S a j) (h7 : Z 1 7 = 1) (h15 : Z 94 15 = 1) (g5 : ∀ v, v < 8 → 0 < N v → FT S N isT en v (XL (eqA S v + 6))) (h6 : ∀ v j, v < 8 → Z (eqA S v + 6) j = XL (eqA S v + 6) j) (hRV : ∀ v, v < 8 → 0 < N v → CK (tR S v) (isT v) (en v) (S 105) (S 105 v) (fun j => T2 99 (24 * v + j)) (N v)) (h99 : ∀ j, Z 99 j = T2 99 j)
    (hD : ∀ v u, D109 Z v u ↔ Dc S N v u) (h8 : r8 Z) (hB : ∀ v u, B79 Z v u ↔ Rch (Dc S N) v u) (hO : ordI (rk Z) Z 8 0)
    (k16 : Z 94 16 = 0) (k102 : ∀ j, j < 192 → Z 102 j = 0) (k111 : ∀ v, v < 8 → Z 111 v = 0) (k112 : ∀ v, v < 9 → Z 112 v = 0) (c : Nat) : Inv Z c := by
  have hqs : ∀ a j, ¬ ckq a j → Z a j = sRst s a j := fun a j ha => by rw [← eS]; exact hq a j ha
  obtain ⟨a1, a2, a3⟩ := ck_keep h1 h2 hqs (Or.inr h7) (h15.trans h7.symm)
  have et : ∀ v, tR Z v = tR S v := fun v => by
    unfold tR
    rw [q_row hq (a := 96) (by omega)]
  have e105 : Z 105 = S 105 := q_row hq (by omega)
  have ea : ∀ v, eqA Z v = eqA S v := fun v => q_eqA hq v
  have e99 : Z 99 = T2 99 := funext h99
  have nU : ∀ v, v < 8 → ¬ UF S N isT en v := fun v hv => fst_none 8 0 z3 v (by omega) (by omega)
  refine ⟨N, isT, en, ip, a1, a2, fun z => absurd (h7.symm.trans z) (by decide), fun _ => ⟨⟨fun v hv hn => ?_, fun v u hd => ?_, fun v u hv hu hn hk => ?_, fun v i u hv hu hi ht hq1 hnm => ?_, h8, fun v u => ?_, fun v hb => ?_, hO⟩, 0, by omega, ?_⟩⟩
  · obtain ⟨d1, d2, d3⟩ := (hS.2.2.2 v hv).2.2.2 hn
    have hK := hRV v hv hn
    rw [et, e105, e99, ea]
    refine ⟨hK, fun i hi hti => ⟨?_, (UF_R hS hc hv hn hK).mpr (nU v hv) i hi hti⟩⟩
    have k1 := CK_congr d1.2.2.1 d3 (fun k hk => (hc k hk).1) (g5 v hv hn).1
    rw [← (hc v hv).1] at k1
    rw [h6 v i hv]
    exact CK_uni d2.2.2.1 k1 hK i i (Nat.le_refl i) (by omega) hi hti
  · have hd' := (hD v u).mp hd
    obtain ⟨hv, hu, hn, hw⟩ := hd'
    refine ⟨hn, ?_⟩
    apply Classical.byContradiction
    intro hu0
    obtain ⟨l1, l2, l3, l4, l5⟩ := IE_len hS hv
    refine fst_none 8 0 z1 u (by omega) (by omega) ⟨fun y => hu0 ((IE_len hS hu).2.2.2.1.mp y), v, by omega, hv, fun y => by have := l5.mp y; omega, ?_⟩
    obtain ⟨d1, d2, d3⟩ := (hS.2.2.2 v hv).2.2.2 hn
    rcases hw with ⟨j, j1, j2, j3⟩ | y
    · exact Or.inr ((names_in hS hv hu hn).mp ((anL_ok (EqOK_nmR d1) hu (N v) 0 0 (by omega)).mpr (Or.inr ⟨j, by omega, j1, j2⟩)))
    · exact Or.inl ((hc v hv).1.trans y)
  · rw [e105, (hc v hv).1] at hk
    exact (hD v u).mpr ⟨hv, hu, hn, Or.inr hk⟩
  · have hn : 0 < N v := by omega
    obtain ⟨d1, d2, d3⟩ := (hS.2.2.2 v hv).2.2.2 hn
    have d1' := d1
    obtain ⟨he, hl, hL, hT, hI, hNm, hP, hi0, hip⟩ := d1
    have e3 : S (eqA S v + 3) i = nI u := by
      rw [hNm i hi, if_pos ht, ← nmF_congr hL d3 hi ht, ← et]
      exact hnm
    refine ⟨?_, fun hp => (hD v u).mpr ⟨hv, hu, hn, Or.inl ⟨i, hi, e3, by rw [hI i hi ht, hp]; rfl⟩⟩⟩
    apply Classical.byContradiction
    intro hu0
    obtain ⟨l1, l2, l3, l4, l5⟩ := IE_len hS hv
    exact fst_none 8 0 z1 u (by omega) (by omega) ⟨fun y => hu0 ((IE_len hS hu).2.2.2.1.mp y), v, by omega, hv, fun y => by have := l5.mp y; omega, Or.inr ((names_in hS hv hu hn).mp ((anL_ok (EqOK_nmR d1') hu (N v) 0 0 (by omega)).mpr (Or.inr ⟨i, by omega, hi, e3⟩)))⟩
  · rw [hB]
    exact (Rch_congr hD v u).symm
  · have hv : v < 8 := hb.1
    exact fst_none 8 0 z4 v (by omega) (by omega) ((hB v v).mp hb)
  · have eas : ∀ v, eqA Z v = eqA s v := fun v => (ea v).trans (by rw [eS]; exact eqA_of (sRst_4 h1.ok v))
    refine ⟨k16, a3.2.2, fun v i hv hi ht _ => ?_, fun v hv => ⟨fun _ => by rw [k111 v hv, a3.2.1 v hv], fun _ => a3.2.1 v hv⟩, fun k hk => ⟨0, Nat.le_refl 0, k112 k hk, ?_⟩, fun _ => a3.1, ?_, fun z => absurd z (by omega)⟩
    · have h24 := (h1.2.2.2 v hv).2.1
      rw [k102 _ (by omega), eas, hqs _ _ (ckq_E (h1.ok v hv) (by decide) (by decide)), sRst_8 h1.ok hv (by omega)]
    · have e8 : Z 80 8 = 0 := by
        rw [hqs 80 8 (ckq_o (by omega) (by omega))]
        unfold sRst
        rw [sU_n (by omega), sU_same]
      rw [e8, bt_0]
      exact ⟨fun z => absurd z (by decide), fun z => absurd z (by omega)⟩
    · rw [a3.1]
      exact fun u _ => bt_0 u
theorem ck_main (h1 : IE s N isT en ip) (h2 : IL s) (c : Nat) : (ckRV N isT en (sU (ckV s).2 94 15 0)).1 = (ckV s).1 ∧ Inv (ckRV N isT en (sU (ckV s).2 94 15 0)).2 c := by
  have o := h1.ok
  have e17 : sRst s 1 7 = s 1 7 := sRst_o o (by omega)
  have e15 : sRst s 94 15 = s 94 15 := sRst_o o (by omega)
  obtain ⟨hS, hLS, _⟩ := ck_keep (s2 := sRst s) h1 h2 (fun _ _ _ => rfl) (by rw [e17]; exact h2.2.2.1) (by rw [e17, e15]; exact h2.2.2.2.1)
  have hc := hLS.2.2.2.2.1
  obtain ⟨S, eS⟩ : ∃ S, S = sRst s := ⟨_, rfl⟩
  have kf := fun {s2 : St} (hq : ∀ a j, ¬ ckq a j → s2 a j = S a j) => ck_fail h1 h2 (s2 := s2) (by rw [← eS]; exact hq)
  have kk := fun {s2 : St} (hq : ∀ a j, ¬ ckq a j → s2 a j = S a j) => ck_keep h1 h2 (s2 := s2) (by rw [← eS]; exact hq)
  have vf := fun {a : Int32} {X : St} (h : ffV S = (a, X)) => ckV_f (s := s) (a := a) (X := X) (by rw [← eS]; exact h)
  have vg := fun {X : St} (h : ffV S = (0, X)) => ckV_g (s := s) (X := X) (by rw [← eS]; exact h)
  rw [← eS] at hS hc
  have g1 := miss_rel hS hc
  have g2 := ring_rel hS hc
  obtain ⟨g3, g4, _, g5⟩ := luF_ok hS 8 0 S (by decide) (fun _ _ _ => rfl)
  obtain ⟨c1, c2, c3⟩ := cls_needs hS hc g4
  cases z1 : fst_ (msR S) 8 0 with
  | some k =>
    have hk := (fst_lt 8 0 k z1).2.1
    have hff : ffV S = (-100 * 1 - nI k, S) := by
      unfold ffV
      rw [g1, z1]
      exact if_pos (nI_m1 (by omega))
    rw [vf hff (flt_n0 (by omega)).1]
    obtain ⟨q1, q2, q3⟩ := fT (S := S) (X := S) (fun _ _ _ => rfl)
    dsimp only
    generalize sU (sU S 1 7 0) 94 15 0 = T at q1 q2 q3 ⊢
    have e : ckRV N isT en T = (-100 - nI k, T) := by
      unfold ckRV
      rw [msR_congr q1, z1]
    rw [e, m100.1]
    exact ⟨rfl, kf q1 q2 q3 c⟩
  | none =>
    cases z2 : fst_ (fun k => 0 < S 97 k ∧ crR S k 8 (S 105 k)) 8 0 with
    | some k =>
      have hk := (fst_lt 8 0 k z2).2.1
      have hff : ffV S = (-100 * 2 - nI k, S) := by
        unfold ffV
        rw [g1, z1, g2, z2]
        exact (if_neg (fun z => z rfl)).trans (if_pos (nI_m1 (by omega)))
      rw [vf hff (flt_n0 (by omega)).2.1]
      obtain ⟨q1, q2, q3⟩ := fT (S := S) (X := S) (fun _ _ _ => rfl)
      dsimp only
      generalize sU (sU S 1 7 0) 94 15 0 = T at q1 q2 q3 ⊢
      have e : ckRV N isT en T = (-200 - nI k, T) := by
        unfold ckRV
        rw [msR_congr q1, z1]
        dsimp only
        rw [ring_congr q1, z2]
      rw [e, m100.2.1]
      exact ⟨rfl, kf q1 q2 q3 c⟩
    | none =>
      have hX : ∀ a j, ¬ ckq a j → (luF 8 0 S).2 a j = S a j := fun a j ha => g4 a j (fun z => ha (Or.inl z))
      cases z3 : fst_ (UF S N isT en) 8 0 with
      | some k =>
        have hk := (fst_lt 8 0 k z3).2.1
        have hff : ffV S = (-100 * 3 - nI k, (luF 8 0 S).2) := by
          unfold ffV
          rw [g1, z1, g2, z2, g3, z3]
          exact (if_neg (fun z => z rfl)).trans ((if_neg (fun z => z rfl)).trans (if_pos (nI_m1 (by omega))))
        rw [vf hff (flt_n0 (by omega)).2.2.1]
        obtain ⟨q1, q2, q3⟩ := fT hX
        dsimp only
        generalize sU (sU (luF 8 0 S).2 1 7 0) 94 15 0 = T at q1 q2 q3 ⊢
        have hT := (kk q1 (Or.inl q2) (q3.trans q2.symm)).1
        obtain ⟨r1, r2, r3, r4, r5⟩ := ref_needs hS hc q1 hT
        have e : ckRV N isT en T = (-300 - nI k, (ftA N isT en 8 (-1) T).2) := by
          unfold ckRV
          rw [msR_congr q1, z1]
          dsimp only
          rw [ring_congr q1, z2]
          dsimp only
          rw [r1, z3]
          exact if_neg (fJ_s (by omega))
        rw [e, m100.2.2.1]
        exact ⟨rfl, kf (fun a j ha => (r2 a j (fun z => ha (Or.inr (by omega))) (fun z => ha (Or.inr (by omega)))).trans (q1 a j ha)) ((r2 1 7 (by decide) (by decide)).trans q2) ((r2 94 15 (by decide) (by decide)).trans q3) c⟩
      | none =>
        have g79 : only79 (luF 8 0 S).2 (gn (luF 8 0 S).2) := (m_gatherNeeds 0 0 _ ((m_leastUnfit 0 0 S hS.FKs).2.FKs hS.FKs).lnE).2
        have hX4 : ∀ a j, ¬ ckq a j → gn (luF 8 0 S).2 a j = S a j := fun a j ha => (g79 a j (fun z => ha (Or.inr (by omega)))).trans (hX a j ha)
        cases z4 : fst_ (fun k => Rch (Dc S N) k k) 8 0 with
        | some k =>
          have hk := (fst_lt 8 0 k z4).2.1
          have hff : ffV S = (-100 * 4 - nI k, gn (luF 8 0 S).2) := by
            unfold ffV
            rw [g1, z1, g2, z2, g3, z3, c3, z4]
            exact (if_neg (fun z => z rfl)).trans ((if_neg (fun z => z rfl)).trans ((if_neg (fun z => z rfl)).trans (if_neg (nI_m1 (by omega)))))
          rw [vf hff (flt_n0 (by omega)).2.2.2]
          obtain ⟨q1, q2, q3⟩ := fT hX4
          dsimp only
          generalize sU (sU (gn (luF 8 0 S).2) 1 7 0) 94 15 0 = T at q1 q2 q3 ⊢
          have hT := (kk q1 (Or.inl q2) (q3.trans q2.symm)).1
          obtain ⟨r1, r2, r3, r4, r5⟩ := ref_needs hS hc q1 hT
          have e : ckRV N isT en T = (-400 - nI k, fn3 8 0 (ftA N isT en 8 (-1) T).2) := by
            unfold ckRV
            rw [msR_congr q1, z1]
            dsimp only
            rw [ring_congr q1, z2]
            dsimp only
            rw [r1, z3, r5, z4]
            exact if_pos (by decide)
          rw [e, m100.2.2.2]
          have r6 := fn3_o 8 0 (ftA N isT en 8 (-1) T).2
          clear e r1 r3 r4 r5 c1 c2 c3 g1 g2 g3 g5 hff
          dsimp only
          generalize fn3 8 0 (ftA N isT en 8 (-1) T).2 = T3 at r6 ⊢
          generalize (ftA N isT en 8 (-1) T).2 = T2 at r6 r2
          exact ⟨rfl, kf (fun a j ha => (r6 a j (fun z => ha (Or.inr (by omega)))).trans ((r2 a j (fun z => ha (Or.inr (by omega))) (fun z => ha (Or.inr (by omega)))).trans (q1 a j ha))) ((r6 1 7 (by decide)).trans ((r2 1 7 (by decide) (by decide)).trans q2)) ((r6 94 15 (by decide)).trans ((r2 94 15 (by decide) (by decide)).trans q3)) c⟩
        | none =>
          have hff : ffV S = (0, gn (luF 8 0 S).2) := by
            unfold ffV
            rw [g1, z1, g2, z2, g3, z3, c3, z4]
            exact (if_neg (fun z => z rfl)).trans ((if_neg (fun z => z rfl)).trans ((if_neg (fun z => z rfl)).trans (if_pos rfl)))
          rw [vg hff]
          dsimp only
          have g5' := g5 z3
          generalize (luF 8 0 S).2 = XL at *
          have oB : okE (sU (gn XL) 1 7 1) := fun k hk => by
            rw [eqA_U (by decide), q_eqA hX4]
            exact hS.ok k hk
          obtain ⟨_, oO, hO⟩ := m_arrange 0 0 (sU (gn XL) 1 7 1) oB
          generalize ar (sU (gn XL) 1 7 1) = A at *
          have hA : ∀ a j, ¬ ckq a j → A a j = S a j := fun a j ha => by
            rw [oO a j (fun z => ha (Or.inr (by omega))) (fun z => ha (Or.inr (by omega))), sU_n (fun z => ha (Or.inr (by omega)))]
            exact hX4 a j ha
          have q1 : ∀ a j, ¬ ckq a j → sU A 94 15 0 a j = S a j := fun a j ha => by
            rw [sU_n (fun z => ha (Or.inr (by omega)))]
            exact hA a j ha
          have t1 : ∀ a j, ¬ (a = 94 ∧ j = 15) → sU A 94 15 0 a j = A a j := fun a j ha => sU_n ha
          generalize sU A 94 15 0 = T at *
          have hT : IE T N isT en ip := ck_ie h1 (by rw [← eS]; exact q1)
          obtain ⟨r1, r2, r3, r4, r5⟩ := ref_needs hS hc q1 hT
          have e : ckRV N isT en T = (cntR (fn3 8 0 (ftA N isT en 8 (-1) T).2) 8 0 0, ckZ (fn3 8 0 (ftA N isT en 8 (-1) T).2)) := by
            unfold ckRV
            rw [msR_congr q1, z1]
            dsimp only
            rw [ring_congr q1, z2]
            dsimp only
            rw [r1, z3, r5, z4]
            exact if_pos (by decide)
          rw [e]
          dsimp only
          generalize (ftA N isT en 8 (-1) T).2 = T2 at r2 r3 r4 ⊢
          have r6 := fn3_o 8 0 T2
          clear e r1 r5 g1 g2 g3 hff g5 c3
          generalize fn3 8 0 T2 = T3 at r4 r6 ⊢
          have zt : ∀ a j, ¬ (a = 102 ∨ a = 111 ∨ a = 112 ∨ (a = 94 ∧ (j = 15 ∨ j = 16)) ∨ a = 109 ∨ a = 99 ∨ a = 100) → ckZ T3 a j = A a j := fun a j ha => by
            rw [ckZ_off (by omega), r6 a j (by omega), r2 a j (by omega) (by omega), t1 a j (by omega)]
          have zB : ∀ a j, ¬ (a = 102 ∨ a = 111 ∨ a = 112 ∨ (a = 94 ∧ (j = 15 ∨ j = 16)) ∨ a = 109 ∨ a = 99 ∨ a = 100) → a ≠ 84 → ¬ (a = 80 ∧ j = 5) → ckZ T3 a j = sU (gn XL) 1 7 1 a j := fun a j ha h84 h5 => (zt a j ha).trans (oO a j h84 h5)
          have z79 : ∀ j, ckZ T3 79 j = gn XL 79 j := fun j => (zB 79 j (by omega) (by omega) (by omega)).trans (sU_n (by omega))
          refine ⟨?_, ck_good h1 h2 (XL := XL) (T2 := T2) eS hS hc z1 z3 z4 (fun a j ha => ?_) ?_ (ckZ_15 T3) (fun v hv hn => g5' v (by omega) hv hn) (fun v j hv => ?_) (fun v hv hn => ?_) (fun j => ?_) (fun v u => ?_) (fun v hv => ?_) (fun v u => ?_) ?_ (ckZ_16 T3) (fun j hj => ckZ_102 T3 hj) (fun v hv => ckZ_111 T3 hv) (fun v hv => ckZ_112 T3 hv) c⟩
          · refine (cnt_rel (s := A) (s' := T3) (fun k hk => ?_) 8 0 0 (by decide)).trans (Int32.zero_add _)
            have e0 := hA (eqA S k + 0) 1 (ckq_E (hS.ok k hk) (by decide) (by decide))
            rw [Nat.add_zero] at e0
            have e97 : T3 97 k = S 97 k := by
              rw [r6 97 k (by decide), r2 97 k (by decide) (by decide), q_row q1 (a := 97) (by omega)]
            rw [q_eqA hA, e0, e97, (IE_len hS hk).2.2.1, (IE_len hS hk).2.2.2.1]
          · have nn : ∀ (p : Prop), (p → ckq a j) → ¬ p := fun p hp z => ha (hp z)
            rw [ckZ_off (fun z => ha (Or.inr (by omega))), r6 a j (fun z => ha (Or.inr (by omega))), r2 a j (fun z => ha (Or.inr (by omega))) (fun z => ha (Or.inr (by omega)))]
            exact q1 a j ha
          · rw [zB 1 7 (by omega) (by omega) (by omega), sU_same]
          · have rg := isE_rng (hS.ok v hv) (show 6 < 9 by decide) rfl
            rw [zB _ j (by omega) (by omega) (by omega), sU_n (by omega), g79 _ j (by omega)]
          · have h := (r3 v hv hn).1
            have et : tR T v = tR S v := by
              unfold tR
              rw [q_row q1 (a := 96) (by omega)]
            rw [et, q_row q1 (a := 105) (by omega)] at h
            exact h
          · rw [ckZ_off (by omega), r6 99 j (by decide)]
          · rw [← r4 v u]
            unfold D109
            rw [ckZ_off (by omega)]
          · rw [z79]
            exact c1 v hv
          · rw [← c2 v u]
            unfold B79
            rw [z79]
          · have rg : ∀ u, u < 8 → _ := fun u hu => isE_rng (oB u hu) (show 0 < 9 by decide) rfl
            refine ordI_of (fun u hu => (rk_of (s := sU (gn XL) 1 7 1) (s' := ckZ T3) (zB 4 u (by omega) (by omega) (by omega)) ?_ (zB 79 u (by omega) (by omega) (by omega))).symm) (zt 80 5 (by omega)) (fun i => zt 84 i (by omega)) hO
            have := rg u hu
            exact zB _ 1 (by omega) (by omega) (by omega)
end CKM
theorem c_check (d L : Nat) {s : St} {c : Nat} (h : Inv s c) : ∃ a s1 s2, rn (d + 15) 28 0 [some (.ref 1), none] [] (hH L s) = some (some (.int a), hH L s1) ∧ rn (d + 15) 78 0 [some (.ref 94), none, none, none] [] (hH L s1) = some (some (.int a), hH L s2) ∧ Inv s2 (c + 1) := by
  obtain ⟨N, isT, en, ip, h1, h2, -, -⟩ := h
  obtain ⟨m1, m2⟩ := ck_main h1 h2 (c + 1)
  have hm := m_check (d + 10) L s h1.FKs (fun k hk => (h2.2.2.2.2.1 k hk).2)
  have hF := h1.FKs
  have hqs : ∀ a j, a = 96 ∨ a = 97 ∨ a = 98 ∨ a = 103 ∨ a = 105 → (ckV s).2 a j = s a j := fun a j ha => by
    have n6 : ∀ i, i < 9 → ¬ ∃ e, isE e ∧ a = e + i := fun i hi ⟨e, he, z⟩ => by
      have := isE_rng he hi z
      omega
    have e1 : (ffV (sRst s)).2 a j = s a j := (ffV_off (sRst_FKs hF) (n6 6 (by decide)) (by omega)).trans (sRst_o h1.ok (by omega))
    unfold ckV
    split
    · have oB : okE (sU (ffV (sRst s)).2 1 7 1) := fun k hk => by
        rw [eqA_U (by decide)]
        show isE ((ffV (sRst s)).2 4 k).toNatClampNeg
        rw [ffV_off (sRst_FKs hF) (fun ⟨e, he, z⟩ => by have := isE_ge he; omega) (by decide), sRst_4 h1.ok]
        exact h1.ok k hk
      have o := (m_arrange 0 0 _ oB).2.1 a j (by omega) (by omega)
      dsimp only
      rw [o, sU_n (by omega)]
      exact e1
    · dsimp only
      rw [sU_n (by omega)]
      exact e1
  have hr := r_check (d + 13) L (N := N) (isT := isT) (en := en) (ckV s).2 (RA_of h1.RA (fun a j ha => hqs a j (by omega))) (fun k hk => by
    rw [hqs 105 k (by omega), (h2.2.2.2.2.1 k hk).1]
    exact (h2.2.2.2.2.1 k hk).2)
  rw [m1] at hr
  exact ⟨_, _, _, hm, hr, m2⟩
