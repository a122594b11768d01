/-! Running: an INSTANT. -/
theorem ac1_off {k a j : Nat} {t : St} (h : ¬ (a = 112 ∧ j = k)) : ac1 k t a j = t a j := by
  unfold ac1
  split
  · exact sU_n h
  · rfl
theorem ac1_act {k : Nat} {t : St} (x : Int32) : actR (ac1 k t) x ↔ actR t x := by
  unfold actR
  rw [ac1_off (by omega), ac1_off (by omega)]
theorem in5_ok : ∀ (r k : Nat) (t : St), k + r = 9 → (∀ a j, a ≠ 112 → in5 r k t a j = t a j) ∧ (∀ i, i < k → in5 r k t 112 i = t 112 i) ∧ (∀ i, k ≤ i → i < 9 → (actR t (nI i + (-1)) → in5 r k t 112 i = t 112 i + 1) ∧ (¬ actR t (nI i + (-1)) → in5 r k t 112 i = t 112 i))
  | 0, k, t, hk => by
    rw [in5_0]
    exact ⟨fun _ _ _ => rfl, fun _ _ => rfl, fun i h1 h2 => by omega⟩
  | r + 1, k, t, hk => by
    obtain ⟨a1, a2, a3⟩ := in5_ok r (k + 1) (ac1 k t) (by omega)
    rw [in5_s]
    refine ⟨fun a j ha => (a1 a j ha).trans (ac1_off (by omega)), fun i hi => (a2 i (by omega)).trans (ac1_off (by omega)), fun i h1 h2 => ?_⟩
    by_cases z : i = k
    · subst z
      rw [a2 i (by omega)]
      refine ⟨fun q => ?_, fun q => ?_⟩
      · unfold ac1
        rw [if_pos q, sU_same]
      · unfold ac1
        rw [if_neg q]
    · obtain ⟨b1, b2⟩ := a3 i (by omega) h2
      rw [ac1_act, ac1_off (by omega)] at b1 b2
      exact ⟨b1, b2⟩
/-- the run of both, after M INSTANTS -/
def IR2 (B : St) (N : Nat → Nat) (isT : Nat → Nat → Bool) (s t : St) (M : Nat) : Prop :=
  t 94 16 = nI M ∧ s 80 9 = nI M ∧ MB B N isT s t M ∧ (∀ v, v < 8 → (0 < N v → t 111 v = s 83 v) ∧ (N v = 0 → s 83 v = 0)) ∧ (M = 0 → s 80 6 = 0) ∧ s8 (s 80 6) ∧
  (0 < M → ∀ v, v < 8 → (bt (s 80 6) v = true ↔ 0 < N v ∧ ¬ t 107 v = 0) ∧ (bt (s 80 6) v = true → t 110 v = s 82 v))
def runC2 (a j : Nat) : Prop := (∃ e, isE e ∧ (a = e + 7 ∨ a = e + 8)) ∨ a = 82 ∨ a = 83 ∨ (a = 80 ∧ 6 ≤ j ∧ j ≤ 9)
def runR (a j : Nat) : Prop := a = 101 ∨ a = 102 ∨ a = 107 ∨ a = 108 ∨ a = 110 ∨ a = 111 ∨ a = 112 ∨ (a = 94 ∧ j = 16)
theorem nrunC {a j : Nat} (h : a < 6 ∨ (78 ≤ a ∧ a < 85) ∨ 94 ≤ a) (h2 : a ≠ 82 ∧ a ≠ 83 ∧ ¬ (a = 80 ∧ (j = 6 ∨ j = 7))) : ¬ runC a j := by
  rintro (⟨e, he, z⟩ | z | z | z)
  · have := isE_rng he (show 7 < 9 by decide) z
    omega
  · omega
  · omega
  · omega
theorem nrunC2 {a j : Nat} (h : a < 6 ∨ (78 ≤ a ∧ a < 85) ∨ 94 ≤ a) (h2 : a ≠ 82 ∧ a ≠ 83 ∧ ¬ (a = 80 ∧ 6 ≤ j ∧ j ≤ 9)) : ¬ runC2 a j := by
  rintro (⟨e, he, z⟩ | z | z | z)
  · have := isE_rng he (show 7 < 9 by decide) rfl
    have := isE_rng he (show 8 < 9 by decide) rfl
    omega
  · omega
  · omega
  · omega
theorem nrunC2_E {e i j : Nat} (he : isE e) (hi : i < 7) : ¬ runC2 (e + i) j := by
  have rg := isE_rng he (show i < 9 by omega) rfl
  rintro (⟨e', he', z | z⟩ | z | z | z)
  · have := isE_ne he he' (by omega) (by decide) z
    omega
  · have := isE_ne he he' (by omega) (by decide) z
    omega
  · omega
  · omega
  · omega
theorem nrunC_8 {e j : Nat} (he : isE e) : ¬ runC (e + 8) j := by
  have rg := isE_rng he (show 8 < 9 by decide) rfl
  rintro (⟨e', he', z⟩ | z | z | z)
  · have := isE_ne he he' (by decide) (by decide) z
    omega
  · omega
  · omega
  · omega
section INST
variable {B : St} {N : Nat → Nat} {isT : Nat → Nat → Bool} {en : Nat → Nat → Nat} {ip : Nat → Nat → Bool}
theorem BS.run (h : BS B N isT en ip) : runOK B N isT en := ⟨h.1.RA, fun k hk => h.clk hk, fun v j hv hj ht => by
  rcases K_all h hv hj ht with z | ⟨u, hu, _, z⟩
  · exact Or.inl z
  · exact Or.inr ⟨u, hu, z⟩⟩
theorem psI_eq (s : St) (m : Nat) (hm : (s 80 5).toNatClampNeg = m) {σ s2 : St} (e1 : σ = psL (sU (sU s 80 6 0) 80 7 1) m 0) (e2 : s2 = rsL σ m 0) : psI s = sU (sU s2 80 8 (s2 80 8 ||| s2 80 7)) 80 9 (s2 80 9 + 1) := by
  subst e1 e2
  unfold psI
  rw [hm]
  dsimp only
  rw [sU_n (show ¬ (80 = 80 ∧ 9 = 8) by omega)]
theorem inR_eq (t : St) {t5 : St} (e : t5 = in5 9 0 (in4 N isT en 8 0 (in3 N isT en 8 (in0 8 0 t)))) : inR_ N isT en t = sU t5 94 16 (t5 94 16 + 1) := by
  subst e
  rfl
theorem instant (h : BS B N isT en ip) {s t : St} {M : Nat} (hs : sto B s) (ht : stoR B t) (hI : IR2 B N isT s t M) (hM : M + 1 < 2147483648) : IR2 B N isT (psI s) (inR_ N isT en t) (M + 1) ∧ sto B (psI s) ∧ stoR B (inR_ N isT en t) ∧ (∀ a j, ¬ runC2 a j → psI s a j = s a j) ∧ (∀ a j, ¬ runR a j → inR_ N isT en t a j = t a j) := by
  obtain ⟨i1, i2, i3, i4, i5, i6, i7⟩ := hI
  have hsto := hs.tr (m_passInstant 0 0 _ s (okR_sto h.okR hs)).2
  have hstoR := ht.tr (r_instant 0 0 t (runOK_of h.run ht)).2
  have em : (s 80 5).toNatClampNeg = gB (rk B) 8 0 := by
    have l := (h.okR).2.1
    rw [hs 80 5 (Or.inr (Or.inr (Or.inr (Or.inr (Or.inl ⟨rfl, rfl⟩))))), h.ord.1, nI_clamp (by omega)]
  have P := settled h hs
  rw [em] at P
  obtain ⟨σ, eσ⟩ : ∃ σ, σ = psL (sU (sU s 80 6 0) 80 7 1) (gB (rk B) 8 0) 0 := ⟨_, rfl⟩
  rw [← eσ] at P
  obtain ⟨s2, es2⟩ : ∃ s2, s2 = rsL σ (gB (rk B) 8 0) 0 := ⟨_, rfl⟩
  obtain ⟨p1, p2, p3, p4, p5, p6⟩ := P
  have o0 : ∀ a j, ¬ (a = 80 ∧ (j = 6 ∨ j = 7)) → sU (sU s 80 6 0) 80 7 1 a j = s a j := fun a j ha => by rw [sU_n (by omega), sU_n (by omega)]
  have oσ : ∀ a j, ¬ runC a j → σ a j = s a j := fun a j ha => (p6 a j ha).trans (o0 a j (fun z => ha (Or.inr (Or.inr (Or.inr z)))))
  have hf : FS B N isT ip σ := ⟨p1, p2, fun u hu hn => ⟨(p4 u hu (by omega)).1, (p4 u hu (by omega)).2.1⟩, fun u hu hn => (p5 u hu hn (pos_m h hu hn).1).1⟩
  have mσ : MB B N isT σ t M := ⟨fun v i hv hi hti hq => by rw [oσ _ _ (nrunC_8 (h.1.ok v hv))]; exact i3.1 v i hv hi hti hq, fun k hk => by rw [oσ 80 8 (nrunC (by omega) (by omega))]; exact i3.2 k hk⟩
  obtain ⟨fa, r111, oτ⟩ := settledR h hf ht mσ (by omega)
  obtain ⟨t5, et5⟩ : ∃ t5, t5 = in5 9 0 (in4 N isT en 8 0 (in3 N isT en 8 (in0 8 0 t))) := ⟨_, rfl⟩
  have ePs := psI_eq s _ em eσ es2
  have eIn := inR_eq (N := N) (isT := isT) (en := en) t et5
  obtain ⟨τ, eτ⟩ : ∃ τ, τ = in3 N isT en 8 (in0 8 0 t) := ⟨_, rfl⟩
  rw [← eτ] at fa r111 oτ et5
  have mτ : MB B N isT σ τ M := ⟨fun v i hv hi hti hq => by rw [oτ 102 _ (by omega)]; exact mσ.1 v i hv hi hti hq, fun k hk => by rw [oτ 112 k (by omega)]; exact mσ.2 k hk⟩
  obtain ⟨q1, q2, q3, q4⟩ := RSI_all h (gB (rk B) 8 0) 0 σ (by omega) (RSI_start (N := N) (isT := isT) p1)
  rw [← es2] at q1 q2 q4
  obtain ⟨w1, w2, w3, w4⟩ := in4_RQ h 8 0 τ (by decide) ⟨fa.1, fun _ _ _ _ => rfl, fun _ _ => rfl, fun u hu => absurd hu (by omega)⟩
  obtain ⟨t4, et4⟩ : ∃ t4, t4 = in4 N isT en 8 0 τ := ⟨_, rfl⟩
  rw [← et4] at w1 w2 w3 w4 et5
  obtain ⟨v1, v2, v3⟩ := in5_ok 9 0 t4 (by decide)
  rw [← et5] at v1 v2 v3
  have n2 : ∀ a, a < 6 ∨ (78 ≤ a ∧ a < 85) ∨ 94 ≤ a → ¬ ∃ e, isE e ∧ (a = e + 7 ∨ a = e + 8) := fun a ha ⟨e, he, z⟩ => by
    have := isE_rng he (show 7 < 9 by decide) rfl
    have := isE_rng he (show 8 < 9 by decide) rfl
    omega
  have oS : ∀ a j, ¬ (a = 80 ∧ (j = 8 ∨ j = 9)) → psI s a j = s2 a j := fun a j ha => by
    rw [ePs, sU_n (by omega), sU_n (by omega)]
  have oT : ∀ a j, ¬ (a = 94 ∧ j = 16) → inR_ N isT en t a j = t5 a j := fun a j ha => by
    rw [eIn, sU_n ha]
  have b6 : psI s 80 6 = σ 80 6 := by rw [oS 80 6 (by omega), q2 80 6 (n2 80 (by omega))]
  have a4 : ∀ x, actR t4 x ↔ actR τ x := fun x => by
    unfold actR
    rw [w2 107 _ (by decide) (by decide), w2 110 _ (by decide) (by decide)]
  clear et5 et4 eτ es2 eσ
  refine ⟨⟨?_, ?_, ⟨fun v i hv hi hti hq => ?_, fun k hk => ?_⟩, fun v hv => ⟨fun hn => ?_, fun hn => ?_⟩, fun z => absurd z (by omega), by rw [b6]; exact p3, fun _ v hv => ?_⟩, hsto, hstoR, fun a j ha => ?_, fun a j ha => ?_⟩
  · rw [eIn, sU_same, v1 94 16 (by decide), w2 94 16 (by decide) (by decide), oτ 94 16 (by omega), i1, nI_1]
  · rw [ePs, sU_same, q2 80 9 (n2 80 (by omega)), oσ 80 9 (nrunC (by omega) (by omega)), i2, nI_1]
  · have rg := isE_rng (h.1.ok v hv) (show 8 < 9 by decide) rfl
    rw [oT 102 _ (by omega), v1 102 _ (by decide), oS _ _ (by omega)]
    exact mem_rel h hf fa mτ (by omega) hv hi hti hq (q4 v hv (by omega) (pos_m h hv (by omega)).1) (w4 v hv (by omega))
  · obtain ⟨m, m1, m2, m3⟩ := i3.2 k hk
    have e88 : psI s 80 8 = s 80 8 ||| σ 80 7 := by
      rw [ePs, sU_n (by omega), sU_same, q2 80 8 (n2 80 (by omega)), q2 80 7 (n2 80 (by omega)), oσ 80 8 (nrunC (by omega) (by omega))]
    have e112 : t4 112 k = nI m := by
      rw [w2 112 k (by decide) (by decide), oτ 112 k (by omega)]
      exact m2
    have hac : actR t4 (nI k + (-1)) ↔ bt (σ 80 7) k = true := by
      cases k with
      | zero =>
        have e0 : nI 0 + (-1) = (-1 : Int32) := by decide
        rw [e0]
        exact ⟨fun _ => p2, fun _ => actR_m t4⟩
      | succ u =>
        rw [m1_nI, a4, ← (fa.2 u (by omega)).2.2, act_n (by omega)]
    obtain ⟨x1, x2⟩ := v3 k (by omega) hk
    rw [oT 112 k (by omega), e88, bt_or, Bool.or_eq_true, m3, ← hac]
    by_cases z : actR t4 (nI k + (-1))
    · refine ⟨m + 1, by omega, ?_, ⟨fun _ => by omega, fun _ => Or.inr z⟩⟩
      rw [x1 z, e112, nI_1]
    · refine ⟨m, by omega, ?_, ⟨fun y => y.resolve_right z, fun y => Or.inl y⟩⟩
      rw [x2 z, e112]
  · rw [oT 111 v (by omega), v1 111 v (by decide), w2 111 v (by decide) (by decide), r111 v hv, oS 83 v (by omega), q2 83 v (n2 83 (by omega)), (p5 v hv hn (pos_m h hv hn).1).2, o0 83 v (by omega), (i4 v hv).1 hn]
  · rw [oS 83 v (by omega), q2 83 v (n2 83 (by omega)), (p4 v hv (by omega)).2.2, o0 83 v (by omega), (i4 v hv).2 hn]
  · obtain ⟨x1, x2, x3⟩ := fa.2 v hv
    rw [b6, oT 107 v (by omega), v1 107 v (by decide), w2 107 v (by decide) (by decide), oT 110 v (by omega), v1 110 v (by decide), w2 110 v (by decide) (by decide), oS 82 v (by omega), q2 82 v (n2 82 (by omega))]
    exact ⟨⟨fun z => ⟨(x2 z).2, x1.mpr z⟩, fun z => x1.mp z.2⟩, fun z => (x2 z).1⟩
  · rw [oS a j (fun z => ha (Or.inr (Or.inr (Or.inr (by omega))))), q2 a j (fun z => ha (Or.inl z))]
    refine oσ a j (fun z => ha ?_)
    rcases z with ⟨e, he, z⟩ | z | z | z
    · exact Or.inl ⟨e, he, Or.inl z⟩
    · exact Or.inr (Or.inl z)
    · exact Or.inr (Or.inr (Or.inl z))
    · exact Or.inr (Or.inr (Or.inr (by omega)))
  · unfold runR at ha
    rw [oT a j (by omega), v1 a j (by omega), w2 a j (by omega) (by omega), oτ a j (by omega)]
theorem steps (h : BS B N isT en ip) : ∀ (r : Nat) (s t : St) (M : Nat), sto B s → stoR B t → IR2 B N isT s t M → M + r < 2147483648 → IR2 B N isT (stN s r) (stR N isT en t r) (M + r) ∧ (∀ a j, ¬ runC2 a j → stN s r a j = s a j) ∧ (∀ a j, ¬ runR a j → stR N isT en t r a j = t a j)
  | 0, s, t, M, hs, ht, hI, hM => ⟨hI, fun _ _ _ => rfl, fun _ _ _ => rfl⟩
  | r + 1, s, t, M, hs, ht, hI, hM => by
    obtain ⟨a1, a2, a3, a4, a5⟩ := instant h hs ht hI (by omega)
    obtain ⟨b1, b2, b3⟩ := steps h r (psI s) (inR_ N isT en t) (M + 1) a2 a3 a1 (by omega)
    have e : M + (r + 1) = M + 1 + r := by omega
    rw [stN, stR, e]
    exact ⟨b1, fun a j ha => (b2 a j ha).trans (a4 a j ha), fun a j ha => (b3 a j ha).trans (a5 a j ha)⟩
end INST
theorem IR_2 {s : St} {N : Nat → Nat} {isT : Nat → Nat → Bool} {M : Nat} (h : IR s N isT M) : IR2 s N isT s s M := by
  obtain ⟨a1, a2, a3, a4, a5, a6, a7, a8⟩ := h
  exact ⟨a1, a2, ⟨a3, a5⟩, a4, a6, a7, a8⟩
/-- step -/
theorem c_step (d L : Nat) {s : St} {c : Nat} (h : Inv s c) (hc : 20 * (c + 1) < 2147483648) (x : Int32) : ∃ a s1 s2, rn (d + 15) 47 0 [some (.ref 1), some (.int x), none] [] (hH L s) = some (some (.int a), hH L s1) ∧ rn (d + 15) 86 0 [some (.ref 94), some (.int x), none] [] (hH L s1) = some (some (.int a), hH L s2) ∧ Inv s2 (c + 1) := by
  by_cases hx : x < 1 ∨ 20 < x
  · exact ⟨_, _, _, m_stepN (d + 9) L s hx, r_stepN (d + 15) L s hx, h.up⟩
  · have hx1 : ∃ k, 1 ≤ k ∧ k ≤ 20 ∧ x = nI k := by
      rcases in_n x 21 (by decide) with z | ⟨k, hk, e⟩
      · refine absurd ⟨?_, ?_⟩ z
        · intro y
          exact hx (Or.inl (Int32.lt_trans y (by decide)))
        · apply Classical.byContradiction
          intro y
          refine hx (Or.inr ?_)
          rw [Int32.lt_iff_toInt_lt] at y ⊢
          have e21 : (nI 21).toInt = 21 := by decide
          have e20 : (20 : Int32).toInt = 20 := by decide
          rw [e21] at y
          rw [e20]
          omega
      · refine ⟨k, ?_, by omega, e⟩
        apply Classical.byContradiction
        intro y
        have : k = 0 := by omega
        subst this
        exact hx (Or.inl (by rw [e]; decide))
    obtain ⟨k, k1, k2, rfl⟩ := hx1
    have hI := h
    obtain ⟨N, isT, en, ip, h1, h2, h3, h4⟩ := h
    by_cases q : s 1 7 = 0
    · have q' : s 94 15 = 0 := h2.2.2.2.1.trans q
      have hm := m_step (d + 9) L 0 s k1 k2 (fun z => absurd q z)
      have hr := r_step (d + 11) L (N := N) (isT := isT) (en := en) s k1 k2 (fun z => absurd q' z)
      rw [if_pos q] at hm
      rw [if_pos q'] at hr
      exact ⟨_, _, _, hm, hr, hI.up⟩
    · obtain ⟨z1, M, z2, z3⟩ := h4 q
      have hB : BS s N isT en ip := ⟨h1, h2, z1⟩
      obtain ⟨-, o1, -⟩ := steps hB k s s M (sto.rf s) (stoR.rf s) (IR_2 z3) (by omega)
      have oc : ∀ a j, 94 ≤ a → stN s k a j = s a j := fun a j ha => o1 a j (nrunC2 (by omega) (by omega))
      have hm := m_step (d + 9) L _ s k1 k2 (fun _ => hB.okR)
      rw [if_neg q] at hm
      obtain ⟨s1, es1⟩ : ∃ s1, s1 = stN s k := ⟨_, rfl⟩
      rw [← es1] at oc o1 hm
      have ht : stoR s s1 := fun a j ha => oc a j (by omega)
      have hI2 : IR2 s N isT s s1 M := by
        obtain ⟨i1, i2, i3, i4, i5, i6, i7⟩ := IR_2 z3
        exact ⟨by rw [oc 94 16 (by omega)]; exact i1, i2, ⟨fun v i hv hi hti hq => by rw [oc 102 _ (by omega)]; exact i3.1 v i hv hi hti hq, fun k hk => by rw [oc 112 k (by omega)]; exact i3.2 k hk⟩, fun v hv => by rw [oc 111 v (by omega)]; exact i4 v hv, i5, i6, fun z v hv => by rw [oc 107 v (by omega), oc 110 v (by omega)]; exact i7 z v hv⟩
      obtain ⟨f1, -, f3⟩ := steps hB k s s1 M (sto.rf s) ht hI2 (by omega)
      rw [← es1] at f1
      have q15 : ¬ s1 94 15 = 0 := by
        rw [oc 94 15 (by omega), h2.2.2.2.1]
        exact q
      have hr := r_step (d + 11) L (N := N) (isT := isT) (en := en) s1 k1 k2 (fun _ => runOK_of hB.run ht)
      rw [if_neg q15] at hr
      obtain ⟨s2, es2⟩ : ∃ s2, s2 = stR N isT en s1 k := ⟨_, rfl⟩
      rw [← es2] at f1 f3 hr
      obtain ⟨g1, g2, g3, g4, g5, g6, g7⟩ := f1
      rw [g2] at hm
      rw [g1] at hr
      have qq : ∀ a j, ¬ runC2 a j → ¬ runR a j → s2 a j = s a j := fun a j ha hb => (f3 a j hb).trans (o1 a j ha)
      have qo : ∀ a j, (a < 6 ∨ (78 ≤ a ∧ a < 85) ∨ 94 ≤ a) → ¬ (a = 82 ∨ a = 83 ∨ (a = 80 ∧ 6 ≤ j ∧ j ≤ 9) ∨ a = 101 ∨ a = 102 ∨ a = 107 ∨ a = 108 ∨ a = 110 ∨ a = 111 ∨ a = 112 ∨ (a = 94 ∧ j = 16)) → s2 a j = s a j := fun a j ha hb => qq a j (nrunC2 ha (by omega)) (by unfold runR; omega)
      have qE : ∀ v i j, v < 8 → i < 7 → s2 (eqA s v + i) j = s (eqA s v + i) j := fun v i j hv hi => by
        have rg := isE_rng (h1.ok v hv) (show i < 9 by omega) rfl
        exact qq _ _ (nrunC2_E (h1.ok v hv) hi) (by unfold runR; omega)
      have qc : ∀ a j, a < 94 → s2 a j = s1 a j := fun a j ha => f3 a j (by unfold runR; omega)
      have e4 : ∀ k, s2 4 k = s 4 k := fun k => qo 4 k (by omega) (by omega)
      have et : ∀ v, tR s2 v = tR s v := fun v => funext (fun j => qo 96 _ (by omega) (by omega))
      refine ⟨_, _, _, hm, hr, N, isT, en, ip, ?_, ?_, fun z => ?_, fun _ => ⟨?_, M + k, by omega, ?_⟩⟩
      · exact IE_of h1 (qo 1 6 (by omega) (by omega)) e4 (fun a j ha => qo a j (by omega) (by omega)) (fun v hv => ⟨qE v 0 1 hv (by decide), fun i j _ hi => qE v i j hv (by omega)⟩)
      · obtain ⟨⟨n, n1, n2, n3, n4⟩, i2, i3, i4, i5, i6⟩ := h2
        exact ⟨⟨n, n1, by rw [qo 1 1 (by omega) (by omega)]; exact n2, by rw [qo 94 1 (by omega) (by omega)]; exact n3, fun i hi => by rw [qo 95 i (by omega) (by omega), qo 2 i (by omega) (by omega)]; exact n4 i hi⟩, by rw [qo 94 2 (by omega) (by omega), qo 1 2 (by omega) (by omega)]; exact i2, by rw [qo 1 7 (by omega) (by omega)]; exact i3, by rw [qo 94 15 (by omega) (by omega), qo 1 7 (by omega) (by omega)]; exact i4, fun j hj => by rw [qo 105 j (by omega) (by omega), qo 5 j (by omega) (by omega)]; exact i5 j hj, fun j hj => by rw [qo 106 j (by omega) (by omega), qo 81 j (by omega) (by omega)]; exact i6 j hj⟩
      · rw [qo 1 7 (by omega) (by omega)] at z
        exact absurd z q
      · exact IC_of z1 e4 (fun a j ha => qo a j (by omega) (by omega)) (qo 80 5 (by omega) (by omega)) (fun v hv => ⟨qE v 0 1 hv (by decide), fun j => qE v 6 j hv (by decide)⟩)
      · have ea : ∀ v, eqA s2 v = eqA s v := fun v => eqA_of (e4 v)
        refine ⟨g1, by rw [qc 80 9 (by omega)]; exact g2, fun v i hv hi hti hq => ?_, fun v hv => by rw [qc 83 v (by omega)]; exact g4 v hv, fun j hj => by rw [qc 80 8 (by omega)]; exact g3.2 j hj, by rw [qc 80 6 (by omega)]; exact g5, by rw [qc 80 6 (by omega)]; exact g6, fun z v hv => by rw [qc 80 6 (by omega), qc 82 v (by omega)]; exact g7 z v hv⟩
        have rg := isE_rng (h1.ok v hv) (show 8 < 9 by decide) rfl
        rw [et] at hq
        rw [ea, qc (eqA s v + 8) i (by omega)]
        exact g3.1 v i hv hi hti hq
