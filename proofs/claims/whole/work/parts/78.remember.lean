/-! Running: what P and C take up. -/
theorem rm1_off {s : St} {e i a j : Nat} (h : ¬ (a = e + 8 ∧ j = i)) : rm1 s e i a j = s a j := by
  unfold rm1
  split
  · exact sU_n h
  · rfl
theorem rmL_ok {e : Nat} (he : isE e) : ∀ (r i : Nat) (s : St), (∀ a j, a ≠ e + 8 → rmL s e r i a j = s a j) ∧ (∀ j, ((i ≤ j ∧ j < i + r) ∧ (s (e + 1) j = 80 ∨ s (e + 1) j = 67) ∧ act s (rck s e j)) → rmL s e r i (e + 8) j = pv s e j 0) ∧ (∀ j, ¬ ((i ≤ j ∧ j < i + r) ∧ (s (e + 1) j = 80 ∨ s (e + 1) j = 67) ∧ act s (rck s e j)) → rmL s e r i (e + 8) j = s (e + 8) j)
  | 0, i, s => ⟨fun _ _ _ => rfl, fun j hj => absurd hj.1 (by omega), fun _ _ => rfl⟩
  | r + 1, i, s => by
    have rg := isE_rng he (show 8 < 9 by decide) rfl
    obtain ⟨a1, a2, a3⟩ := rmL_ok he r (i + 1) (rm1 s e i)
    have o : ∀ a j, a ≠ e + 8 → rm1 s e i a j = s a j := fun a j ha => rm1_off (fun z => ha z.1)
    have ea : ∀ j, act (rm1 s e i) (rck (rm1 s e i) e j) ↔ act s (rck s e j) := fun j => by
      unfold act rck
      rw [o 80 7 (by omega), o (e + 1) j (by omega), o (e + 3) j (by omega), o (e + 6) j (by omega)]
    have ep : ∀ j, pv (rm1 s e i) e j 0 = pv s e j 0 := fun j => by
      unfold pv
      rw [o (e + 2) _ (by omega), o (e + 7) _ (by omega)]
    rw [rmL]
    refine ⟨fun a j ha => (a1 a j ha).trans (o a j ha), fun j hj => ?_, fun j hj => ?_⟩
    · by_cases z : j = i
      · subst z
        rw [a3 j (fun y => by have := y.1; omega)]
        unfold rm1
        rw [if_pos hj.2, sU_same]
      · rw [a2 j ⟨by have := hj.1; omega, by rw [o (e + 1) j (by omega), ea j]; exact hj.2⟩, ep]
    · by_cases z : j = i
      · subst z
        rw [a3 j (fun y => by have := y.1; omega)]
        unfold rm1
        rw [if_neg (fun y => hj ⟨by omega, y⟩)]
      · rw [a3 j (fun y => hj ⟨by have := y.1; omega, by have := y.2; rw [o (e + 1) j (by omega), ea j] at this; exact this⟩)]
        exact rm1_off (fun y => z y.2)
section REM
variable {B : St} {N : Nat → Nat} {isT : Nat → Nat → Bool} {en : Nat → Nat → Nat} {ip : Nat → Nat → Bool}
/-- the class has taken up what v's P and C remember -/
def MC (B : St) (N : Nat → Nat) (isT : Nat → Nat → Bool) (σ s : St) (v : Nat) : Prop := ∃ ρ, sto B ρ ∧ (∀ j, ρ 80 j = σ 80 j) ∧ (∀ j, ρ 82 j = σ 82 j) ∧ (∀ j, ρ (eqA B v + 8) j = σ (eqA B v + 8) j) ∧ (∀ j, j < N v → ρ (eqA B v + 7) j = vA ρ (eqA B v) j) ∧
  ∀ j, j < N v → isT v j = true → (tR B v j = 80 ∨ tR B v j = 67) → (act σ (rck B (eqA B v) j) → s (eqA B v + 8) j = pv ρ (eqA B v) j 0) ∧ (¬ act σ (rck B (eqA B v) j) → s (eqA B v + 8) j = σ (eqA B v + 8) j)
def RSI (B : St) (N : Nat → Nat) (isT : Nat → Nat → Bool) (σ s : St) (i : Nat) : Prop := sto B s ∧ (∀ a j, (¬ ∃ e, isE e ∧ (a = e + 7 ∨ a = e + 8)) → s a j = σ a j) ∧ (∀ u j, u < 8 → 0 < N u → i ≤ pos B u → s (eqA B u + 8) j = σ (eqA B u + 8) j) ∧ (∀ u, u < 8 → 0 < N u → pos B u < i → MC B N isT σ s u)
theorem RSI_step (h : BS B N isT en ip) {σ s : St} {i : Nat} (hi : i < gB (rk B) 8 0) (hp : RSI B N isT σ s i) : RSI B N isT σ (rmL (evL s (eqA s (s 84 i).toNatClampNeg) (ln_ s (eqA s (s 84 i).toNatClampNeg))) (eqA s (s 84 i).toNatClampNeg) (ln_ s (eqA s (s 84 i).toNatClampNeg)) 0) (i + 1) := by
  obtain ⟨p1, p2, p3, p4⟩ := hp
  obtain ⟨v, v1, v2, v3, v4, v5⟩ := pos_i h hi
  have e84 : (s 84 i).toNatClampNeg = v := by
    rw [p1 84 i (Or.inr (Or.inr (Or.inr (Or.inl rfl)))), v3, nI_clamp (by omega)]
  have ea : eqA s v = eqA B v := sto_eqA p1 v
  obtain ⟨d1, d2, d3⟩ := (h.1.2.2.2 v v1).2.2.2 v2
  have he := h.1.ok v v1
  have rg := isE_rng he (show 7 < 9 by decide) rfl
  have el : ln_ s (eqA B v) = N v := PK_ln (sto_PK p1 (EqOK_PK d1))
  rw [e84, ea, el]
  have sρ : sto B (evL s (eqA B v) (N v)) := p1.tr (sto_evL he _ s)
  have oρ : ∀ a j, a ≠ eqA B v + 7 → evL s (eqA B v) (N v) a j = s a j := fun a j ha => evL_off ha _ _
  have fx := evL_fix (n := N v) he (N v) s (fun j k hj hk => by
    rw [sto_E p1 _ he (by decide)]
    exact EqOK_beh d1 j k hj hk) (Nat.le_refl _)
  obtain ⟨k1, k2, k3⟩ := rmL_ok he (N v) 0 (evL s (eqA B v) (N v))
  have hst := sρ.tr (sto_rmL he (N v) 0 (evL s (eqA B v) (N v)))
  generalize rmL (evL s (eqA B v) (N v)) (eqA B v) (N v) 0 = s2 at k1 k2 k3 hst ⊢
  have n80 : ∀ a, a < 6 ∨ (78 ≤ a ∧ a < 85) ∨ 94 ≤ a → ¬ ∃ e, isE e ∧ (a = e + 7 ∨ a = e + 8) := fun a ha ⟨e, he, z⟩ => by
    have := isE_rng he (show 7 < 9 by decide) rfl
    have := isE_rng he (show 8 < 9 by decide) rfl
    omega
  have oth : ∀ u j, u < 8 → u ≠ v → s2 (eqA B u + 8) j = s (eqA B u + 8) j := fun u j hu hne => by
    have e1 : eqA B u ≠ eqA B v := fun z => hne (h.1.2.2.1 u v hu v1 z)
    have e2 : eqA B u + 8 ≠ eqA B v + 7 := fun z => by
      have := isE_ne (h.1.ok u hu) he (by decide) (by decide) z
      omega
    rw [k1 _ _ (by omega), oρ _ _ e2]
  refine ⟨hst, fun a j ha => ?_, fun u j hu hN hd => ?_, fun u hu hN hd => ?_⟩
  · rw [k1 a j (fun z => ha ⟨_, he, Or.inr z⟩), oρ a j (fun z => ha ⟨_, he, Or.inl z⟩)]
    exact p2 a j ha
  · have hne : u ≠ v := fun z => by
      subst z
      omega
    rw [oth u j hu hne]
    exact p3 u j hu hN (by omega)
  · by_cases z : u = v
    · subst z
      have er : ∀ j, rck (evL s (eqA B u) (N u)) (eqA B u) j = rck B (eqA B u) j := fun j => by
        unfold rck
        rw [sto_E sρ j he (by decide), sto_E sρ j he (by decide), sto_E sρ j he (by decide)]
      have ac : ∀ k, act (evL s (eqA B u) (N u)) k ↔ act σ k := fun k => by
        unfold act
        rw [oρ 80 7 (by omega), p2 80 7 (n80 80 (by omega))]
      refine ⟨evL s (eqA B u) (N u), sρ, fun j => ?_, fun j => ?_, fun j => ?_, fx, fun j hj ht hq => ⟨fun ha => ?_, fun ha => ?_⟩⟩
      · rw [oρ 80 j (by omega), p2 80 j (n80 80 (by omega))]
      · rw [oρ 82 j (by omega), p2 82 j (n80 82 (by omega))]
      · rw [oρ _ j (by omega)]
        exact p3 u j hu hN (by omega)
      · refine k2 j ⟨by omega, ?_, ?_⟩
        · rw [sto_E sρ j he (by decide), ← d3 j hj]
          exact hq
        · rw [er, ac]
          exact ha
      · rw [k3 j (fun y => ha (by have := y.2.2; rw [er, ac] at this; exact this)), oρ _ j (by omega)]
        exact p3 u j hu hN (by omega)
    · have hlt : pos B u < i := by
        have : pos B u ≠ i := fun y => z (v5 u hu hN y)
        omega
      obtain ⟨ρ, x1, x2, x3, x4, x5, x6⟩ := p4 u hu hN hlt
      refine ⟨ρ, x1, x2, x3, x4, x5, fun j hj ht hq => ?_⟩
      rw [oth u j hu z]
      exact x6 j hj ht hq
theorem RSI_all (h : BS B N isT en ip) {σ : St} : ∀ (r i : Nat) (s : St), i + r = gB (rk B) 8 0 → RSI B N isT σ s i → RSI B N isT σ (rsL s r i) (gB (rk B) 8 0)
  | 0, i, s, hi, hp => by
    have : i = gB (rk B) 8 0 := by omega
    rw [← this]
    exact hp
  | r + 1, i, s, hi, hp => RSI_all h r (i + 1) _ (by omega) (RSI_step h (by omega) hp)
theorem RSI_start {σ : St} (hs : sto B σ) : RSI B N isT σ σ 0 := ⟨hs, fun _ _ _ => rfl, fun _ _ _ _ _ => rfl, fun _ _ _ z => absurd z (by omega)⟩
end REM
/-! the reference -/
theorem mmL_ok {v : Nat} {isT : Nat → Bool} {en : Nat → Nat} : ∀ (r i : Nat) (t : St), (∀ a j, a ≠ 102 → mmL v isT en r i t a j = t a j) ∧ (∀ y, y < 24 * v + i ∨ 24 * v + i + r ≤ y → mmL v isT en r i t 102 y = t 102 y) ∧ (∀ j, i ≤ j → j < i + r → (isT j = true ∧ (tR t v j = 80 ∨ tR t v j = 67) ∧ actR t (t 99 (24 * v + ch (tR t v) en j 0))) → mmL v isT en r i t 102 (24 * v + j) = t 101 (24 * v + ch (tR t v) en j 0)) ∧ (∀ j, i ≤ j → j < i + r → ¬ (isT j = true ∧ (tR t v j = 80 ∨ tR t v j = 67) ∧ actR t (t 99 (24 * v + ch (tR t v) en j 0))) → mmL v isT en r i t 102 (24 * v + j) = t 102 (24 * v + j))
  | 0, i, t => ⟨fun _ _ _ => rfl, fun _ _ => rfl, fun j h1 h2 => by omega, fun j h1 h2 => by omega⟩
  | r + 1, i, t => by
    obtain ⟨a1, a2, a3, a4⟩ := mmL_ok (v := v) (isT := isT) (en := en) r (i + 1) (mm1 v isT en i t)
    have o : ∀ a j, ¬ (a = 102 ∧ j = 24 * v + i) → mm1 v isT en i t a j = t a j := fun a j ha => by
      unfold mm1
      split
      · exact sU_n ha
      · rfl
    have et : tR (mm1 v isT en i t) v = tR t v := by
      funext j
      exact o 96 _ (by omega)
    have ec : ∀ j, actR (mm1 v isT en i t) (mm1 v isT en i t 99 (24 * v + ch (tR t v) en j 0)) ↔ actR t (t 99 (24 * v + ch (tR t v) en j 0)) := fun j => by
      unfold actR
      rw [o 99 _ (by omega), o 107 _ (by omega), o 110 _ (by omega)]
    rw [et] at a3 a4
    rw [mmL]
    refine ⟨fun a j ha => (a1 a j ha).trans (o a j (by omega)), fun y hy => (a2 y (by omega)).trans (o 102 y (by omega)), fun j h1 h2 hc => ?_, fun j h1 h2 hc => ?_⟩
    · by_cases z : j = i
      · subst z
        rw [a2 _ (by omega)]
        unfold mm1
        rw [if_pos hc, sU_same]
      · rw [a3 j (by omega) (by omega) (by rw [ec j]; exact hc), o 101 _ (by omega)]
    · by_cases z : j = i
      · subst z
        rw [a2 _ (by omega)]
        unfold mm1
        rw [if_neg hc]
      · rw [a4 j (by omega) (by omega) (by rw [ec j]; exact hc), o 102 _ (by omega)]
section REMR
variable {B : St} {N : Nat → Nat} {isT : Nat → Nat → Bool} {en : Nat → Nat → Nat} {ip : Nat → Nat → Bool}
def MRr (B : St) (N : Nat → Nat) (isT : Nat → Nat → Bool) (en : Nat → Nat → Nat) (τ t : St) (v : Nat) : Prop := ∃ κ, stoR B κ ∧ (∀ j, κ 107 j = τ 107 j) ∧ (∀ j, κ 110 j = τ 110 j) ∧ (∀ j, κ 112 j = τ 112 j) ∧ (∀ j, κ 102 (24 * v + j) = τ 102 (24 * v + j)) ∧ (∀ i, i < N v → isT v i = true → κ 101 (24 * v + i) = wkV κ v (en v) i) ∧
  ∀ j, j < N v → isT v j = true → (tR B v j = 80 ∨ tR B v j = 67) → (actR τ (B 99 (24 * v + ch (tR B v) (en v) j 0)) → t 102 (24 * v + j) = κ 101 (24 * v + ch (tR B v) (en v) j 0)) ∧ (¬ actR τ (B 99 (24 * v + ch (tR B v) (en v) j 0)) → t 102 (24 * v + j) = τ 102 (24 * v + j))
def RQ (B : St) (N : Nat → Nat) (isT : Nat → Nat → Bool) (en : Nat → Nat → Nat) (τ t : St) (v : Nat) : Prop := stoR B t ∧ (∀ a j, a ≠ 101 → a ≠ 102 → t a j = τ a j) ∧ (∀ y, 24 * v ≤ y → t 102 y = τ 102 y) ∧ (∀ u, u < v → 0 < N u → MRr B N isT en τ t u)
theorem in4_RQ (h : BS B N isT en ip) {τ : St} : ∀ (r v : Nat) (t : St), v + r = 8 → RQ B N isT en τ t v → RQ B N isT en τ (in4 N isT en r v t) 8
  | 0, v, t, hv, hq => by
    have : v = 8 := by omega
    rw [← this]
    exact hq
  | r + 1, v, t, hv, hq => by
    have hv8 : v < 8 := by omega
    obtain ⟨p1, p2, p3, p4⟩ := hq
    have n24 := (h.1.2.2.2 v hv8).2.1
    have sκ : stoR B (wA N isT en v t) := p1.tr (stoR_wkL _ _)
    have oκ : ∀ a j, a ≠ 101 → wA N isT en v t a j = t a j := fun a j ha => wkL_off ha _ _
    obtain ⟨k1, k2, k3, k4⟩ := mmL_ok (v := v) (isT := isT v) (en := en v) (N v) 0 (wA N isT en v t)
    have et : tR (wA N isT en v t) v = tR B v := by
      funext j
      exact sκ 96 _ (by omega)
    have e99 : wA N isT en v t 99 = B 99 := funext (fun j => sκ 99 j (by omega))
    rw [et, e99] at k3 k4
    have hst : stoR B (mmL v (isT v) (en v) (N v) 0 (wA N isT en v t)) := fun a j ha => (k1 a j (by omega)).trans (sκ a j ha)
    rw [in4]
    refine in4_RQ h r (v + 1) _ (by omega) ⟨hst, fun a j h1 h2 => ?_, fun y hy => ?_, fun u hu hN => ?_⟩
    · rw [k1 a j h2, oκ a j h1]
      exact p2 a j h1 h2
    · rw [k2 y (by omega), oκ 102 y (by decide)]
      exact p3 y (by omega)
    · by_cases z : u = v
      · subst z
        obtain ⟨d1, d2, d3⟩ := (h.1.2.2.2 u hv8).2.2.2 hN
        have ac : ∀ k, actR (wA N isT en u t) k ↔ actR τ k := fun k => by
          unfold actR
          rw [oκ 107 _ (by decide), oκ 110 _ (by decide), p2 107 _ (by decide) (by decide), p2 110 _ (by decide) (by decide)]
        refine ⟨wA N isT en u t, sκ, fun j => ?_, fun j => ?_, fun j => ?_, fun j => ?_, fun i hi hti => ?_, fun j hj ht hq => ⟨fun ha => ?_, fun ha => ?_⟩⟩
        · rw [oκ 107 j (by decide), p2 107 j (by decide) (by decide)]
        · rw [oκ 110 j (by decide), p2 110 j (by decide) (by decide)]
        · rw [oκ 112 j (by decide), p2 112 j (by decide) (by decide)]
        · rw [oκ 102 _ (by decide), p3 _ (by omega)]
        · have hL : LineOK (tR t u) (N u) (isT u) (en u) := by
            have : tR t u = tR B u := by
              funext j
              exact p1 96 _ (by omega)
            rw [this]
            exact d2.2.2.1
          exact wkL_fix (N u) t hL (Nat.le_refl _) i hi hti
        · exact k3 j (by omega) (by omega) ⟨ht, hq, (ac _).mpr ha⟩
        · rw [k4 j (by omega) (by omega) (fun y => ha ((ac _).mp y.2.2)), oκ 102 _ (by decide), p3 _ (by omega)]
      · obtain ⟨κ, x1, x2, x3, x4, x5, x6, x7⟩ := p4 u (by omega) hN
        refine ⟨κ, x1, x2, x3, x4, x5, x6, fun j hj ht hq => ?_⟩
        have nu := (h.1.2.2.2 u (by omega)).2.1
        rw [k2 _ (by omega), oκ 102 _ (by decide)]
        exact x7 j hj ht hq
/-- both remember the same -/
theorem mem_rel (h : BS B N isT en ip) {σ τ s t : St} {M : Nat} (hf : FS B N isT ip σ) (hfa : FA B N σ τ) (hmb : MB B N isT σ τ M) (hM : M < 2147483648) {v j : Nat} (hv : v < 8) (hj : j < N v) (ht : isT v j = true) (hq : tR B v j = 80 ∨ tR B v j = 67) (hc : MC B N isT σ s v) (hr : MRr B N isT en τ t v) : t 102 (24 * v + j) = s (eqA B v + 8) j := by
  have hN : 0 < N v := by omega
  obtain ⟨d1, d2, d3⟩ := (h.1.2.2.2 v hv).2.2.2 hN
  obtain ⟨c1, c2⟩ := h.2.2.1 v hv hN
  obtain ⟨ρ, x1, x2, x3, x4, x5, x6⟩ := hc
  obtain ⟨κ, y1, y2, y3, y4, y5, y6, y7⟩ := hr
  have hp1 : pcn (tR B v j) = 1 := pn1 (hq.elim (fun z => Or.inr (Or.inl z)) (fun z => Or.inr (Or.inr (Or.inr z))))
  have kd := LK_kid d2.2.2.1 hj ht (k := 0) (by omega)
  have ek := c1.2 j hj ht 0 (by omega)
  dsimp only at ek
  have erck : rck B (eqA B v) j = B 99 (24 * v + ch (tR B v) (en v) j 0) := by
    rw [ek]
    unfold rck iC
    rw [← d3 j hj]
    rcases hq with z | z
    · rw [if_neg (by rw [z]; decide), if_neg (by rw [z]; decide), if_neg (by rw [z]; decide)]
      exact (c2 j hj ht).1
    · rw [if_pos z, if_neg (by rw [z]; decide), if_pos z, d1.2.2.2.2.2.1 j hj, if_pos ht]
      exact (nmF_congr d1.2.2.1 d3 hj ht).symm
  have hac : act σ (B 99 (24 * v + ch (tR B v) (en v) j 0)) ↔ actR τ (B 99 (24 * v + ch (tR B v) (en v) j 0)) := by
    rcases K_all h hv kd.1 kd.2 with z | ⟨u, hu, _, z⟩
    · rw [z]
      exact ⟨fun _ => actR_m τ, fun _ => act_m.mpr hf.2.1⟩
    · rw [z]
      exact (hfa.2 u hu).2.2
  have aρ : ∀ k, act ρ k ↔ act σ k := fun k => by
    unfold act
    rw [x2]
  have aκ : ∀ k, actR κ k ↔ actR τ k := fun k => by
    unfold actR
    rw [y2, y3]
  obtain ⟨g1, g2⟩ := x6 j hj ht hq
  obtain ⟨f1, f2⟩ := y7 j hj ht hq
  rw [erck] at g1 g2
  by_cases q : act σ (B 99 (24 * v + ch (tR B v) (en v) j 0))
  · rw [f1 (hac.mp q), g1 q]
    have ec : ρ (eqA B v + 2) (3 * j + 0) = nI (ch (tR B v) (en v) j 0) := by
      rw [sto_E x1 _ (h.1.ok v hv) (by decide), d1.2.2.2.2.2.2.1 j 0 hj (by decide), if_pos ⟨ht, by rw [← d3 j hj]; omega⟩, ch_congr (d3 j hj)]
    have n24 := (h.1.2.2.2 v hv).2.1
    unfold pv
    rw [ec, if_neg (nI_m1 (by omega)), nI_clamp (by omega)]
    refine (ev_B h x1 y1 hv hN (Gd := fun _ => True) (Rl := fun u => 0 < N u) (fun _ _ _ _ _ _ _ => trivial) (fun i u hi hti _ hu hq hnm => (h.names hv hu hi hti hq hnm).1) (fun u hu hNu => ?_) (fun i hi hti hqi => ?_) (fun i hi hti => ?_) (fun i hi _ _ _ => x5 i hi) y6 _ kd.1 kd.2 trivial ((aρ _).mpr q)).symm
    · obtain ⟨w1, w2, w3⟩ := hfa.2 u hu
      obtain ⟨b1, b2, b3⟩ := hf.2.2.2 u hu hNu
      rw [aρ, aρ, aκ, x3, y3]
      refine ⟨w3, fun z => (w2 (b1.mpr z)).1.symm, fun z => ?_⟩
      rw [act_n (by omega)] at z
      exact b1.mp (b2.mp z).1
    · rw [y5, x4]
      exact hmb.1 v i hv hi hti hqi
    · have : bgn ρ (B 99 (24 * v + i)) ↔ bgn σ (B 99 (24 * v + i)) := by
        unfold bgn
        rw [x2]
      rw [this, y4]
      refine bg_rel hmb hM ?_
      rcases K_all h hv hi hti with z | ⟨u, hu, _, z⟩
      · exact Or.inl z
      · exact Or.inr ⟨u, hu, z⟩
  · rw [f2 (fun z => q (hac.mpr z)), g2 q]
    exact hmb.1 v j hv hj ht hq
end REMR
