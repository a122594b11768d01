/-! Running: the reference settles the same. -/
/-- memories, and who was there before -/
def MB (B : St) (N : Nat → Nat) (isT : Nat → Nat → Bool) (s t : St) (M : Nat) : Prop :=
  (∀ v i, v < 8 → i < N v → isT v i = true → (tR B v i = 80 ∨ tR B v i = 67) → t 102 (24 * v + i) = s (eqA B v + 8) i) ∧ (∀ k, k < 9 → ∃ m, m ≤ M ∧ t 112 k = nI m ∧ (bt (s 80 8) k = true ↔ 0 < m))
theorem bg_rel {B s t : St} {N : Nat → Nat} {isT : Nat → Nat → Bool} {M : Nat} (h : MB B N isT s t M) (hM : M < 2147483648) {k : Int32} (hk : clk k) : bgn s k ↔ ¬ t 112 (k + 1).toNatClampNeg = 0 := by
  rcases hk with rfl | ⟨u, hu, rfl⟩
  · obtain ⟨m, m1, m2, m3⟩ := h.2 0 (by decide)
    have e : ((-1 : Int32) + 1).toNatClampNeg = 0 := by decide
    rw [bgn_m, m3, e, m2, nI_z (by omega)]
    omega
  · obtain ⟨m, m1, m2, m3⟩ := h.2 (u + 1) (by omega)
    rw [bgn_n (by omega), m3, nI_1, nI_clamp (by omega), m2, nI_z (by omega)]
    omega
/-- the class has settled -/
def FS (B : St) (N : Nat → Nat) (isT ip : Nat → Nat → Bool) (s : St) : Prop := sto B s ∧ bt (s 80 7) 0 = true ∧ (∀ u, u < 8 → N u = 0 → bt (s 80 6) u = false ∧ bt (s 80 7) (u + 1) = false) ∧ (∀ u, u < 8 → 0 < N u → CS B N isT ip s u)
section SETR
variable {B : St} {N : Nat → Nat} {isT : Nat → Nat → Bool} {en : Nat → Nat → Nat} {ip : Nat → Nat → Bool}
theorem ev_B (h : BS B N isT en ip) {σ τ : St} (hs : sto B σ) (ht : stoR B τ) {v : Nat} (hv : v < 8) (hN : 0 < N v) {Gd Rl : Nat → Prop}
    (hG : ∀ i k, i < N v → isT v i = true → Gd i → ¬ tR B v i = 80 → k < pcn (tR B v i) → Gd (ch (tR B v) (en v) i k))
    (hNm : ∀ i u, i < N v → isT v i = true → Gd i → u < 8 → (cVar (tR B v i) ∨ tR B v i = 87 ∨ tR B v i = 67) → nmF (tR B v) (en v) i = nI u → Rl u)
    (hR : ∀ u, u < 8 → Rl u → (act σ (nI u) ↔ actR τ (nI u)) ∧ (act σ (B 105 u) → σ 82 u = τ 110 u) ∧ (act σ (nI u) → act σ (B 105 u)))
    (hM : ∀ i, i < N v → isT v i = true → (tR B v i = 80 ∨ tR B v i = 67) → τ 102 (24 * v + i) = σ (eqA B v + 8) i)
    (hB : ∀ i, i < N v → isT v i = true → (bgn σ (B 99 (24 * v + i)) ↔ ¬ τ 112 (B 99 (24 * v + i) + 1).toNatClampNeg = 0))
    (fs : ∀ i, i < N v → isT v i = true → Gd i → act σ (B 99 (24 * v + i)) → σ (eqA B v + 7) i = vA σ (eqA B v) i)
    (ft : ∀ i, i < N v → isT v i = true → τ 101 (24 * v + i) = wkV τ v (en v) i) :
    ∀ i, i < N v → isT v i = true → Gd i → act σ (B 99 (24 * v + i)) → σ (eqA B v + 7) i = τ 101 (24 * v + i) := by
  obtain ⟨d1, d2, d3⟩ := (h.1.2.2.2 v hv).2.2.2 hN
  obtain ⟨c1, c2⟩ := h.2.2.1 v hv hN
  have he := h.1.ok v hv
  have et : tR τ v = tR B v := by
    funext j
    exact ht 96 _ (by omega)
  have e99 : τ 99 = B 99 := funext (fun j => ht 99 j (by omega))
  have hE : EqOK σ (eqA B v) (N v) (isT v) (en v) (ip v) := EqOK_of d1 (sto_E hs (i := 0) 1 he (by decide)) (fun i j _ hi => sto_E hs j he (by omega))
  intro i hi hti hgd hact
  have key := ev_agree (s := σ) (t := τ) (v := v) (cl := B 105) (k0 := B 105 v) (Gd := Gd) (Rl := Rl) hE (by rw [et]; exact d2.2.2.1) (fun i hi => by rw [et, sto_E hs i he (by decide)]; exact d3 i hi) (by rw [et, e99]; exact c1) (fun i hi hti => by rw [e99, sto_E hs i he (by decide)]; exact (c2 i hi hti).1) (fun i hi hti => by rw [et, e99]; exact (c2 i hi hti).2) (by rw [et]; exact hG) (by rw [et]; exact hNm) hR (fun k hk => by rw [hs 81 k (Or.inr (Or.inr (Or.inl rfl))), ht 106 k (by omega)]; exact (h.2.1.2.2.2.2.2 k hk).symm) (by rw [et]; exact hM) (by rw [e99]; exact hB) (by rw [e99]; exact fs) ft (N v - i) i (Nat.le_refl _) hi hti hgd
  rw [e99] at key
  exact key hact
/-- the reference while it settles -/
def RI (B : St) (N : Nat → Nat) (σ t0 t : St) : Prop := stoR B t ∧
  (∀ u, u < 8 → ¬ t 108 u = 0 → 0 < N u ∧ (∀ x, D109 B u x → ¬ t 108 x = 0) ∧ (¬ t 107 u = 0 ↔ bt (σ 80 6) u = true) ∧ (bt (σ 80 6) u = true → t 110 u = σ 82 u)) ∧
  (∀ u, u < 8 → t 108 u = 0 → t 107 u = 0) ∧
  (∀ u, u < 8 → t 111 u = t0 111 u + (if t 107 u = 0 then 0 else 1)) ∧
  (∀ a j, ¬ (a = 101 ∨ a = 107 ∨ a = 108 ∨ a = 110 ∨ a = 111) → t a j = t0 a j)
theorem agr {σ t : St} (hf : FS B N isT ip σ) {u : Nat} (hu : u < 8) (hN : 0 < N u) (h1 : ¬ t 107 u = 0 ↔ bt (σ 80 6) u = true) (h2 : bt (σ 80 6) u = true → t 110 u = σ 82 u) : (act σ (nI u) ↔ actR t (nI u)) ∧ (act σ (B 105 u) → σ 82 u = t 110 u) ∧ (act σ (nI u) → act σ (B 105 u)) := by
  obtain ⟨c1, c2, _⟩ := hf.2.2.2 u hu hN
  rw [act_n (by omega), actR_n hu, c2, h1]
  refine ⟨⟨fun z => ⟨z.1, by rw [h2 z.1]; exact z.2⟩, fun z => ⟨z.1, by rw [← h2 z.1]; exact z.2⟩⟩, fun z => (h2 (c1.mpr z)).symm, fun z => c1.mp z.1⟩
theorem in1_RI (h : BS B N isT en ip) {σ t0 t : St} {M : Nat} (hf : FS B N isT ip σ) (hmb : MB B N isT σ t0 M) (hM : M < 2147483648) (hr : RI B N σ t0 t) {v : Nat} (hv : v < 8) : RI B N σ t0 (in1 N isT en v t) ∧ (∀ u, ¬ t 108 u = 0 → ¬ in1 N isT en v t 108 u = 0) ∧ (0 < N v → (∀ x, D109 B v x → ¬ t 108 x = 0) → ¬ in1 N isT en v t 108 v = 0) := by
  obtain ⟨r1, r2, r3, r4, r5⟩ := hr
  have e97 : t 97 v = B 97 v := r1 97 v (by omega)
  have e109 : ∀ j, t 109 j = B 109 j := fun j => r1 109 j (by omega)
  have e105 : t 105 v = B 105 v := r1 105 v (by omega)
  obtain ⟨l1, l2, l3, l4, l5⟩ := IE_len h.1 hv
  by_cases q : cwR t v
  · obtain ⟨q1, q2, q3⟩ := q
    have hN : 0 < N v := by
      rw [e97, l5] at q1
      omega
    have hDd : ∀ x, D109 B v x → ¬ t 108 x = 0 := fun x hx => by
      rcases q3 x (by omega) hx.2.1 with z | z
      · rw [e109] at z
        exact absurd z hx.2.2
      · exact z
    have hRd : ∀ u, Rch (D109 B) v u → ¬ t 108 u = 0 := fun u hu => by
      refine hu (fun a b => (a = v ∨ ¬ t 108 a = 0) → ¬ t 108 b = 0) (fun a b hd ha => ?_) (fun a b c x y z => y (Or.inr (x z))) (Or.inl rfl)
      rcases ha with z | z
      · subst z
        exact hDd b hd
      · exact (r2 a hd.1 z).2.1 b hd
    have hag : ∀ u, u < 8 → Rch (D109 B) v u → (act σ (nI u) ↔ actR t (nI u)) ∧ (act σ (B 105 u) → σ 82 u = t 110 u) ∧ (act σ (nI u) → act σ (B 105 u)) := fun u hu hru => by
      obtain ⟨x1, x2, x3, x4⟩ := r2 u hu (hRd u hru)
      exact agr hf hu x1 x3 x4
    have hac : act σ (B 105 v) ↔ actR t (B 105 v) := by
      rcases h.clkD hv hN with z | ⟨u, hu, hd, z⟩
      · rw [z]
        exact ⟨fun _ => actR_m t, fun _ => act_m.mpr hf.2.1⟩
      · rw [z]
        exact (hag u hu (Rch_D hd)).1
    have hvD : ¬ D109 B v v := fun z => h.nself v (Rch_D z)
    have ha1 : actR (sU t 108 v 1) (t 105 v) ↔ actR t (B 105 v) := by
      rw [e105]
      unfold actR
      rw [sU_n (by omega), sU_n (by omega)]
    obtain ⟨c1, c2, c3⟩ := hf.2.2.2 v hv hN
    have n1 : ¬ (1 : Int32) = 0 := by decide
    by_cases q4 : actR (sU t 108 v 1) (t 105 v)
    · have e1 : in1 N isT en v t = sU (sU (sU (wA N isT en v (sU t 108 v 1)) 107 v 1) 110 v (wA N isT en v (sU t 108 v 1) 101 (24 * v))) 111 v (wA N isT en v (sU t 108 v 1) 111 v + 1) := by
        unfold in1
        rw [if_pos ⟨q1, q2, q3⟩, if_pos q4]
        dsimp only
        rw [sU_n (show ¬ (111 = 110 ∧ v = v) by omega), sU_n (show ¬ (111 = 107 ∧ v = v) by omega)]
      have w0 : ∀ a j, a ≠ 101 → a ≠ 108 → wA N isT en v (sU t 108 v 1) a j = t a j := fun a j h1 h2 => by
        unfold wA
        rw [wkL_off h1, sU_n (by omega)]
      have w8 : ∀ u, wA N isT en v (sU t 108 v 1) 108 u = if u = v then 1 else t 108 u := fun u => by
        unfold wA
        rw [wkL_off (by decide)]
        by_cases z : u = v
        · subst z
          rw [if_pos rfl, sU_same]
        · rw [if_neg z, sU_n (by omega)]
      have hst : stoR B (wA N isT en v (sU t 108 v 1)) := r1.tr ((stoR_U t v 1 (by decide)).tr (stoR_wkL _ _))
      have actw : ∀ k, actR (wA N isT en v (sU t 108 v 1)) k ↔ actR t k := fun k => by
        unfold actR
        rw [w0 107 _ (by decide) (by decide), w0 110 _ (by decide) (by decide)]
      have b6 : bt (σ 80 6) v = true := c1.mpr (hac.mpr (ha1.mp q4))
      obtain ⟨f1, f2⟩ := c3 b6
      obtain ⟨d1, d2, d3⟩ := (h.1.2.2.2 v hv).2.2.2 hN
      have root : σ (eqA B v + 7) 0 = wA N isT en v (sU t 108 v 1) 101 (24 * v) := by
        refine ev_B h hf.1 hst hv hN (Gd := fun i => ip v i = false) (Rl := fun u => Rch (D109 B) v u) (fun i k hi hti hg h80 hk => ?_) (fun i u hi hti hg hu hq hnm => Rch_D ((h.names hv hu hi hti hq hnm).2 hg)) (fun u hu hru => ?_) (fun i hi hti hq => ?_) (fun i hi hti => ?_) (fun i hi hti hg ha => f2 i hi hti hg ha) (fun i hi hti => ?_) 0 hN d1.2.2.1.2.2.1 d1.2.2.2.2.2.2.2.1 ?_
        · have e := d3 i hi
          have hip := d1.2.2.2.2.2.2.2.2
          rw [e] at hk h80
          rw [ch_congr e, hip i k hi hti hk, hg, decide_eq_false h80]
          rfl
        · rw [actw, w0 110 u (by decide) (by decide)]
          exact hag u hu hru
        · rw [w0 102 _ (by decide) (by decide), r5 102 _ (by omega)]
          exact hmb.1 v i hv hi hti hq
        · rw [w0 112 _ (by decide) (by decide), r5 112 _ (by omega)]
          refine bg_rel hmb hM ?_
          rcases K_all h hv hi hti with z | ⟨u, hu, _, z⟩
          · exact Or.inl z
          · exact Or.inr ⟨u, hu, z⟩
        · have hL : LineOK (tR (sU t 108 v 1) v) (N v) (isT v) (en v) := by
            have : tR (sU t 108 v 1) v = tR B v := by
              funext j
              show sU t 108 v 1 96 (24 * v + j) = B 96 (24 * v + j)
              rw [sU_n (by omega), r1 96 _ (by omega)]
            rw [this]
            exact d2.2.2.1
          exact wkL_fix (N v) (sU t 108 v 1) hL (Nat.le_refl _) i hi hti
        · have := (h.2.2.1 v hv hN).1.1
          dsimp only at this
          rw [this]
          exact hac.mpr (ha1.mp q4)
      rw [e1]
      have o8 : ∀ u, sU (sU (sU (wA N isT en v (sU t 108 v 1)) 107 v 1) 110 v (wA N isT en v (sU t 108 v 1) 101 (24 * v))) 111 v (wA N isT en v (sU t 108 v 1) 111 v + 1) 108 u = if u = v then 1 else t 108 u := fun u => by
        rw [sU_n (by omega), sU_n (by omega), sU_n (by omega), w8]
      have o8' : ∀ u, ¬ t 108 u = 0 → ¬ sU (sU (sU (wA N isT en v (sU t 108 v 1)) 107 v 1) 110 v (wA N isT en v (sU t 108 v 1) 101 (24 * v))) 111 v (wA N isT en v (sU t 108 v 1) 111 v + 1) 108 u = 0 := fun u hu => by
        rw [o8]
        split
        · exact n1
        · exact hu
      refine ⟨⟨((hst.tr (stoR_U _ _ _ (by decide))).tr (stoR_U _ _ _ (by decide))).tr (stoR_U _ _ _ (by decide)), fun u hu hd => ?_, fun u hu hd => ?_, fun u hu => ?_, fun a j ha => ?_⟩, o8', fun _ _ => ?_⟩
      · by_cases z : u = v
        · subst z
          refine ⟨hN, fun x hx => o8' x (hDd x hx), ?_, fun _ => ?_⟩
          · rw [sU_n (by omega), sU_n (by omega), sU_same]
            exact ⟨fun _ => b6, fun _ => n1⟩
          · rw [sU_n (by omega), sU_same, ← root]
            exact f1.symm
        · rw [o8, if_neg z] at hd
          obtain ⟨x1, x2, x3, x4⟩ := r2 u hu hd
          refine ⟨x1, fun x hx => o8' x (x2 x hx), ?_, ?_⟩
          · rw [sU_n (by omega), sU_n (by omega), sU_n (by omega), w0 107 u (by decide) (by decide)]
            exact x3
          · rw [sU_n (by omega), sU_n (by omega), sU_n (by omega), w0 110 u (by decide) (by decide)]
            exact x4
      · by_cases z : u = v
        · subst z
          rw [o8, if_pos rfl] at hd
          exact absurd hd n1
        · rw [o8, if_neg z] at hd
          rw [sU_n (by omega), sU_n (by omega), sU_n (by omega), w0 107 u (by decide) (by decide)]
          exact r3 u hu hd
      · by_cases z : u = v
        · subst z
          have h0 := r4 u hu
          rw [r3 u hu q2, if_pos rfl, Int32.add_zero] at h0
          rw [sU_same, sU_n (by omega), sU_n (by omega), sU_same, if_neg n1, w0 111 u (by decide) (by decide), h0]
        · rw [sU_n (by omega), sU_n (by omega), sU_n (by omega), w0 111 u (by decide) (by decide), sU_n (by omega), sU_n (by omega), sU_n (by omega), w0 107 u (by decide) (by decide)]
          exact r4 u hu
      · rw [sU_n (by omega), sU_n (by omega), sU_n (by omega), w0 a j (by omega) (by omega)]
        exact r5 a j ha
      · rw [o8, if_pos rfl]
        exact n1
    · have e1 : in1 N isT en v t = sU t 108 v 1 := by
        unfold in1
        rw [if_pos ⟨q1, q2, q3⟩, if_neg q4]
      have b6 : ¬ bt (σ 80 6) v = true := fun z => q4 (ha1.mpr (hac.mp (c1.mp z)))
      rw [e1]
      have o8' : ∀ u, ¬ t 108 u = 0 → ¬ sU t 108 v 1 108 u = 0 := fun u hu => by
        by_cases z : u = v
        · subst z
          rw [sU_same]
          exact n1
        · rw [sU_n (by omega)]
          exact hu
      refine ⟨⟨r1.tr (stoR_U t v 1 (by decide)), fun u hu hd => ?_, fun u hu hd => ?_, fun u hu => ?_, fun a j ha => ?_⟩, o8', fun _ _ => by rw [sU_same]; exact n1⟩
      · by_cases z : u = v
        · subst z
          refine ⟨hN, fun x hx => o8' x (hDd x hx), ?_, fun z => absurd z b6⟩
          rw [sU_n (by omega), r3 u hu q2]
          exact ⟨fun z => absurd rfl z, fun z => absurd z b6⟩
        · rw [sU_n (by omega)] at hd
          obtain ⟨x1, x2, x3, x4⟩ := r2 u hu hd
          refine ⟨x1, fun x hx => o8' x (x2 x hx), ?_, ?_⟩
          · rw [sU_n (by omega)]
            exact x3
          · rw [sU_n (by omega)]
            exact x4
      · rw [sU_n (by omega)]
        by_cases z : u = v
        · subst z
          exact r3 u hu q2
        · rw [sU_n (by omega)] at hd
          exact r3 u hu hd
      · rw [sU_n (by omega), sU_n (by omega)]
        exact r4 u hu
      · rw [sU_n (by omega)]
        exact r5 a j ha
  · have e1 : in1 N isT en v t = t := if_neg q
    rw [e1]
    refine ⟨⟨r1, r2, r3, r4, r5⟩, fun u hu => hu, fun hN hd hz => q ⟨?_, hz, fun w _ hw => ?_⟩⟩
    · rw [e97, l5]
      omega
    · by_cases y : t 109 (8 * v + w) = 0
      · exact Or.inl y
      · rw [e109] at y
        exact Or.inr (hd w ⟨hv, hw, y⟩)
theorem in2_RI (h : BS B N isT en ip) {σ t0 : St} {M : Nat} (hf : FS B N isT ip σ) (hmb : MB B N isT σ t0 M) (hM : M < 2147483648) (k : Nat) : ∀ (r v : Nat) (t : St), v + r = 8 → RI B N σ t0 t → (∀ u, u < 8 → 0 < N u → rk B u < k → ¬ t 108 u = 0) → (∀ u, u < v → 0 < N u → rk B u < k + 1 → ¬ t 108 u = 0) → RI B N σ t0 (in2 N isT en r v t) ∧ ∀ u, u < 8 → 0 < N u → rk B u < k + 1 → ¬ in2 N isT en r v t 108 u = 0
  | 0, v, t, hv, h1, h2, h3 => ⟨h1, fun u hu => h3 u (by omega)⟩
  | r + 1, v, t, hv, h1, h2, h3 => by
    obtain ⟨a1, a2, a3⟩ := in1_RI h hf hmb hM h1 (show v < 8 by omega)
    refine in2_RI h hf hmb hM k r (v + 1) (in1 N isT en v t) (by omega) a1 (fun u hu hN hk => a2 u (h2 u hu hN hk)) (fun u hu hN hk => ?_)
    by_cases z : u = v
    · subst z
      refine a3 hN (fun x hx => ?_)
      have hr := Rch_D hx
      have := h.rk_lt hr
      exact h2 x hx.2.1 (h.Dlt hr).2.2.2 (by omega)
    · exact a2 u (h3 u (by omega) hN hk)
theorem in3_RI (h : BS B N isT en ip) {σ t0 : St} {M : Nat} (hf : FS B N isT ip σ) (hmb : MB B N isT σ t0 M) (hM : M < 2147483648) : ∀ (r k : Nat) (t : St), RI B N σ t0 t → (∀ u, u < 8 → 0 < N u → rk B u < k → ¬ t 108 u = 0) → RI B N σ t0 (in3 N isT en r t) ∧ ∀ u, u < 8 → 0 < N u → rk B u < k + r → ¬ in3 N isT en r t 108 u = 0
  | 0, k, t, h1, h2 => ⟨h1, h2⟩
  | r + 1, k, t, h1, h2 => by
    obtain ⟨a1, a2⟩ := in2_RI h hf hmb hM k 8 0 t (by decide) h1 h2 (fun u hu => absurd hu (by omega))
    obtain ⟨b1, b2⟩ := in3_RI h hf hmb hM r (k + 1) _ a1 a2
    refine ⟨b1, fun u hu hN hk => b2 u hu hN (by omega)⟩
theorem in0_ok : ∀ (r v : Nat) (t : St), v + r = 8 → (∀ u, u < 8 → (v ≤ u ∨ t 108 u = 0) → in0 r v t 108 u = 0) ∧ (∀ u, u < 8 → (v ≤ u ∨ t 107 u = 0) → in0 r v t 107 u = 0) ∧ (∀ a j, a ≠ 107 → a ≠ 108 → in0 r v t a j = t a j)
  | 0, v, t, hv => ⟨fun u hu z => z.elim (fun y => by omega) id, fun u hu z => z.elim (fun y => by omega) id, fun _ _ _ _ => rfl⟩
  | r + 1, v, t, hv => by
    obtain ⟨a, b, c⟩ := in0_ok r (v + 1) (sU (sU t 108 v 0) 107 v 0) (by omega)
    rw [in0]
    refine ⟨fun u hu z => a u hu ?_, fun u hu z => b u hu ?_, fun x j h1 h2 => ?_⟩
    · by_cases y : u = v
      · subst y
        exact Or.inr (by rw [sU_n (by omega), sU_same])
      · refine z.elim (fun w => Or.inl (by omega)) (fun w => Or.inr ?_)
        rw [sU_n (by omega), sU_n (by omega)]
        exact w
    · by_cases y : u = v
      · subst y
        exact Or.inr (by rw [sU_same])
      · refine z.elim (fun w => Or.inl (by omega)) (fun w => Or.inr ?_)
        rw [sU_n (by omega), sU_n (by omega)]
        exact w
    · rw [c x j h1 h2, sU_n (by omega), sU_n (by omega)]
/-- both have settled alike -/
def FA (B : St) (N : Nat → Nat) (σ τ : St) : Prop := stoR B τ ∧ ∀ u, u < 8 → (¬ τ 107 u = 0 ↔ bt (σ 80 6) u = true) ∧ (bt (σ 80 6) u = true → τ 110 u = σ 82 u ∧ 0 < N u) ∧ (act σ (nI u) ↔ actR τ (nI u))
theorem settledR (h : BS B N isT en ip) {σ t : St} {M : Nat} (hf : FS B N isT ip σ) (ht : stoR B t) (hmb : MB B N isT σ t M) (hM : M < 2147483648) : FA B N σ (in3 N isT en 8 (in0 8 0 t)) ∧ (∀ u, u < 8 → in3 N isT en 8 (in0 8 0 t) 111 u = t 111 u + (if bt (σ 80 6) u = true then 1 else 0)) ∧ (∀ a j, ¬ (a = 101 ∨ a = 107 ∨ a = 108 ∨ a = 110 ∨ a = 111) → in3 N isT en 8 (in0 8 0 t) a j = t a j) := by
  obtain ⟨z1, z2, z3⟩ := in0_ok 8 0 t (by decide)
  have hmb0 : MB B N isT σ (in0 8 0 t) M := ⟨fun v i hv hi hti hq => by rw [z3 102 _ (by decide) (by decide)]; exact hmb.1 v i hv hi hti hq, fun k hk => by rw [z3 112 k (by decide) (by decide)]; exact hmb.2 k hk⟩
  have hst0 : stoR B (in0 8 0 t) := fun a j ha => by rw [z3 a j (by omega) (by omega)]; exact ht a j ha
  have hri : RI B N σ (in0 8 0 t) (in0 8 0 t) := ⟨hst0, fun u hu hd => absurd (z1 u hu (Or.inl (by omega))) hd, fun u hu _ => z2 u hu (Or.inl (by omega)), fun u hu => by rw [z2 u hu (Or.inl (by omega)), if_pos rfl, Int32.add_zero], fun _ _ _ => rfl⟩
  obtain ⟨⟨r1, r2, r3, r4, r5⟩, dn⟩ := in3_RI h hf hmb0 hM 8 0 _ hri (fun u _ _ z => absurd z (by omega))
  generalize in3 N isT en 8 (in0 8 0 t) = τ at r1 r2 r3 r4 r5 dn
  have fa : ∀ u, u < 8 → (¬ τ 107 u = 0 ↔ bt (σ 80 6) u = true) ∧ (bt (σ 80 6) u = true → τ 110 u = σ 82 u ∧ 0 < N u) ∧ (act σ (nI u) ↔ actR τ (nI u)) := fun u hu => by
    by_cases hN : 0 < N u
    · obtain ⟨x1, x2, x3, x4⟩ := r2 u hu (dn u hu hN (by have := (h.rk8 hu).mpr hN; omega))
      exact ⟨x3, fun z => ⟨x4 z, hN⟩, (agr hf hu hN x3 x4).1⟩
    · obtain ⟨y1, y2⟩ := hf.2.2.1 u hu (by omega)
      have h8 : τ 108 u = 0 := Classical.byContradiction (fun z => hN (r2 u hu z).1)
      have h7 := r3 u hu h8
      rw [act_n (by omega), actR_n hu, y1, y2, h7]
      exact ⟨⟨fun z => absurd rfl z, fun z => absurd z (by decide)⟩, fun z => absurd z (by decide), ⟨fun z => absurd z (by decide), fun z => absurd rfl z.1⟩⟩
  refine ⟨⟨r1, fa⟩, fun u hu => ?_, fun a j ha => by rw [r5 a j ha, z3 a j (by omega) (by omega)]⟩
  rw [r4 u hu, z3 111 u (by decide) (by decide)]
  by_cases q : bt (σ 80 6) u = true
  · rw [if_pos q, if_neg ((fa u hu).1.mpr q)]
  · rw [if_neg q, if_pos (Classical.byContradiction (fun z => q ((fa u hu).1.mp z)))]
end SETR
