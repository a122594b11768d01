/-! Running: the class settles the variables. -/
def st4 (s1 : St) (v : Nat) (x : Int32) : St := sU (sU (sU s1 82 v x) 80 6 (s1 80 6 ||| (1 <<< (nI v &&& 31)))) 83 v (s1 83 v + 1)
noncomputable def stY (s1 : St) (v : Nat) (x : Int32) : St := if x = 0 then st4 s1 v x else sU (st4 s1 v x) 80 7 (s1 80 7 ||| (1 <<< (nI (v + 1) &&& 31)))
theorem stl_eq {s : St} {v n : Nat} (hp : PK s (eqA s v) n) (ha : act s (s 5 v)) : stl s v = stY (evL s (eqA s v) n) v (evL s (eqA s v) n (eqA s v + 7) 0) := by
  unfold stl stY st4
  rw [if_pos ha, PK_ln hp]
  dsimp only
  generalize evL s (eqA s v) n = s1
  rw [sU_n (show ¬ (80 = 82 ∧ 6 = v) by omega), sU_n (show ¬ (83 = 80 ∧ v = 6) by omega), sU_n (show ¬ (83 = 82 ∧ v = v) by omega), sU_n (show ¬ (82 = 83 ∧ v = v) by omega), sU_n (show ¬ (82 = 80 ∧ v = 6) by omega), sU_same, sU_n (show ¬ (80 = 83 ∧ 7 = v) by omega), sU_n (show ¬ (80 = 80 ∧ 7 = 6) by omega), sU_n (show ¬ (80 = 82 ∧ 7 = v) by omega), nI_1]
/-- the cells of a turn -/
def tn (v e : Nat) (s s' : St) : Prop := (∀ a j, ¬ (a = e + 7 ∨ (a = 82 ∧ j = v) ∨ (a = 83 ∧ j = v) ∨ (a = 80 ∧ (j = 6 ∨ j = 7))) → s' a j = s a j) ∧ (∀ u, u < 32 → u ≠ v → bt (s' 80 6) u = bt (s 80 6) u) ∧ bt (s' 80 7) 0 = bt (s 80 7) 0 ∧ (∀ u, u < 8 → u ≠ v → bt (s' 80 7) (u + 1) = bt (s 80 7) (u + 1))
theorem stY_ok {s1 : St} {v e : Nat} {x : Int32} (he : isE e) (hv : v < 8) : tn v e s1 (stY s1 v x) ∧ (∀ j, stY s1 v x (e + 7) j = s1 (e + 7) j) ∧ stY s1 v x 82 v = x ∧ stY s1 v x 83 v = s1 83 v + 1 ∧ bt (stY s1 v x 80 6) v = true ∧ (bt (s1 80 7) (v + 1) = false → (bt (stY s1 v x 80 7) (v + 1) = true ↔ ¬ x = 0)) ∧ (s8 (s1 80 6) → s8 (stY s1 v x 80 6)) := by
  have rg := isE_rng he (show 7 < 9 by decide) rfl
  have o4 : ∀ a j, ¬ ((a = 82 ∧ j = v) ∨ (a = 83 ∧ j = v) ∨ (a = 80 ∧ j = 6)) → st4 s1 v x a j = s1 a j := fun a j ha => by
    unfold st4
    rw [sU_n (by omega), sU_n (by omega), sU_n (by omega)]
  have oY : ∀ a j, ¬ (a = 80 ∧ j = 7) → stY s1 v x a j = st4 s1 v x a j := fun a j ha => by
    unfold stY
    split
    · rfl
    · exact sU_n ha
  have e6 : stY s1 v x 80 6 = s1 80 6 ||| (1 <<< (nI v &&& 31)) := by
    rw [oY 80 6 (by omega)]
    unfold st4
    rw [sU_n (by omega), sU_same]
  have b6 : ∀ u, u < 32 → bt (stY s1 v x 80 6) u = (bt (s1 80 6) u || decide (u = v)) := fun u hu => by
    rw [e6, bt_or, bt_1 (by omega) hu]
  have b7 : ∀ u, u < 32 → bt (stY s1 v x 80 7) u = (bt (s1 80 7) u || (decide (u = v + 1) && decide (¬ x = 0))) := fun u hu => by
    unfold stY
    by_cases q : x = 0
    · rw [if_pos q, o4 80 7 (by omega), decide_eq_false (show ¬ ¬ x = 0 from fun z => z q), Bool.and_false, Bool.or_false]
    · rw [if_neg q, sU_same, bt_or, bt_1 (by omega) hu, decide_eq_true q, Bool.and_true]
  refine ⟨⟨fun a j ha => ?_, fun u hu hne => ?_, ?_, fun u hu hne => ?_⟩, fun j => ?_, ?_, ?_, ?_, fun hb => ?_, fun h8 u hu => ?_⟩
  · rw [oY a j (by omega), o4 a j (by omega)]
  · rw [b6 u hu, decide_eq_false hne, Bool.or_false]
  · rw [b7 0 (by decide), decide_eq_false (by omega), Bool.false_and, Bool.or_false]
  · rw [b7 (u + 1) (by omega), decide_eq_false (by omega), Bool.false_and, Bool.or_false]
  · rw [oY _ j (by omega), o4 _ j (by omega)]
  · rw [oY 82 v (by omega)]
    unfold st4
    rw [sU_n (by omega), sU_n (by omega), sU_same]
  · rw [oY 83 v (by omega)]
    unfold st4
    rw [sU_same]
  · rw [b6 v (by omega), decide_eq_true rfl, Bool.or_true]
  · rw [b7 (v + 1) (by omega), hb, decide_eq_true rfl, Bool.false_or, Bool.true_and, decide_eq_true_iff]
  · by_cases z : u < 32
    · rw [b6 u z, h8 u hu, decide_eq_false (by omega)]
      rfl
    · unfold bt
      exact BitVec.getLsbD_of_ge _ _ (by omega)
theorem evL_tn {s : St} {v e : Nat} (he : isE e) (i : Nat) : tn v e s (evL s e i) := by
  have rg := isE_rng he (show 7 < 9 by decide) rfl
  refine ⟨fun a j ha => evL_off (by omega) i s, fun u _ _ => ?_, ?_, fun u _ _ => ?_⟩
  · rw [evL_off (by omega)]
  · rw [evL_off (by omega)]
  · rw [evL_off (by omega)]
theorem tn.tr {v e : Nat} {s s' s'' : St} (h1 : tn v e s s') (h2 : tn v e s' s'') : tn v e s s'' := ⟨fun a j h => (h2.1 a j h).trans (h1.1 a j h), fun u a b => (h2.2.1 u a b).trans (h1.2.1 u a b), h2.2.2.1.trans h1.2.2.1, fun u a b => (h2.2.2.2 u a b).trans (h1.2.2.2 u a b)⟩
theorem tn.rf (v e : Nat) (s : St) : tn v e s s := ⟨fun _ _ _ => rfl, fun _ _ _ => rfl, rfl, fun _ _ _ => rfl⟩
theorem stl_tn {s : St} {v n : Nat} (hv : v < 8) (hp : PK s (eqA s v) n) : tn v (eqA s v) s (stl s v) := by
  by_cases q : act s (s 5 v)
  · rw [stl_eq hp q]
    exact (evL_tn hp.1 n).tr (stY_ok hp.1 hv).1
  · have : stl s v = s := if_neg q
    rw [this]
    exact tn.rf _ _ s
theorem act_keep {v e : Nat} {s s' : St} (h : tn v e s s') {k : Int32} (hk : k = -1 ∨ ∃ u, u < 8 ∧ u ≠ v ∧ k = nI u) : act s' k ↔ act s k := by
  rcases hk with rfl | ⟨u, hu, hne, rfl⟩
  · rw [act_m, act_m, h.2.2.1]
  · rw [act_n (by omega), act_n (by omega), h.2.2.2 u hu hne]
theorem sto_E {B s : St} (h : sto B s) {e i : Nat} (j : Nat) (he : isE e) (hi : i < 7) : s (e + i) j = B (e + i) j := h _ _ (Or.inr (Or.inr (Or.inr (Or.inr (Or.inr ⟨e, i, he, hi, rfl⟩)))))
section SETT
variable {B : St} {N : Nat → Nat} {isT : Nat → Nat → Bool} {en : Nat → Nat → Nat} {ip : Nat → Nat → Bool}
theorem vA_keep (h : BS B N isT en ip) {s s' : St} (hs : sto B s) (hs' : sto B s') {v w j : Nat} (hv : v < 8) (hw : w < 8) (hj : j < N w) (ht : isT w j = true) (hp : ip w j = false) (hn : ¬ Rch (D109 B) w v) (htn : tn v (eqA B v) s s') (h7 : ∀ c, s' (eqA B w + 7) c = s (eqA B w + 7) c) : vA s' (eqA B w) j = vA s (eqA B w) j := by
  have hN : 0 < N w := by omega
  obtain ⟨d1, d2, d3⟩ := (h.1.2.2.2 w hw).2.2.2 hN
  have d1' := d1
  obtain ⟨he, hl, hL, hT, hI, hNm, hP, hi0, hip⟩ := d1
  have hev := h.1.ok v hv
  have ss : ∀ i k, i < 7 → s' (eqA B w + i) k = s (eqA B w + i) k := fun i k hi => (sto_E hs' k he hi).trans (sto_E hs k he hi).symm
  have rg := isE_rng hev (show 7 < 9 by decide) rfl
  have rw_ := isE_rng he (show 8 < 9 by decide) rfl
  have ne8 : eqA B w + 8 ≠ eqA B v + 7 := fun z => by have := isE_ne he hev (by decide) (by decide) z; omega
  have dn : ∀ u, u < 8 → (cVar (tR B w j) ∨ tR B w j = 87 ∨ tR B w j = 67) → nmF (tR B w) (en w) j = nI u → u ≠ v := fun u hu hq hnm hz => hn (hz ▸ Rch_D ((h.names hw hu hj ht hq hnm).2 hp))
  have e1 : s (eqA B w + 1) j = tR B w j := (sto_E hs j he (by decide)).trans (d3 j hj).symm
  refine vA_eq (ss 1 j (by decide)) (ss 3 j (by decide)) (ss 6 j (by decide)) (htn.1 _ _ (by omega)) (fun k => htn.1 81 k (by omega)) (htn.1 80 8 (by omega)) (fun k hk => pv_congr (ss 2 _ (by decide)) ?_ (fun c _ => h7 c)) (fun hq => ?_) (fun hq => ?_)
  · rw [sto_E hs _ he (by decide)]
    exact EqOK_beh d1' j k hj hk
  · rw [e1] at hq ⊢
    obtain ⟨u, hu, eu⟩ := var_k hq
    have enm : nmF (tR B w) (en w) j = nI u := (if_pos hq).trans eu
    have hne := dn u hu (Or.inl hq) enm
    rw [eu, nI_clamp (by omega)]
    exact htn.1 82 u (by omega)
  · rw [e1] at hq
    obtain ⟨u, hu, eu⟩ := hL.nm hj ht (Or.inr (Or.inl ((d3 j hj).symm.trans hq)))
    have e3 : s (eqA B w + 3) j = nI u := by
      rw [sto_E hs j he (by decide), hNm j hj, if_pos ht]
      exact eu
    rw [e3]
    have enm : nmF (tR B w) (en w) j = nI u := (nmF_congr hL d3 hj ht).trans eu
    exact act_keep htn (Or.inr ⟨u, hu, dn u hu (Or.inr (Or.inr hq)) enm, rfl⟩)
/-- a variable is settled -/
def CS (B : St) (N : Nat → Nat) (isT ip : Nat → Nat → Bool) (s : St) (v : Nat) : Prop :=
  (bt (s 80 6) v = true ↔ act s (B 105 v)) ∧ (bt (s 80 7) (v + 1) = true ↔ bt (s 80 6) v = true ∧ ¬ s 82 v = 0) ∧
  (bt (s 80 6) v = true → s 82 v = s (eqA B v + 7) 0 ∧ ∀ j, j < N v → isT v j = true → ip v j = false → act s (B 99 (24 * v + j)) → s (eqA B v + 7) j = vA s (eqA B v) j)
theorem K_ne (h : BS B N isT en ip) {v w j : Nat} (hw : w < 8) (hj : j < N w) (ht : isT w j = true) (hp : ip w j = false) (hn : ¬ Rch (D109 B) w v) : B 99 (24 * w + j) = -1 ∨ ∃ u, u < 8 ∧ u ≠ v ∧ B 99 (24 * w + j) = nI u := by
  rcases K_set h hw hj ht hp with z | ⟨u, hu, hr, z⟩
  · exact Or.inl z
  · exact Or.inr ⟨u, hu, fun y => hn (y ▸ hr), z⟩
theorem cl_ne (h : BS B N isT en ip) {v w : Nat} (hw : w < 8) (hN : 0 < N w) (hn : ¬ Rch (D109 B) w v) : B 105 w = -1 ∨ ∃ u, u < 8 ∧ u ≠ v ∧ B 105 w = nI u := by
  rcases h.clkD hw hN with z | ⟨u, hu, hd, z⟩
  · exact Or.inl z
  · exact Or.inr ⟨u, hu, fun y => hn (y ▸ Rch_D hd), z⟩
theorem CS_keep (h : BS B N isT en ip) {s s' : St} (hs : sto B s) (hs' : sto B s') {v w : Nat} (hv : v < 8) (hw : w < 8) (hN : 0 < N w) (hvw : w ≠ v) (hn : ¬ Rch (D109 B) w v) (htn : tn v (eqA B v) s s') (hc : CS B N isT ip s w) : CS B N isT ip s' w := by
  obtain ⟨c1, c2, c3⟩ := hc
  have he := h.1.ok w hw
  have hev := h.1.ok v hv
  have rw_ := isE_rng he (show 7 < 9 by decide) rfl
  have rv_ := isE_rng hev (show 7 < 9 by decide) rfl
  have ne7 : eqA B w + 7 ≠ eqA B v + 7 := fun z => hvw (h.1.2.2.1 w v hw hv (by omega))
  have h7 : ∀ c, s' (eqA B w + 7) c = s (eqA B w + 7) c := fun c => htn.1 _ _ (by omega)
  refine ⟨?_, ?_, fun hb => ?_⟩
  · rw [htn.2.1 w (by omega) hvw, act_keep htn (cl_ne h hw hN hn)]
    exact c1
  · rw [htn.2.2.2 w hw hvw, htn.2.1 w (by omega) hvw, htn.1 82 w (by omega)]
    exact c2
  · rw [htn.2.1 w (by omega) hvw] at hb
    obtain ⟨x1, x2⟩ := c3 hb
    refine ⟨by rw [htn.1 82 w (by omega), h7]; exact x1, fun j hj ht hp ha => ?_⟩
    rw [act_keep htn (K_ne h hw hj ht hp hn)] at ha
    rw [h7, vA_keep h hs hs' hv hw hj ht hp hn htn h7]
    exact x2 j hj ht hp ha
theorem CS_new (h : BS B N isT en ip) {s : St} (hs : sto B s) {v : Nat} (hv : v < 8) (hN : 0 < N v) (b6 : bt (s 80 6) v = false) (b7 : bt (s 80 7) (v + 1) = false) : CS B N isT ip (stl s v) v ∧ stl s v 83 v = s 83 v + (if bt (stl s v 80 6) v = true then 1 else 0) ∧ (s8 (s 80 6) → s8 (stl s v 80 6)) := by
  have hn := h.nself v
  obtain ⟨d1, d2, d3⟩ := (h.1.2.2.2 v hv).2.2.2 hN
  have ea : eqA s v = eqA B v := sto_eqA hs v
  have hp : PK s (eqA s v) (N v) := by
    rw [ea]
    exact sto_PK hs (EqOK_PK d1)
  have hst : sto B (stl s v) := hs.tr (sto_stl hp.1)
  have htn := stl_tn hv hp
  rw [ea] at htn
  have e5 : s 5 v = B 105 v := by
    rw [hs 5 v (Or.inr (Or.inl rfl)), (h.2.1.2.2.2.2.1 v hv).1]
  by_cases q : act s (s 5 v)
  · have e := stl_eq hp q
    have ok := stY_ok (s1 := evL s (eqA s v) (N v)) (x := evL s (eqA s v) (N v) (eqA s v + 7) 0) hp.1 hv
    rw [← e, ea] at ok
    obtain ⟨k1, k2, k3, k4, k5, k6, k7⟩ := ok
    have rg := isE_rng (h.1.ok v hv) (show 7 < 9 by decide) rfl
    have oe : ∀ a j, a ≠ eqA B v + 7 → evL s (eqA B v) (N v) a j = s a j := fun a j ha => evL_off ha _ _
    refine ⟨⟨?_, ?_, fun _ => ⟨by rw [k3, k2], fun j hj ht hip ha => ?_⟩⟩, ?_, fun h8 => k7 (by rw [oe 80 6 (by omega)]; exact h8)⟩
    · rw [act_keep htn (cl_ne h hv hN hn), ← e5]
      exact ⟨fun _ => q, fun _ => k5⟩
    · rw [k6 (by rw [oe 80 7 (by omega)]; exact b7), k3]
      exact ⟨fun z => ⟨k5, z⟩, fun z => z.2⟩
    · have hse : sto B (evL s (eqA B v) (N v)) := hs.tr (sto_evL (h.1.ok v hv) _ s)
      have fx := evL_fix (n := N v) (h.1.ok v hv) (N v) s (fun j k hj hk => by
        rw [sto_E hs _ (h.1.ok v hv) (by decide)]
        exact EqOK_beh d1 j k hj hk) (Nat.le_refl _) j hj
      rw [k2, vA_keep h hse hst hv hv hj ht hip hn k1 k2]
      exact fx
    · rw [k5, if_pos rfl, k4, oe 83 v (by omega)]
  · have e : stl s v = s := if_neg q
    rw [e]
    refine ⟨⟨?_, ?_, fun z => ?_⟩, ?_, id⟩
    · rw [b6, ← e5]
      exact ⟨fun z => absurd z (by decide), fun z => absurd z q⟩
    · rw [b6, b7]
      exact ⟨fun z => absurd z (by decide), fun z => absurd z.1 (by decide)⟩
    · rw [b6] at z
      exact absurd z (by decide)
    · rw [b6, if_neg (by decide), Int32.add_zero]
/-- cells that a run of the class changes while it settles -/
def runC (a j : Nat) : Prop := (∃ e, isE e ∧ a = e + 7) ∨ a = 82 ∨ a = 83 ∨ (a = 80 ∧ (j = 6 ∨ j = 7))
def PI (B : St) (N : Nat → Nat) (isT ip : Nat → Nat → Bool) (s0 s : St) (i : Nat) : Prop :=
  sto B s ∧ bt (s 80 7) 0 = true ∧ s8 (s 80 6) ∧
  (∀ u, u < 8 → ¬ (0 < N u ∧ pos B u < i) → bt (s 80 6) u = false ∧ bt (s 80 7) (u + 1) = false ∧ s 83 u = s0 83 u) ∧
  (∀ u, u < 8 → 0 < N u → pos B u < i → CS B N isT ip s u ∧ s 83 u = s0 83 u + (if bt (s 80 6) u = true then 1 else 0)) ∧
  (∀ a j, ¬ runC a j → s a j = s0 a j)
theorem PI_step (h : BS B N isT en ip) {s0 s : St} {i : Nat} (hi : i < gB (rk B) 8 0) (hp : PI B N isT ip s0 s i) : PI B N isT ip s0 (stl s (s 84 i).toNatClampNeg) (i + 1) := by
  obtain ⟨p1, p2, p3, p4, p5, p6⟩ := hp
  obtain ⟨v, v1, v2, v3, v4, v5⟩ := pos_i h hi
  have e84 : (s 84 i).toNatClampNeg = v := by
    rw [p1 84 i (Or.inr (Or.inr (Or.inr (Or.inl rfl)))), v3, nI_clamp (by omega)]
  rw [e84]
  have ea : eqA s v = eqA B v := sto_eqA p1 v
  have hpk : PK s (eqA s v) (N v) := by
    rw [ea]
    exact sto_PK p1 (EqOK_PK ((h.1.2.2.2 v v1).2.2.2 v2).1)
  have hst : sto B (stl s v) := p1.tr (sto_stl hpk.1)
  have htn := stl_tn v1 hpk
  rw [ea] at htn
  obtain ⟨q1, q2, q3⟩ := p4 v v1 (by omega)
  obtain ⟨n1, n2, n3⟩ := CS_new h p1 v1 v2 q1 q2
  refine ⟨hst, by rw [htn.2.2.1]; exact p2, n3 p3, fun u hu hd => ?_, fun u hu hN hd => ?_, fun a j ha => ?_⟩
  · have hne : u ≠ v := fun z => hd (by subst z; exact ⟨v2, by omega⟩)
    obtain ⟨x1, x2, x3⟩ := p4 u hu (fun z => hd ⟨z.1, by omega⟩)
    rw [htn.2.1 u (by omega) hne, htn.2.2.2 u hu hne, htn.1 83 u (by have := isE_rng (h.1.ok v v1) (show 7 < 9 by decide) rfl; omega)]
    exact ⟨x1, x2, x3⟩
  · by_cases z : u = v
    · subst z
      exact ⟨n1, by rw [n2, q3]⟩
    · have hlt : pos B u < i := by
        have : pos B u ≠ i := fun y => z (v5 u hu hN y)
        omega
      obtain ⟨x1, x2⟩ := p5 u hu hN hlt
      have hnr : ¬ Rch (D109 B) u v := fun y => by
        have := pos_lt h y
        omega
      refine ⟨CS_keep h p1 hst v1 hu hN z hnr htn x1, ?_⟩
      rw [htn.2.1 u (by omega) z, htn.1 83 u (by have := isE_rng (h.1.ok v v1) (show 7 < 9 by decide) rfl; omega)]
      exact x2
  · have hne : ¬ (a = eqA B v + 7 ∨ (a = 82 ∧ j = v) ∨ (a = 83 ∧ j = v) ∨ (a = 80 ∧ (j = 6 ∨ j = 7))) := by
      rintro (z | z | z | z)
      · exact ha (Or.inl ⟨_, h.1.ok v v1, z⟩)
      · exact ha (Or.inr (Or.inl z.1))
      · exact ha (Or.inr (Or.inr (Or.inl z.1)))
      · exact ha (Or.inr (Or.inr (Or.inr z)))
    rw [htn.1 a j hne]
    exact p6 a j ha
theorem PI_all (h : BS B N isT en ip) {s0 : St} : ∀ (r i : Nat) (s : St), i + r = gB (rk B) 8 0 → PI B N isT ip s0 s i → PI B N isT ip s0 (psL s r i) (gB (rk B) 8 0)
  | 0, i, s, hi, hp => by
    have : i = gB (rk B) 8 0 := by omega
    rw [← this]
    exact hp
  | r + 1, i, s, hi, hp => PI_all h r (i + 1) _ (by omega) (PI_step h (by omega) hp)
theorem PI_start {s : St} (hs : sto B s) : PI B N isT ip (sU (sU s 80 6 0) 80 7 1) (sU (sU s 80 6 0) 80 7 1) 0 := by
  have b1 : ∀ u : Fin 9, bt 1 u.1 = decide (u.1 = 0) := by decide
  have e6 : sU (sU s 80 6 0) 80 7 1 80 6 = 0 := by rw [sU_n (by omega), sU_same]
  refine ⟨hs.tr ((sto_U (nst_c (Or.inr ⟨rfl, by decide⟩))).tr (sto_U (nst_c (Or.inr ⟨rfl, by decide⟩)))), ?_, ?_, fun u hu _ => ⟨?_, ?_, rfl⟩, fun u _ _ z => absurd z (by omega), fun _ _ _ => rfl⟩
  · rw [sU_same]
    exact (b1 ⟨0, by decide⟩).trans (by decide)
  · rw [e6]
    exact fun u _ => bt_0 u
  · rw [e6, bt_0]
  · rw [sU_same]
    have := b1 ⟨u + 1, by omega⟩
    rw [this, decide_eq_false (by show ¬ u + 1 = 0; omega)]
/-- all is settled -/
theorem settled (h : BS B N isT en ip) {s : St} (hs : sto B s) : PI B N isT ip (sU (sU s 80 6 0) 80 7 1) (psL (sU (sU s 80 6 0) 80 7 1) (s 80 5).toNatClampNeg 0) (gB (rk B) 8 0) := by
  have e5 : (s 80 5).toNatClampNeg = gB (rk B) 8 0 := by
    have l := cntB_le (fun k => decide (rk B k < 8) || (decide (rk B k = 8) && decide (k < 0))) 8
    rw [hs 80 5 (Or.inr (Or.inr (Or.inr (Or.inr (Or.inl ⟨rfl, rfl⟩))))), h.ord.1, nI_clamp (by unfold gB; omega)]
  rw [e5]
  exact PI_all h _ 0 _ (by omega) (PI_start hs)
end SETT
