/-! What holds goes over to a state with the same cells. -/
theorem EqOK_of {s s' : St} {e n : Nat} {isT : Nat → Bool} {en : Nat → Nat} {ip : Nat → Bool} (h : EqOK s e n isT en ip) (h1 : s' e 1 = s e 1) (hs : ∀ i j, 0 < i → i < 6 → s' (e + i) j = s (e + i) j) : EqOK s' e n isT en ip := by
  have e1 : s' (e + 1) = s (e + 1) := funext (fun j => hs 1 j (by decide) (by decide))
  have e2 : s' (e + 2) = s (e + 2) := funext (fun j => hs 2 j (by decide) (by decide))
  have e3 : s' (e + 3) = s (e + 3) := funext (fun j => hs 3 j (by decide) (by decide))
  have e4 : s' (e + 4) = s (e + 4) := funext (fun j => hs 4 j (by decide) (by decide))
  have e5 : s' (e + 5) = s (e + 5) := funext (fun j => hs 5 j (by decide) (by decide))
  unfold EqOK at h ⊢
  rw [h1, e1, e2, e3, e4, e5]
  exact h
theorem eqA_of {s s' : St} {k : Nat} (h : s' 4 k = s 4 k) : eqA s' k = eqA s k := by
  show (s' 4 k).toNatClampNeg = (s 4 k).toNatClampNeg
  rw [h]
theorem dfA_of {s s' : St} (h : s' 1 6 = s 1 6) : dfA s' = dfA s := by
  show (s' 1 6).toNatClampNeg = (s 1 6).toNatClampNeg
  rw [h]
theorem IE_of {s s' : St} {N : Nat → Nat} {isT : Nat → Nat → Bool} {en : Nat → Nat → Nat} {ip : Nat → Nat → Bool} (h : IE s N isT en ip) (h16 : s' 1 6 = s 1 6) (h4 : ∀ k, s' 4 k = s 4 k) (hR : ∀ a j, a = 96 ∨ a = 97 ∨ a = 98 ∨ a = 103 → s' a j = s a j) (hE : ∀ k, k < 8 → s' (eqA s k) 1 = s (eqA s k) 1 ∧ ∀ i j, 0 < i → i < 6 → s' (eqA s k + i) j = s (eqA s k + i) j) : IE s' N isT en ip := by
  obtain ⟨a1, a2, a3, a4⟩ := h
  have ea : ∀ k, eqA s' k = eqA s k := fun k => eqA_of (h4 k)
  have ed : dfA s' = dfA s := dfA_of h16
  have et : ∀ v, tR s' v = tR s v := fun v => funext (fun j => hR 96 _ (by omega))
  refine ⟨by rw [ed]; exact a1, fun k hk => by rw [ea, ed]; exact a2 k hk, fun k j hk hj hh => by rw [ea, ea] at hh; exact a3 k j hk hj hh, fun v hv => ?_⟩
  obtain ⟨b1, b2, b3, b4⟩ := a4 v hv
  obtain ⟨c1, c2⟩ := hE v hv
  refine ⟨by rw [hR 97 v (by omega)]; exact b1, b2, by rw [ea, c1]; exact b3, fun hn => ?_⟩
  obtain ⟨d1, d2, d3⟩ := b4 hn
  refine ⟨by rw [ea]; exact EqOK_of d1 c1 c2, RF_of d2 hR, fun i hi => ?_⟩
  rw [et, ea, c2 1 i (by decide) (by decide)]
  exact d3 i hi
theorem rk_of {s s' : St} {u : Nat} (h4 : s' 4 u = s 4 u) (h1 : s' (eqA s u) 1 = s (eqA s u) 1) (h79 : s' 79 u = s 79 u) : rk s' u = rk s u := by
  unfold rk
  rw [eqA_of h4, h1, h79]
theorem gB_congr {f g : Nat → Nat} (h : ∀ u, u < 8 → f u = g u) (c v : Nat) : gB f c v = gB g c v := by
  unfold gB
  refine cntB_congr 8 (fun k hk => ?_)
  rw [h k hk]
theorem ordI_of {f g : Nat → Nat} {s s' : St} {c v : Nat} (hf : ∀ u, u < 8 → f u = g u) (h5 : s' 80 5 = s 80 5) (h84 : ∀ i, s' 84 i = s 84 i) (h : ordI f s c v) : ordI g s' c v := by
  obtain ⟨a, b, d⟩ := h
  refine ⟨by rw [h5, a, gB_congr hf], fun i hi => ?_, fun u hu hh => ?_⟩
  · rw [← gB_congr hf] at hi
    obtain ⟨u, u1, u2, u3, u4⟩ := b i hi
    exact ⟨u, u1, by rw [h84]; exact u2, by rw [← hf u u1]; exact u3, by rw [← hf u u1, ← gB_congr hf]; exact u4⟩
  · rw [h84, ← hf u hu, ← gB_congr hf]
    exact d u hu (by rw [hf u hu]; exact hh)
theorem IC_of {s s' : St} {N : Nat → Nat} {isT : Nat → Nat → Bool} {en : Nat → Nat → Nat} {ip : Nat → Nat → Bool} (h : IC_ s N isT en ip) (h4 : ∀ k, s' 4 k = s 4 k) (hR : ∀ a j, a = 96 ∨ a = 99 ∨ a = 105 ∨ a = 109 ∨ a = 79 ∨ a = 84 → s' a j = s a j) (h5 : s' 80 5 = s 80 5) (hE : ∀ k, k < 8 → s' (eqA s k) 1 = s (eqA s k) 1 ∧ ∀ j, s' (eqA s k + 6) j = s (eqA s k + 6) j) : IC_ s' N isT en ip := by
  obtain ⟨a1, a2, a3, a4, a5, a6, a7, a8⟩ := h
  have ea : ∀ k, eqA s' k = eqA s k := fun k => eqA_of (h4 k)
  have et : ∀ v, tR s' v = tR s v := fun v => funext (fun j => hR 96 _ (by omega))
  have e105 : s' 105 = s 105 := funext (fun j => hR 105 _ (by omega))
  have e99 : s' 99 = s 99 := funext (fun j => hR 99 _ (by omega))
  have eD : D109 s' = D109 s := by
    funext v u
    unfold D109
    rw [hR 109 _ (by omega)]
  have eB : B79 s' = B79 s := by
    funext v u
    unfold B79
    rw [hR 79 _ (by omega)]
  refine ⟨fun v hv hn => ?_, ?_, ?_, ?_, ?_, ?_, ?_, ?_⟩
  · rw [et, e105, e99, ea]
    obtain ⟨b1, b2⟩ := a1 v hv hn
    refine ⟨b1, fun i hi ht => ?_⟩
    rw [(hE v hv).2]
    exact b2 i hi ht
  · rw [eD]; exact a2
  · rw [eD, e105]; exact a3
  · intro v i u h1 h2 h3 h4 h6 h7
    rw [et] at h6 h7
    rw [eD]
    exact a4 v i u h1 h2 h3 h4 h6 h7
  · intro v hv
    rw [hR 79 v (by omega)]
    exact a5 v hv
  · rw [eD, eB]; exact a6
  · rw [eB]; exact a7
  · exact ordI_of (fun u hu => (rk_of (h4 u) (hE u hu).1 (hR 79 u (by omega))).symm) h5 (fun i => hR 84 i (by omega)) a8
theorem IR_of {s s' : St} {N : Nat → Nat} {isT : Nat → Nat → Bool} {M : Nat} (h : IR s N isT M) (h4 : ∀ k, s' 4 k = s 4 k) (hR : ∀ a j, a = 96 ∨ a = 102 ∨ a = 111 ∨ a = 83 ∨ a = 112 ∨ a = 107 ∨ a = 110 ∨ a = 82 ∨ (a = 94 ∧ j = 16) ∨ (a = 80 ∧ (j = 6 ∨ j = 8 ∨ j = 9)) → s' a j = s a j) (hE : ∀ k j, k < 8 → s' (eqA s k + 8) j = s (eqA s k + 8) j) : IR s' N isT M := by
  obtain ⟨a1, a2, a3, a4, a5, a6, a7, a8⟩ := h
  have et : ∀ v, tR s' v = tR s v := fun v => funext (fun j => hR 96 _ (by omega))
  refine ⟨by rw [hR 94 16 (by omega)]; exact a1, by rw [hR 80 9 (by omega)]; exact a2, fun v i hv hi ht hq => ?_, fun v hv => ?_, fun k hk => ?_, ?_, ?_, fun hM v hv => ?_⟩
  · rw [et] at hq
    rw [hR 102 _ (by omega), eqA_of (h4 v), hE v i hv]
    exact a3 v i hv hi ht hq
  · rw [hR 111 v (by omega), hR 83 v (by omega)]; exact a4 v hv
  · rw [hR 112 k (by omega), hR 80 8 (by omega)]; exact a5 k hk
  · rw [hR 80 6 (by omega)]; exact a6
  · rw [hR 80 6 (by omega)]; exact a7
  · rw [hR 80 6 (by omega), hR 107 v (by omega), hR 110 v (by omega), hR 82 v (by omega)]; exact a8 hM v hv
/-- quiet cells: line, bad place, depth, inputs, what the reader of lines uses -/
def qt (a j : Nat) : Prop := (a = 1 ∧ (j = 1 ∨ j = 2)) ∨ a = 2 ∨ (a = 94 ∧ (j = 1 ∨ j = 2 ∨ j = 3)) ∨ a = 95 ∨ a = 104 ∨ a = 113 ∨ a = 81 ∨ a = 106
theorem Inv_qt {s s' : St} {c : Nat} (h : Inv s c) (hq : ∀ a j, ¬ qt a j → s' a j = s a j) (hl : IL s') : Inv s' (c + 1) := by
  obtain ⟨N, isT, en, ip, h1, h2, h3, h4⟩ := h
  have e4 : ∀ k, s' 4 k = s 4 k := fun k => hq 4 k (by unfold qt; omega)
  have eE : ∀ k i j, k < 8 → i < 9 → s' (eqA s k + i) j = s (eqA s k + i) j := fun k i j hk hi => by
    have := isE_rng (h1.2.1 k hk).1 hi rfl
    exact hq _ _ (by unfold qt; omega)
  have e17 : s' 1 7 = s 1 7 := hq 1 7 (by unfold qt; omega)
  refine ⟨N, isT, en, ip, IE_of h1 (hq 1 6 (by unfold qt; omega)) e4 (fun a j ha => hq a j (by unfold qt; omega)) (fun k hk => ⟨eE k 0 1 hk (by decide), fun i j _ hi => eE k i j hk (by omega)⟩), hl, fun z => ?_, fun z => ?_⟩
  · rw [e17] at z
    obtain ⟨z1, z2, z3⟩ := h3 z
    exact ⟨by rw [hq 80 6 (by unfold qt; omega)]; exact z1, fun k hk => by rw [hq 83 k (by unfold qt; omega)]; exact z2 k hk, by rw [hq 80 9 (by unfold qt; omega)]; exact z3⟩
  · rw [e17] at z
    obtain ⟨z1, M, z2, z3⟩ := h4 z
    refine ⟨IC_of z1 e4 (fun a j ha => hq a j (by unfold qt; omega)) (hq 80 5 (by unfold qt; omega)) (fun k hk => ⟨eE k 0 1 hk (by decide), fun j => eE k 6 j hk (by decide)⟩), M, by omega, IR_of z3 e4 (fun a j ha => hq a j (by unfold qt; omega)) (fun k j hk => eE k 8 j hk (by decide))⟩
