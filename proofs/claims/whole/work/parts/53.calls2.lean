/-! The calls that end a run: clock, drop; the calls that only look. -/
theorem sMem_83 : ∀ (r k : Nat) (s : St) (b j : Nat), okE s → k + r = 8 → (b = 82 ∨ b = 83) → sMem s r k b j = s b j := fun r k s b j hs hk hb => sMem_off r k s hs hk (fun ⟨e, he, z⟩ => by have := isE_rng he (show 8 < 9 by decide) z; omega)
theorem sRst_z {s : St} (hs : okE s) : IZ (sRst s) := by
  refine ⟨?_, fun k hk => ?_, ?_⟩
  · unfold sRst
    rw [sU_n (by omega), sU_n (by omega), sU_n (by omega), sU_same]
  · unfold sRst
    rw [sU_n (by omega), sU_n (by omega), sU_n (by omega), sU_n (by omega), sMem_83 8 0 _ 83 k (okE_sF (by decide) (okE_sF (by decide) hs)) (by decide) (Or.inr rfl)]
    unfold sF
    rw [if_pos ⟨rfl, by omega, hk⟩]
  · unfold sRst
    rw [sU_same]
theorem sRst_o {s : St} (hs : okE s) {b j : Nat} (hb : b < 6 ∨ 94 ≤ b ∨ b = 81) : sRst s b j = s b j := sRst_off hs (fun ⟨e, he, z⟩ => by have := isE_rng he (show 8 < 9 by decide) z; omega) (by omega) (by omega) (by omega)
theorem IE.ok {s : St} {N : Nat → Nat} {isT : Nat → Nat → Bool} {en : Nat → Nat → Nat} {ip : Nat → Nat → Bool} (h : IE s N isT en ip) : okE s := fun k hk => (h.2.1 k hk).1
theorem clk_c {c : Int32} (hc : c = -1 ∨ (¬ c < 0 ∧ c < 8)) : clk c := by
  rcases hc with h | h
  · exact Or.inl h
  · rcases in_n c 8 (by decide) with z | ⟨j, hj, e⟩
    · exact absurd h z
    · exact Or.inr ⟨j, hj, e⟩
theorem c_clock (d L : Nat) {s : St} {c : Nat} (h : Inv s c) (v x : Int32) : ∃ a s1 s2, rn (d + 15) 26 0 [some (.ref 1), some (.int v), some (.int x)] [] (hH L s) = some (some (.int a), hH L s1) ∧ rn (d + 15) 76 0 [some (.ref 94), some (.int v), some (.int x)] [] (hH L s1) = some (some (.int a), hH L s2) ∧ Inv s2 (c + 1) := by
  by_cases hx : x = -1 ∨ (¬ x < 0 ∧ x < 8)
  · rcases in_n v 8 (by decide) with hv | ⟨k, hk, rfl⟩
    · exact ⟨_, _, _, m_clockN (d + 11) L s (Or.inl hv), r_clockN (d + 15) L s (Or.inl hv), h.up⟩
    · obtain ⟨N, isT, en, ip, h1, h2, h3, h4⟩ := h
      have ho : okE (sU (sU s 5 k x) 1 7 0) := okE_U (okE_U h1.ok (by decide)) (by decide)
      refine ⟨_, _, _, m_clock (d + 11) L s h1.ok hk hx, r_clock (d + 15) L _ hk hx, N, isT, en, ip, ?_, ?_, fun _ => ?_, fun z => ?_⟩
      · have oE : ∀ e i j, isE e → i < 8 → sU (sU (sRst (sU (sU s 5 k x) 1 7 0)) 105 k x) 94 15 0 (e + i) j = s (e + i) j := fun e i j he hi => by
          have := isE_rng he (show i < 9 by omega) rfl
          rw [sU_n (by omega), sU_n (by omega), sRst_E ho he hi, sU_n (by omega), sU_n (by omega)]
        refine IE_of h1 ?_ (fun k => ?_) (fun a j ha => ?_) (fun k hk => ⟨oE _ 0 1 (h1.ok k hk) (by decide), fun i j _ hi => oE _ i j (h1.ok k hk) (by omega)⟩)
        · rw [sU_n (by omega), sU_n (by omega), sRst_o ho (by omega), sU_n (by omega), sU_n (by omega)]
        · rw [sU_n (by omega), sU_n (by omega), sRst_o ho (by omega), sU_n (by omega), sU_n (by omega)]
        · rw [sU_n (by omega), sU_n (by omega), sRst_o ho (by omega), sU_n (by omega), sU_n (by omega)]
      · obtain ⟨⟨n, n1, n2, n3, n4⟩, i2, i3, i4, i5, i6⟩ := h2
        have oo : ∀ a j, a < 6 ∨ 94 ≤ a ∨ a = 81 → ¬ (a = 94 ∧ j = 15) → ¬ (a = 1 ∧ j = 7) → ¬ ((a = 105 ∨ a = 5) ∧ j = k) → sU (sU (sRst (sU (sU s 5 k x) 1 7 0)) 105 k x) 94 15 0 a j = s a j := fun a j h0 h1 h2 h3 => by
          rw [sU_n (by omega), sU_n (by omega), sRst_o ho h0, sU_n (by omega), sU_n (by omega)]
        have e17 : sU (sU (sRst (sU (sU s 5 k x) 1 7 0)) 105 k x) 94 15 0 1 7 = 0 := by
          rw [sU_n (by omega), sU_n (by omega), sRst_o ho (by omega), sU_same]
        refine ⟨⟨n, n1, by rw [oo 1 1 (by omega) (by omega) (by omega) (by omega)]; exact n2, by rw [oo 94 1 (by omega) (by omega) (by omega) (by omega)]; exact n3, fun i hi => by rw [oo 95 i (by omega) (by omega) (by omega) (by omega), oo 2 i (by omega) (by omega) (by omega) (by omega)]; exact n4 i hi⟩, by rw [oo 94 2 (by omega) (by omega) (by omega) (by omega), oo 1 2 (by omega) (by omega) (by omega) (by omega)]; exact i2, Or.inl e17, by rw [e17, sU_same], fun j hj => ?_, fun j hj => by rw [oo 106 j (by omega) (by omega) (by omega) (by omega), oo 81 j (by omega) (by omega) (by omega) (by omega)]; exact i6 j hj⟩
        by_cases z : j = k
        · subst z
          have e5 : sU (sU (sRst (sU (sU s 5 j x) 1 7 0)) 105 j x) 94 15 0 5 j = x := by
            rw [sU_n (by omega), sU_n (by omega), sRst_o ho (by omega), sU_n (by omega), sU_same]
          have e105 : sU (sU (sRst (sU (sU s 5 j x) 1 7 0)) 105 j x) 94 15 0 105 j = x := by
            rw [sU_n (by omega), sU_same]
          rw [e5, e105]
          exact ⟨rfl, clk_c hx⟩
        · rw [oo 105 j (by omega) (by omega) (by omega) (by omega), oo 5 j (by omega) (by omega) (by omega) (by omega)]
          exact i5 j hj
      · obtain ⟨z1, z2, z3⟩ := sRst_z ho
        exact ⟨by rw [sU_n (by omega), sU_n (by omega)]; exact z1, fun j hj => by rw [sU_n (by omega), sU_n (by omega)]; exact z2 j hj, by rw [sU_n (by omega), sU_n (by omega)]; exact z3⟩
      · refine absurd ?_ z
        rw [sU_n (by omega), sU_n (by omega), sRst_o ho (by omega), sU_same]
  · exact ⟨_, _, _, m_clockN (d + 11) L s (Or.inr hx), r_clockN (d + 15) L s (Or.inr hx), h.up⟩
theorem c_drop (d L : Nat) {s : St} {c : Nat} (h : Inv s c) (v : Int32) : ∃ a s1 s2, rn (d + 15) 24 0 [some (.ref 1), some (.int v)] [] (hH L s) = some (some (.int a), hH L s1) ∧ rn (d + 15) 75 0 [some (.ref 94), some (.int v)] [] (hH L s1) = some (some (.int a), hH L s2) ∧ Inv s2 (c + 1) := by
  rcases in_n v 8 (by decide) with hv | ⟨k, hk, rfl⟩
  · exact ⟨_, _, _, m_dropN (d + 11) L s hv, r_dropN (d + 15) L s hv, h.up⟩
  · have h' := h
    obtain ⟨N, isT, en, ip, h1, h2, h3, h4⟩ := h
    have hc := m_drop (d + 11) L s h1.ok hk
    obtain ⟨b1, b2, b3, b4⟩ := h1.2.2.2 k hk
    by_cases q : 0 < s (eqA s k) 1
    · have hN : 0 < N k := by
        rw [b3] at q
        exact (nI_ltI (a := 0) (by decide) (by omega)).mp q
      have he := h1.ok k hk
      have hre := isE_rng he (show 0 < 9 by decide) (Nat.add_zero _).symm
      have ho : okE (sU (sU s (eqA s k) 1 0) 1 7 0) := okE_U (okE_U h1.ok (by omega)) (by decide)
      rw [if_pos q] at hc
      have hd := r_drop (d + 15) L (sRst (sU (sU s (eqA s k) 1 0) 1 7 0)) hk
      have e97 : ¬ sRst (sU (sU s (eqA s k) 1 0) 1 7 0) 97 k = 0 := by
        rw [sRst_o ho (by omega), sU_n (by omega), sU_n (by omega), b1]
        intro z
        have := (nI_eq (b := 0) (show N k < 2147483648 by omega) (by decide)).mp z
        omega
      rw [if_neg e97] at hd
      have oo : ∀ a j, a < 6 ∨ 94 ≤ a ∨ a = 81 → ¬ (a = 94 ∧ j = 15) → ¬ (a = 1 ∧ j = 7) → ¬ (a = 97 ∧ j = k) → sU (sU (sRst (sU (sU s (eqA s k) 1 0) 1 7 0)) 97 k 0) 94 15 0 a j = s a j := fun a j h0 h1 h2 h3 => by
        rw [sU_n (by omega), sU_n (by omega), sRst_o ho h0, sU_n (by omega), sU_n (by omega)]
      have oE : ∀ e i j, isE e → i < 8 → ¬ (e + i = eqA s k ∧ j = 1) → sU (sU (sRst (sU (sU s (eqA s k) 1 0) 1 7 0)) 97 k 0) 94 15 0 (e + i) j = s (e + i) j := fun e i j he hi hn => by
        have := isE_rng he (show i < 9 by omega) rfl
        rw [sU_n (by omega), sU_n (by omega), sRst_E ho he hi, sU_n (by omega), sU_n hn]
      have e17 : sU (sU (sRst (sU (sU s (eqA s k) 1 0) 1 7 0)) 97 k 0) 94 15 0 1 7 = 0 := by
        rw [sU_n (by omega), sU_n (by omega), sRst_o ho (by omega), sU_same]
      have e4 : ∀ j, sU (sU (sRst (sU (sU s (eqA s k) 1 0) 1 7 0)) 97 k 0) 94 15 0 4 j = s 4 j := fun j => oo 4 j (by omega) (by omega) (by omega) (by omega)
      refine ⟨_, _, _, hc, hd, fun v => if v = k then 0 else N v, isT, en, ip, ?_, ?_, fun _ => ?_, fun z => absurd e17 z⟩
      · obtain ⟨a1, a2, a3, a4⟩ := h1
        have ea : ∀ j, eqA (sU (sU (sRst (sU (sU s (eqA s k) 1 0) 1 7 0)) 97 k 0) 94 15 0) j = eqA s j := fun j => eqA_of (e4 j)
        have ed : dfA (sU (sU (sRst (sU (sU s (eqA s k) 1 0) 1 7 0)) 97 k 0) 94 15 0) = dfA s := dfA_of (oo 1 6 (by omega) (by omega) (by omega) (by omega))
        refine ⟨by rw [ed]; exact a1, fun j hj => by rw [ea, ed]; exact a2 j hj, fun i j hi hj hh => by rw [ea, ea] at hh; exact a3 i j hi hj hh, fun w hw => ?_⟩
        rw [ea]
        by_cases z : w = k
        · subst z
          dsimp only
          rw [if_pos rfl]
          refine ⟨by rw [sU_n (by omega), sU_same]; rfl, by omega, ?_, fun y => absurd y (by omega)⟩
          have e0 := sRst_E ho (j := 1) he (show 0 < 8 by decide)
          rw [Nat.add_zero] at e0
          rw [sU_n (by omega), sU_n (by omega), e0, sU_n (by omega), sU_same]
          rfl
        · have hne : eqA s w ≠ eqA s k := fun y => z (a3 w k hw hk y)
          obtain ⟨c1, c2, c3, c4⟩ := a4 w hw
          dsimp only
          rw [if_neg z]
          have hw' := (a2 w hw).1
          have e0 := oE (eqA s w) 0 1 hw' (by decide) (by rw [Nat.add_zero]; exact fun y => hne y.1)
          rw [Nat.add_zero] at e0
          refine ⟨by rw [oo 97 w (by omega) (by omega) (by omega) (by omega)]; exact c1, c2, by rw [e0]; exact c3, fun hn => ?_⟩
          obtain ⟨d1, d2, d3⟩ := c4 hn
          have eI : ∀ i j, 0 < i → i < 6 → sU (sU (sRst (sU (sU s (eqA s k) 1 0) 1 7 0)) 97 k 0) 94 15 0 (eqA s w + i) j = s (eqA s w + i) j := fun i j hi hi2 => oE _ i j hw' (by omega) (fun y => by have := isE_ne hw' he (show i < 9 by omega) (show 0 < 9 by decide) (by omega); omega)
          refine ⟨EqOK_of d1 e0 eI, ?_, fun i hi => ?_⟩
          · obtain ⟨f1, f2, f3, f4, f5⟩ := d2
            have et : tR (sU (sU (sRst (sU (sU s (eqA s k) 1 0) 1 7 0)) 97 k 0) 94 15 0) w = tR s w := funext (fun j => oo 96 _ (by omega) (by omega) (by omega) (by omega))
            refine ⟨f1, by rw [oo 97 w (by omega) (by omega) (by omega) (by omega)]; exact f2, by rw [et]; exact f3, fun i hi => by rw [oo 103 _ (by omega) (by omega) (by omega) (by omega)]; exact f4 i hi, fun i hi ht => by rw [oo 98 _ (by omega) (by omega) (by omega) (by omega)]; exact f5 i hi ht⟩
          · rw [eI 1 i (by decide) (by decide)]
            show sU (sU (sRst (sU (sU s (eqA s k) 1 0) 1 7 0)) 97 k 0) 94 15 0 96 (24 * w + i) = _
            rw [oo 96 _ (by omega) (by omega) (by omega) (by omega)]
            exact d3 i hi
      · obtain ⟨⟨n, n1, n2, n3, n4⟩, i2, i3, i4, i5, i6⟩ := h2
        refine ⟨⟨n, n1, by rw [oo 1 1 (by omega) (by omega) (by omega) (by omega)]; exact n2, by rw [oo 94 1 (by omega) (by omega) (by omega) (by omega)]; exact n3, fun i hi => by rw [oo 95 i (by omega) (by omega) (by omega) (by omega), oo 2 i (by omega) (by omega) (by omega) (by omega)]; exact n4 i hi⟩, by rw [oo 94 2 (by omega) (by omega) (by omega) (by omega), oo 1 2 (by omega) (by omega) (by omega) (by omega)]; exact i2, Or.inl e17, by rw [e17, sU_same], fun j hj => by rw [oo 105 j (by omega) (by omega) (by omega) (by omega), oo 5 j (by omega) (by omega) (by omega) (by omega)]; exact i5 j hj, fun j hj => by rw [oo 106 j (by omega) (by omega) (by omega) (by omega), oo 81 j (by omega) (by omega) (by omega) (by omega)]; exact i6 j hj⟩
      · obtain ⟨z1, z2, z3⟩ := sRst_z ho
        exact ⟨by rw [sU_n (by omega), sU_n (by omega)]; exact z1, fun j hj => by rw [sU_n (by omega), sU_n (by omega)]; exact z2 j hj, by rw [sU_n (by omega), sU_n (by omega)]; exact z3⟩
    · have hN : N k = 0 := by
        apply Classical.byContradiction
        intro z
        apply q
        rw [b3]
        exact nI_lt (a := 0) (by omega) (by omega)
      rw [if_neg q] at hc
      have hd := r_drop (d + 15) L s hk
      rw [b1, hN, if_pos (show nI 0 = 0 from rfl)] at hd
      exact ⟨_, _, _, hc, hd, h'.up⟩
