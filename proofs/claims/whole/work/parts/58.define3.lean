/-! define: both. -/
theorem dfR_lo {S r : St} {k n : Nat} {isT : Nat → Bool} {en : Nat → Nat} {a j : Nat} (h1 : ¬ (a = 94 ∧ (j = 1 ∨ j = 2 ∨ j = 15))) (h2 : a ≠ 96) (h3 : a ≠ 98) (h4 : a ≠ 103) (h5 : ¬ (a = 97 ∧ j = k)) : dfR S r k n isT en a j = r a j := by
  unfold dfR
  rw [sU_n (by omega), feL_off h3, dcL_off h2 h4, sU_n (by omega), sU_n (by omega), sU_n (by omega)]
theorem dfR_96 {S r : St} {k n : Nat} {isT : Nat → Bool} {en : Nat → Nat} (j : Nat) : dfR S r k n isT en 96 j = if 24 * k ≤ j ∧ j < 24 * k + n then r 95 (j - 24 * k) else r 96 j := by
  unfold dfR
  rw [sU_n (by omega), feL_off (by decide), dcL_96, sU_n (by omega), sU_n (by omega), sU_n (by omega), sU_n (by omega), sU_n (by omega), sU_n (by omega)]
  rfl
theorem dfR_103 {S r : St} {k n : Nat} {isT : Nat → Bool} {en : Nat → Nat} (j : Nat) : dfR S r k n isT en 103 j = if 24 * k ≤ j ∧ j < 24 * k + n then r 104 (j - 24 * k) else r 103 j := by
  unfold dfR
  rw [sU_n (by omega), feL_off (by decide), dcL_103, sU_n (by omega), sU_n (by omega), sU_n (by omega), sU_n (by omega), sU_n (by omega), sU_n (by omega)]
  rfl
theorem dfR_98 {S r : St} {k n : Nat} {isT : Nat → Bool} {en : Nat → Nat} (j : Nat) : dfR S r k n isT en 98 j = if 24 * k ≤ j ∧ j < 24 * k + n then nI (gE isT en (j - 24 * k)) else r 98 j := by
  unfold dfR
  rw [sU_n (by omega), feL_98, dcL_off (by decide) (by decide), sU_n (by omega), sU_n (by omega), sU_n (by omega)]
theorem c_define (d L : Nat) {s : St} {c : Nat} (h : Inv s c) (v : Int32) : ∃ a s1 s2, rn (d + 15) 11 0 [some (.ref 1), some (.int v), none, none] [] (hH L s) = some (some (.int a), hH L s1) ∧ rn (d + 15) 72 0 [some (.ref 94), some (.int v), none, none, none, none] [] (hH L s1) = some (some (.int a), hH L s2) ∧ Inv s2 (c + 1) := by
  rcases in_n v 8 (by decide) with hv | ⟨k, hk, rfl⟩
  · exact ⟨_, _, _, m_defineN d L s hv, r_defineN (d + 13) L s hv, h.up⟩
  · have h' := h
    obtain ⟨N, isT, en, ip, h1, h2, h3, h4⟩ := h
    obtain ⟨⟨n, n1, n2, n3, n4⟩, i2, i3, i4, i5, i6⟩ := h2
    have hd := h1.1
    have hm := m_define d L s h1.ok hd hk n1 n2
    by_cases q : (rlV s (dfA s) n).1 = 0
    · obtain ⟨b1, b2, b3, b4⟩ := def_B (k := k) hd q
      have nd : ∀ a, 94 ≤ a → ¬ ∃ i, i < 9 ∧ a = dfA s + i := fun a ha ⟨i, hi, e⟩ => by have := isE_rng hd hi e; omega
      have hl := line_ok (d := d + 13) (L := L) (e := dfA s) (n := n) (sc := s) (sr := (dfV s k n).2) hd n1 (by rw [b4 94 1 (by omega) (nd 94 (by omega))]; exact n3) (fun i hi => by rw [b4 95 i (by omega) (nd 95 (by omega))]; exact (n4 i hi).1) (fun i hi => (n4 i hi).2)
      rcases hl with ⟨z, _⟩ | ⟨_, sr', g1, g2, g3⟩
      · rw [q] at z
        exact absurd z (by decide)
      · rw [b1] at hm
        refine ⟨_, _, _, hm, r_defineS (d + 13) L _ sr' hk g1, def_bad h' n1 n2 b4 b2 g3 ?_⟩
        rw [b3]
        exact g2.symm
    · obtain ⟨b1, b2, b3, b4, b5, b6, b7, b8, b9, b10⟩ := def_S h1 (n := n) hk q
      have hl := line_ok (d := d + 13) (L := L) (e := dfA s) (n := n) (sc := s) (sr := (dfV s k n).2) hd n1 (by rw [b10 94 1 (by omega)]; exact n3) (fun i hi => by rw [b10 95 i (by omega)]; exact (n4 i hi).1) (fun i hi => (n4 i hi).2)
      rcases hl with ⟨_, hE, hX, sr', g1, g2, g3, g4⟩ | ⟨z, _⟩
      · have hr : ∀ a j, ¬ (a = 94 ∧ (j = 2 ∨ j = 3)) → a ≠ 104 → a ≠ 113 → sr' a j = (dfV s k n).2 a j := fun a j x1 x2 x3 => g4 a j x1 (by omega) (by omega)
        have tx : ∀ i, i < n → sr' 95 i = tX s (dfA s) n i := fun i hi => by
          rw [hr 95 i (by omega) (by omega) (by omega), b10 95 i (by omega), (n4 i hi).1]
          unfold tX sCp
          rw [if_pos ⟨rfl, hi⟩]
        have hLK := hE.2.2.1
        rw [hX] at hLK
        have hdef := r_define (d + 13) L (dfV s k n).2 sr' hk n1 (by rw [b10 94 1 (by omega)]; exact n3) g1 (LineOK_congr tx hLK) g2
        rw [b1] at hm
        rw [← g3] at hdef
        refine ⟨_, _, _, hm, hdef, ?_⟩
        generalize hS : (dfV s k n).2 = S at b2 b3 b4 b5 b6 b7 b8 b9 b10 hr
        have hn0 : 0 < n := hLK.1
        have lo : ∀ a j, ¬ (a = 94 ∧ (j = 1 ∨ j = 2 ∨ j = 3 ∨ j = 15)) → a ≠ 96 → a ≠ 98 → a ≠ 103 → a ≠ 104 → a ≠ 113 → ¬ (a = 97 ∧ j = k) → dfR S sr' k n (iT (rlV s (dfA s) n).2 (dfA s)) (pe (tX s (dfA s) n) 6) a j = S a j := fun a j x1 x2 x3 x4 x5 x6 x7 => by
          rw [dfR_lo (by omega) x2 x3 x4 x7, hr a j (by omega) x5 x6]
        have l96 := fun j => dfR_96 (S := S) (r := sr') (k := k) (n := n) (isT := iT (rlV s (dfA s) n).2 (dfA s)) (en := pe (tX s (dfA s) n) 6) j
        have l98 := fun j => dfR_98 (S := S) (r := sr') (k := k) (n := n) (isT := iT (rlV s (dfA s) n).2 (dfA s)) (en := pe (tX s (dfA s) n) 6) j
        have l103 := fun j => dfR_103 (S := S) (r := sr') (k := k) (n := n) (isT := iT (rlV s (dfA s) n).2 (dfA s)) (en := pe (tX s (dfA s) n) 6) j
        have l97 : dfR S sr' k n (iT (rlV s (dfA s) n).2 (dfA s)) (pe (tX s (dfA s) n) 6) 97 k = nI n := by
          unfold dfR
          rw [sU_n (by omega), feL_off (by decide), dcL_off (by decide) (by decide), sU_same]
        have l1 : dfR S sr' k n (iT (rlV s (dfA s) n).2 (dfA s)) (pe (tX s (dfA s) n) 6) 94 1 = 0 := by
          unfold dfR
          rw [sU_n (by omega), feL_off (by decide), dcL_off (by decide) (by decide), sU_n (by omega), sU_n (by omega), sU_same]
        have l2 : dfR S sr' k n (iT (rlV s (dfA s) n).2 (dfA s)) (pe (tX s (dfA s) n) 6) 94 2 = S 94 2 := by
          unfold dfR
          rw [sU_n (by omega), feL_off (by decide), dcL_off (by decide) (by decide), sU_n (by omega), sU_same]
        have l15 : dfR S sr' k n (iT (rlV s (dfA s) n).2 (dfA s)) (pe (tX s (dfA s) n) 6) 94 15 = 0 := by
          unfold dfR
          rw [sU_same]
        generalize hT : dfR S sr' k n (iT (rlV s (dfA s) n).2 (dfA s)) (pe (tX s (dfA s) n) 6) = T at lo l96 l98 l103 l97 l1 l2 l15
        have ea : ∀ v, eqA T v = eqA S v := fun v => eqA_of (lo 4 v (by omega) (by omega) (by omega) (by omega) (by omega) (by omega) (by omega))
        have ed : dfA T = dfA S := dfA_of (lo 1 6 (by omega) (by omega) (by omega) (by omega) (by omega) (by omega) (by omega))
        have low : ∀ a j, a < 94 → T a j = S a j := fun a j ha => lo a j (by omega) (by omega) (by omega) (by omega) (by omega) (by omega) (by omega)
        refine ⟨fun w => if w = k then n else N w, fun w => if w = k then iT (rlV s (dfA s) n).2 (dfA s) else isT w, fun w => if w = k then pe (tX s (dfA s) n) 6 else en w, fun w => if w = k then iP (rlV s (dfA s) n).2 (dfA s) else ip w, ?_, ?_, fun _ => ?_, fun z => absurd ((low 1 7 (by omega)).trans b9) z⟩
        · obtain ⟨a1, a2, a3, a4⟩ := h1
          refine ⟨by rw [ed, b4]; exact (a2 k hk).1, fun w hw => ?_, fun w u hw hu hh => ?_, fun w hw => ?_⟩
          · rw [ea, ed, b4]
            by_cases z : w = k
            · subst z
              rw [b3]
              exact ⟨a1, fun y => (a2 w hk).2 y.symm⟩
            · rw [b5 w hw z]
              exact ⟨(a2 w hw).1, fun y => z (a3 w k hw hk y)⟩
          · rw [ea, ea] at hh
            by_cases z : w = k
            · by_cases y : u = k
              · omega
              · rw [z, b3, b5 u hu y] at hh
                exact absurd hh.symm (a2 u hu).2
            · by_cases y : u = k
              · rw [y, b3, b5 w hw z] at hh
                exact absurd hh (a2 w hw).2
              · rw [b5 w hw z, b5 u hu y] at hh
                exact a3 w u hw hu hh
          · rw [ea]
            by_cases z : w = k
            · subst z
              dsimp only
              simp only [if_true]
              rw [b3]
              have hde := isE_rng a1 (show 0 < 9 by decide) (Nat.add_zero _).symm
              have eI : ∀ i j, i < 8 → T (dfA s + i) j = (rlV s (dfA s) n).2 (dfA s + i) j := fun i j hi => by
                have := isE_rng a1 (show i < 9 by omega) rfl
                rw [low _ j (by omega), b6 i j hi]
              have eT : ∀ i, i < n → tR T w i = tX s (dfA s) n i := fun i hi => by
                show T 96 (24 * w + i) = _
                rw [l96, if_pos (by omega), show 24 * w + i - 24 * w = i by omega]
                exact tx i hi
              have e0 := eI 0 1 (by decide)
              rw [Nat.add_zero] at e0
              refine ⟨l97, n1, by rw [e0]; exact hE.2.1, fun _ => ⟨EqOK_of hE e0 (fun i j x1 x2 => eI i j (by omega)), ⟨hk, l97, LineOK_congr eT hLK, fun i hi => ?_, fun i hi ht => ?_⟩, fun i hi => ?_⟩⟩
              · rw [l103, if_pos (by omega), show 24 * w + i - 24 * w = i by omega]
                exact g2 i hi
              · rw [l98, if_pos (by omega), show 24 * w + i - 24 * w = i by omega]
                unfold gE
                rw [if_pos ht]
              · rw [eT i hi, eI 1 i (by decide), hX]
            · dsimp only
              simp only [if_neg z]
              rw [b5 w hw z]
              obtain ⟨c1, c2, c3, c4⟩ := a4 w hw
              have eI : ∀ i j, i < 8 → T (eqA s w + i) j = s (eqA s w + i) j := fun i j hi => by
                have := isE_rng (a2 w hw).1 (show i < 9 by omega) rfl
                rw [low _ j (by omega), b7 w i j hw hi]
              have e0 := eI 0 1 (by decide)
              rw [Nat.add_zero] at e0
              have r97 : T 97 w = s 97 w := by rw [lo 97 w (by omega) (by omega) (by omega) (by omega) (by omega) (by omega) (by omega), b10 97 w (by omega)]
              have off : ∀ i, i < 24 → ¬ (24 * k ≤ 24 * w + i ∧ 24 * w + i < 24 * k + n) := fun i hi y => by omega
              refine ⟨by rw [r97]; exact c1, c2, by rw [e0]; exact c3, fun hn => ?_⟩
              obtain ⟨d1, ⟨f1, f2, f3, f4, f5⟩, d3⟩ := c4 hn
              have eT : ∀ i, i < N w → tR T w i = tR s w i := fun i hi => by
                show T 96 (24 * w + i) = s 96 (24 * w + i)
                rw [l96, if_neg (off i (by omega)), hr 96 _ (by omega) (by omega) (by omega), b10 96 _ (by omega)]
              refine ⟨EqOK_of d1 e0 (fun i j x1 x2 => eI i j (by omega)), ⟨f1, by rw [r97]; exact f2, LineOK_congr eT f3, fun i hi => ?_, fun i hi ht => ?_⟩, fun i hi => ?_⟩
              · rw [l103, if_neg (off i (by omega)), hr 103 _ (by omega) (by omega) (by omega), b10 103 _ (by omega)]
                exact f4 i hi
              · rw [l98, if_neg (off i (by omega)), hr 98 _ (by omega) (by omega) (by omega), b10 98 _ (by omega)]
                exact f5 i hi ht
              · rw [eT i hi, eI 1 i (by decide)]
                exact d3 i hi
        · have e17 : T 1 7 = 0 := (low 1 7 (by omega)).trans b9
          have up : ∀ a j, a = 105 ∨ a = 106 → T a j = s a j := fun a j ha => by
            rw [lo a j (by omega) (by omega) (by omega) (by omega) (by omega) (by omega) (by omega), b10 a j (by omega)]
          refine ⟨⟨0, by omega, by rw [low 1 1 (by omega), b8]; rfl, by rw [l1]; rfl, fun i hi => absurd hi (by omega)⟩, ?_, Or.inl e17, by rw [e17, l15], fun j hj => ?_, fun j hj => ?_⟩
          · rw [l2, low 1 2 (by omega), b10 94 2 (by omega), b10 1 2 (by omega)]
            exact i2
          · rw [up 105 j (by omega), low 5 j (by omega), b10 5 j (by omega)]
            exact i5 j hj
          · rw [up 106 j (by omega), low 81 j (by omega), b10 81 j (by omega)]
            exact i6 j hj
        · obtain ⟨z1, z2, z3⟩ := b2
          exact ⟨by rw [low 80 6 (by omega)]; exact z1, fun j hj => by rw [low 83 j (by omega)]; exact z2 j hj, by rw [low 80 9 (by omega)]; exact z3⟩
      · exact absurd z q
