/-! Direct needs: the reference. -/
theorem fn1_o (v : Nat) : ∀ (r u : Nat) (s : St), only109 s (fn1 v r u s)
  | 0, _, _ => fun _ _ _ => rfl
  | r + 1, u, s => (only109_U s _ _).tr (fn1_o v r (u + 1) _)
theorem fn2_o (v : Nat) : ∀ (r i : Nat) (s : St), only109 s (fn2 v r i s)
  | 0, _, _ => fun _ _ _ => rfl
  | r + 1, i, s => by
    rw [fn2]
    refine only109.tr ?_ (fn2_o v r (i + 1) _)
    split
    · exact only109_U s _ _
    · exact fun _ _ _ => rfl
theorem fn3_o : ∀ (r v : Nat) (s : St), only109 s (fn3 r v s)
  | 0, _, _ => fun _ _ _ => rfl
  | r + 1, v, s => ((fn1_o v 8 0 s).tr (fn2_o v _ 0 _)).tr (fn3_o r (v + 1) _)
theorem fn1_lo (v : Nat) : ∀ (r u : Nat) (s : St), u + r = 8 → ∀ y, y < 8 * v + u ∨ 8 * v + 8 ≤ y → fn1 v r u s 109 y = s 109 y
  | 0, _, _, _, _, _ => rfl
  | r + 1, u, s, hu, y, hy => by
    rw [fn1, fn1_lo v r (u + 1) _ (by omega) y (by omega), sU_n (by omega)]
theorem fn1_ok (v : Nat) : ∀ (r u : Nat) (s : St), u + r = 8 → ∀ k, u ≤ k → k < 8 → (¬ fn1 v r u s 109 (8 * v + k) = 0 ↔ 0 < s 97 v ∧ s 105 v = nI k)
  | 0, u, s, hu, k, h1, h2 => by omega
  | r + 1, u, s, hu, k, h1, h2 => by
    rw [fn1]
    by_cases z : k = u
    · subst z
      rw [fn1_lo v r (k + 1) _ (by omega) _ (by omega), sU_same, bz_eq0, Classical.not_not]
    · rw [fn1_ok v r (u + 1) _ (by omega) k (by omega) h2, sU_n (by omega), sU_n (by omega)]
theorem fn2_ok (v : Nat) (y : Nat) : ∀ (r i : Nat) (s : St), (¬ fn2 v r i s 109 y = 0 ↔ ¬ s 109 y = 0 ∨ ∃ j, i ≤ j ∧ j < i + r ∧ (cVar (tR s v j) ∧ s 100 (24 * v + j) = 0) ∧ y = 8 * v + (tR s v j - 97).toNatClampNeg)
  | 0, i, s => ⟨fun h => Or.inl h, fun h => h.elim id (fun ⟨j, a, b, _⟩ => by omega)⟩
  | r + 1, i, s => by
    rw [fn2]
    by_cases q : cVar (tR s v i) ∧ s 100 (24 * v + i) = 0
    · have q' : (¬ tR s v i < 97 ∧ tR s v i < 105) ∧ s 100 (24 * v + i) = 0 := q
      rw [if_pos q', fn2_ok v y r (i + 1)]
      have et : tR (sU s 109 (8 * v + (tR s v i - 97).toNatClampNeg) 1) v = tR s v := funext (fun j => sU_n (show ¬ (96 = 109 ∧ _) from fun z => absurd z.1 (by decide)))
      have e100 : sU s 109 (8 * v + (tR s v i - 97).toNatClampNeg) 1 100 = s 100 := funext (fun j => sU_n (fun z => absurd z.1 (by decide)))
      rw [et, e100]
      by_cases z : y = 8 * v + (tR s v i - 97).toNatClampNeg
      · rw [← z, sU_same]
        exact ⟨fun _ => Or.inr ⟨i, Nat.le_refl i, by omega, q, z⟩, fun _ => Or.inl (by decide)⟩
      · rw [sU_n (fun w => z w.2)]
        constructor
        · rintro (h | ⟨j, a, b, c⟩)
          · exact Or.inl h
          · exact Or.inr ⟨j, by omega, by omega, c⟩
        · rintro (h | ⟨j, a, b, c⟩)
          · exact Or.inl h
          · by_cases w : j = i
            · subst w
              exact absurd c.2 z
            · exact Or.inr ⟨j, by omega, by omega, c⟩
    · have q' : ¬ ((¬ tR s v i < 97 ∧ tR s v i < 105) ∧ s 100 (24 * v + i) = 0) := q
      rw [if_neg q', fn2_ok v y r (i + 1)]
      constructor
      · rintro (h | ⟨j, a, b, c⟩)
        · exact Or.inl h
        · exact Or.inr ⟨j, by omega, by omega, c⟩
      · rintro (h | ⟨j, a, b, c⟩)
        · exact Or.inl h
        · by_cases w : j = i
          · subst w
            exact absurd c.1 q
          · exact Or.inr ⟨j, by omega, by omega, c⟩
theorem fn3_lo : ∀ (r v : Nat) (s : St), v + r = 8 → ∀ y, y < 8 * v → fn3 r v s 109 y = s 109 y
  | 0, _, _, _, _, _ => rfl
  | r + 1, v, s, hv, y, hy => by
    rw [fn3, fn3_lo r (v + 1) _ (by omega) y (by omega)]
    have hi : ∀ (r i : Nat) (s : St), fn2 v r i s 109 y = s 109 y := by
      intro r
      induction r with
      | zero => exact fun _ _ => rfl
      | succ r ih =>
        intro i s
        rw [fn2, ih]
        split
        · exact sU_n (by omega)
        · rfl
    rw [hi, fn1_lo v 8 0 s (by decide) y (by omega)]
/-- direct needs, by the reference's rows -/
def Dr (s : St) (v u : Nat) : Prop := v < 8 ∧ u < 8 ∧ ((0 < s 97 v ∧ s 105 v = nI u) ∨ ∃ j, j < lR s v ∧ tR s v j = nI (97 + u) ∧ s 100 (24 * v + j) = 0)
theorem Dr_of {s s' : St} (h : only109 s s') : Dr s' = Dr s := by
  have e97 : s' 97 = s 97 := funext (fun j => h 97 j (by decide))
  have e105 : s' 105 = s 105 := funext (fun j => h 105 j (by decide))
  have e96 : s' 96 = s 96 := funext (fun j => h 96 j (by decide))
  have e100 : s' 100 = s 100 := funext (fun j => h 100 j (by decide))
  funext v u
  unfold Dr lR tR
  rw [e97, e105, e96, e100]
theorem fn3_ok : ∀ (r v : Nat) (s : St), v + r = 8 → ∀ w u, v ≤ w → w < 8 → u < 8 → (¬ fn3 r v s 109 (8 * w + u) = 0 ↔ Dr s w u)
  | 0, v, s, hv, w, u, h1, h2, h3 => by omega
  | r + 1, v, s, hv, w, u, h1, h2, h3 => by
    rw [fn3]
    by_cases z : w = v
    · subst z
      rw [fn3_lo r (w + 1) _ (by omega) _ (by omega), fn2_ok, fn1_ok w 8 0 s (by decide) u (by omega) h3]
      have o := fn1_o w 8 0 s
      have et : tR (fn1 w 8 0 s) w = tR s w := funext (fun j => o 96 _ (by decide))
      have e100 : fn1 w 8 0 s 100 = s 100 := funext (fun j => o 100 j (by decide))
      rw [et, e100]
      unfold Dr
      constructor
      · rintro (h | ⟨j, a, b, ⟨c1, c2⟩, c3⟩)
        · exact ⟨h2, h3, Or.inl h⟩
        · refine ⟨h2, h3, Or.inr ⟨j, by omega, ?_, c2⟩⟩
          obtain ⟨k, hk, ek⟩ := var_k c1
          rw [ek, nI_clamp (by omega)] at c3
          have : k = u := by omega
          subst this
          exact sub97 ek
      · rintro ⟨_, _, h | ⟨j, a, b, c⟩⟩
        · exact Or.inl h
        · refine Or.inr ⟨j, by omega, by omega, ⟨by rw [b]; exact cVar97 h3, c⟩, ?_⟩
          rw [add97 b, nI_clamp (by omega)]
    · have o := (fn1_o v 8 0 s).tr (fn2_o v (lR s v) 0 (fn1 v 8 0 s))
      rw [fn3_ok r (v + 1) _ (by omega) w u (by omega) h2 h3, Dr_of o]
theorem D109_Dr (s : St) (v u : Nat) : D109 (fn3 8 0 s) v u ↔ Dr s v u := by
  constructor
  · rintro ⟨a, b, c⟩
    exact (fn3_ok 8 0 s (by decide) v u (by omega) a b).mp c
  · intro h
    exact ⟨h.1, h.2.1, (fn3_ok 8 0 s (by decide) v u (by omega) h.1 h.2.1).mpr h⟩
theorem Dr_Dc {S s : St} {N : Nat → Nat} {isT : Nat → Nat → Bool} {en : Nat → Nat → Nat} {ip : Nat → Nat → Bool} (h : IE S N isT en ip) (hc : ∀ k, k < 8 → S 105 k = S 5 k) (ho : onlyF S s) (hR : ∀ w, w < 8 → 0 < N w → RV S s N isT en w) (v u : Nat) : Dr s v u ↔ Dc S N v u := by
  unfold Dr Dc
  by_cases hv : v < 8
  · by_cases hu : u < 8
    · obtain ⟨l1, l2, l3, l4, l5⟩ := IE_len h hv
      have el : lR s v = N v := by
        rw [← l2]
        unfold lR
        rw [ho 97 v (by decide) (by decide)]
      rw [el, ho 97 v (by decide) (by decide), l4, ho 105 v (by decide) (by decide), hc v hv, ho.tR v]
      by_cases hN : 0 < N v
      · obtain ⟨d1, d2, d3⟩ := (h.2.2.2 v hv).2.2.2 hN
        obtain ⟨_, hM⟩ := hR v hv hN
        have hE := d1
        obtain ⟨he, hl, hL, hT, hI, hNm, hP, hi0, hip⟩ := hE
        have hLR := d2.2.2.1
        have mk := fun j (hj : j < N v) ht => MK_ip hLR hM hi0 (fun i k hi ht hk => by
          rw [d3 i hi] at hk ⊢
          rw [ch_congr (d3 i hi)]
          exact hip i k hi ht hk) j j (Nat.le_refl j) hj ht
        have key := nm_iff d1 hu (Q := fun j => S (eqA S v + 5) j = 0) (R := fun p => s 100 (24 * v + p) = 0) (fun j hj ht _ => by
          obtain ⟨d, dj, e1, e2⟩ := mk j hj ht
          have n24 := (h.2.2.2 v hv).2.1
          rw [hI j hj ht, e1, bI_0, nI_z (by omega)]
          exact e2.symm) (fun j hj ht hq => by
          obtain ⟨d, dj, e1, e2⟩ := mk j hj ht
          have hq' : tR S v j = 87 ∨ tR S v j = 67 := by rw [d3 j hj]; exact hq
          have e3 := (hM.2 j hj ht).2 hq'
          have e4 : nmP (S (eqA S v + 1)) (en v) j = nmP (tR S v) (en v) j := by
            unfold nmP
            rw [d3 j hj]
          have n24 := (h.2.2.2 v hv).2.1
          dsimp only at e3
          rw [e4, e3, hI j hj ht, e1, bI_0, nI_z (by omega)]
          exact e2.symm)
        constructor
        · rintro ⟨_, _, z | ⟨p, p1, p2, p3⟩⟩
          · exact ⟨hv, hu, hN, Or.inr z.2⟩
          · rw [d3 p p1] at p2
            exact ⟨hv, hu, hN, Or.inl (key.mpr ⟨p, p1, p2, p3⟩)⟩
        · rintro ⟨_, _, _, z | z⟩
          · obtain ⟨p, p1, p2, p3⟩ := key.mp z
            exact ⟨hv, hu, Or.inr ⟨p, p1, by rw [d3 p p1]; exact p2, p3⟩⟩
          · exact ⟨hv, hu, Or.inl ⟨hN, z⟩⟩
      · constructor
        · rintro ⟨_, _, z | ⟨p, p1, _⟩⟩
          · exact absurd z.1 hN
          · omega
        · rintro ⟨_, _, z, _⟩
          exact absurd z hN
    · exact ⟨fun z => absurd z.2.1 hu, fun z => absurd z.2.1 hu⟩
  · exact ⟨fun z => absurd z.1 hv, fun z => absurd z.1 hv⟩
theorem Rch_congr {D D' : Nat → Nat → Prop} (h : ∀ v u, D v u ↔ D' v u) (v u : Nat) : Rch D v u ↔ Rch D' v u := by
  have : D = D' := funext (fun v => funext (fun u => propext (h v u)))
  rw [this]
theorem Rch_dom {D : Nat → Nat → Prop} {P : Nat → Prop} (h : ∀ v u, D v u → P v) {v u : Nat} (hr : Rch D v u) : P v := hr (fun a _ => P a) h (fun _ _ _ a _ => a)
