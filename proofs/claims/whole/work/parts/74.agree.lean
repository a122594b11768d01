/-! Running: class and reference evaluate alike. -/
theorem opW_33 {s : St} {e i : Nat} {f g h : Int32} (c : s (e + 1) i = 33) : opW s e i f g h = bz (f = 0) := by
  unfold opW
  rw [c, if_pos rfl]
theorem opW_38 {s : St} {e i : Nat} {f g h : Int32} (c : s (e + 1) i = 38) : opW s e i f g h = bz (¬ f = 0 ∧ ¬ g = 0) := by
  unfold opW
  rw [c, if_neg (by decide), if_pos rfl]
theorem opW_42 {s : St} {e i : Nat} {f g h : Int32} (c : s (e + 1) i = 42) : opW s e i f g h = f * g := by
  unfold opW
  rw [c, if_neg (by decide), if_neg (by decide), if_pos rfl]
theorem opW_43 {s : St} {e i : Nat} {f g h : Int32} (c : s (e + 1) i = 43) : opW s e i f g h = f + g := by
  unfold opW
  rw [c, if_neg (by decide), if_neg (by decide), if_neg (by decide), if_pos rfl]
theorem opW_45 {s : St} {e i : Nat} {f g h : Int32} (c : s (e + 1) i = 45) : opW s e i f g h = f - g := by
  unfold opW
  rw [c, if_neg (by decide), if_neg (by decide), if_neg (by decide), if_neg (by decide), if_pos rfl]
theorem opW_60 {s : St} {e i : Nat} {f g h : Int32} (c : s (e + 1) i = 60) : opW s e i f g h = bz (f < g) := by
  unfold opW
  rw [c, if_neg (by decide), if_neg (by decide), if_neg (by decide), if_neg (by decide), if_neg (by decide), if_pos rfl]
theorem opW_61 {s : St} {e i : Nat} {f g h : Int32} (c : s (e + 1) i = 61) : opW s e i f g h = bz (f = g) := by
  unfold opW
  rw [c, if_neg (by decide), if_neg (by decide), if_neg (by decide), if_neg (by decide), if_neg (by decide), if_neg (by decide), if_pos rfl]
theorem opW_63 {s : St} {e i : Nat} {f g h : Int32} (c : s (e + 1) i = 63) : opW s e i f g h = (if f = 0 then h else g) := by
  unfold opW
  rw [c, if_neg (by decide), if_neg (by decide), if_neg (by decide), if_neg (by decide), if_neg (by decide), if_neg (by decide), if_neg (by decide), if_pos rfl]
theorem opW_67 {s : St} {e i : Nat} {f g h : Int32} (c : s (e + 1) i = 67) : opW s e i f g h = (if act s (s (e + 3) i) then f else s (e + 8) i) := by
  unfold opW
  rw [c, if_neg (by decide), if_neg (by decide), if_neg (by decide), if_neg (by decide), if_neg (by decide), if_neg (by decide), if_neg (by decide), if_neg (by decide), if_pos rfl]
theorem opW_70 {s : St} {e i : Nat} {f g h : Int32} (c : s (e + 1) i = 70) : opW s e i f g h = (if bgn s (s (e + 6) i) then g else f) := by
  unfold opW
  rw [c, if_neg (by decide), if_neg (by decide), if_neg (by decide), if_neg (by decide), if_neg (by decide), if_neg (by decide), if_neg (by decide), if_neg (by decide), if_neg (by decide), if_pos rfl]
theorem opW_80 {s : St} {e i : Nat} {f g h : Int32} (c : s (e + 1) i = 80) : opW s e i f g h = s (e + 8) i := by
  unfold opW
  rw [c, if_neg (by decide), if_neg (by decide), if_neg (by decide), if_neg (by decide), if_neg (by decide), if_neg (by decide), if_neg (by decide), if_neg (by decide), if_neg (by decide), if_neg (by decide), if_pos rfl]
theorem opW_87 {s : St} {e i : Nat} {f g h : Int32} (c : s (e + 1) i = 87) : opW s e i f g h = f := by
  unfold opW
  rw [c, if_neg (by decide), if_neg (by decide), if_neg (by decide), if_neg (by decide), if_neg (by decide), if_neg (by decide), if_neg (by decide), if_neg (by decide), if_neg (by decide), if_neg (by decide), if_neg (by decide), if_pos rfl]
theorem wkO_33 {s : St} {v i : Nat} {en : Nat → Nat} {a b c : Int32} (q : tR s v i = 33) : wkO s v en i a b c = bz (a = 0) := by
  unfold wkO
  rw [q, if_pos rfl]
theorem wkO_80 {s : St} {v i : Nat} {en : Nat → Nat} {a b c : Int32} (q : tR s v i = 80) : wkO s v en i a b c = s 102 (24 * v + i) := by
  unfold wkO
  rw [q, if_neg (by decide), if_pos rfl]
theorem wkO_87 {s : St} {v i : Nat} {en : Nat → Nat} {a b c : Int32} (q : tR s v i = 87) : wkO s v en i a b c = a := by
  unfold wkO
  rw [q, if_neg (by decide), if_neg (by decide), if_pos rfl]
theorem wkO_67 {s : St} {v i : Nat} {en : Nat → Nat} {a b c : Int32} (q : tR s v i = 67) : wkO s v en i a b c = (if actR s (nmF (tR s v) en i) then a else s 102 (24 * v + i)) := by
  unfold wkO
  rw [q, if_neg (by decide), if_neg (by decide), if_neg (by decide), if_pos rfl]
theorem wkO_43 {s : St} {v i : Nat} {en : Nat → Nat} {a b c : Int32} (q : tR s v i = 43) : wkO s v en i a b c = a + b := by
  unfold wkO
  rw [q, if_neg (by decide), if_neg (by decide), if_neg (by decide), if_neg (by decide), if_pos rfl]
theorem wkO_45 {s : St} {v i : Nat} {en : Nat → Nat} {a b c : Int32} (q : tR s v i = 45) : wkO s v en i a b c = a - b := by
  unfold wkO
  rw [q, if_neg (by decide), if_neg (by decide), if_neg (by decide), if_neg (by decide), if_neg (by decide), if_pos rfl]
theorem wkO_42 {s : St} {v i : Nat} {en : Nat → Nat} {a b c : Int32} (q : tR s v i = 42) : wkO s v en i a b c = a * b := by
  unfold wkO
  rw [q, if_neg (by decide), if_neg (by decide), if_neg (by decide), if_neg (by decide), if_neg (by decide), if_neg (by decide), if_pos rfl]
theorem wkO_60 {s : St} {v i : Nat} {en : Nat → Nat} {a b c : Int32} (q : tR s v i = 60) : wkO s v en i a b c = bz (a < b) := by
  unfold wkO
  rw [q, if_neg (by decide), if_neg (by decide), if_neg (by decide), if_neg (by decide), if_neg (by decide), if_neg (by decide), if_neg (by decide), if_pos rfl]
theorem wkO_61 {s : St} {v i : Nat} {en : Nat → Nat} {a b c : Int32} (q : tR s v i = 61) : wkO s v en i a b c = bz (a = b) := by
  unfold wkO
  rw [q, if_neg (by decide), if_neg (by decide), if_neg (by decide), if_neg (by decide), if_neg (by decide), if_neg (by decide), if_neg (by decide), if_neg (by decide), if_pos rfl]
theorem wkO_38 {s : St} {v i : Nat} {en : Nat → Nat} {a b c : Int32} (q : tR s v i = 38) : wkO s v en i a b c = bz (¬ a = 0 ∧ ¬ b = 0) := by
  unfold wkO
  rw [q, if_neg (by decide), if_neg (by decide), if_neg (by decide), if_neg (by decide), if_neg (by decide), if_neg (by decide), if_neg (by decide), if_neg (by decide), if_neg (by decide), if_pos rfl]
theorem wkO_70 {s : St} {v i : Nat} {en : Nat → Nat} {a b c : Int32} (q : tR s v i = 70) : wkO s v en i a b c = (if s 112 (s 99 (24 * v + i) + 1).toNatClampNeg = 0 then a else b) := by
  unfold wkO
  rw [q, if_neg (by decide), if_neg (by decide), if_neg (by decide), if_neg (by decide), if_neg (by decide), if_neg (by decide), if_neg (by decide), if_neg (by decide), if_neg (by decide), if_neg (by decide), if_pos rfl]
theorem wkO_63 {s : St} {v i : Nat} {en : Nat → Nat} {a b c : Int32} (q : tR s v i = 63) : wkO s v en i a b c = (if a = 0 then c else b) := by
  unfold wkO
  rw [q, if_neg (by decide), if_neg (by decide), if_neg (by decide), if_neg (by decide), if_neg (by decide), if_neg (by decide), if_neg (by decide), if_neg (by decide), if_neg (by decide), if_neg (by decide), if_neg (by decide)]
theorem ev_agree {s t : St} {v e n : Nat} {isT : Nat → Bool} {en : Nat → Nat} {ip : Nat → Bool} {cl : Nat → Int32} {k0 : Int32} {Gd : Nat → Prop} {Rl : Nat → Prop}
    (hE : EqOK s e n isT en ip) (hLR : LineOK (tR t v) n isT en) (ht : ∀ i, i < n → tR t v i = s (e + 1) i)
    (hK : CK (tR t v) isT en cl k0 (fun j => t 99 (24 * v + j)) n)
    (h6 : ∀ i, i < n → isT i = true → s (e + 6) i = t 99 (24 * v + i))
    (hF : ∀ i, i < n → isT i = true → fP (tR t v) en cl i (t 99 (24 * v + i)))
    (hG : ∀ i k, i < n → isT i = true → Gd i → ¬ tR t v i = 80 → k < pcn (tR t v i) → Gd (ch (tR t v) en i k))
    (hN : ∀ i u, i < n → isT i = true → Gd i → u < 8 → (cVar (tR t v i) ∨ tR t v i = 87 ∨ tR t v i = 67) → nmF (tR t v) en i = nI u → Rl u)
    (hR : ∀ u, u < 8 → Rl u → (act s (nI u) ↔ actR t (nI u)) ∧ (act s (cl u) → s 82 u = t 110 u) ∧ (act s (nI u) → act s (cl u)))
    (hin : ∀ k, k < 4 → s 81 k = t 106 k)
    (hM : ∀ i, i < n → isT i = true → (tR t v i = 80 ∨ tR t v i = 67) → t 102 (24 * v + i) = s (e + 8) i)
    (hB : ∀ i, i < n → isT i = true → (bgn s (t 99 (24 * v + i)) ↔ ¬ t 112 (t 99 (24 * v + i) + 1).toNatClampNeg = 0))
    (fs : ∀ i, i < n → isT i = true → Gd i → act s (t 99 (24 * v + i)) → s (e + 7) i = vA s e i)
    (ft : ∀ i, i < n → isT i = true → t 101 (24 * v + i) = wkV t v en i) :
    ∀ m i, n - i ≤ m → i < n → isT i = true → Gd i → act s (t 99 (24 * v + i)) → s (e + 7) i = t 101 (24 * v + i) := by
  obtain ⟨he, hl, hL, hT, hI, hNm, hP, hi0, hip⟩ := hE
  intro m
  induction m with
  | zero =>
    intro i h1 h2
    omega
  | succ m ih =>
    intro i hm hi hti hgd hact
    have n24 := hL.2.1
    rw [fs i hi hti hgd hact, ft i hi hti]
    have eti := ht i hi
    have hf := hF i hi hti
    have kid : ∀ k, k < pcn (s (e + 1) i) → ¬ s (e + 1) i = 80 → act s (iC (tR t v) en cl i (t 99 (24 * v + i))) → pv s e i k = t 101 (24 * v + ch (tR t v) en i k) := by
      intro k hk h80 ha
      have hk' : k < pcn (tR t v i) := by rw [eti]; exact hk
      have kd := LK_kid hLR hi hti hk'
      have kl := (LK_kle hLR hi hti hk').1
      have h3 := (pcN_pcn (s (e + 1) i)).2
      have ec : s (e + 2) (3 * i + k) = nI (ch (tR t v) en i k) := by
        rw [hP i k hi (by omega), if_pos ⟨hti, hk⟩, ch_congr eti]
      have ek := hK.2 i hi hti k hk'
      dsimp only at ek
      have r := ih (ch (tR t v) en i k) (by omega) kd.1 kd.2 (hG i k hi hti hgd (by rw [eti]; exact h80) hk') (by rw [ek]; exact ha)
      unfold pv
      rw [ec, if_neg (nI_m1 (by omega)), nI_clamp (by omega)]
      exact r
    unfold vA wkV
    rw [eti]
    by_cases q1 : ¬ s (e + 1) i < 48 ∧ ¬ 57 < s (e + 1) i
    · rw [if_pos q1, if_pos q1]
    · rw [if_neg q1, if_neg q1]
      by_cases q2 : ¬ s (e + 1) i < 97 ∧ s (e + 1) i < 105
      · obtain ⟨u, hu, eu⟩ := var_k q2
        have cv : cVar (tR t v i) := by rw [eti]; exact q2
        have enm : nmF (tR t v) en i = nI u := (if_pos cv).trans (by rw [eti]; exact eu)
        have hr := hR u hu (hN i u hi hti hgd hu (Or.inl cv) enm)
        have ecl : cl u = t 99 (24 * v + i) := by
          apply Classical.byContradiction
          intro z
          exact hf (Or.inl ⟨cv, by rw [eti, eu, nI_clamp (by omega)]; exact z⟩)
        rw [if_pos q2, if_pos q2, eu, nI_clamp (by omega)]
        exact hr.2.1 (by rw [ecl]; exact hact)
      · rw [if_neg q2, if_neg q2]
        by_cases q3 : ¬ s (e + 1) i < 112 ∧ s (e + 1) i < 116
        · obtain ⟨k, hk, ek⟩ := inp_k q3
          rw [if_pos q3, if_pos q3, ek, nI_clamp (by omega), hin k hk]
        · rw [if_neg q3, if_neg q3]
          have hp : 0 < pcn (s (e + 1) i) := by
            rcases (hL.2.2.2.2.2 i hi hti).2.2.2.2.2.2 with z | z | z | z
            · exact absurd z q2
            · exact absurd z q3
            · exact absurd z q1
            · exact z
          have same : ¬ s (e + 1) i = 87 → ¬ s (e + 1) i = 67 → act s (iC (tR t v) en cl i (t 99 (24 * v + i))) := fun a b => by
            unfold iC
            rw [eti, if_neg a, if_neg b]
            exact hact
          unfold opV
          by_cases c33 : s (e + 1) i = 33
          · rw [opW_33 c33, wkO_33 (eti.trans c33), kid 0 (by rw [c33]; decide) (by rw [c33]; decide) (same (by rw [c33]; decide) (by rw [c33]; decide))]
          · by_cases c38 : s (e + 1) i = 38
            · rw [opW_38 c38, wkO_38 (eti.trans c38), kid 0 (by rw [c38]; decide) (by rw [c38]; decide) (same (by rw [c38]; decide) (by rw [c38]; decide)), kid 1 (by rw [c38]; decide) (by rw [c38]; decide) (same (by rw [c38]; decide) (by rw [c38]; decide))]
            · by_cases c42 : s (e + 1) i = 42
              · rw [opW_42 c42, wkO_42 (eti.trans c42), kid 0 (by rw [c42]; decide) (by rw [c42]; decide) (same (by rw [c42]; decide) (by rw [c42]; decide)), kid 1 (by rw [c42]; decide) (by rw [c42]; decide) (same (by rw [c42]; decide) (by rw [c42]; decide))]
              · by_cases c43 : s (e + 1) i = 43
                · rw [opW_43 c43, wkO_43 (eti.trans c43), kid 0 (by rw [c43]; decide) (by rw [c43]; decide) (same (by rw [c43]; decide) (by rw [c43]; decide)), kid 1 (by rw [c43]; decide) (by rw [c43]; decide) (same (by rw [c43]; decide) (by rw [c43]; decide))]
                · by_cases c45 : s (e + 1) i = 45
                  · rw [opW_45 c45, wkO_45 (eti.trans c45), kid 0 (by rw [c45]; decide) (by rw [c45]; decide) (same (by rw [c45]; decide) (by rw [c45]; decide)), kid 1 (by rw [c45]; decide) (by rw [c45]; decide) (same (by rw [c45]; decide) (by rw [c45]; decide))]
                  · by_cases c60 : s (e + 1) i = 60
                    · rw [opW_60 c60, wkO_60 (eti.trans c60), kid 0 (by rw [c60]; decide) (by rw [c60]; decide) (same (by rw [c60]; decide) (by rw [c60]; decide)), kid 1 (by rw [c60]; decide) (by rw [c60]; decide) (same (by rw [c60]; decide) (by rw [c60]; decide))]
                    · by_cases c61 : s (e + 1) i = 61
                      · rw [opW_61 c61, wkO_61 (eti.trans c61), kid 0 (by rw [c61]; decide) (by rw [c61]; decide) (same (by rw [c61]; decide) (by rw [c61]; decide)), kid 1 (by rw [c61]; decide) (by rw [c61]; decide) (same (by rw [c61]; decide) (by rw [c61]; decide))]
                      · by_cases c63 : s (e + 1) i = 63
                        · rw [opW_63 c63, wkO_63 (eti.trans c63), kid 0 (by rw [c63]; decide) (by rw [c63]; decide) (same (by rw [c63]; decide) (by rw [c63]; decide)), kid 1 (by rw [c63]; decide) (by rw [c63]; decide) (same (by rw [c63]; decide) (by rw [c63]; decide)), kid 2 (by rw [c63]; decide) (by rw [c63]; decide) (same (by rw [c63]; decide) (by rw [c63]; decide))]
                        · by_cases c67 : s (e + 1) i = 67
                          · obtain ⟨w, hw, ew⟩ := hLR.nm hi hti (Or.inr (Or.inl (eti.trans c67)))
                            have hr := hR w hw (hN i w hi hti hgd hw (Or.inr (Or.inr (eti.trans c67))) ew)
                            have e3 : s (e + 3) i = nI w := by
                              rw [hNm i hi, if_pos hti, ← nmF_congr hL ht hi hti]
                              exact ew
                            rw [opW_67 c67, wkO_67 (eti.trans c67), e3, ew]
                            by_cases z : act s (nI w)
                            · rw [if_pos z, if_pos (hr.1.mp z)]
                              refine kid 0 hp (by rw [c67]; decide) ?_
                              unfold iC
                              rw [eti, if_neg (by rw [c67]; decide), if_pos c67, ew]
                              exact z
                            · rw [if_neg z, if_neg (fun y => z (hr.1.mpr y))]
                              exact (hM i hi hti (Or.inr (eti.trans c67))).symm
                          · by_cases c70 : s (e + 1) i = 70
                            · rw [opW_70 c70, wkO_70 (eti.trans c70), h6 i hi hti]
                              have hb := hB i hi hti
                              have k0 := kid 0 (by rw [c70]; decide) (by rw [c70]; decide) (same (by rw [c70]; decide) (by rw [c70]; decide))
                              have k1 := kid 1 (by rw [c70]; decide) (by rw [c70]; decide) (same (by rw [c70]; decide) (by rw [c70]; decide))
                              by_cases z : bgn s (t 99 (24 * v + i))
                              · rw [if_pos z, if_neg (hb.mp z)]
                                exact k1
                              · rw [if_neg z, if_pos (Classical.byContradiction (fun y => z (hb.mpr y)))]
                                exact k0
                            · by_cases c80 : s (e + 1) i = 80
                              · rw [opW_80 c80, wkO_80 (eti.trans c80)]
                                exact (hM i hi hti (Or.inl (eti.trans c80))).symm
                              · by_cases c87 : s (e + 1) i = 87
                                · obtain ⟨w, hw, ew⟩ := hLR.nm hi hti (Or.inl (eti.trans c87))
                                  have hr := hR w hw (hN i w hi hti hgd hw (Or.inr (Or.inl (eti.trans c87))) ew)
                                  have ek : t 99 (24 * v + i) = nI w := by
                                    apply Classical.byContradiction
                                    intro z
                                    exact hf (Or.inr (Or.inr (Or.inl ⟨eti.trans c87, by rw [ew]; exact z⟩)))
                                  rw [opW_87 c87, wkO_87 (eti.trans c87)]
                                  refine kid 0 hp (by rw [c87]; decide) ?_
                                  unfold iC
                                  rw [eti, if_pos c87, ew, nI_clamp (by omega)]
                                  refine hr.2.2 ?_
                                  rw [← ek]
                                  exact hact
                                · have c := pn3 hp c33 c80 c87 c67 (fun z => by rcases z with z | z | z | z | z | z <;> contradiction) c70
                                  exact absurd c c63
