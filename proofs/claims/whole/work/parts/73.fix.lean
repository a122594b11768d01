/-! Running: what an evaluation leaves. -/
/-- what TERMS are made of lies behind them -/
def beh (s : St) (e n : Nat) : Prop := ∀ j k, j < n → k < 3 → s (e + 2) (3 * j + k) = -1 ∨ ∃ c, j < c ∧ c < 24 ∧ s (e + 2) (3 * j + k) = nI c
theorem EqOK_beh {s : St} {e n : Nat} {isT : Nat → Bool} {en : Nat → Nat} {ip : Nat → Bool} (h : EqOK s e n isT en ip) : beh s e n := by
  obtain ⟨he, hl, hL, hT, hI, hN, hP, hi0, hip⟩ := h
  intro j k hj hk
  rw [hP j k hj hk]
  by_cases q : isT j = true ∧ k < pcn (s (e + 1) j)
  · rw [if_pos q]
    have a := LK_kid hL hj q.1 q.2
    have b := (LK_kle hL hj q.1 q.2).1
    exact Or.inr ⟨_, b, by have := hL.2.1; omega, rfl⟩
  · rw [if_neg q]
    exact Or.inl rfl
theorem EqOK_PK {s : St} {e n : Nat} {isT : Nat → Bool} {en : Nat → Nat} {ip : Nat → Bool} (h : EqOK s e n isT en ip) : PK s e n := ⟨h.1, h.2.1, h.2.2.1.2.1, fun i k hi hk => (EqOK_beh h i k hi hk).elim Or.inl (fun ⟨c, _, c2, c3⟩ => Or.inr ⟨c, c2, c3⟩)⟩
theorem evL_hi {e j : Nat} : ∀ (i : Nat) (s : St), i ≤ j → evL s e i (e + 7) j = s (e + 7) j
  | 0, _, _ => rfl
  | i + 1, s, h => by rw [evL, evL_hi i _ (by omega), sU_n (by omega)]
theorem pv_congr {s s' : St} {e j k : Nat} (h2 : s' (e + 2) (3 * j + k) = s (e + 2) (3 * j + k)) (hb : s (e + 2) (3 * j + k) = -1 ∨ ∃ c, j < c ∧ c < 24 ∧ s (e + 2) (3 * j + k) = nI c) (h7 : ∀ c, j < c → s' (e + 7) c = s (e + 7) c) : pv s' e j k = pv s e j k := by
  unfold pv
  rw [h2]
  rcases hb with h | ⟨c, c1, c2, h⟩
  · rw [if_pos h, if_pos h]
  · rw [h, nI_clamp (by omega), h7 c c1]
theorem vA_eq {s s' : St} {e i : Nat} (h1 : s' (e + 1) i = s (e + 1) i) (h3 : s' (e + 3) i = s (e + 3) i) (h6 : s' (e + 6) i = s (e + 6) i) (h8 : s' (e + 8) i = s (e + 8) i) (h81 : ∀ k, s' 81 k = s 81 k) (h88 : s' 80 8 = s 80 8) (hp : ∀ k, k < 3 → pv s' e i k = pv s e i k) (hv : (¬ s (e + 1) i < 97 ∧ s (e + 1) i < 105) → s' 82 (s (e + 1) i - 97).toNatClampNeg = s 82 (s (e + 1) i - 97).toNatClampNeg) (hc : s (e + 1) i = 67 → (act s' (s (e + 3) i) ↔ act s (s (e + 3) i))) : vA s' e i = vA s e i := by
  unfold vA
  rw [h1]
  by_cases q1 : ¬ s (e + 1) i < 48 ∧ ¬ 57 < s (e + 1) i
  · rw [if_pos q1, if_pos q1]
  · rw [if_neg q1, if_neg q1]
    by_cases q2 : ¬ s (e + 1) i < 97 ∧ s (e + 1) i < 105
    · rw [if_pos q2, if_pos q2, hv q2]
    · rw [if_neg q2, if_neg q2]
      by_cases q3 : ¬ s (e + 1) i < 112 ∧ s (e + 1) i < 116
      · rw [if_pos q3, if_pos q3, h81]
      · rw [if_neg q3, if_neg q3]
        unfold opV
        rw [hp 0 (by decide), hp 1 (by decide), hp 2 (by decide)]
        generalize pv s e i 0 = f
        generalize pv s e i 1 = g
        generalize pv s e i 2 = h
        unfold opW
        rw [h1, h3, h6, h8]
        by_cases c67 : s (e + 1) i = 67
        · have n33 : ¬ s (e + 1) i = 33 := by rw [c67]; decide
          have n38 : ¬ s (e + 1) i = 38 := by rw [c67]; decide
          have n42 : ¬ s (e + 1) i = 42 := by rw [c67]; decide
          have n43 : ¬ s (e + 1) i = 43 := by rw [c67]; decide
          have n45 : ¬ s (e + 1) i = 45 := by rw [c67]; decide
          have n60 : ¬ s (e + 1) i = 60 := by rw [c67]; decide
          have n61 : ¬ s (e + 1) i = 61 := by rw [c67]; decide
          have n63 : ¬ s (e + 1) i = 63 := by rw [c67]; decide
          simp only [if_neg n33, if_neg n38, if_neg n42, if_neg n43, if_neg n45, if_neg n60, if_neg n61, if_neg n63, if_pos c67]
          have hc' := hc c67
          by_cases z : act s (s (e + 3) i)
          · rw [if_pos z, if_pos (hc'.mpr z)]
          · rw [if_neg z, if_neg (fun y => z (hc'.mp y))]
        · simp only [if_neg c67, bgn, h88]
theorem evL_fix {e n : Nat} (he : isE e) : ∀ (i : Nat) (s : St), beh s e n → i ≤ n → ∀ j, j < i → evL s e i (e + 7) j = vA (evL s e i) e j
  | 0, _, _, _, j, hj => absurd hj (by omega)
  | i + 1, s, hb, hi, j, hj => by
    have rg := isE_rng he (show 7 < 9 by decide) rfl
    rw [evL]
    by_cases z : j = i
    · subst z
      rw [evL_hi j _ (Nat.le_refl j), sU_same]
      have o : ∀ a k, a ≠ e + 7 → evL (sU s (e + 7) j (vA s e j)) e j a k = s a k := fun a k ha => by
        rw [evL_off ha, sU_n (by omega)]
      refine (vA_eq (o _ _ (by omega)) (o _ _ (by omega)) (o _ _ (by omega)) (o _ _ (by omega)) (fun k => o 81 k (by omega)) (o 80 8 (by omega)) (fun k hk => ?_) (fun _ => o 82 _ (by omega)) (fun _ => ?_)).symm
      · refine pv_congr (o _ _ (by omega)) (hb j k (by omega) hk) (fun c hc => ?_)
        rw [evL_hi j _ (by omega), sU_n (by omega)]
      · unfold act
        rw [o 80 7 (by omega)]
    · exact evL_fix he i _ (fun j k hj hk => by rw [sU_n (by omega)]; exact hb j k hj hk) (by omega) j (by omega)
/-! the reference -/
theorem wkL_off {v : Nat} {isT : Nat → Bool} {en : Nat → Nat} {a j : Nat} (h : a ≠ 101) : ∀ (i : Nat) (s : St), wkL v isT en i s a j = s a j
  | 0, _ => rfl
  | i + 1, s => by
    rw [wkL, wkL_off h i]
    split
    · exact sU_n (by omega)
    · rfl
theorem wkL_hi {v : Nat} {isT : Nat → Bool} {en : Nat → Nat} {j : Nat} : ∀ (i : Nat) (s : St), 24 * v + i ≤ j ∨ j < 24 * v → wkL v isT en i s 101 j = s 101 j
  | 0, _, _ => rfl
  | i + 1, s, h => by
    rw [wkL, wkL_hi i _ (by omega)]
    split
    · exact sU_n (by omega)
    · rfl
theorem wkO_dep {s : St} {v i : Nat} {en : Nat → Nat} {a b c b' c' : Int32} (hp : 0 < pcn (tR s v i)) (hb : 1 < pcn (tR s v i) → b' = b) (hc : 2 < pcn (tR s v i) → c' = c) : wkO s v en i a b' c' = wkO s v en i a b c := by
  by_cases c1 : tR s v i = 33
  · unfold wkO
    simp only [if_pos c1]
  · by_cases c2 : tR s v i = 80
    · unfold wkO
      simp only [if_neg c1, if_pos c2]
    · by_cases c3 : tR s v i = 87
      · unfold wkO
        simp only [if_neg c1, if_neg c2, if_pos c3]
      · by_cases c4 : tR s v i = 67
        · unfold wkO
          simp only [if_neg c1, if_neg c2, if_neg c3, if_pos c4]
        · rw [hb (by have := pn2 hp c1 c2 c3 c4; omega)]
          unfold wkO
          simp only [if_neg c1, if_neg c2, if_neg c3, if_neg c4]
          by_cases d1 : tR s v i = 43
          · simp only [if_pos d1]
          · simp only [if_neg d1]
            by_cases d2 : tR s v i = 45
            · simp only [if_pos d2]
            · simp only [if_neg d2]
              by_cases d3 : tR s v i = 42
              · simp only [if_pos d3]
              · simp only [if_neg d3]
                by_cases d4 : tR s v i = 60
                · simp only [if_pos d4]
                · simp only [if_neg d4]
                  by_cases d5 : tR s v i = 61
                  · simp only [if_pos d5]
                  · simp only [if_neg d5]
                    by_cases d6 : tR s v i = 38
                    · simp only [if_pos d6]
                    · simp only [if_neg d6]
                      by_cases d7 : tR s v i = 70
                      · simp only [if_pos d7]
                      · simp only [if_neg d7]
                        have c63 := pn3 hp c1 c2 c3 c4 (fun z => by rcases z with z | z | z | z | z | z <;> contradiction) d7
                        rw [hc (by rw [c63]; decide)]
theorem wkV_eq {s s' : St} {v i n : Nat} {isT : Nat → Bool} {en : Nat → Nat} (hL : LineOK (tR s v) n isT en) (hi : i < n) (ht : isT i = true) (h : ∀ a, a ≠ 101 → s' a = s a) (h1 : ∀ k, k < pcn (tR s v i) → s' 101 (24 * v + ch (tR s v) en i k) = s 101 (24 * v + ch (tR s v) en i k)) : wkV s' v en i = wkV s v en i := by
  have et : tR s' v = tR s v := by
    unfold tR
    rw [h 96 (by decide)]
  have eo : ∀ a b c, wkO s' v en i a b c = wkO s v en i a b c := fun a b c => by
    unfold wkO actR
    rw [et, h 102 (by decide), h 107 (by decide), h 110 (by decide), h 112 (by decide), h 99 (by decide)]
  unfold wkV
  rw [et, h 110 (by decide), h 106 (by decide)]
  by_cases q1 : ¬ tR s v i < 48 ∧ ¬ 57 < tR s v i
  · rw [if_pos q1, if_pos q1]
  · rw [if_neg q1, if_neg q1]
    by_cases q2 : ¬ tR s v i < 97 ∧ tR s v i < 105
    · rw [if_pos q2, if_pos q2]
    · rw [if_neg q2, if_neg q2]
      by_cases q3 : ¬ tR s v i < 112 ∧ tR s v i < 116
      · rw [if_pos q3, if_pos q3]
      · rw [if_neg q3, if_neg q3, eo]
        have hp : 0 < pcn (tR s v i) := by
          rcases (hL.2.2.2.2.2 i hi ht).2.2.2.2.2.2 with z | z | z | z
          · exact absurd z q2
          · exact absurd z q3
          · exact absurd z q1
          · exact z
        rw [h1 0 hp]
        exact wkO_dep hp (fun z => h1 1 z) (fun z => h1 2 z)
theorem wkL_fix {v n : Nat} {isT : Nat → Bool} {en : Nat → Nat} : ∀ (i : Nat) (s : St), LineOK (tR s v) n isT en → i ≤ n → ∀ j, j < i → isT j = true → wkL v isT en i s 101 (24 * v + j) = wkV (wkL v isT en i s) v en j
  | 0, _, _, _, j, hj, _ => absurd hj (by omega)
  | i + 1, s, hL, hi, j, hj, ht => by
    rw [wkL]
    have hL' : LineOK (tR (if isT i = true then sU s 101 (24 * v + i) (wkV s v en i) else s) v) n isT en := by
      have : tR (if isT i = true then sU s 101 (24 * v + i) (wkV s v en i) else s) v = tR s v := by
        funext k
        show (if isT i = true then sU s 101 (24 * v + i) (wkV s v en i) else s) 96 (24 * v + k) = s 96 (24 * v + k)
        split
        · exact sU_n (by omega)
        · rfl
      rw [this]
      exact hL
    by_cases z : j = i
    · subst z
      rw [if_pos ht, wkL_hi j _ (by omega), sU_same]
      refine (wkV_eq hL (by omega) ht (fun a ha => funext (fun k => ?_)) (fun k hk => ?_)).symm
      · rw [wkL_off ha, sU_n (by omega)]
      · have := (LK_kle hL (show j < n by omega) ht hk).1
        rw [wkL_hi j _ (by omega), sU_n (by omega)]
    · exact wkL_fix i _ hL' (by omega) j (by omega) ht
