/-! Reading a TERM. -/
theorem lf0 {c : Int32} (h : cDig c ∨ cVar c ∨ cInp c) : pcn c = 0 ∧ ¬ c = 67 ∧ ¬ c = 87 := by
  have k : ∀ x : Int32, (¬ ((¬ x < 48 ∧ ¬ 57 < x) ∨ (¬ x < 97 ∧ x < 105) ∨ (¬ x < 112 ∧ x < 116))) → ¬ c = x := fun x hx hc => hx (by rw [← hc]; exact h)
  have n67 := k 67 (by decide)
  have n87 := k 87 (by decide)
  refine ⟨?_, n67, n87⟩
  have : pcN c = 0 := by
    refine pR0 (k 33 (by decide)) (k 80 (by decide)) n87 n67 ?_ (k 70 (by decide)) (k 63 (by decide))
    rintro (z | z | z | z | z | z)
    · exact k 43 (by decide) z
    · exact k 45 (by decide) z
    · exact k 42 (by decide) z
    · exact k 60 (by decide) z
    · exact k 61 (by decide) z
    · exact k 38 (by decide) z
  unfold pcn
  rw [this]
  rfl
theorem RK_rd4 {sc : St} {e n lv p : Nat} {t : Nat → Int32} {a : Int32} (h : RK sc e n t) : RK (rd4 e lv p a sc) e n t := RK_U (RK_U (RK_U (RK_U h (by omega) (by omega)) (by omega) (by omega)) (by omega) (by omega)) (by omega) (by omega)
theorem rd4_off {sc : St} {e lv p b j : Nat} {a : Int32} (h2 : ¬ (b = e ∧ j = 2)) (h3 : ¬ (b = e + 3 ∧ j = p)) (h4 : ¬ (b = e + 4 ∧ j = p)) (h5 : ¬ (b = e + 5 ∧ j = p)) : rd4 e lv p a sc b j = sc b j := by
  unfold rd4
  rw [sU_n h5, sU_n h4, sU_n h3, sU_n h2]
theorem rd4_3 {sc : St} {e lv p : Nat} {a : Int32} : rd4 e lv p a sc (e + 3) p = if ¬ sc (e + 1) p < 97 ∧ sc (e + 1) p < 105 then sc (e + 1) p - 97 else -1 := by
  unfold rd4
  rw [sU_n (by omega), sU_n (by omega), sU_same]
theorem rd4_4 {sc : St} {e lv p : Nat} {a : Int32} : rd4 e lv p a sc (e + 4) p = 1 := by
  unfold rd4
  rw [sU_n (by omega), sU_same]
theorem rd4_5 {sc : St} {e lv p : Nat} {a : Int32} : rd4 e lv p a sc (e + 5) p = a := by
  unfold rd4
  rw [sU_same]
theorem rd4_2 {sc : St} {e lv p : Nat} {a : Int32} : rd4 e lv p a sc e 2 = if sc e 2 < nI lv then nI lv else sc e 2 := by
  unfold rd4
  rw [sU_n (by omega), sU_n (by omega), sU_n (by omega), sU_same]
theorem gS_off {s : St} {i b j : Nat} {x : Int32} (h1 : ¬ (b = 94 ∧ j = 2)) (h2 : ¬ (b = 104 ∧ j = i)) : gS s i x b j = s b j := by
  unfold gS
  rw [sU_n h2, sU_n h1]
theorem gD_off {s : St} {lv b j : Nat} (h1 : ¬ (b = 94 ∧ j = 3)) : gD s lv b j = s b j := by
  unfold gD
  split
  · exact sU_n h1
  · rfl
theorem gD_3 {s : St} {lv : Nat} : gD s lv 94 3 = if s 94 3 < nI lv then nI lv else s 94 3 := by
  unfold gD
  split
  · exact sU_same _ _ _ _
  · rfl
theorem nmF_op {t : Nat → Int32} {en : Nat → Nat} {i : Nat} (h1 : ¬ t i = 87) (h2 : ¬ t i = 67) : nmF t en i = if ¬ t i < 97 ∧ t i < 105 then t i - 97 else -1 := by
  unfold nmF
  by_cases q : ¬ t i < 97 ∧ t i < 105
  · rw [if_pos q, if_pos q]
  · rw [if_neg q, if_neg q, if_neg h1, if_neg h2]
theorem leaf_ok {d L e n : Nat} {t : Nat → Int32} {f m p : Nat} {a : Int32} {sc sr : St} (hf : f ≤ 5) (hR : RK sc e n t) (hp : p < n) (ha : a = 0 ∨ a = 1) (hm : m ≤ 2 * (5 - f)) (hr : rOK sr n t) (h113 : sr 113 m = nI (6 - f)) (hd : ∀ j, 3 * p ≤ j → j < 72 → sc (e + 2) j = -1) (hl : cDig (t p) ∨ cVar (t p) ∨ cInp (t p)) : Suc d L e n t f m p (p + 1) a sc (rd4 e (6 - f) p a sc) sr := by
  obtain ⟨l0, l67, l87⟩ := lf0 hl
  have hn := hR.2.2.1
  have e1 : sc (e + 1) p = t p := congrFun hR.2.2.2 p
  have hpe : ∀ g, pe t g p = p + 1 := fun g => by
    cases g with
    | zero => rfl
    | succ g =>
      rw [pe, l0, if_neg l87]
      show c0 t p + 0 = p + 1
      unfold c0
      rw [if_neg l67]
  refine ⟨by omega, by omega, RK_rd4 hR, fun g _ => hpe g, ?_, rd4_4, rd4_5, ?_, gD (gS sr p 1) (6 - f), ?_, ?_, ?_, ?_⟩
  · intro i h1 h2
    have hi : i = p := by omega
    subst hi
    refine Or.inl ⟨rd4_4, ?_, by rw [rd4_5]; exact ha, fun k hk => ?_, fun k hk => absurd hk (by omega), by rw [hpe]; omega, by rw [hpe]; omega, ?_, fun z => absurd z l67, fun z => absurd z l87⟩
    · rw [rd4_3, e1, nmF_op l87 l67]
    · rw [if_neg (by omega), rd4_off (by omega) (by omega) (by omega) (by omega)]
      exact hd _ (by omega) (by omega)
    · rw [hpe, l0, if_neg l87]
      show i + 1 = c0 t i + 0
      unfold c0
      rw [if_neg l67]
  · intro b j h1 h2 h3 h4 h5
    exact rd4_off h1 (by omega) (by omega) (by omega)
  · intro b j h1 h2 h3
    rw [gD_off (by omega), gS_off (by omega) (by omega)]
  · intro i h1 h2
    have hi : i = p := by omega
    subst hi
    rw [gD_off (by omega), rd4_4]
    unfold gS
    rw [sU_same]
  · intro hh
    rw [rd4_2, gD_3, gS_off (by omega) (by omega), hh]
  · intro R hG
    have h95 := hr.2 p hp
    exact G_leaf hn hr.1 hp (by omega) (by omega) (by omega) h113 (by rw [h95]; exact hl) hG
theorem asm {e n : Nat} {t : Nat → Int32} {f p q1 q x : Nat} {sc' : St} {a : Int32} (hx : c0 t p = x) (hq : q = q1 + (if t p = 87 then 1 else 0)) (hxq : x ≤ q1) (hit : ∀ g, f ≤ g → itr (pe t g) (pcn (t p)) x = q1) (hf : f ≤ 5) (h4 : sc' (e + 4) p = 1) (h3 : sc' (e + 3) p = nmF t (pe t 6) p) (h5 : sc' (e + 5) p = a) (ha : a = 0 ∨ a = 1)
    (hpt : ∀ k, k < 3 → sc' (e + 2) (3 * p + k) = if k < pcn (t p) then nI (itr (pe t 6) k x) else -1)
    (hkd : ∀ k, k < pcn (t p) → x ≤ itr (pe t 6) k x ∧ itr (pe t 6) k x < q1 ∧ sc' (e + 4) (itr (pe t 6) k x) = 1 ∧ sc' (e + 5) (itr (pe t 6) k x) = apW a (t p))
    (hsg : ∀ i, x ≤ i → i < q1 → LT e t sc' q i ∨ LN e t sc' p q i)
    (hC : t p = 67 → sc' (e + 4) (p + 1) = 0 ∧ sc' (e + 3) (p + 1) = -1 ∧ cVar (t (p + 1)) ∧ ∀ k, k < 3 → sc' (e + 2) (3 * (p + 1) + k) = -1)
    (hW : t p = 87 → sc' (e + 4) q1 = 0 ∧ sc' (e + 3) q1 = -1 ∧ cVar (t q1) ∧ ∀ k, k < 3 → sc' (e + 2) (3 * q1 + k) = -1) : (∀ g, f + 1 ≤ g → pe t g p = q) ∧ Seg e t sc' p q := by
  have hpx : p < x ∧ (t p = 67 → x = p + 2) ∧ (¬ t p = 67 → x = p + 1) := by
    subst hx
    unfold c0
    by_cases z : t p = 67
    · rw [if_pos z]
      exact ⟨by omega, fun _ => rfl, fun y => absurd z y⟩
    · rw [if_neg z]
      exact ⟨by omega, fun y => absurd y z, fun _ => rfl⟩
  have hpe : ∀ g, f + 1 ≤ g → pe t g p = q := fun g hg => by
    obtain ⟨g', rfl⟩ : ∃ g', g = g' + 1 := ⟨g - 1, by omega⟩
    rw [pe, ch_itr, hx, hit g' (by omega), hq]
  have h6 := hpe 6 (by omega)
  refine ⟨hpe, fun i h1 h2 => ?_⟩
  by_cases hip : i = p
  · subst hip
    refine Or.inl ⟨h4, h3, by rw [h5]; exact ha, fun k hk => ?_, fun k hk => ?_, ?_, ?_, ?_, fun hc => ?_, fun hc => ?_⟩
    · rw [hpt k hk, ch_itr, hx]
    · obtain ⟨b1, b2, b3, b4⟩ := hkd k hk
      rw [ch_itr, hx, h5]
      exact ⟨by omega, by omega, b3, b4⟩
    · rw [h6]; omega
    · rw [h6]; exact Nat.le_refl q
    · rw [h6, ch_itr, hx, hit 6 (by omega)]
      exact hq
    · have := hpx.2.1 hc
      exact ⟨by omega, (hC hc).1⟩
    · rw [if_pos hc] at hq
      have e1 : q - 1 = q1 := by omega
      rw [h6, e1]
      exact ⟨by omega, (hW hc).1⟩
  · by_cases hix : i < x
    · have hc : t p = 67 := Classical.byContradiction (fun z => by have := hpx.2.2 z; omega)
      have h7 := hpx.2.1 hc
      have hi : i = p + 1 := by omega
      subst hi
      obtain ⟨c1, c2, c3, c4⟩ := hC hc
      exact Or.inr ⟨c1, c2, c3, c4, p, Nat.le_refl p, by omega, h4, Or.inl ⟨hc, rfl⟩⟩
    · by_cases hiq : i < q1
      · exact hsg i (by omega) hiq
      · have hc : t p = 87 := Classical.byContradiction (fun z => by rw [if_neg z] at hq; omega)
        rw [if_pos hc] at hq
        have hi : i = q1 := by omega
        subst hi
        obtain ⟨c1, c2, c3, c4⟩ := hW hc
        exact Or.inr ⟨c1, c2, c3, c4, p, Nat.le_refl p, by omega, h4, Or.inr ⟨hc, by rw [h6]; omega⟩⟩
