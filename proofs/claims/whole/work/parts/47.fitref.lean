/-! FIT: the reference. -/
def nmP (t : Nat → Int32) (en : Nat → Nat) (o : Nat) : Nat := if t o = 87 then en o - 1 else o + 1
section OWN
variable {t : Nat → Int32} {n : Nat} {isT : Nat → Bool} {en : Nat → Nat}
theorem LK_nm (h : LineOK t n isT en) {o : Nat} (ho : o < n) (ht : isT o = true) (hq : t o = 87 ∨ t o = 67) : o < nmP t en o ∧ nmP t en o < n ∧ isT (nmP t en o) = false := by
  have a := h.2.2.2.2.2 o ho ht
  unfold nmP
  by_cases q : t o = 87
  · have b := (LK_mono h ho ht (pcn (t o)) (Nat.le_refl _)).1
    have c := LK_last h ho ht
    have d := LK_en h ho ht
    rw [if_pos q] at c ⊢
    exact ⟨by omega, by omega, a.2.2.2.2.2.1 q⟩
  · have b := a.2.2.2.2.1 (hq.resolve_left q)
    rw [if_neg q]
    exact ⟨by omega, b.1, b.2⟩
theorem LK_own1 (h : LineOK t n isT en) {o o' : Nat} (ho : o < n) (ht : isT o = true) (hq : t o = 87 ∨ t o = 67) (ho' : o' < n) (ht' : isT o' = true) (hq' : t o' = 87 ∨ t o' = 67) (he : nmP t en o = nmP t en o') : o = o' := by
  have key : ∀ {o o' : Nat}, o < n → isT o = true → (t o = 87 ∨ t o = 67) → o' < n → isT o' = true → (t o' = 87 ∨ t o' = 67) → nmP t en o = nmP t en o' → ¬ o < o' := by
    intro o o' ho ht hq ho' ht' hq' he hlt
    have a := LK_nm h ho ht hq
    have a' := LK_nm h ho' ht' hq'
    have b' := LK_en h ho' ht'
    have q : t o = 87 := by
      apply Classical.byContradiction
      intro q
      have : nmP t en o = o + 1 := if_neg q
      omega
    have e1 : nmP t en o = en o - 1 := if_pos q
    have l := LK_last h ho ht
    rw [if_pos q] at l
    obtain ⟨k, k1, k2, k3⟩ := LK_desc h ho ht hlt (by omega) ht'
    have c := LK_kid h ho ht k1
    have nn := LK_nest h ht' (en (ch t en o k) - ch t en o k) (ch t en o k) (Nat.le_refl _) c.1 c.2 k2 k3
    have m := (LK_mono h ho ht (pcn (t o)) (Nat.le_refl _)).2 (k + 1) k1
    have hs : ch t en o (k + 1) = en (ch t en o k) := rfl
    by_cases q' : t o' = 87
    · have e2 : nmP t en o' = en o' - 1 := if_pos q'
      omega
    · have e2 : nmP t en o' = o' + 1 := if_neg q'
      have g := (LK_mono h ho' ht' (pcn (t o')) (Nat.le_refl _)).2 0 (by omega)
      have g0 : ch t en o' 0 = o' + 2 := if_pos (hq'.resolve_left q')
      have g1 := LK_last h ho' ht'
      rw [if_neg q'] at g1
      omega
  have z1 := key ho ht hq ho' ht' hq' he
  have z2 := key ho' ht' hq' ho ht hq he.symm
  omega
end OWN
theorem fcL_ok {v i : Nat} {t : Nat → Int32} {en : Nat → Nat} {x : Int32} : ∀ (r k : Nat) (s : St), (∀ m, k ≤ m → m < k + r → i < ch t en i m) →
    (∀ j, (∃ m, k ≤ m ∧ m < k + r ∧ j = ch t en i m) → fcL v t en i x r k s 99 (24 * v + j) = x ∧ fcL v t en i x r k s 100 (24 * v + j) = s 100 (24 * v + i) + (if t i = 80 then 1 else 0)) ∧
    (∀ j, (¬ ∃ m, k ≤ m ∧ m < k + r ∧ j = ch t en i m) → fcL v t en i x r k s 99 (24 * v + j) = s 99 (24 * v + j) ∧ fcL v t en i x r k s 100 (24 * v + j) = s 100 (24 * v + j))
  | 0, k, s, _ => ⟨fun j ⟨m, a, b, _⟩ => absurd b (by omega), fun _ _ => ⟨rfl, rfl⟩⟩
  | r + 1, k, s, h => by
    have hk := h k (Nat.le_refl k) (by omega)
    obtain ⟨a, b⟩ := fcL_ok (v := v) (i := i) (t := t) (en := en) (x := x) r (k + 1) (sU (sU s 99 (24 * v + ch t en i k) x) 100 (24 * v + ch t en i k) (s 100 (24 * v + i) + (if t i = 80 then 1 else 0))) (fun m m1 m2 => h m (by omega) (by omega))
    have e0 : sU (sU s 99 (24 * v + ch t en i k) x) 100 (24 * v + ch t en i k) (s 100 (24 * v + i) + (if t i = 80 then 1 else 0)) 100 (24 * v + i) = s 100 (24 * v + i) := by
      rw [sU_n (by omega), sU_n (by omega)]
    rw [e0] at a
    rw [fcL]
    refine ⟨fun j hj => ?_, fun j hj => ?_⟩
    · by_cases z : ∃ m, k + 1 ≤ m ∧ m < k + 1 + r ∧ j = ch t en i m
      · exact a j z
      · obtain ⟨m, m1, m2, m3⟩ := hj
        have : m = k := by
          apply Classical.byContradiction
          intro y
          exact z ⟨m, by omega, by omega, m3⟩
        subst this
        rw [(b j z).1, (b j z).2]
        subst m3
        exact ⟨by rw [sU_n (by omega), sU_same], by rw [sU_same]⟩
    · obtain ⟨b1, b2⟩ := b j (fun ⟨m, m1, m2, m3⟩ => hj ⟨m, by omega, by omega, m3⟩)
      have hne : j ≠ ch t en i k := fun z => hj ⟨k, Nat.le_refl k, by omega, z⟩
      rw [b1, b2]
      exact ⟨by rw [sU_n (by omega), sU_n (by omega)], by rw [sU_n (by omega), sU_n (by omega)]⟩
/-- how a place changes the rows -/
theorem fs_ok {S s : St} {v n i : Nat} {isT : Nat → Bool} {en : Nat → Nat} (hL : LineOK (tR S v) n isT en) (ht : tR s v = tR S v) (h105 : s 105 = S 105) (hi : i < n) (hti : isT i = true) :
    (∀ k, k < pcn (tR S v i) → fs v en i s 99 (24 * v + ch (tR S v) en i k) = iC (tR S v) en (S 105) i (s 99 (24 * v + i)) ∧ fs v en i s 100 (24 * v + ch (tR S v) en i k) = s 100 (24 * v + i) + (if tR S v i = 80 then 1 else 0)) ∧
    (∀ j, (¬ ∃ k, k < pcn (tR S v i) ∧ j = ch (tR S v) en i k) → fs v en i s 99 (24 * v + j) = s 99 (24 * v + j)) ∧
    (∀ j, (¬ ∃ k, k < pcn (tR S v i) ∧ j = ch (tR S v) en i k) → ¬ ((tR S v i = 87 ∨ tR S v i = 67) ∧ j = nmP (tR S v) en i) → fs v en i s 100 (24 * v + j) = s 100 (24 * v + j)) ∧
    ((tR S v i = 87 ∨ tR S v i = 67) → fs v en i s 100 (24 * v + nmP (tR S v) en i) = s 100 (24 * v + i)) := by
  have ex : inR s v en i = iC (tR S v) en (S 105) i (s 99 (24 * v + i)) := by
    unfold inR iC
    rw [ht, h105]
  have hgt : ∀ m, 0 ≤ m → m < 0 + pcn (tR S v i) → i < ch (tR S v) en i m := fun m _ h => (LK_kle hL hi hti (by omega)).1
  obtain ⟨a, b⟩ := fcL_ok (v := v) (x := iC (tR S v) en (S 105) i (s 99 (24 * v + i))) (pcn (tR S v i)) 0 s hgt
  have ew : fs v en i s = fw v (tR S v) en i (fcL v (tR S v) en i (iC (tR S v) en (S 105) i (s 99 (24 * v + i))) (pcn (tR S v i)) 0 s) := by
    unfold fs
    rw [ht, ex]
  rw [ew]
  generalize fcL v (tR S v) en i (iC (tR S v) en (S 105) i (s 99 (24 * v + i))) (pcn (tR S v i)) 0 s = s1 at a b
  have si : s1 100 (24 * v + i) = s 100 (24 * v + i) := (b i (fun ⟨m, _, m2, m3⟩ => by have := hgt m (by omega) m2; omega)).2
  have w99 : ∀ j, fw v (tR S v) en i s1 99 j = s1 99 j := fun j => by
    unfold fw
    split
    · exact sU_n (by omega)
    · split
      · exact sU_n (by omega)
      · rfl
  have w0 : ∀ j, ¬ ((tR S v i = 87 ∨ tR S v i = 67) ∧ j = nmP (tR S v) en i) → fw v (tR S v) en i s1 100 (24 * v + j) = s1 100 (24 * v + j) := fun j hj => by
    unfold fw nmP at *
    split
    · next q =>
      rw [if_pos q] at hj
      exact sU_n (fun z => hj ⟨Or.inl q, by omega⟩)
    · next q =>
      rw [if_neg q] at hj
      split
      · next q2 => exact sU_n (fun z => hj ⟨Or.inr q2, by omega⟩)
      · rfl
  have w1 : (tR S v i = 87 ∨ tR S v i = 67) → fw v (tR S v) en i s1 100 (24 * v + nmP (tR S v) en i) = s1 100 (24 * v + i) := fun hq => by
    unfold fw nmP
    by_cases q : tR S v i = 87
    · rw [if_pos q, if_pos q, sU_same]
    · rw [if_neg q, if_neg q, if_pos (hq.resolve_left q), sU_same]
  refine ⟨fun k hk => ?_, fun j hj => ?_, fun j hj hn => ?_, fun hq => ?_⟩
  · obtain ⟨a1, a2⟩ := a _ ⟨k, by omega, by omega, rfl⟩
    refine ⟨by rw [w99]; exact a1, ?_⟩
    rw [w0 _ (fun z => ?_)]
    · exact a2
    · have c := LK_kid hL hi hti hk
      have d := (LK_nm hL hi hti z.1).2.2
      rw [← z.2, c.2] at d
      exact absurd d (by decide)
  · rw [w99]
    exact (b j (fun ⟨m, _, m2, m3⟩ => hj ⟨m, by omega, m3⟩)).1
  · rw [w0 j hn]
    exact (b j (fun ⟨m, _, m2, m3⟩ => hj ⟨m, by omega, m3⟩)).2
  · rw [w1 hq, si]
/-- how deep in P a place lies -/
def MK (t : Nat → Int32) (isT : Nat → Bool) (en : Nat → Nat) (D : Nat → Int32) (j : Nat) : Prop := D 0 = 0 ∧ ∀ i, i < j → isT i = true → (∀ k, k < pcn (t i) → D (ch t en i k) = D i + (if t i = 80 then 1 else 0)) ∧ ((t i = 87 ∨ t i = 67) → D (nmP t en i) = D i)
theorem nf_fP {S s : St} {v i : Nat} {en : Nat → Nat} (ht : tR s v = tR S v) (h105 : s 105 = S 105) : nf s v en i ↔ ¬ fP (tR S v) en (S 105) i (s 99 (24 * v + i)) := by
  unfold nf fP
  rw [ht, h105, Classical.not_not]
theorem fit_ok {v n : Nat} {isT : Nat → Bool} {en : Nat → Nat} {k0 : Int32} {S : St} (hL : LineOK (tR S v) n isT en) : ∀ (r i : Nat) (b : Int32) (s : St), i + r = n → onlyF S s → CK (tR S v) isT en (S 105) k0 (fun j => s 99 (24 * v + j)) i → MK (tR S v) isT en (fun j => s 100 (24 * v + j)) i → (b = 0 ∨ b = 1) → (b = 1 ↔ ∀ o, o < i → isT o = true → fP (tR S v) en (S 105) o (s 99 (24 * v + o))) →
    CK (tR S v) isT en (S 105) k0 (fun j => (ffR v isT en r i b s).2 99 (24 * v + j)) n ∧ MK (tR S v) isT en (fun j => (ffR v isT en r i b s).2 100 (24 * v + j)) n ∧ ((ffR v isT en r i b s).1 = 1 ↔ ∀ o, o < n → isT o = true → fP (tR S v) en (S 105) o ((ffR v isT en r i b s).2 99 (24 * v + o))) := by
  intro r
  induction r with
  | zero =>
    intro i b s hi hs hc hm hb hf
    have : i = n := by omega
    subst this
    exact ⟨hc, hm, hf⟩
  | succ r ih =>
    intro i b s hi hs hc hm hb hf
    have hin : i < n := by omega
    cases hti : isT i with
    | false =>
      have e2 : ffR v isT en (r + 1) i b s = ffR v isT en r (i + 1) b s := if_neg (by rw [hti]; decide)
      rw [e2]
      have ex : ∀ {P : Nat → Prop}, (∀ o, o < i → isT o = true → P o) → ∀ o, o < i + 1 → isT o = true → P o := fun h o ho ht => by
        by_cases z : o = i
        · subst z; rw [hti] at ht; exact absurd ht (by decide)
        · exact h o (by omega) ht
      exact ih (i + 1) b s (by omega) hs ⟨hc.1, ex hc.2⟩ ⟨hm.1, ex hm.2⟩ hb ⟨fun z => ex (hf.mp z), fun z => hf.mpr (fun o ho ht => z o (by omega) ht)⟩
    | true =>
      have e2 : ffR v isT en (r + 1) i b s = ffR v isT en r (i + 1) (cI (nf s v en i) b) (fs v en i s) := if_pos hti
      rw [e2]
      have ht : tR s v = tR S v := hs.tR v
      have h105 : s 105 = S 105 := funext (fun j => hs 105 j (by decide) (by decide))
      obtain ⟨f1, f2, f3, f4⟩ := fs_ok hL ht h105 hin hti
      have hnf := nf_fP (en := en) (i := i) ht h105
      have kle : ∀ j, j ≤ i → fs v en i s 99 (24 * v + j) = s 99 (24 * v + j) := fun j hj => f2 j (fun ⟨m, m1, m2⟩ => by have := (LK_kle hL hin hti m1).1; omega)
      have dle : ∀ j, j ≤ i → fs v en i s 100 (24 * v + j) = s 100 (24 * v + j) := fun j hj => f3 j (fun ⟨m, m1, m2⟩ => by have := (LK_kle hL hin hti m1).1; omega) (fun z => by have := (LK_nm hL hin hti z.1).1; omega)
      refine ih (i + 1) _ _ (by omega) (hs.tr onlyF_fs) ⟨?_, fun o ho hto k hk => ?_⟩ ⟨?_, fun o ho hto => ⟨fun k hk => ?_, fun hq => ?_⟩⟩ ?_ ?_
      · have := kle 0 (by omega)
        exact this.trans hc.1
      · show fs v en i s 99 (24 * v + ch (tR S v) en o k) = iC (tR S v) en (S 105) o (fs v en i s 99 (24 * v + o))
        rw [kle o (by omega)]
        by_cases z : o = i
        · subst z
          exact (f1 k hk).1
        · rw [f2 _ (fun ⟨m, m1, m2⟩ => z (LK_inj hL (by omega) hto hk hin hti m1 m2))]
          exact hc.2 o (by omega) hto k hk
      · have := dle 0 (by omega)
        exact this.trans hm.1
      · show fs v en i s 100 (24 * v + ch (tR S v) en o k) = fs v en i s 100 (24 * v + o) + _
        rw [dle o (by omega)]
        by_cases z : o = i
        · subst z
          exact (f1 k hk).2
        · have c := LK_kid hL (show o < n by omega) hto hk
          rw [f3 _ (fun ⟨m, m1, m2⟩ => z (LK_inj hL (by omega) hto hk hin hti m1 m2)) (fun y => by
            have d := (LK_nm hL hin hti y.1).2.2
            rw [← y.2, c.2] at d
            exact absurd d (by decide))]
          exact (hm.2 o (by omega) hto).1 k hk
      · show fs v en i s 100 (24 * v + nmP (tR S v) en o) = fs v en i s 100 (24 * v + o)
        rw [dle o (by omega)]
        by_cases z : o = i
        · subst z
          exact f4 hq
        · have d := (LK_nm hL (show o < n by omega) hto hq).2.2
          rw [f3 _ (fun ⟨m, m1, m2⟩ => by
            have c := LK_kid hL hin hti m1
            rw [← m2, d] at c
            exact absurd c.2 (by decide)) (fun y => z (LK_own1 hL (by omega) hto hq hin hti y.1 y.2))]
          exact (hm.2 o (by omega) hto).2 hq
      · by_cases q : nf s v en i
        · rw [cI_pos q]; exact Or.inl rfl
        · rw [cI_neg q]; exact hb
      · by_cases q : nf s v en i
        · rw [cI_pos q]
          refine ⟨fun z => absurd z (by decide), fun z => ?_⟩
          have := z i (by omega) hti
          rw [kle i (Nat.le_refl i)] at this
          exact absurd this (hnf.mp q)
        · rw [cI_neg q, hf]
          refine ⟨fun z o ho hto => ?_, fun z o ho hto => ?_⟩
          · rw [kle o (by omega)]
            by_cases y : o = i
            · subst y
              exact Classical.byContradiction (fun w => q (hnf.mpr w))
            · exact z o (by omega) hto
          · have := z o (by omega) hto
            rw [kle o (by omega)] at this
            exact this
