/-! Who does not FIT: the reference, all variables. -/
theorem fst_last {P : Nat → Prop} : ∀ (r k : Nat), fst_ P (r + 1) k = match fst_ P r k with
    | some j => some j
    | none => @ite _ (P (k + r)) (Classical.propDecidable _) (some (k + r)) none
  | 0, k => by
    by_cases q : P k
    · rw [fst_p q]
      show some k = @ite _ (P (k + 0)) (Classical.propDecidable _) (some (k + 0)) none
      rw [if_pos (show P (k + 0) from q)]
      rfl
    · rw [fst_n q]
      show none = @ite _ (P (k + 0)) (Classical.propDecidable _) (some (k + 0)) none
      rw [if_neg (show ¬ P (k + 0) from q)]
  | r + 1, k => by
    by_cases q : P k
    · rw [fst_p q, fst_p q]
    · rw [fst_n q, fst_n q, fst_last r (k + 1)]
      have : k + 1 + r = k + (r + 1) := by omega
      rw [this]
noncomputable def fJ (o : Option Nat) (x : Int32) : Int32 := match o with
  | some k => nI k
  | none => x
/-- what the reference's rows hold of v -/
def RV (S s : St) (N : Nat → Nat) (isT : Nat → Nat → Bool) (en : Nat → Nat → Nat) (v : Nat) : Prop :=
  CK (tR S v) (isT v) (en v) (S 105) (S 105 v) (fun j => s 99 (24 * v + j)) (N v) ∧ MK (tR S v) (isT v) (en v) (fun j => s 100 (24 * v + j)) (N v)
section UNR
variable {S : St} {N : Nat → Nat} {isT : Nat → Nat → Bool} {en : Nat → Nat → Nat} {ip : Nat → Nat → Bool}
theorem UF_R (h : IE S N isT en ip) (hc : ∀ k, k < 8 → S 105 k = S 5 k ∧ clk (S 5 k)) {v : Nat} (hv : v < 8) (hN : 0 < N v) {K : Nat → Int32} (hK : CK (tR S v) (isT v) (en v) (S 105) (S 105 v) K (N v)) : (∀ o, o < N v → isT v o = true → fP (tR S v) (en v) (S 105) o (K o)) ↔ ¬ UF S N isT en v := by
  obtain ⟨d1, d2, d3⟩ := (h.2.2.2 v hv).2.2.2 hN
  have hL := d1.2.2.1
  have hc' : ∀ k, k < 8 → S 105 k = S 5 k := fun k hk => (hc k hk).1
  have hc2 : ∀ k, k < 8 → S 5 k = S 105 k := fun k hk => (hc k hk).1.symm
  have hLR := d2.2.2.1
  have d3' : ∀ j, j < N v → S (eqA S v + 1) j = tR S v j := fun j hj => (d3 j hj).symm
  constructor
  · intro hf z
    refine z.2 ⟨K, ?_, fun o ho hT => (fP_congr hLR d3' hc2 ho hT _).mpr (hf o ho hT)⟩
    have := CK_congr hLR d3' hc2 hK
    rw [hc' v hv] at this
    exact this
  · intro hz o ho hT
    have hex : ∃ K, FT S N isT en v K := Classical.byContradiction (fun y => hz ⟨hN, y⟩)
    obtain ⟨K2, k1, k2⟩ := hex
    have k1' := CK_congr hL d3 hc' k1
    rw [← hc' v hv] at k1'
    rw [CK_uni hLR hK k1' o o (Nat.le_refl o) (by omega) ho hT]
    exact (fP_congr hL d3 hc' ho hT _).mpr (k2 o ho hT)
theorem ftA_ok (h : IE S N isT en ip) (hc : ∀ k, k < 8 → S 105 k = S 5 k ∧ clk (S 5 k)) : ∀ (v : Nat) (x : Int32) (s : St), v ≤ 8 → onlyF S s →
    (ftA N isT en v x s).1 = fJ (fst_ (UF S N isT en) v 0) x ∧ onlyF S (ftA N isT en v x s).2 ∧ (∀ y, 24 * v ≤ y → (ftA N isT en v x s).2 99 y = s 99 y ∧ (ftA N isT en v x s).2 100 y = s 100 y) ∧ (∀ w, w < v → 0 < N w → RV S (ftA N isT en v x s).2 N isT en w)
  | 0, x, s, _, hs => ⟨rfl, hs, fun _ _ => ⟨rfl, rfl⟩, fun w hw => absurd hw (by omega)⟩
  | v + 1, x, s, hv, hs => by
    have hv8 : v < 8 := by omega
    obtain ⟨l1, l2, l3, l4, l5⟩ := IE_len h hv8
    have e97 : s 97 v = S 97 v := hs 97 v (by decide) (by decide)
    have e105 : s 105 v = S 105 v := hs 105 v (by decide) (by decide)
    rw [ftA, e97, fst_last, Nat.zero_add]
    by_cases q : 0 < S 97 v
    · have hN := l4.mp q
      rw [if_pos q]
      obtain ⟨d1, d2, d3⟩ := (h.2.2.2 v hv8).2.2.2 hN
      have hL := d2.2.2.1
      have ho0 : onlyF S (fR0 s v) := hs.tr ((onlyF_U9 s _ _).tr (onlyF_U0 _ _ _))
      have r0 : fR0 s v 99 (24 * v) = S 105 v ∧ fR0 s v 100 (24 * v) = 0 := by
        unfold fR0
        rw [sU_n (by omega), sU_same, sU_same]
        exact ⟨e105, rfl⟩
      obtain ⟨f1, f2, f3⟩ := fit_ok (k0 := S 105 v) hL (N v) 0 1 (fR0 s v) (by omega) ho0 ⟨r0.1, fun _ z => absurd z (by omega)⟩ ⟨r0.2, fun _ z => absurd z (by omega)⟩ (Or.inr rfl) ⟨fun _ _ z => absurd z (by omega), fun _ => rfl⟩
      have rg := fun y (hy : ¬ (24 * v ≤ y ∧ y < 24 * v + 24)) => ffR_rng hL hy (N v) 0 1 (fR0 s v) (by omega) ho0
      have r0' : ∀ y, ¬ (24 * v ≤ y ∧ y < 24 * v + 24) → fR0 s v 99 y = s 99 y ∧ fR0 s v 100 y = s 100 y := fun y hy => by
        unfold fR0
        exact ⟨by rw [sU_n (by omega), sU_n (by omega)], by rw [sU_n (by omega), sU_n (by omega)]⟩
      have hof : onlyF S (ffR v (isT v) (en v) (N v) 0 1 (fR0 s v)).2 := ho0.tr (lr_fit 0 0 (N v) 0 1 (fR0 s v) none none none none none none none (ho0.RF d2) (Or.inr rfl) (by omega)).2.1
      have h01 := (lr_fit 0 0 (N v) 0 1 (fR0 s v) none none none none none none none (ho0.RF d2) (Or.inr rfl) (by omega)).2.2
      have hU := (f3.trans (UF_R h hc hv8 hN f1))
      obtain ⟨a1, a2, a3, a4⟩ := ftA_ok h hc v (if (ffR v (isT v) (en v) (N v) 0 1 (fR0 s v)).1 = 0 then nI v else x) (ffR v (isT v) (en v) (N v) 0 1 (fR0 s v)).2 (by omega) hof
      refine ⟨?_, a2, fun y hy => ?_, fun w hw hNw => ?_⟩
      · rw [a1]
        cases z : fst_ (UF S N isT en) v 0 with
        | some j => rfl
        | none =>
          show (if _ = 0 then nI v else x) = _
          by_cases u : UF S N isT en v
          · have : (ffR v (isT v) (en v) (N v) 0 1 (fR0 s v)).1 = 0 := h01.resolve_right (fun y => hU.mp y u)
            rw [if_pos this]
            dsimp only
            rw [if_pos u]
            rfl
          · have : (ffR v (isT v) (en v) (N v) 0 1 (fR0 s v)).1 = 1 := hU.mpr u
            rw [if_neg (by rw [this]; decide)]
            dsimp only
            rw [if_neg u]
            rfl
      · have b := a3 y (by omega)
        have b2 := rg y (by omega)
        have b3 := r0' y (by omega)
        exact ⟨b.1.trans (b2.1.trans b3.1), b.2.trans (b2.2.trans b3.2)⟩
      · by_cases z : w = v
        · subst z
          have e1 : (fun j => (ftA N isT en w (if (ffR w (isT w) (en w) (N w) 0 1 (fR0 s w)).1 = 0 then nI w else x) (ffR w (isT w) (en w) (N w) 0 1 (fR0 s w)).2).2 99 (24 * w + j)) = fun j => (ffR w (isT w) (en w) (N w) 0 1 (fR0 s w)).2 99 (24 * w + j) := funext (fun j => (a3 _ (by omega)).1)
          have e2 : (fun j => (ftA N isT en w (if (ffR w (isT w) (en w) (N w) 0 1 (fR0 s w)).1 = 0 then nI w else x) (ffR w (isT w) (en w) (N w) 0 1 (fR0 s w)).2).2 100 (24 * w + j)) = fun j => (ffR w (isT w) (en w) (N w) 0 1 (fR0 s w)).2 100 (24 * w + j) := funext (fun j => (a3 _ (by omega)).2)
          unfold RV
          rw [e1, e2]
          exact ⟨f1, f2⟩
        · exact a4 w (by omega) hNw
    · have hP : ¬ UF S N isT en v := fun z => q (l4.mpr z.1)
      rw [if_neg q]
      obtain ⟨a1, a2, a3, a4⟩ := ftA_ok h hc v x s (by omega) hs
      refine ⟨?_, a2, fun y hy => a3 y (by omega), fun w hw hNw => ?_⟩
      · rw [a1]
        cases z : fst_ (UF S N isT en) v 0 with
        | some j => rfl
        | none =>
          dsimp only
          rw [if_neg hP]
      · by_cases z : w = v
        · subst z
          exact absurd (l4.mpr hNw) q
        · exact a4 w (by omega) hNw
end UNR
