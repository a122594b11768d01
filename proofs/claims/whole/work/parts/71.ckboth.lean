/-! check: both answer the same. -/
theorem fI_m1 {P : Nat → Prop} {r k : Nat} (h : k + r ≤ 8) : fI (fst_ P r k) = -1 ↔ fst_ P r k = none := by
  cases z : fst_ P r k with
  | none => exact ⟨fun _ => rfl, fun _ => rfl⟩
  | some j =>
    have := fst_lt r k j z
    exact ⟨fun y => absurd y (nI_m1 (by omega)), fun y => absurd y (by simp)⟩
theorem flt_n0 {k : Nat} (h : k < 8) : ¬ (-100 * 1 - nI k = (0 : Int32)) ∧ ¬ (-100 * 2 - nI k = (0 : Int32)) ∧ ¬ (-100 * 3 - nI k = (0 : Int32)) ∧ ¬ (-100 * 4 - nI k = (0 : Int32)) := by
  have : ∀ k : Fin 8, ¬ (-100 * 1 - nI k.1 = (0 : Int32)) ∧ ¬ (-100 * 2 - nI k.1 = (0 : Int32)) ∧ ¬ (-100 * 3 - nI k.1 = (0 : Int32)) ∧ ¬ (-100 * 4 - nI k.1 = (0 : Int32)) := by decide
  exact this ⟨k, h⟩
theorem m100 : (-100 * 1 : Int32) = -100 ∧ (-100 * 2 : Int32) = -200 ∧ (-100 * 3 : Int32) = -300 ∧ (-100 * 4 : Int32) = -400 := by decide
section CKB
variable {S : St} {N : Nat → Nat} {isT : Nat → Nat → Bool} {en : Nat → Nat → Nat} {ip : Nat → Nat → Bool}
/-- the class, from the state after restart -/
theorem cls_needs (h : IE S N isT en ip) (hc : ∀ k, k < 8 → S 105 k = S 5 k ∧ clk (S 5 k)) {X : St} (hX : only6 S X) : r8 (gn X) ∧ (∀ v u, B79 (gn X) v u ↔ Rch (Dc S N) v u) ∧ lnF (gn X) 8 0 = fI (fst_ (fun k => Rch (Dc S N) k k) 8 0) := by
  have n6 : ∀ a, a < 6 ∨ 78 ≤ a ∧ a < 85 ∨ 94 ≤ a → ¬ ∃ e, isE e ∧ a = e + 6 := fun a ha ⟨e, he, z⟩ => by
    have := isE_rng he (show 6 < 9 by decide) z
    omega
  have hE : IE X N isT en ip := IE_of h (hX 1 6 (n6 1 (by omega))) (fun k => hX 4 k (n6 4 (by omega))) (fun a j ha => hX a j (n6 a (by omega))) (fun k hk => ⟨by
    have := hX.E (j := 1) (h.ok k hk) (show 0 < 9 by decide) (by decide)
    exact this, fun i j _ hi => hX.E (h.ok k hk) (by omega) (by omega)⟩)
  have hcX : ∀ k, k < 8 → clk (X 5 k) := fun k hk => by rw [hX 5 k (n6 5 (by omega))]; exact (hc k hk).2
  have hq : ∀ a j, ¬ ckq a j → X a j = S a j := fun a j ha => hX a j (fun z => ha (Or.inl z))
  have hr := gn1_r8 hE hcX
  have hB : ∀ v u, B79 (gn X) v u ↔ Rch (Dc S N) v u := fun v u => by
    show B79 (gn2 8 0 (gn1 8 0 X)) v u ↔ _
    rw [class_reach hr]
    exact Rch_congr (fun v u => (gn1_B hE hcX v u).trans (Dc_congr hq h.ok v u)) v u
  refine ⟨(gn2_ok (fun _ _ => True) (fun _ _ _ _ _ => trivial) 8 0 (gn1 8 0 X) (by decide) (fun _ _ _ z => absurd z (by omega)) (fun _ _ _ => trivial) hr).2.2.2, hB, ?_⟩
  rw [lnF_fst 8 0 (by decide)]
  congr 1
  refine fst_congr 8 0 (fun k _ hk => ?_)
  have hk8 : k < 8 := by omega
  rw [← hB k k]
  exact ⟨fun z => ⟨hk8, hk8, z⟩, fun z => z.2.2⟩
/-- the reference, from a state that differs only in cells of the check -/
theorem ref_needs (h : IE S N isT en ip) (hc : ∀ k, k < 8 → S 105 k = S 5 k ∧ clk (S 5 k)) {T : St} (hq : ∀ a j, ¬ ckq a j → T a j = S a j) (hT : IE T N isT en ip) :
    (ftA N isT en 8 (-1) T).1 = fI (fst_ (UF S N isT en) 8 0) ∧ onlyF T (ftA N isT en 8 (-1) T).2 ∧ (∀ w, w < 8 → 0 < N w → RV T (ftA N isT en 8 (-1) T).2 N isT en w) ∧ (∀ v u, D109 (fn3 8 0 (ftA N isT en 8 (-1) T).2) v u ↔ Dc S N v u) ∧
    fst_ (fun k => 0 < fn3 8 0 (ftA N isT en 8 (-1) T).2 97 k ∧ niR (fn3 8 0 (ftA N isT en 8 (-1) T).2) k) 8 0 = fst_ (fun k => Rch (Dc S N) k k) 8 0 := by
  have hcT : ∀ k, k < 8 → T 105 k = T 5 k ∧ clk (T 5 k) := fun k hk => by
    rw [q_row hq (a := 105) (by omega), q_row hq (a := 5) (by omega)]
    exact hc k hk
  obtain ⟨a1, a2, a3, a4⟩ := ftA_ok hT hcT 8 (-1) T (Nat.le_refl 8) (fun _ _ _ _ => rfl)
  have hU : fst_ (UF T N isT en) 8 0 = fst_ (UF S N isT en) 8 0 := fst_congr 8 0 (fun j _ hj => UF_congr hq h.ok (by omega))
  have hD : ∀ v u, D109 (fn3 8 0 (ftA N isT en 8 (-1) T).2) v u ↔ Dc S N v u := fun v u => (D109_Dr _ v u).trans ((Dr_Dc hT (fun k hk => (hcT k hk).1) a2 a4 v u).trans (Dc_congr hq h.ok v u))
  refine ⟨?_, a2, a4, hD, fst_congr 8 0 (fun k _ hk => ?_)⟩
  · rw [a1, hU]
    cases fst_ (UF S N isT en) 8 0 <;> rfl
  · have hk8 : k < 8 := by omega
    have e97 : fn3 8 0 (ftA N isT en 8 (-1) T).2 97 k = S 97 k := by
      rw [fn3_o 8 0 _ 97 k (by decide), a2 97 k (by decide) (by decide), q_row hq (a := 97) (by omega)]
    rw [e97, (IE_len h hk8).2.2.2.1]
    have hn : niR (fn3 8 0 (ftA N isT en 8 (-1) T).2) k ↔ Rch (Dc S N) k k := (ref_reach hk8 hk8).trans (Rch_congr hD k k)
    exact ⟨fun z => hn.mp z.2, fun z => ⟨Rch_dom (P := fun v => 0 < N v) (fun v u z => z.2.2.1) z, hn.mpr z⟩⟩
end CKB
theorem fJ_s {k : Nat} (h : k < 8) : ¬ fI (some k) < 0 := nI_pos (by omega)
theorem cnt_rel {s s' : St} (h : ∀ k, k < 8 → (0 < s (eqA s k) 1 ↔ 0 < s' 97 k)) : ∀ (r k : Nat) (c : Int32), k + r = 8 → cntR s' r k c = c + cntE s r k
  | 0, _, c, _ => (Int32.add_zero c).symm
  | r + 1, k, c, hk => by
    have hh := h k (by omega)
    rw [cntR, cntE, cnt_rel h r (k + 1) _ (by omega)]
    by_cases q : 0 < s' 97 k
    · rw [if_pos q, if_pos (hh.mpr q), Int32.add_assoc]
    · rw [if_neg q, if_neg (fun z => q (hh.mp z)), Int32.zero_add]
