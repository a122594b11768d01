/-! Running: bits, ranks, CLOCKS of TERMS. -/
theorem act_n {s : St} {u : Nat} (hu : u < 31) : act s (nI u) ↔ bt (s 80 7) (u + 1) = true := by
  unfold act
  rw [nI_1]
  exact bt_shN _ (by omega)
theorem act_m {s : St} : act s (-1) ↔ bt (s 80 7) 0 = true := by
  have e : (-1 : Int32) + 1 = nI 0 := by decide
  unfold act
  rw [e]
  exact bt_shN _ (by decide)
theorem bgn_n {s : St} {u : Nat} (hu : u < 31) : bgn s (nI u) ↔ bt (s 80 8) (u + 1) = true := by
  unfold bgn
  rw [nI_1]
  exact bt_shN _ (by omega)
theorem bgn_m {s : St} : bgn s (-1) ↔ bt (s 80 8) 0 = true := by
  have e : (-1 : Int32) + 1 = nI 0 := by decide
  unfold bgn
  rw [e]
  exact bt_shN _ (by decide)
theorem actR_n {t : St} {u : Nat} (hu : u < 8) : actR t (nI u) ↔ ¬ t 107 u = 0 ∧ ¬ t 110 u = 0 := by
  unfold actR
  rw [nI_clamp (by omega)]
  exact ⟨fun z => z.resolve_left (nI_pos (by omega)), Or.inr⟩
theorem actR_m (t : St) : actR t (-1) := Or.inl (by decide)
theorem Rch_D {D : Nat → Nat → Prop} {v u : Nat} (h : D v u) : Rch D v u := fun _ h1 _ => h1 _ _ h
theorem Rch_tr {D : Nat → Nat → Prop} {v u w : Nat} (h1 : Rch D v u) (h2 : Rch D u w) : Rch D v w := fun P a b => b _ _ _ (h1 P a b) (h2 P a b)
theorem Rch_ran {D : Nat → Nat → Prop} {P : Nat → Prop} (h : ∀ v u, D v u → P u) {v u : Nat} (hr : Rch D v u) : P u := hr (fun _ b => P b) h (fun _ _ _ _ b => b)
theorem Rch_clo {D : Nat → Nat → Prop} {P : Nat → Prop} (h : ∀ v u, P v → D v u → P u) {v u : Nat} (hv : P v) (hr : Rch D v u) : P u := hr (fun a b => P a → P b) (fun a b hd ha => h a b ha hd) (fun _ _ _ a b ha => b (a ha)) hv
/-- the CLOCKS of TERMS are of those that matter -/
theorem K_rel {t : Nat → Int32} {n : Nat} {isT : Nat → Bool} {en : Nat → Nat} {cl : Nat → Int32} {k0 : Int32} {K : Nat → Int32} {Gd Rl : Nat → Prop} (hL : LineOK t n isT en) (hK : CK t isT en cl k0 K n) (hG : ∀ i k, i < n → isT i = true → k < pcn (t i) → Gd (ch t en i k) → Gd i) (h0 : k0 = -1 ∨ ∃ u, u < 8 ∧ Rl u ∧ k0 = nI u) (hcl : ∀ w, w < 8 → Rl w → cl w = -1 ∨ ∃ u, u < 8 ∧ Rl u ∧ cl w = nI u) (hN : ∀ i u, i < n → isT i = true → Gd i → u < 8 → (cVar (t i) ∨ t i = 87 ∨ t i = 67) → nmF t en i = nI u → Rl u) : ∀ m i, i ≤ m → i < n → isT i = true → Gd i → K i = -1 ∨ ∃ u, u < 8 ∧ Rl u ∧ K i = nI u
  | 0, i, h1, h2, h3, h4 => by
    have : i = 0 := by omega
    subst this
    rw [hK.1]
    exact h0
  | m + 1, i, h1, h2, h3, h4 => by
    by_cases z : i = 0
    · subst z
      rw [hK.1]
      exact h0
    · obtain ⟨o, k, o1, o2, o3, o4⟩ := LK_parent hL h3 h2 (by omega)
      have go := hG o k (by omega) o2 o3 (by rw [← o4]; exact h4)
      have ih := K_rel hL hK hG h0 hcl hN m o (by omega) (by omega) o2 go
      have ek := hK.2 o (by omega) o2 k o3
      rw [← o4] at ek
      rw [ek]
      unfold iC
      by_cases q : t o = 87
      · obtain ⟨w, hw, ew⟩ := hL.nm (show o < n by omega) o2 (Or.inl q)
        rw [if_pos q, ew, nI_clamp (by omega)]
        exact hcl w hw (hN o w (by omega) o2 go hw (Or.inr (Or.inl q)) ew)
      · rw [if_neg q]
        by_cases q2 : t o = 67
        · obtain ⟨w, hw, ew⟩ := hL.nm (show o < n by omega) o2 (Or.inr (Or.inl q2))
          rw [if_pos q2, ew]
          exact Or.inr ⟨w, hw, hN o w (by omega) o2 go hw (Or.inr (Or.inr q2)) ew, rfl⟩
        · rw [if_neg q2]
          exact ih
/-- all that holds where a run begins -/
def BS (B : St) (N : Nat → Nat) (isT : Nat → Nat → Bool) (en : Nat → Nat → Nat) (ip : Nat → Nat → Bool) : Prop := IE B N isT en ip ∧ IL B ∧ IC_ B N isT en ip
section RANK
variable {B : St} {N : Nat → Nat} {isT : Nat → Nat → Bool} {en : Nat → Nat → Nat} {ip : Nat → Nat → Bool}
theorem BS.B79 (h : BS B N isT en ip) (v u : Nat) : B79 B v u ↔ Rch (D109 B) v u := h.2.2.2.2.2.2.2.1 v u
theorem BS.nself (h : BS B N isT en ip) (v : Nat) : ¬ Rch (D109 B) v v := fun z => h.2.2.2.2.2.2.2.2.1 v ((h.B79 v v).mpr z)
theorem BS.Dlt (h : BS B N isT en ip) {v u : Nat} (hd : Rch (D109 B) v u) : v < 8 ∧ u < 8 ∧ 0 < N v ∧ 0 < N u := ⟨((h.B79 v u).mpr hd).1, ((h.B79 v u).mpr hd).2.1, Rch_dom (P := fun v => 0 < N v) (fun v u z => (h.2.2.2.1 v u z).1) hd, Rch_ran (P := fun v => 0 < N v) (fun v u z => (h.2.2.2.1 v u z).2) hd⟩
theorem BS.clk (h : BS B N isT en ip) {v : Nat} (hv : v < 8) : clk (B 105 v) := by
  obtain ⟨a, b⟩ := h.2.1.2.2.2.2.1 v hv
  rw [a]
  exact b
theorem BS.clkD (h : BS B N isT en ip) {v : Nat} (hv : v < 8) (hn : 0 < N v) : B 105 v = -1 ∨ ∃ u, u < 8 ∧ D109 B v u ∧ B 105 v = nI u := by
  rcases h.clk hv with z | ⟨u, hu, z⟩
  · exact Or.inl z
  · exact Or.inr ⟨u, hu, h.2.2.2.2.1 v u hv hu hn z, z⟩
theorem BS.rk_def (h : BS B N isT en ip) {v : Nat} (hv : v < 8) (hn : 0 < N v) : rk B v = cntB (bt (B 79 v)) 8 := by
  obtain ⟨l1, l2, l3, l4, l5⟩ := IE_len h.1 hv
  have c := cntB_le (bt (B 79 v)) 8
  unfold rk
  rw [if_pos (l3.mpr hn), s8_bc (h.2.2.2.2.2.2.1 v hv), nI_clamp (by omega)]
theorem BS.rk_lt (h : BS B N isT en ip) {v u : Nat} (hd : Rch (D109 B) v u) : rk B u < rk B v := by
  obtain ⟨a, b, c, d⟩ := h.Dlt hd
  rw [h.rk_def a c, h.rk_def b d]
  refine cnt_lt (k := u) 8 (fun i hi hb => ?_) b ?_ ?_
  · have : Rch (D109 B) u i := (h.B79 u i).mp ⟨b, hi, hb⟩
    exact ((h.B79 v i).mpr (Rch_tr hd this)).2.2
  · cases z : bt (B 79 u) u with
    | false => rfl
    | true => exact absurd ((h.B79 u u).mp ⟨b, b, z⟩) (h.nself u)
  · exact ((h.B79 v u).mpr hd).2.2
theorem BS.rk8 (h : BS B N isT en ip) {v : Nat} (hv : v < 8) : rk B v < 8 ↔ 0 < N v := by
  constructor
  · intro z
    apply Classical.byContradiction
    intro hn
    unfold rk at z
    rw [if_neg (fun y => hn ((IE_len h.1 hv).2.2.1.mp y))] at z
    omega
  · intro hn
    rw [h.rk_def hv hn]
    apply Classical.byContradiction
    intro z
    have := cnt_full 8 (show 8 ≤ cntB (bt (B 79 v)) 8 by omega) v hv
    exact h.nself v ((h.B79 v v).mp ⟨hv, hv, this⟩)
/-- where a variable stands in the order -/
def pos (B : St) (v : Nat) : Nat := gB (rk B) (rk B v) v
theorem pos_lt (h : BS B N isT en ip) {v u : Nat} (hd : Rch (D109 B) v u) : pos B u < pos B v := by
  obtain ⟨a, b, c, d⟩ := h.Dlt hd
  have e1 := gB_step (f := rk B) (c := rk B u) b
  rw [if_pos rfl] at e1
  have e2 : gB (rk B) (rk B u) (u + 1) ≤ gB (rk B) (rk B v) v := gB_mono (Or.inl (h.rk_lt hd))
  unfold pos
  omega
theorem BS.ord (h : BS B N isT en ip) : ordI (rk B) B 8 0 := h.2.2.2.2.2.2.2.2.2
theorem pos_m (h : BS B N isT en ip) {v : Nat} (hv : v < 8) (hn : 0 < N v) : pos B v < gB (rk B) 8 0 ∧ B 84 (pos B v) = nI v := by
  have r8 := (h.rk8 hv).mpr hn
  have e1 := gB_step (f := rk B) (c := rk B v) hv
  rw [if_pos rfl] at e1
  have e2 : gB (rk B) (rk B v) (v + 1) ≤ gB (rk B) 8 0 := gB_mono (Or.inl r8)
  refine ⟨by unfold pos; omega, h.ord.2.2 v hv (Or.inl r8)⟩
theorem pos_i (h : BS B N isT en ip) {i : Nat} (hi : i < gB (rk B) 8 0) : ∃ v, v < 8 ∧ 0 < N v ∧ B 84 i = nI v ∧ pos B v = i ∧ ∀ u, u < 8 → 0 < N u → pos B u = i → u = v := by
  obtain ⟨v, v1, v2, v3, v4⟩ := h.ord.2.1 i hi
  refine ⟨v, v1, (h.rk8 v1).mp v3, v2, v4.symm, fun u u1 u2 u3 => ?_⟩
  have e := (pos_m h u1 u2).2
  rw [u3, v2] at e
  exact ((nI_eq (by omega) (by omega)).mp e).symm
theorem BS.okR (h : BS B N isT en ip) : okR B (gB (rk B) 8 0) := by
  refine ⟨h.ord.1, cntB_le _ 8, fun i hi => ?_⟩
  obtain ⟨v, v1, v2, v3, v4, v5⟩ := pos_i h hi
  exact ⟨v, N v, v1, v3, EqOK_PK ((h.1.2.2.2 v v1).2.2.2 v2).1⟩
theorem BS.names (h : BS B N isT en ip) {v i u : Nat} (hv : v < 8) (hu : u < 8) (hi : i < N v) (ht : isT v i = true) (hq : cVar (tR B v i) ∨ tR B v i = 87 ∨ tR B v i = 67) (hn : nmF (tR B v) (en v) i = nI u) : 0 < N u ∧ (ip v i = false → D109 B v u) := h.2.2.2.2.2.1 v i u hv hu hi ht hq hn
/-- the CLOCK of a TERM outside every P is NEEDED -/
theorem K_set (h : BS B N isT en ip) {v i : Nat} (hv : v < 8) (hi : i < N v) (ht : isT v i = true) (hp : ip v i = false) : B 99 (24 * v + i) = -1 ∨ ∃ u, u < 8 ∧ Rch (D109 B) v u ∧ B 99 (24 * v + i) = nI u := by
  have hn : 0 < N v := by omega
  obtain ⟨d1, d2, d3⟩ := (h.1.2.2.2 v hv).2.2.2 hn
  have hK := (h.2.2.1 v hv hn).1
  refine K_rel (Gd := fun i => ip v i = false) (Rl := fun u => Rch (D109 B) v u) d2.2.2.1 hK (fun i k hi ht hk hg => ?_) ?_ (fun w hw hr => ?_) (fun i u hi ht hg hu hq hnm => Rch_D ((h.names hv hu hi ht hq hnm).2 hg)) i i (Nat.le_refl i) hi ht hp
  · obtain ⟨_, _, _, _, _, _, _, _, hip⟩ := d1
    have e := d3 i hi
    rw [ch_congr e] at hg
    rw [e] at hk
    rw [hip i k hi ht hk] at hg
    cases z : ip v i with
    | false => rfl
    | true =>
      rw [z] at hg
      exact absurd hg (by simp)
  · rcases h.clkD hv hn with z | ⟨u, hu, hd, z⟩
    · exact Or.inl z
    · exact Or.inr ⟨u, hu, Rch_D hd, z⟩
  · rcases h.clkD hw (h.Dlt hr).2.2.2 with z | ⟨u, hu, hd, z⟩
    · exact Or.inl z
    · exact Or.inr ⟨u, hu, Rch_tr hr (Rch_D hd), z⟩
/-- the CLOCK of a TERM is a variable with an equation -/
theorem K_all (h : BS B N isT en ip) {v i : Nat} (hv : v < 8) (hi : i < N v) (ht : isT v i = true) : B 99 (24 * v + i) = -1 ∨ ∃ u, u < 8 ∧ 0 < N u ∧ B 99 (24 * v + i) = nI u := by
  have hn : 0 < N v := by omega
  obtain ⟨d1, d2, d3⟩ := (h.1.2.2.2 v hv).2.2.2 hn
  have hK := (h.2.2.1 v hv hn).1
  have hc : ∀ w, w < 8 → 0 < N w → B 105 w = -1 ∨ ∃ u, u < 8 ∧ 0 < N u ∧ B 105 w = nI u := fun w hw hnw => by
    rcases h.clkD hw hnw with z | ⟨u, hu, hd, z⟩
    · exact Or.inl z
    · exact Or.inr ⟨u, hu, (h.Dlt (Rch_D hd)).2.2.2, z⟩
  exact K_rel (Gd := fun _ => True) (Rl := fun u => 0 < N u) d2.2.2.1 hK (fun _ _ _ _ _ _ => trivial) (hc v hv hn) hc (fun i u hi ht _ hu hq hnm => (h.names hv hu hi ht hq hnm).1) i i (Nat.le_refl i) hi ht trivial
end RANK
