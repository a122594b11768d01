/-! A line: readLine and good. -/
noncomputable def dB (p : Prop) : Bool := @decide p (Classical.propDecidable p)
theorem dB_t {p : Prop} : dB p = true ↔ p := by
  unfold dB
  exact @decide_eq_true_iff p (Classical.propDecidable p)
theorem dB_f {p : Prop} : dB p = false ↔ ¬ p := by
  unfold dB
  exact @decide_eq_false_iff_not p (Classical.propDecidable p)
noncomputable def iT (s : St) (e i : Nat) : Bool := dB (s (e + 4) i = 1)
noncomputable def iP (s : St) (e i : Nat) : Bool := dB (s (e + 5) i = 1)
theorem bI_dB {x : Int32} (h : x = 0 ∨ x = 1) : x = bI (dB (x = 1)) := by
  rcases h with rfl | rfl
  · rw [dB_f.mpr (by decide)]; rfl
  · rw [dB_t.mpr rfl]; rfl
theorem Seg_EqOK {e n : Nat} {t : Nat → Int32} {s : St} (hR : RK s e n t) (h0 : 0 < n) (hs : Seg e t s 0 n) (ht0 : s (e + 4) 0 = 1) (hp0 : s (e + 5) 0 = 0) (hpe : pe t 6 0 = n) (hc : ∀ i, i < n → (cDig (t i) ∨ cVar (t i) ∨ cInp (t i)) ∨ 0 < pcn (t i)) : EqOK s e n (iT s e) (pe t 6) (iP s e) := by
  obtain ⟨he, hl, hn, ht⟩ := hR
  have z10 : ¬ (0 : Int32) = 1 := by decide
  have lt : ∀ i, i < n → iT s e i = true → LT e t s n i := fun i hi h => by
    rcases hs i (by omega) hi with a | a
    · exact a
    · exact absurd (a.1.symm.trans (dB_t.mp h)) z10
  have ln : ∀ i, i < n → iT s e i = false → LN e t s 0 n i := fun i hi h => by
    rcases hs i (by omega) hi with a | a
    · exact absurd a.1 (dB_f.mp h)
    · exact a
  have tt : ∀ {i}, s (e + 4) i = 1 → iT s e i = true := fun h => dB_t.mpr h
  have tf : ∀ {i}, s (e + 4) i = 0 → iT s e i = false := fun h => dB_f.mpr (fun z => z10 (h.symm.trans z))
  subst ht
  refine ⟨he, hl, ⟨h0, hn, tt ht0, hpe, fun i hi h => ?_, fun i hi h => ?_⟩, fun i hi => ?_, fun i hi h => ?_, fun i hi => ?_, fun i k hi hk => ?_, ?_, fun i k hi h hk => ?_⟩
  · obtain ⟨a1, a2, a3, a4, o, o1, o2, o3, o4⟩ := ln i hi h
    exact ⟨a3, o, o2, tt o3, o4⟩
  · obtain ⟨a1, a2, a3, a4, a5, a6, a7, a8, a9, a10⟩ := lt i hi h
    refine ⟨fun k hk => ⟨(a5 k hk).2.1, tt (a5 k hk).2.2.1⟩, a6, a7, a8, fun z => ⟨(a9 z).1, tf (a9 z).2⟩, fun z => tf (a10 z).2, ?_⟩
    rcases hc i hi with (z | z | z) | z
    · exact Or.inr (Or.inr (Or.inl z))
    · exact Or.inl z
    · exact Or.inr (Or.inl z)
    · exact Or.inr (Or.inr (Or.inr z))
  · refine bI_dB ?_
    rcases hs i (by omega) hi with a | a
    · exact Or.inr a.1
    · exact Or.inl a.1
  · exact bI_dB (lt i hi h).2.2.1
  · cases h : iT s e i with
    | true => rw [if_pos rfl]; exact (lt i hi h).2.1
    | false => rw [if_neg (by decide)]; exact (ln i hi h).2.1
  · cases h : iT s e i with
    | true =>
      rw [(lt i hi h).2.2.2.1 k hk]
      by_cases z : k < pcn (s (e + 1) i)
      · rw [if_pos z, if_pos ⟨rfl, z⟩]
      · rw [if_neg z, if_neg (fun y => z y.2)]
    | false => rw [if_neg (fun y => absurd y.1 (by decide))]; exact (ln i hi h).2.2.2.1 k hk
  · exact dB_f.mpr (fun z => z10 (hp0.symm.trans z))
  · obtain ⟨b1, b2, b3, b4⟩ := (lt i hi h).2.2.2.2.1 k hk
    have h5 := (lt i hi h).2.2.1
    unfold iP
    rw [b4]
    unfold apW
    rcases h5 with z | z
    · have e1 : dB (s (e + 5) i = 1) = false := dB_f.mpr (fun y => z10 (z.symm.trans y))
      by_cases q : s (e + 1) i = 80
      · rw [if_neg (fun y => y.2 q), dB_t.mpr rfl, e1]
        simp [q]
      · rw [if_pos ⟨z, q⟩, dB_f.mpr z10, e1]
        simp [q]
    · have e1 : dB (s (e + 5) i = 1) = true := dB_t.mpr z
      rw [if_neg (fun y => z10 (y.1.symm.trans z)), dB_t.mpr rfl, e1]
      simp
/-- the text that is read -/
def tX (s : St) (e n : Nat) : Nat → Int32 := sCp s 2 (e + 1) n (e + 1)
theorem line_ok {d L e n : Nat} {sc sr : St} (he : isE e) (hn : n ≤ 24) (hr1 : sr 94 1 = nI n) (hr2 : ∀ i, i < n → sr 95 i = sc 2 i) (hc : ∀ i, i < n → (cDig (sc 2 i) ∨ cVar (sc 2 i) ∨ cInp (sc 2 i)) ∨ 0 < pcn (sc 2 i)) :
    ((rlV sc e n).1 = 1 ∧ EqOK (rlV sc e n).2 e n (iT (rlV sc e n).2 e) (pe (tX sc e n) 6) (iP (rlV sc e n).2 e) ∧ (rlV sc e n).2 (e + 1) = tX sc e n ∧ ∃ sr', rn (d + 1) 73 0 [some (.ref 94), none, none, none, none, none, none] [] (hH L sr) = some (some (.int 1), hH L sr') ∧ (∀ i, i < n → sr' 104 i = bI (iT (rlV sc e n).2 e i)) ∧ (rlV sc e n).2 e 2 = sr' 94 3 ∧ rfr sr sr' 0 0 24) ∨
    ((rlV sc e n).1 = 0 ∧ ∃ sr', rn (d + 1) 73 0 [some (.ref 94), none, none, none, none, none, none] [] (hH L sr) = some (some (.int 0), hH L sr') ∧ (rlV sc e n).2 e 3 = sr' 94 2 ∧ rfr sr sr' 0 0 24) := by
  have tx : ∀ i, i < n → tX sc e n i = sc 2 i := fun i hi => by
    unfold tX sCp
    rw [if_pos ⟨rfl, hi⟩]
  have hR : RK (rlS sc e n) e n (tX sc e n) := by
    refine ⟨he, ?_, hn, ?_⟩
    · unfold rlS
      rw [sU_n (by omega), sU_n (by omega), sU_same]
    · funext j
      unfold rlS
      rw [sU_n (by omega), sU_n (by omega), sU_n (by omega), sF_off (by omega)]
      rfl
  have hd : ∀ j, 3 * 0 ≤ j → j < 72 → rlS sc e n (e + 2) j = -1 := fun j _ h => by
    unfold rlS
    rw [sU_n (by omega), sU_n (by omega), sU_n (by omega)]
    unfold sF
    rw [if_pos ⟨rfl, by omega, h⟩]
  have h3 : rlS sc e n e 3 = -1 := by unfold rlS; rw [sU_same]
  have h2 : rlS sc e n e 2 = 0 := by unfold rlS; rw [sU_n (by omega), sU_same]
  have hr : rOK (sU (sU sr 113 0 1) 94 3 0) n (tX sc e n) := ⟨by rw [sU_n (by omega), sU_n (by omega)]; exact hr1, fun i hi => by rw [sU_n (by omega), sU_n (by omega), tx i hi]; exact hr2 i hi⟩
  have hf0 : rfr sr (sU (sU sr 113 0 1) 94 3 0) 0 0 24 := fun b j h1 h2 h3 => by rw [sU_n (by omega), sU_n (by omega)]
  have hcc : ∀ i, i < n → (cDig (tX sc e n i) ∨ cVar (tX sc e n i) ∨ cInp (tX sc e n i)) ∨ 0 < pcn (tX sc e n i) := fun i hi => by rw [tx i hi]; exact hc i hi
  have h113 : sU (sU sr 113 0 1) 94 3 0 113 0 = nI (6 - 5) := by rw [sU_n (by omega), sU_same]; rfl
  have hm1 : ∀ q, q ≤ n → ¬ nI q = -1 := fun q hq => nI_m1 (by omega)
  have hcl := term_ok (d := d) (L := L) (e := e) hcc 5 (Nat.le_refl 5) 0 0 0 (rlS sc e n) (sU (sU sr 113 0 1) 94 3 0) hR (by omega) (Or.inl rfl) (by omega) hr h113 hd
  have hV : rlV sc e n = (let r := rdT e n 5 0 0 (rlS sc e n)
    let s1 := if r.1 = -1 then r.2 else if r.1 < nI n then sU r.2 e 3 r.1 else r.2
    (if s1 e 3 = -1 then 1 else 0, s1)) := rfl
  rcases hcl with ⟨q, e1, hS⟩ | ⟨e1, hF⟩
  · obtain ⟨s1, s2, s3, s4, s5, s6, s7, s8, sr1, s9, s10, s11, s12⟩ := hS
    generalize rdT e n 5 0 0 (rlS sc e n) = r at e1 s3 s5 s6 s7 s8 s10 s11 hV
    have r3 : r.2 e 3 = -1 := by rw [s8 e 3 (by omega) (by omega) (by omega) (by omega) (by omega)]; exact h3
    have r2 : r.2 e 2 = sr1 94 3 := s11 (by rw [h2, sU_same])
    by_cases hq : q < n
    · have lt : r.1 < nI n := by rw [e1]; exact nI_lt hq (by omega)
      have hV2 : rlV sc e n = (0, sU r.2 e 3 (nI q)) := by
        rw [hV]
        dsimp only
        have hz : ¬ r.1 = -1 := by rw [e1]; exact hm1 q s2
        rw [if_neg hz, if_pos lt, e1, sU_same, if_neg (hm1 q s2)]
      rw [hV2]
      refine Or.inr ⟨rfl, sU sr1 94 2 (nI q), r_good (s12 _ (G_zero hn ((hr.fr s9).1) hq)), ?_, ?_⟩
      · dsimp only
        rw [sU_same, sU_same]
      · refine (hf0.tr s9 (m2 := 0) (p2 := 0) (q2 := 24) (by omega) (by omega) (by omega)).tr (m' := 0) (p' := 0) (q' := 24) (fun b j h1 _ _ => sU_n (by omega)) (by omega) (by omega) (by omega)
    · have hqn : q = n := by omega
      subst hqn
      have lt : ¬ r.1 < nI q := by rw [e1]; exact fun z => absurd ((nI_ltI (by omega) (by omega)).mp z) (by omega)
      have hV2 : rlV sc e q = (1, r.2) := by
        rw [hV]
        dsimp only
        have hz : ¬ r.1 = -1 := by rw [e1]; exact hm1 q s2
        rw [if_neg hz, if_neg lt, if_pos r3]
      rw [hV2]
      have hE : EqOK r.2 e q (iT r.2 e) (pe (tX sc e q) 6) (iP r.2 e) := Seg_EqOK s3 s1 s5 s6 s7 (s4 6 (by omega)) hcc
      refine Or.inl ⟨rfl, hE, s3.2.2.2, sU sr1 94 2 (nI q), r_good (s12 _ ?_), fun i hi => ?_, ?_, ?_⟩
      · have := G_end (d := d) (L := L) hn ((hr.fr s9).1) (N := 0) (by omega)
        rw [if_pos rfl] at this
        exact this
      · rw [sU_n (by omega), s10 i (by omega) hi]
        exact hE.2.2.2.1 i hi
      · dsimp only
        rw [sU_n (by omega)]
        exact r2
      · refine (hf0.tr s9 (m2 := 0) (p2 := 0) (q2 := 24) (by omega) (by omega) (by omega)).tr (m' := 0) (p' := 0) (q' := 24) (fun b j h1 _ _ => sU_n (by omega)) (by omega) (by omega) (by omega)
  · obtain ⟨b, f1, f2, sr2, f3, f4, f5⟩ := hF
    have hV2 : rlV sc e n = (0, (rdT e n 5 0 0 (rlS sc e n)).2) := by
      rw [hV]
      dsimp only
      rw [if_pos e1, f2, if_neg (hm1 b f1)]
    rw [hV2]
    exact Or.inr ⟨rfl, sr2, r_good f5, f2.trans f3.symm, hf0.tr f4 (by omega) (by omega) (by omega)⟩
