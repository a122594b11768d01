/-! The start: what the tables and the given say; the end. -/
theorem start_K {s : State} {args : Array Value} (hts : ∀ w ∈ lw_tbl, w.before args s = true) : ∃ (dC : Nat → ClassId) (dI : Nat → Nat → Nat) (dA : Nat → ClassId), mK dC dI dA s := by
  have hT : ∀ w ∈ TB, w.before args s = true := fun w hw => hts w (TB_in w hw)
  obtain ⟨c0, i0, h0⟩ := u_known hT clk_0.2.1 (hT (.instantiable "FlowEquations" 8) (by decide +kernel))
  obtain ⟨c1, i1, h1⟩ := u_known hT clk_1.2.1 (hT (.instantiable "FlowEquations$Checker" 2) (by decide +kernel))
  obtain ⟨c2, i2, h2⟩ := u_known hT clk_2.2.1 (hT (.instantiable "FlowEquations$Equation" 11) (by decide +kernel))
  obtain ⟨c3, i3, h3⟩ := u_known hT clk_3.2.1 (hT (.instantiable "FlowEquations$Program" 2) (by decide +kernel))
  obtain ⟨c4, i4, h4⟩ := u_known hT clk_4.2.1 (hT (.instantiable "FlowEquations$Run" 10) (by decide +kernel))
  obtain ⟨c5, i5, h5⟩ := u_known hT clk_5.2.1 (hT (.instantiable "FlowEquationsModel" 24) (by decide +kernel))
  obtain ⟨a0, k0, p0, f1, f2, f3⟩ := Cond.arrayClass_spec (hT (.arrayClass .int) (by decide +kernel))
  obtain ⟨a1, k1, p1, g1, g2, g3⟩ := Cond.arrayClass_spec (hT (.arrayClass .boolean) (by decide +kernel))
  have hO := hts (.arrayOver (.object "FlowEquations$Equation")) (by decide +kernel)
  obtain ⟨p2, a2, k2, o1, o2, o3, o4, o5⟩ := Cond.arrayOver_spec hO
  refine ⟨fun c => ([c0, c1, c2, c3, c4, c5] : List ClassId).getD c c0, fun c => ([i0, i1, i2, i3, i4, i5] : List (Nat → Nat)).getD c i0, fun t => if t = 0 then a0 else if t = 1 then a1 else a2, ⟨fun c q hq => ?_, fun k q hk => by simp at hk⟩, fun t ht => ?_, fun w hw => va_Nw.of (NW_tab hw) (hts w (NW_in w hw)), fun C hC => ?_⟩
  · have hc : c < 6 := (List.getElem?_eq_some_iff.mp hq).1
    have hc2 : c = 0 ∨ c = 1 ∨ c = 2 ∨ c = 3 ∨ c = 4 ∨ c = 5 := by omega
    rcases hc2 with rfl | rfl | rfl | rfl | rfl | rfl
    · cases hq; exact h0
    · cases hq; exact h1
    · cases hq; exact h2
    · cases hq; exact h3
    · cases hq; exact h4
    · cases hq; exact h5
  · have ht2 : t = 0 ∨ t = 1 ∨ t = 12 := by
      simp [srtL] at ht
      omega
    rcases ht2 with rfl | rfl | rfl
    · exact ⟨fun n z => ⟨(fun k h => (by cases h)), k0, f2, p0, f3⟩, f1⟩
    · exact ⟨fun n z => ⟨(fun k h => (by cases h)), k1, g2, p1, g3⟩, g1⟩
    · exact ⟨fun n z => ⟨(fun k h => (by cases h)), k2, o3, p2, o4⟩, k2, p2, o3, o4, o1, o5⟩
  · have : C = "FlowEquations$Equation" := by
      simp [AOL] at hC
      exact hC
    subst this
    exact va_AO.of hO
theorem start_S {s : State} {args : Array Value} (hts : ∀ w ∈ lw_tbl, w.before args s = true) (hg : (Jvm.Cond.and given_1 narrow_1).before args s = true) : strK s.heap.size s := by
  have hs := flat_of_before _ hg
  have hA : ∀ a : Nat, a < s.heap.size → ¬ s.heap.size ≤ a := fun a ha z => by omega
  obtain ⟨adK, adV, h1, h2⟩ := vk_Sof (args := args) (s := s) (N := 1) (tm := fun _ => Term.string "FlowEquations" 161) (len := [12]) (byt := [[43, 45, 42, 60, 61, 38, 33, 63, 80, 70, 87, 67]]) (A := fun q => s.heap.size ≤ q) (fun i hi => by
      have : i = 0 := by omega
      subst this
      decide) (fun i hi => hs _ (by decide +kernel)) (fun i hi => hs _ (by decide +kernel)) (fun i hi => hs _ (by decide +kernel)) (fun i hi => by
      have : i = 0 := by omega
      subst this
      exact hs _ (by decide +kernel)) (fun i hi j hj => by
      have : i = 0 := by omega
      subst this
      have hj : j < 12 := hj
      have hj2 : j = 0 ∨ j = 1 ∨ j = 2 ∨ j = 3 ∨ j = 4 ∨ j = 5 ∨ j = 6 ∨ j = 7 ∨ j = 8 ∨ j = 9 ∨ j = 10 ∨ j = 11 := by omega
      rcases hj2 with rfl | rfl | rfl | rfl | rfl | rfl | rfl | rfl | rfl | rfl | rfl | rfl <;> exact hs _ (by decide +kernel)) (fun i j hi hj hne => absurd (show i = j by omega) hne) hA
  exact ⟨adK, adV, vk_R.of (hts (.stringRef "FlowEquations" 161 "+-*<=&!?PFWC") (by decide +kernel)) (h2 0 (by decide)), h1, va_Zof (hts (.laysStatic "java/lang/String" "COMPACT_STRINGS" "Z") (by decide +kernel)) (hts (.initialized "java/lang/String") (by decide +kernel)) (va_eqi (hs _ (by decide +kernel))) hA, va_Zqof (hts (.laysStatic "jdk/internal/util/Preconditions" "SIOOBE_FORMATTER" "Ljava/util/function/BiFunction;") (by decide +kernel)) (hts (.initialized "jdk/internal/util/Preconditions") (by decide +kernel)) (hs _ (by decide +kernel)) hA⟩
theorem end_97 {pc : Nat} {lo : ML} {st : List Value} {h : MH} (hs : stp 97 pc lo st h = some (.inr (.inr (some (.int 1))))) : st = [.int 1] ∧ decode code pc = .ok (.ireturn, 1) := by
  obtain ⟨i, hi, h1 | h1⟩ := stp_ins hs
  · obtain ⟨_, _, _, e1, -⟩ := stpP_keep h1
    cases e1
  · obtain ⟨len, hdg, hl⟩ := ins_dec hi
    unfold stpH at h1
    split at h1
    · cases h1
    · cases h1
    · cases h1
    · unfold gfS at h1
      repeat' split at h1
      all_goals cases h1
    · unfold pfS at h1
      repeat' split at h1
      all_goals cases h1
    · unfold ialS at h1
      repeat' split at h1
      all_goals cases h1
    · unfold ialS at h1
      repeat' split at h1
      all_goals cases h1
    · unfold iasS at h1
      repeat' split at h1
      all_goals cases h1
    · unfold iasS at h1
      repeat' split at h1
      all_goals cases h1
    · unfold aalS at h1
      repeat' split at h1
      all_goals cases h1
    · unfold aasS at h1
      repeat' split at h1
      all_goals cases h1
    · unfold alnS at h1
      repeat' split at h1
      all_goals cases h1
    · unfold nwaS at h1
      repeat' split at h1
      all_goals cases h1
    · unfold nwqS at h1
      repeat' split at h1
      all_goals cases h1
    · unfold nwS at h1
      repeat' split at h1
      all_goals cases h1
    · unfold invS at h1
      repeat' split at h1
      all_goals cases h1
    · unfold invS at h1
      repeat' split at h1
      all_goals cases h1
    · unfold invS at h1
      repeat' split at h1
      all_goals cases h1
    · have e1 : len = 1 := hl rfl
      subst e1
      unfold iretS at h1
      split at h1
      · split at h1
        · injection h1 with h1
          injection h1 with h1
          injection h1 with h1
          injection h1 with h1
          injection h1 with h1
          subst h1
          exact ⟨rfl, hdg⟩
        · cases h1
      · cases h1
    · unfold lretS at h1
      repeat' split at h1
      all_goals cases h1
    · unfold aretS at h1
      repeat' split at h1
      all_goals cases h1
    · unfold vretS at h1
      repeat' split at h1
      all_goals cases h1
    · cases h1
theorem start_R {s : State} {b L : Nat} {xs : Nat → Int32} {dC : Nat → ClassId} {dI : Nat → Nat → Nat} {dA : Nat → ClassId} (hX : va_X b L xs s s.heap) (hbl : b < s.heap.size) : RHm b s.heap.size dC dI dA s (HP 1 0 (hp L (s0 xs))) s.heap := by
  have h0 : ∀ a c, (HP 1 0 (hp L (s0 xs))).2.2 a = some c → a = 0 := fun a c h => by
    by_cases q : a < 1
    · omega
    · have e : (HP 1 0 (hp L (s0 xs))).2.2 a = none := if_neg q
      rw [e] at h
      cases h
  have e0 : (HP 1 0 (hp L (s0 xs))).2.2 0 = some (.inl (0, L, .inl xs)) := rfl
  refine ⟨fun a t x ha => ?_, hbl, Nat.le_refl 1, rfl, fun a c ha => ?_, fun a c ha => ?_, fun c hc => ?_⟩
  · have : a = 0 := h0 a _ ha
    subst this
    rw [e0] at ha
    cases ha
    decide
  · have : a = 0 := h0 a c ha
    subst this
    exact Nat.zero_lt_one
  · exact absurd (h0 (a + 1) c ha) (by omega)
  · rw [e0] at hc
    cases hc
    exact ⟨L, xs, rfl, hX⟩
