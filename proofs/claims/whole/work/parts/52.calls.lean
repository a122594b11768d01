/-! The calls: both answer the same, and what holds goes on holding. -/
def LRt (s r : St) : Prop := ∃ n, n ≤ 24 ∧ s 1 1 = nI n ∧ r 94 1 = nI n ∧ ∀ i, i < n → r 95 i = s 2 i ∧ chK (s 2 i)
theorem LRt.l {s r : St} (h : LRt s r) : lenOK s ∧ lenR r := by
  obtain ⟨n, h1, h2, h3, _⟩ := h
  exact ⟨⟨n, h1, h2⟩, ⟨n, h1, h3⟩⟩
theorem tp_rel {s r : St} (h : LRt s r) (x : Int32) : (tpR r x).1 = (tpC s x).1 ∧ LRt (tpC s x).2 (tpR r x).2 := by
  obtain ⟨n, h1, h2, h3, h4⟩ := h
  unfold tpC tpR
  by_cases q : ofR x
  · have q' : ofL x := (ofL_R x).mpr q
    rw [if_neg (Classical.not_not.mpr q), if_neg (Classical.not_not.mpr q'), h2, h3]
    by_cases z : nI n = 24
    · rw [if_pos z, if_pos z]
      exact ⟨rfl, n, h1, h2, h3, h4⟩
    · rw [if_neg z, if_neg z]
      have hn : n < 24 := by
        apply Classical.byContradiction
        intro y
        have : n = 24 := by omega
        subst this
        exact z rfl
      have ec : (nI n).toNatClampNeg = n := nI_clamp (by omega)
      refine ⟨rfl, n + 1, hn, ?_, ?_, fun i hi => ?_⟩
      · dsimp only
        rw [sU_same, nI_1]
      · dsimp only
        rw [sU_same, nI_1]
      · dsimp only
        rw [sU_n (show ¬ (95 = 94 ∧ i = 1) by omega), sU_n (show ¬ (2 = 1 ∧ i = 1) by omega), ec]
        by_cases y : i = n
        · subst y
          rw [sU_same, sU_same]
          exact ⟨rfl, ofR_ch q⟩
        · rw [sU_n (by omega), sU_n (by omega)]
          exact h4 i (by omega)
  · have q' : ¬ ofL x := fun z => q ((ofL_R x).mp z)
    rw [if_pos q, if_pos q']
    exact ⟨rfl, n, h1, h2, h3, h4⟩
theorem tpC_off {s : St} {x : Int32} {a j : Nat} (h1 : ¬ (a = 1 ∧ j = 1)) (h2 : a ≠ 2) : (tpC s x).2 a j = s a j := by
  unfold tpC
  split
  · rfl
  · split
    · rfl
    · show sU _ _ _ _ a j = _
      rw [sU_n h1, sU_n (by omega)]
theorem tpR_off {s : St} {x : Int32} {a j : Nat} (h1 : ¬ (a = 94 ∧ j = 1)) (h2 : a ≠ 95) : (tpR s x).2 a j = s a j := by
  unfold tpR
  split
  · rfl
  · split
    · rfl
    · show sU _ _ _ _ a j = _
      rw [sU_n h1, sU_n (by omega)]
theorem ty_rel (e : Int64) : ∀ (k : Nat) (s r : St), LRt s r → (tyR e k r).1 = (tyL e k s).1 ∧ LRt (tyL e k s).2 (tyR e k r).2
  | 0, s, r, h => by
    obtain ⟨n, h1, h2, h3, h4⟩ := h
    exact ⟨h3.trans h2.symm, n, h1, h2, h3, h4⟩
  | k + 1, s, r, h => by
    obtain ⟨a, b⟩ := tp_rel h (byt e k)
    unfold tyL tyR
    by_cases q : byt e k = 0
    · rw [if_pos q, if_pos q]
      exact ty_rel e k s r h
    · rw [if_neg q, if_neg q, a]
      by_cases z : (tpC s (byt e k)).1 < 0
      · rw [if_pos z, if_pos z]
        exact ⟨a, b⟩
      · rw [if_neg z, if_neg z]
        exact ty_rel e k _ _ b
theorem tyL_off (e : Int64) {a j : Nat} (h1 : ¬ (a = 1 ∧ j = 1)) (h2 : a ≠ 2) : ∀ (k : Nat) (s : St), (tyL e k s).2 a j = s a j
  | 0, _ => rfl
  | k + 1, s => by
    unfold tyL
    split
    · exact tyL_off e h1 h2 k s
    · split
      · exact tpC_off h1 h2
      · rw [tyL_off e h1 h2 k, tpC_off h1 h2]
theorem tyR_off (e : Int64) {a j : Nat} (h1 : ¬ (a = 94 ∧ j = 1)) (h2 : a ≠ 95) : ∀ (k : Nat) (s : St), (tyR e k s).2 a j = s a j
  | 0, _ => rfl
  | k + 1, s => by
    unfold tyR
    split
    · exact tyR_off e h1 h2 k s
    · split
      · exact tpR_off h1 h2
      · rw [tyR_off e h1 h2 k, tpR_off h1 h2]
theorem Inv.IL {s : St} {c : Nat} (h : Inv s c) : IL s := by
  obtain ⟨N, isT, en, ip, h1, h2, h3, h4⟩ := h
  exact h2
theorem Inv_line {s s1 s2 : St} {c : Nat} (h : Inv s c) (o1 : ∀ a j, ¬ (a = 1 ∧ j = 1) → a ≠ 2 → s1 a j = s a j) (o2 : ∀ a j, ¬ (a = 94 ∧ j = 1) → a ≠ 95 → s2 a j = s1 a j) (hl : LRt s1 s2) : Inv s2 (c + 1) := by
  obtain ⟨i1, i2, i3, i4, i5, i6⟩ := h.IL
  have oo : ∀ a j, ¬ (a = 1 ∧ j = 1) → a ≠ 2 → ¬ (a = 94 ∧ j = 1) → a ≠ 95 → s2 a j = s a j := fun a j h1 h2 h3 h4 => (o2 a j h3 h4).trans (o1 a j h1 h2)
  refine Inv_qt h (fun a j hq => oo a j (fun z => hq (by unfold qt; omega)) (fun z => hq (by unfold qt; omega)) (fun z => hq (by unfold qt; omega)) (fun z => hq (by unfold qt; omega))) ?_
  obtain ⟨n, n1, n2, n3, n4⟩ := hl
  refine ⟨⟨n, n1, by rw [o2 1 1 (by omega) (by omega)]; exact n2, n3, fun i hi => by rw [o2 2 i (by omega) (by omega)]; exact n4 i hi⟩, ?_, ?_, ?_, fun k hk => ?_, fun k hk => ?_⟩
  · rw [oo 94 2 (by omega) (by omega) (by omega) (by omega), oo 1 2 (by omega) (by omega) (by omega) (by omega)]; exact i2
  · rw [oo 1 7 (by omega) (by omega) (by omega) (by omega)]; exact i3
  · rw [oo 94 15 (by omega) (by omega) (by omega) (by omega), oo 1 7 (by omega) (by omega) (by omega) (by omega)]; exact i4
  · rw [oo 105 k (by omega) (by omega) (by omega) (by omega), oo 5 k (by omega) (by omega) (by omega) (by omega)]; exact i5 k hk
  · rw [oo 106 k (by omega) (by omega) (by omega) (by omega), oo 81 k (by omega) (by omega) (by omega) (by omega)]; exact i6 k hk
theorem LRt_start {s s1 : St} (hI : IL s) (o1 : ∀ a j, 94 ≤ a → s1 a j = s a j) : LRt s s1 := by
  obtain ⟨⟨n, n1, n2, n3, n4⟩, _⟩ := hI
  exact ⟨n, n1, n2, by rw [o1 94 1 (by omega)]; exact n3, fun i hi => by rw [o1 95 i (by omega)]; exact n4 i hi⟩
theorem c_type (d L : Nat) {s : St} {c : Nat} (h : Inv s c) (x : Int32) : ∃ a s1 s2, rn (d + 15) 5 0 [some (.ref 1), some (.int x)] [] (hH L s) = some (some (.int a), hH L s1) ∧ rn (d + 15) 66 0 [some (.ref 94), some (.int x), none] [] (hH L s1) = some (some (.int a), hH L s2) ∧ Inv s2 (c + 1) := by
  have l0 := LRt_start h.IL (s1 := (tpC s x).2) (fun a j ha => tpC_off (by omega) (by omega))
  obtain ⟨a, b⟩ := tp_rel l0 x
  refine ⟨(tpC s x).1, (tpC s x).2, (tpR (tpC s x).2 x).2, m_typeC (d + 8) L s x l0.l.1, ?_, Inv_line h (fun a j h1 h2 => tpC_off h1 h2) (fun a j h1 h2 => tpR_off h1 h2) b⟩
  rw [← a]
  exact r_type (d + 14) L _ x l0.l.2
theorem c_types (d L : Nat) {s : St} {c : Nat} (h : Inv s c) (e : Int64) : ∃ a s1 s2, rn (d + 15) 10 0 [some (.ref 1), some (.long e), mSec, none, none, none] [] (hH L s) = some (some (.int a), hH L s1) ∧ rn (d + 15) 71 0 [some (.ref 94), some (.long e), mSec, none, none, none] [] (hH L s1) = some (some (.int a), hH L s2) ∧ Inv s2 (c + 1) := by
  have l0 := LRt_start h.IL (s1 := (tyL e 8 s).2) (fun a j ha => tyL_off e (by omega) (by omega) 8 s)
  obtain ⟨a, b⟩ := ty_rel e 8 _ _ l0
  refine ⟨(tyL e 8 s).1, (tyL e 8 s).2, (tyR e 8 (tyL e 8 s).2).2, m_types (d + 7) L e s l0.l.1, ?_, Inv_line h (fun a j h1 h2 => tyL_off e h1 h2 8 s) (fun a j h1 h2 => tyR_off e h1 h2 8 _) b⟩
  rw [← a]
  exact r_types (d + 13) L e _ l0.l.2
theorem Inv.up {s : St} {c : Nat} (h : Inv s c) : Inv s (c + 1) := Inv_qt h (fun _ _ _ => rfl) h.IL
theorem c_input (d L : Nat) {s : St} {c : Nat} (h : Inv s c) (v x : Int32) : ∃ a s1 s2, rn (d + 15) 27 0 [some (.ref 1), some (.int v), some (.int x)] [] (hH L s) = some (some (.int a), hH L s1) ∧ rn (d + 15) 77 0 [some (.ref 94), some (.int v), some (.int x)] [] (hH L s1) = some (some (.int a), hH L s2) ∧ Inv s2 (c + 1) := by
  rcases in_n v 4 (by decide) with hv | ⟨k, hk, rfl⟩
  · exact ⟨_, _, _, m_inputN (d + 15) L s hv x, r_inputN (d + 15) L s hv x, h.up⟩
  · refine ⟨_, _, _, m_input (d + 15) L s hk x, r_input (d + 15) L _ hk x, Inv_qt h (fun a j hq => ?_) ?_⟩
    · unfold qt at hq
      rw [sU_n (by omega), sU_n (by omega)]
    · obtain ⟨⟨n, n1, n2, n3, n4⟩, i2, i3, i4, i5, i6⟩ := h.IL
      refine ⟨⟨n, n1, ?_, ?_, fun i hi => ?_⟩, ?_, ?_, ?_, fun k hk => ?_, fun j hj => ?_⟩
      · rw [sU_n (by omega), sU_n (by omega)]; exact n2
      · rw [sU_n (by omega), sU_n (by omega)]; exact n3
      · rw [sU_n (by omega), sU_n (by omega), sU_n (by omega), sU_n (by omega)]; exact n4 i hi
      · rw [sU_n (by omega), sU_n (by omega), sU_n (by omega), sU_n (by omega)]; exact i2
      · rw [sU_n (by omega), sU_n (by omega)]; exact i3
      · rw [sU_n (by omega), sU_n (by omega), sU_n (by omega), sU_n (by omega)]; exact i4
      · rw [sU_n (by omega), sU_n (by omega), sU_n (by omega), sU_n (by omega)]; exact i5 k hk
      · rw [sU_n (show ¬ (81 = 106 ∧ j = k) by omega)]
        by_cases z : j = k
        · subst z
          rw [sU_same, sU_same]
        · rw [sU_n (by omega), sU_n (by omega), sU_n (by omega)]
          exact i6 j hj
