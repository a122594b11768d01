/-! Reading: all TERMS, the line. -/
/-- the reference behind an operator -/
def gO (sr : St) (p m lv : Nat) (c : Int32) : St := gC c (gB_ c m + pcn c) (gP (gB_ c m) (nI (lv + 1)) (pcn c) 0 (gW c m (gD (gS sr p 1) lv)))
theorem gO_off {sr : St} {p m lv b j : Nat} {c : Int32} (h1 : ¬ (b = 94 ∧ (j = 2 ∨ j = 3))) (h2 : ¬ (b = 104 ∧ j = p)) (h3 : ¬ (b = 113 ∧ m ≤ j)) : gO sr p m lv c b j = sr b j := by
  have hw : gW c m (gD (gS sr p 1) lv) b j = sr b j := by
    unfold gW
    split
    · rw [sU_n (by omega), gD_off (by omega), gS_off (by omega) h2]
    · rw [gD_off (by omega), gS_off (by omega) h2]
  have hb : m ≤ gB_ c m := by
    unfold gB_
    split <;> omega
  have hp : gP (gB_ c m) (nI (lv + 1)) (pcn c) 0 (gW c m (gD (gS sr p 1) lv)) b j = sr b j := by
    by_cases hb3 : b = 113
    · subst hb3
      rw [gP_113, if_neg (by omega), hw]
    · rw [gP_off hb3, hw]
  unfold gO gC
  split
  · rw [sU_n (by omega), hp]
  · exact hp
theorem gO_n3 {sr : St} {p m lv b j : Nat} {c : Int32} (hb : b ≠ 113) : gO sr p m lv c b j = gD (gS sr p 1) lv b j := by
  have hw : gW c m (gD (gS sr p 1) lv) b j = gD (gS sr p 1) lv b j := by
    unfold gW
    split
    · rw [sU_n (by omega)]
    · rfl
  unfold gO gC
  split
  · rw [sU_n (by omega), gP_off hb, hw]
  · rw [gP_off hb, hw]
theorem gO_k {sr : St} {p m lv j : Nat} {c : Int32} (hj : j < pcn c) : gO sr p m lv c 113 (gB_ c m + j) = nI (lv + 1) := by
  unfold gO gC
  split
  · rw [sU_n (by omega), gP_113, if_pos (by omega)]
  · rw [gP_113, if_pos (by omega)]
theorem gO_C {sr : St} {p m lv : Nat} {c : Int32} (hc : c = 67) : gO sr p m lv c 113 (gB_ c m + pcn c) = 0 := by
  unfold gO gC
  rw [if_pos hc, sU_same]
theorem gO_W {sr : St} {p m lv : Nat} {c : Int32} (hc : c = 87) : gO sr p m lv c 113 m = 0 := by
  have n67 : ¬ c = 67 := by rw [hc]; decide
  unfold gO gC gB_ gW
  rw [if_neg n67, if_pos hc, if_pos hc, gP_113, if_neg (by omega), sU_same]
theorem op_ok {d L e n : Nat} {t : Nat → Int32} {f m p : Nat} {a : Int32} {sc sr : St} (hf : f ≤ 4) (hC : Clm d L e n t f) (hR : RK sc e n t) (hp : p < n) (ha : a = 0 ∨ a = 1) (hm : m ≤ 2 * (4 - f)) (hr : rOK sr n t) (h113 : sr 113 m = nI (5 - f)) (hd : ∀ j, 3 * p ≤ j → j < 72 → sc (e + 2) j = -1) (hop : 0 < pcn (t p)) :
    (∃ q, (rdB e (5 - f) (rdT e n f) p a sc).1 = nI q ∧ Suc d L e n t (f + 1) m p q a sc (rdB e (5 - f) (rdT e n f) p a sc).2 sr) ∨ ((rdB e (5 - f) (rdT e n f) p a sc).1 = -1 ∧ Fai d L e n (m + 1) p (rdB e (5 - f) (rdT e n f) p a sc).2 sr) := by
  have hn := hR.2.2.1
  have e1 : sc (e + 1) p = t p := congrFun hR.2.2.2 p
  have h95 := hr.2 p hp
  have hnl : ¬ (cDig (t p) ∨ cVar (t p) ∨ cInp (t p)) := fun z => by have := (lf0 z).1; omega
  have hnv : ¬ (¬ t p < 97 ∧ t p < 105) := fun z => hnl (Or.inr (Or.inl z))
  have hK := (pcN_pcn (t p)).2
  have h56 : 5 - f + 1 = 6 - f := by omega
  have push : ∀ R, GR d L (gO sr p m (5 - f) (t p)) (p + 1) (gN (t p) (gB_ (t p) m + pcn (t p))) R → GR d L sr p (m + 1) R := by
    intro R hG
    have hgp := G_push (d := d) (L := L) (R := R) hn hr.1 hp (show m ≤ 18 by omega) (show 1 ≤ 5 - f by omega) (show 5 - f < 6 by omega) h113 (by rw [h95]; exact hnl) (by rw [h95]; exact hop)
    rw [h95] at hgp
    exact hgp hG
  have hO : rfr sr (gO sr p m (5 - f) (t p)) m p (p + 1) := fun b j h1 h2 h3 => gO_off h1 (by omega) h3
  have hrO := hr.fr hO
  have hO4 : gO sr p m (5 - f) (t p) 104 p = 1 := by
    rw [gO_n3 (by decide), gD_off (by omega)]
    unfold gS
    rw [sU_same]
  have hO2 : sc e 2 = sr 94 3 → rd4 e (5 - f) p a sc e 2 = gO sr p m (5 - f) (t p) 94 3 := fun hh => by
    rw [gO_n3 (by decide), rd4_2, gD_3, gS_off (by omega) (by omega), hh]
  have hR1 : RK (rd4 e (5 - f) p a sc) e n t := RK_rd4 hR
  have hOk : ∀ j, j < pcn (t p) → gO sr p m (5 - f) (t p) 113 (gB_ (t p) m + j) = nI (6 - f) := fun j hj => by rw [gO_k hj, h56]
  have hB : rdB e (5 - f) (rdT e n f) p a sc = (let r1 := if t p = 67 then rdN e (nI (p + 1)) p (rd4 e (5 - f) p a sc) else (nI (p + 1), rd4 e (5 - f) p a sc)
      let r2 := rdPL (rdT e n f) e p (pcn (t p)) 0 r1.1 r1.2
      if t p = 87 then rdN e r2.1 p r2.2 else r2) := by
    unfold rdB
    rw [e1]
  rw [hB]
  by_cases q67 : t p = 67
  · have n87 : ¬ t p = 87 := by rw [q67]; decide
    have hx : c0 t p = p + 2 := if_pos q67
    have hgN : gN (t p) (gB_ (t p) m + pcn (t p)) = gB_ (t p) m + pcn (t p) + 1 := if_pos q67
    have hgB : gB_ (t p) m = m := if_neg n87
    rw [hgN] at push
    rw [if_pos q67]
    rcases nm_ok (d := d) (L := L) (o := p) (m := gB_ (t p) m + pcn (t p)) hR1 (show p + 1 ≤ n by omega) hrO (by omega) (gO_C q67) with ⟨y1, y2, y3, y4⟩ | ⟨y3, y4⟩
    · rw [y3]
      have go : ∀ c j, ¬ (c = e + 3 ∧ (j = p ∨ j = p + 1)) → ¬ (c = e + 4 ∧ j = p + 1) → sN e (p + 1) p (t (p + 1)) (rd4 e (5 - f) p a sc) c j = rd4 e (5 - f) p a sc c j := fun c j h1 h2 => by
        unfold sN
        rw [sU_n h2, sU_n (by omega), sU_n (by omega)]
      refine op_mid (sc := sc) (s2 := sN e (p + 1) p (t (p + 1)) (rd4 e (5 - f) p a sc)) (x := p + 2) (b := gB_ (t p) m) (S := gS (gO sr p m (5 - f) (t p)) (p + 1) 0) hf hC hp ha hm rfl hx (by omega) ?_ ?_ ?_ ?_ ?_ ?_ ?_ ?_ ?_ ?_ ?_ ?_ ?_ ?_
      · exact RK_U (RK_U (RK_U hR1 (by omega) (by omega)) (by omega) (by omega)) (by omega) (by omega)
      · intro c j h1 h2 h3 h4 h5
        rw [go c j (by omega) (by omega), rd4_off h1 (by omega) (by omega) (by omega)]
      · rw [go _ _ (by omega) (by omega)]; exact rd4_4
      · rw [go _ _ (by omega) (by omega)]; exact rd4_5
      · intro _
        rw [nmF67 q67]
        unfold sN
        rw [sU_n (by omega), sU_n (by omega), sU_same]
      · intro j h1 h2
        rw [go _ _ (by omega) (by omega), rd4_off (by omega) (by omega) (by omega) (by omega)]
        exact hd j h1 h2
      · intro _
        refine ⟨?_, ?_, y2⟩
        · unfold sN; rw [sU_same]
        · unfold sN; rw [sU_n (by omega), sU_same]
      · exact hrO.fr (m := 0) (p := 0) (q := 24) (fun b j h1 h2 _ => gS_off (by omega) (by omega))
      · intro b j h1 h2 h3
        rw [gS_off (by omega) (by omega)]
        exact hO b j h1 (by omega) h3
      · intro i h1 h2
        by_cases hi : i = p
        · subst hi
          rw [gS_off (by omega) (by omega), hO4, go _ _ (by omega) (by omega), rd4_4]
        · have : i = p + 1 := by omega
          subst this
          unfold gS sN
          rw [sU_same, sU_same]
      · intro hh
        rw [go _ _ (by omega) (by omega), gS_off (by omega) (by omega)]
        exact hO2 hh
      · intro R hG
        exact push R (y4 R hG)
      · intro j hj
        rw [gS_off (by omega) (by omega)]
        exact hOk j hj
      · intro z
        exact absurd z n87
    · rw [y3]
      obtain ⟨bb, f1, f2, sr3, f3, f4, f5⟩ := y4
      have kn : ∀ s, rdPL (rdT e n f) e p (pcn (t p)) 0 (-1) s = (-1, s) := fun s => by
        cases pcn (t p) with
        | zero => rfl
        | succ r => exact if_pos rfl
      dsimp only
      rw [kn, if_neg n87]
      exact Or.inr ⟨rfl, bb, f1, f2, sr3, f3, hO.tr f4 (by omega) (by omega) (by omega), push _ f5⟩
  · have hx : c0 t p = p + 1 := if_neg q67
    have hgN : gN (t p) (gB_ (t p) m + pcn (t p)) = gB_ (t p) m + pcn (t p) := if_neg q67
    rw [hgN] at push
    rw [if_neg q67]
    refine op_mid (sc := sc) (s2 := rd4 e (5 - f) p a sc) (x := p + 1) (b := gB_ (t p) m) (S := gO sr p m (5 - f) (t p)) hf hC hp ha hm rfl hx (by omega) hR1 ?_ rd4_4 rd4_5 ?_ ?_ (fun z => absurd z q67) hrO hO ?_ hO2 push hOk (fun z => gO_W z)
    · intro c j h1 h2 h3 h4 h5
      exact rd4_off h1 (by omega) (by omega) (by omega)
    · intro n87
      rw [rd4_3, e1, nmF_op n87 q67]
    · intro j h1 h2
      rw [rd4_off (by omega) (by omega) (by omega) (by omega)]
      exact hd j h1 h2
    · intro i h1 h2
      have : i = p := by omega
      subst this
      rw [hO4, rd4_4]
theorem end_ok {d L e n : Nat} {t : Nat → Int32} {m : Nat} {sc sr : St} (hn : n ≤ 24) (hm : m < 24) (hr : rOK sr n t) : Fai d L e n (m + 1) n (sU sc e 3 (nI n)) sr := by
  refine ⟨n, Nat.le_refl n, sU_same _ _ _ _, sU sr 94 2 (nI n), sU_same _ _ _ _, fun b j h1 _ _ => sU_n (by omega), ?_⟩
  have := G_end (d := d) (L := L) hn hr.1 (N := m + 1) (by omega)
  rw [if_neg (by omega)] at this
  exact this
theorem term_ok {d L e n : Nat} {t : Nat → Int32} (hc : ∀ i, i < n → (cDig (t i) ∨ cVar (t i) ∨ cInp (t i)) ∨ 0 < pcn (t i)) : ∀ f, f ≤ 5 → Clm d L e n t f := by
  intro f
  induction f with
  | zero =>
    intro _ p a m sc sr hR hp ha hm hr h113 hd
    have hn := hR.2.2.1
    by_cases hpn : p < n
    · have e1 : sc (e + 1) p = t p := congrFun hR.2.2.2 p
      rcases hc p hpn with hl | ho
      · obtain ⟨l0, l67, l87⟩ := lf0 hl
        have er : rdT e n 0 p a sc = (nI (p + 1), rd4 e (6 - 0) p a sc) := by
          have : rdT e n 0 p a sc = rdB e 6 (fun _ _ s => (-1, s)) p a sc := if_pos ⟨hpn, by rw [e1]; exact l0⟩
          rw [this]
          unfold rdB
          rw [e1, l0, if_neg l67, if_neg l87]
          rfl
        rw [er]
        exact Or.inl ⟨p + 1, rfl, leaf_ok (by decide) hR hpn ha hm hr h113 hd hl⟩
      · have er : rdT e n 0 p a sc = (-1, sU sc e 3 (nI p)) := if_neg (fun z => by rw [e1] at z; omega)
        rw [er]
        have hnl : ¬ (cDig (t p) ∨ cVar (t p) ∨ cInp (t p)) := fun z => by have := (lf0 z).1; omega
        refine Or.inr ⟨rfl, p, hp, sU_same _ _ _ _, gD (gS sr p 1) 6, ?_, fun b j h1 h2 _ => ?_, G_deep hn hr.1 hpn (by omega) h113 (by rw [hr.2 p hpn]; exact hnl)⟩
        · rw [gD_off (by omega)]
          unfold gS
          rw [sU_n (by omega), sU_same]
        · rw [gD_off (by omega), gS_off (by omega) (by omega)]
    · have hpe : p = n := by omega
      subst hpe
      have er : rdT e p 0 p a sc = (-1, sU sc e 3 (nI p)) := if_neg (fun z => hpn z.1)
      rw [er]
      exact Or.inr ⟨rfl, end_ok hn (by omega) hr⟩
  | succ f ih =>
    intro hf p a m sc sr hR hp ha hm hr h113 hd
    have hn := hR.2.2.1
    by_cases hpn : p < n
    · have e1 : sc (e + 1) p = t p := congrFun hR.2.2.2 p
      have er : rdT e n (f + 1) p a sc = rdB e (5 - f) (rdT e n f) p a sc := if_pos hpn
      rcases hc p hpn with hl | ho
      · obtain ⟨l0, l67, l87⟩ := lf0 hl
        have e6 : 6 - (f + 1) = 5 - f := by omega
        have er2 : rdT e n (f + 1) p a sc = (nI (p + 1), rd4 e (6 - (f + 1)) p a sc) := by
          rw [er, e6]
          unfold rdB
          rw [e1, l0, if_neg l67, if_neg l87]
          rfl
        rw [er2]
        exact Or.inl ⟨p + 1, rfl, leaf_ok hf hR hpn ha hm hr h113 hd hl⟩
      · rw [er]
        have e6 : 6 - (f + 1) = 5 - f := by omega
        rw [e6] at h113
        exact op_ok (by omega) (ih (by omega)) hR hpn ha (by omega) hr h113 hd ho
    · have hpe : p = n := by omega
      subst hpe
      have er : rdT e p (f + 1) p a sc = (-1, sU sc e 3 (nI p)) := if_neg hpn
      rw [er]
      exact Or.inr ⟨rfl, end_ok hn (by omega) hr⟩
