/-! isOperator. -/
theorem d21_5 : decode prog_1_method_21_code 5 = .ok (.invokevirtual 163, 3) := by decide +kernel
theorem d21_14 : decode prog_1_method_21_code 14 = .ok (.invokevirtual 167, 3) := by decide +kernel
theorem opB_t {k : Nat} (hk : k < 12) : isOpc (opB.getD k 0) = true := by
  have h1 : ∀ k : Fin 12, isOpc (opB.getD k.1 0) = true := by decide
  exact h1 ⟨k, hk⟩
theorem opB_f {c : Int32} (h : ∀ j, j < 12 → ¬ opB.getD j 0 = c) : ¬ isOpc c = true := by
  intro z
  unfold isOpc at z
  rw [List.contains_iff_exists_mem_beq] at z
  obtain ⟨x, hx, hb⟩ := z
  have e : c = x := eq_of_beq hb
  subst e
  obtain ⟨j, hj, ej⟩ := List.getElem_of_mem hx
  refine h j hj ?_
  have hj2 : j = 0 ∨ j = 1 ∨ j = 2 ∨ j = 3 ∨ j = 4 ∨ j = 5 ∨ j = 6 ∨ j = 7 ∨ j = 8 ∨ j = 9 ∨ j = 10 ∨ j = 11 := by
    have : j < 12 := hj
    omega
  rcases hj2 with rfl | rfl | rfl | rfl | rfl | rfl | rfl | rfl | rfl | rfl | rfl | rfl <;> exact ej
theorem oper_ok (l : Launch) : opOK l := by
  intro B ch
  refine va_MetF (cc := prog_1_method_21_code) (maxL := 2) (ret := some .boolean) (by decide +kernel) rfl ?_
  intro p e s m args below meth c s₁ Bd hml hv
  obtain ⟨rfl, hS⟩ := hv
  obtain ⟨adK, adV, s1, s2, s3, s4⟩ := hS
  have hF : strF B (adK 0) (adV 0) s := by
    obtain ⟨a1, a2, a3, a4⟩ := s2.1 0 (by decide)
    exact ⟨a1, a2, a3, a4, s3, s4⟩
  generalize adK 0 = a at s1 hF
  generalize adV 0 = w at hF
  have hts := atoms_spec (ws := wsOp) Bd.pre
  have hT : ∀ x ∈ TB, x.before [Value.int ch].toArray s = true := fun x hw => hts x (List.mem_cons_of_mem _ hw)
  have hx := Bd.exec
  have hb := Bd.bytes
  have hown : s.vm.findClass "FlowEquations" = some m.cls := findClass_of_methodNamed Bd.named
  have hl := lv_entry [Value.int ch] (n := 2) (Nat.le_of_ble_eq_true rfl)
  rw [lg_entry_eq]
  generalize (lg_sl [Value.int ch] ++ List.replicate (2 - (lg_sl [Value.int ch]).length) Slot.unset).toArray = ls0 at hl ⊢
  obtain ⟨cell, o1, o2, o3, -⟩ := hF.1
  have loop : ∀ r k : Nat, k + r = 12 → (∀ j, j < k → ¬ opB.getD j 0 = ch) → ∀ ls : Array Slot, lv_has ls 2 [(1, .int (nI k)), (0, .int ch)] → W p l e (headSpec wsOp { frames := 4, cells := 0, slots := 0, locals := 200 }).room s m [Value.int ch].toArray below meth c s.heap [] 0 0 (MQ below (opQ ch) [Value.int ch].toArray s 0 0 (fun _ => False)) (F0 m 2 ls []) := by
    intro r
    induction r with
    | zero =>
      intro k hk hj ls hls
      have hk : k = 12 := by omega
      subst hk
      have l1 : ls[1]? = some (.val (.int (nI 12))) := hls.2.2 (1, .int (nI 12)) List.mem_cons_self
      refine lv_iload_n hx hb (k := 1) (by decide +kernel) rfl l1 ?_
      refine va_ldcS hx hb hown s1 (by decide +kernel) ?_
      refine s_call (rest := [.int (nI 12)]) (va_runV (b := a) (C := "java/lang/String") (As := []) (Ts := TB) (cc := prog_1_method_21_code) (nL := 2) (own := "FlowEquations") ⟨hx, hb, hml, hown, hT⟩ (met_len l B a w) ⟨callB_of 0 hT (good_cons (tb_at (j := 186) (by decide +kernel))) rfl rfl rfl (hT (.initialized "java/lang/String") (tb_at (j := 59) (by decide +kernel))) (hT (.methodLink "FlowEquations" 163 yLen) (tb_at (j := 183) (by decide +kernel))) (by decide +kernel) ⟨Nat.le_of_ble_eq_true rfl, Nat.le_of_ble_eq_true rfl⟩, hT (.instanceMethod yLen) (tb_at (j := 184) (by decide +kernel)), hT (.selects "java/lang/String" yLen yLen) (tb_at (j := 185) (by decide +kernel))⟩ ⟨strF_blind [.ref a] B a w, ⟨cell, o1, o2, o3⟩, fun U hU hW => ⟨rfl, hF.alike hW.alike hU⟩⟩ rfl rfl hls.1 rfl (lv_room (by decide)) d21_5 ⟨Nat.le_refl 0, Nat.le_refl 0⟩) ?_
      refine lv_icmp_ge (off := 21) (tgt := 29) hx hb (by decide +kernel) (by decide) (fun _ => ?_) (fun z => absurd (by decide) z)
      refine lv_iconst hx hb (n := 0) (by decide +kernel) rfl ?_
      have hop : ¬ isOpc ch = true := opB_f hj
      exact W.zret (ty := .boolean) hx hb Bd.returns rfl (fun t ht _ => ⟨by rw [if_neg hop]; rfl, ht⟩) (fun q hq => by cases hq) (by decide +kernel)
    | succ r ih =>
      intro k hk hj ls hls
      have hk12 : k < 12 := by omega
      have l1 : ls[1]? = some (.val (.int (nI k))) := hls.2.2 (1, .int (nI k)) List.mem_cons_self
      have l0 : ls[0]? = some (.val (.int ch)) := hls.2.2 (0, .int ch) (List.mem_cons_of_mem _ List.mem_cons_self)
      have hlt : nI k < 12 := nI_lt (b := 12) hk12 (by decide)
      refine lv_iload_n hx hb (k := 1) (by decide +kernel) rfl l1 ?_
      refine va_ldcS hx hb hown s1 (by decide +kernel) ?_
      refine s_call (rest := [.int (nI k)]) (va_runV (b := a) (C := "java/lang/String") (As := []) (Ts := TB) (cc := prog_1_method_21_code) (nL := 2) (own := "FlowEquations") ⟨hx, hb, hml, hown, hT⟩ (met_len l B a w) ⟨callB_of 0 hT (good_cons (tb_at (j := 186) (by decide +kernel))) rfl rfl rfl (hT (.initialized "java/lang/String") (tb_at (j := 59) (by decide +kernel))) (hT (.methodLink "FlowEquations" 163 yLen) (tb_at (j := 183) (by decide +kernel))) (by decide +kernel) ⟨Nat.le_of_ble_eq_true rfl, Nat.le_of_ble_eq_true rfl⟩, hT (.instanceMethod yLen) (tb_at (j := 184) (by decide +kernel)), hT (.selects "java/lang/String" yLen yLen) (tb_at (j := 185) (by decide +kernel))⟩ ⟨strF_blind [.ref a] B a w, ⟨cell, o1, o2, o3⟩, fun U hU hW => ⟨rfl, hF.alike hW.alike hU⟩⟩ rfl rfl hls.1 rfl (lv_room (by show 1 ≤ 8; decide)) d21_5 ⟨Nat.le_refl 0, Nat.le_refl 0⟩) ?_
      refine lv_icmp_ge (off := 21) (tgt := 29) hx hb (by decide +kernel) (by decide) (fun z => ?_) (fun _ => ?_)
      · exfalso
        rw [Int32.le_iff_toInt_le] at z
        rw [Int32.lt_iff_toInt_lt] at hlt
        omega
      refine va_ldcS hx hb hown s1 (by decide +kernel) ?_
      refine lv_iload_n hx hb (k := 1) (by decide +kernel) rfl l1 ?_
      refine s_call (rest := []) (va_runV (b := a) (C := "java/lang/String") (As := [.int (nI k)]) (Ts := TB) (cc := prog_1_method_21_code) (nL := 2) (own := "FlowEquations") ⟨hx, hb, hml, hown, hT⟩ (met_char l B a w hk12) ⟨callB_of 1 hT (good_cons (tb_at (j := 195) (by decide +kernel))) rfl rfl rfl (hT (.initialized "java/lang/String") (tb_at (j := 59) (by decide +kernel))) (hT (.methodLink "FlowEquations" 167 yChar) (tb_at (j := 192) (by decide +kernel))) (by decide +kernel) ⟨Nat.le_of_ble_eq_true rfl, Nat.le_of_ble_eq_true rfl⟩, hT (.instanceMethod yChar) (tb_at (j := 193) (by decide +kernel)), hT (.selects "java/lang/String" yChar yChar) (tb_at (j := 194) (by decide +kernel))⟩ ⟨strF_blind [.ref a, .int (nI k)] B a w, ⟨cell, o1, o2, o3⟩, fun U hU hW => ⟨rfl, hF.alike hW.alike hU⟩⟩ rfl rfl hls.1 rfl (lv_room (by decide)) d21_14 ⟨Nat.le_refl 0, Nat.le_refl 0⟩) ?_
      refine lv_iload_n hx hb (k := 0) (by decide +kernel) rfl l0 ?_
      refine lv_icmp_ne (off := 5) (tgt := 23) hx hb (by decide +kernel) (by decide) (fun z => ?_) (fun z => ?_)
      · refine lv_iinc hx hb (i := 1) (n := 1) (k := 0) (v := nI (k + 1)) (by decide +kernel) hls rfl (by rw [← nI_1]; rfl) (by decide) rfl (fun ls' hls' => ?_)
        refine lv_goto (off := -24) (tgt := 2) hx hb (by decide +kernel) (by decide) ?_
        refine ih (k + 1) (by omega) (fun j hjk => ?_) ls' hls'
        by_cases q : j = k
        · subst q
          exact z
        · exact hj j (by omega)
      · refine lv_iconst hx hb (n := 1) (by decide +kernel) rfl ?_
        have hop : isOpc ch = true := by
          rw [← z]
          exact opB_t hk12
        exact W.zret (ty := .boolean) hx hb Bd.returns rfl (fun t ht _ => ⟨by rw [if_pos hop]; rfl, ht⟩) (fun q hq => by cases hq) (by decide +kernel)
  refine lv_iconst hx hb (n := 0) (by decide +kernel) rfl ?_
  refine lv_istore_n hx hb (k := 1) (i := 1) (nL := 2) (by decide +kernel) rfl hl (by decide) rfl (fun ls' hls' => ?_)
  exact loop 12 0 (by decide) (fun j hj => absurd hj (by omega)) ls' hls'
