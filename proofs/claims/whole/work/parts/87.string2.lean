/-! The one call of the JDK that reads a String: charAt. -/
theorem d155_5 : decode prog_10_method_155_code 5 = .ok (.invokestatic 1059, 3) := by decide +kernel
theorem d2_3 : decode prog_11_method_2_code 3 = .ok (.invokestatic 9, 3) := by decide +kernel
theorem d56_1 : decode prog_10_method_56_code 1 = .ok (.invokevirtual 492, 3) := by decide +kernel
theorem d56_12 : decode prog_10_method_56_code 12 = .ok (.invokestatic 495, 3) := by decide +kernel
theorem met_pre (l : Launch) (B a w : Nat) {k : Nat} (hk : k < 12) (x : Value) (hx1 : x.category = 1) : Met l yPre (Cond.code yPre prog_15_method_11_code 3 (some .int) :: TB) (rmS 0 0) (va_Pc [.int (nI k), .int 12, x] (strF B a w)) (strQ (some (.int (nI k)))) 0 0 (fun _ => False) := by
  refine va_MetF (cc := prog_15_method_11_code) (maxL := 3) (ret := some .int) (by decide +kernel) rfl ?_
  intro p e s m args below meth c s₁ Bd hml hv
  obtain ⟨rfl, hF⟩ := hv
  have hx := Bd.exec
  have hb := Bd.bytes
  have hlen : (lg_sl [Value.int (nI k), Value.int 12, x]).length = 3 := by
    show (Slot.val (Value.int (nI k)) :: Slot.val (Value.int 12) :: ((if x.category = 2 then [Slot.val x, Slot.second] else [Slot.val x]) ++ [])).length = 3
    rw [if_neg (by rw [hx1]; decide)]
    rfl
  have hl := lv_entry [Value.int (nI k), Value.int 12, x] (n := 3) (by rw [hlen]; exact Nat.le_refl 3)
  rw [lg_entry_eq]
  generalize (lg_sl [Value.int (nI k), Value.int 12, x] ++ List.replicate (3 - (lg_sl [Value.int (nI k), Value.int 12, x]).length) Slot.unset).toArray = ls0 at hl ⊢
  have l0 : ls0[0]? = some (.val (.int (nI k))) := hl.2.2 (0, .int (nI k)) List.mem_cons_self
  have l1 : ls0[1]? = some (.val (.int 12)) := hl.2.2 (1, .int 12) (List.mem_cons_of_mem _ List.mem_cons_self)
  have hn0 : ¬ nI k < 0 := nI_pos (by omega)
  have hlt : nI k < 12 := nI_lt (b := 12) hk (by decide)
  refine lv_iload_n hx hb (k := 0) (by decide +kernel) rfl l0 ?_
  refine lv_if_lt (off := 8) (tgt := 9) hx hb (by decide +kernel) (by decide) (fun z => absurd z hn0) (fun _ => ?_)
  refine lv_iload_n hx hb (k := 0) (by decide +kernel) rfl l0 ?_
  refine lv_iload_n hx hb (k := 1) (by decide +kernel) rfl l1 ?_
  refine lv_icmp_lt (off := 10) (tgt := 16) hx hb (by decide +kernel) (by decide) (fun _ => ?_) (fun z => absurd hlt z)
  refine lv_iload_n hx hb (k := 0) (by decide +kernel) rfl l0 ?_
  exact W.iret hx hb Bd.returns (fun t ht _ => ⟨rfl, ht⟩) (fun q hq => by cases hq) (by decide +kernel)
theorem met_check (l : Launch) (B a w : Nat) {k : Nat} (hk : k < 12) : Met l yCheck (Cond.code yCheck prog_10_method_155_code 2 none :: TB) (rmS 1 22) (va_Pc [.int (nI k), .int 12] (strF B a w)) (strQ none) 0 0 (fun _ => False) := by
  refine va_MetF (cc := prog_10_method_155_code) (maxL := 2) (ret := none) (by decide +kernel) rfl ?_
  intro p e s m args below meth c s₁ Bd hml hv
  obtain ⟨rfl, hF⟩ := hv
  have hts := atoms_spec (ws := Cond.code yCheck prog_10_method_155_code 2 none :: TB) Bd.pre
  have hT : ∀ x ∈ TB, x.before [Value.int (nI k), Value.int 12].toArray s = true := fun x hw => hts x (List.mem_cons_of_mem _ hw)
  have hx := Bd.exec
  have hb := Bd.bytes
  have hown : s.vm.findClass "java/lang/String" = some m.cls := findClass_of_methodNamed Bd.named
  have hl := lv_entry [Value.int (nI k), Value.int 12] (n := 2) (Nat.le_refl 2)
  rw [lg_entry_eq]
  generalize (lg_sl [Value.int (nI k), Value.int 12] ++ List.replicate (2 - (lg_sl [Value.int (nI k), Value.int 12]).length) Slot.unset).toArray = ls0 at hl ⊢
  have l0 : ls0[0]? = some (.val (.int (nI k))) := hl.2.2 (0, .int (nI k)) List.mem_cons_self
  have l1 : ls0[1]? = some (.val (.int 12)) := hl.2.2 (1, .int 12) (List.mem_cons_of_mem _ List.mem_cons_self)
  have hlink := hT (.fieldLink "java/lang/String" 1053 "jdk/internal/util/Preconditions" "SIOOBE_FORMATTER" "Ljava/util/function/BiFunction;") (tb_at (j := 206) (by decide +kernel))
  have go : ∀ x : Value, x.category = 1 → va_Z "jdk/internal/util/Preconditions" "SIOOBE_FORMATTER" "Ljava/util/function/BiFunction;" x (fun q => B ≤ q) s s.heap → W p l e (headSpec (Cond.code yCheck prog_10_method_155_code 2 none :: TB) (rmS 1 22)).room s m [Value.int (nI k), Value.int 12].toArray below meth c s.heap [] 0 0 (MQ below (strQ none) [Value.int (nI k), Value.int 12].toArray s 0 0 (fun _ => False)) (F0 m 0 ls0 []) := by
    intro x hx1 hZ
    refine lv_iload_n hx hb (k := 0) (by decide +kernel) rfl l0 ?_
    refine lv_iload_n hx hb (k := 1) (by decide +kernel) rfl l1 ?_
    refine va_gets hx hb hZ va_S.rf hown hlink (fun _ h => h) (by decide +kernel) ?_
    refine s_call (rest := []) (va_runS (As := [.int (nI k), .int 12, x]) (Ts := TB) (cc := prog_10_method_155_code) (nL := 2) (own := "java/lang/String") ⟨hx, hb, hml, hown, hT⟩ (met_pre l B a w hk x hx1) ⟨callB_of 3 hT (good_cons (tb_at (j := 209) (by decide +kernel))) rfl rfl rfl (hT (.initialized "jdk/internal/util/Preconditions") (tb_at (j := 61) (by decide +kernel))) (hT (.methodLink "java/lang/String" 1059 yPre) (tb_at (j := 207) (by decide +kernel))) (by decide +kernel) ⟨Nat.le_refl 1, Nat.le_refl 22⟩, hT (.static yPre) (tb_at (j := 208) (by decide +kernel))⟩ ⟨strF_blind [.int (nI k), .int 12, x] B a w, fun U hU hW => ⟨rfl, hF.alike hW.alike hU⟩⟩ rfl rfl hl.1 rfl (lv_room (by decide)) d155_5 ⟨Nat.le_refl 0, Nat.le_refl 0⟩) ?_
    refine lv_pop hx hb (by decide +kernel) rfl ?_
    exact W.vret hx hb Bd.returns (fun t ht _ => ⟨rfl, ht⟩) (fun q hq => by cases hq) (by decide +kernel)
  rcases hF.2.2.2.2.2 with hz | ⟨t, hz⟩
  · exact go .null rfl hz
  · exact go (.ref t) rfl hz
theorem opB_c {k : Nat} (hk : k < 12) : ((opB.getD k 0 &&& 255).toUInt32 % 65536).toInt32 = opB.getD k 0 ∧ narrow .char (.int (opB.getD k 0)) = .int (opB.getD k 0) := by
  have h1 : ∀ k : Fin 12, ((opB.getD k.1 0 &&& 255).toUInt32 % 65536).toInt32 = opB.getD k.1 0 := by decide
  have h2 : k = 0 ∨ k = 1 ∨ k = 2 ∨ k = 3 ∨ k = 4 ∨ k = 5 ∨ k = 6 ∨ k = 7 ∨ k = 8 ∨ k = 9 ∨ k = 10 ∨ k = 11 := by omega
  refine ⟨h1 ⟨k, hk⟩, ?_⟩
  rcases h2 with rfl | rfl | rfl | rfl | rfl | rfl | rfl | rfl | rfl | rfl | rfl | rfl <;> rfl
theorem met_lchar (l : Launch) (B a w : Nat) {k : Nat} (hk : k < 12) : Met l yLChar (Cond.code yLChar prog_11_method_2_code 2 (some .char) :: TB) (rmS 2 43) (va_Pc [.ref w, .int (nI k)] (strF B a w)) (strQ (some (.int (opB.getD k 0)))) 0 0 (fun _ => False) := by
  refine va_MetF (cc := prog_11_method_2_code) (maxL := 2) (ret := some .char) (by decide +kernel) rfl ?_
  intro p e s m args below meth c s₁ Bd hml hv
  obtain ⟨rfl, hF⟩ := hv
  have hts := atoms_spec (ws := Cond.code yLChar prog_11_method_2_code 2 (some .char) :: TB) Bd.pre
  have hT : ∀ x ∈ TB, x.before [Value.ref w, Value.int (nI k)].toArray s = true := fun x hw => hts x (List.mem_cons_of_mem _ hw)
  have hx := Bd.exec
  have hb := Bd.bytes
  have hown : s.vm.findClass "java/lang/StringLatin1" = some m.cls := findClass_of_methodNamed Bd.named
  have hl := lv_entry [Value.ref w, Value.int (nI k)] (n := 2) (Nat.le_refl 2)
  rw [lg_entry_eq]
  generalize (lg_sl [Value.ref w, Value.int (nI k)] ++ List.replicate (2 - (lg_sl [Value.ref w, Value.int (nI k)]).length) Slot.unset).toArray = ls0 at hl ⊢
  have l0 : ls0[0]? = some (.val (.ref w)) := hl.2.2 (0, .ref w) List.mem_cons_self
  have l1 : ls0[1]? = some (.val (.int (nI k))) := hl.2.2 (1, .int (nI k)) (List.mem_cons_of_mem _ List.mem_cons_self)
  have hT4 := hF.2.2.2.1
  refine lv_iload_n hx hb (k := 1) (by decide +kernel) rfl l1 ?_
  refine lv_aload_n hx hb (k := 0) (by decide +kernel) rfl l0 ?_
  refine va_tlen hx hb hT4 va_S.rf (v := 12) (by decide) (by decide +kernel) ?_
  refine s_call (rest := []) (va_runS (As := [.int (nI k), .int 12]) (Ts := TB) (cc := prog_11_method_2_code) (nL := 2) (own := "java/lang/StringLatin1") ⟨hx, hb, hml, hown, hT⟩ (met_check l B a w hk) ⟨callB_of 2 hT (good_cons (tb_at (j := 205) (by decide +kernel))) rfl rfl rfl (hT (.initialized "java/lang/String") (tb_at (j := 59) (by decide +kernel))) (hT (.methodLink "java/lang/StringLatin1" 9 yCheck) (tb_at (j := 203) (by decide +kernel))) (by decide +kernel) ⟨Nat.le_refl 2, Nat.le_refl 43⟩, hT (.static yCheck) (tb_at (j := 204) (by decide +kernel))⟩ ⟨strF_blind [.int (nI k), .int 12] B a w, fun U hU hW => ⟨rfl, hF.alike hW.alike hU⟩⟩ rfl rfl hl.1 rfl (lv_room (by decide)) d2_3 ⟨Nat.le_refl 0, Nat.le_refl 0⟩) ?_
  refine lv_aload_n hx hb (k := 0) (by decide +kernel) rfl l0 ?_
  refine lv_iload_n hx hb (k := 1) (by decide +kernel) rfl l1 ?_
  refine va_tb hx hb hT4 va_S.rf (i := nI k) (v := .int (opB.getD k 0)) (vp_in_nI hk (by decide)) (by rw [nI_clamp (by omega)]) (by decide +kernel) ?_
  refine lv_sipush hx hb (n := 255) (by decide +kernel) rfl ?_
  refine lv_iand hx hb (by decide +kernel) ?_
  refine lv_i2c hx hb (by decide +kernel) (opB_c hk).1 ?_
  exact W.zret (ty := .char) hx hb Bd.returns (opB_c hk).2 (fun t ht _ => ⟨rfl, ht⟩) (fun q hq => by cases hq) (by decide +kernel)
theorem met_char (l : Launch) (B a w : Nat) {k : Nat} (hk : k < 12) : Met l yChar (Cond.code yChar prog_10_method_56_code 2 (some .char) :: TB) (rmS 3 64) (va_Pc [.ref a, .int (nI k)] (strF B a w)) (strQ (some (.int (opB.getD k 0)))) 0 0 (fun _ => False) := by
  refine va_MetF (cc := prog_10_method_56_code) (maxL := 2) (ret := some .char) (by decide +kernel) rfl ?_
  intro p e s m args below meth c s₁ Bd hml hv
  obtain ⟨rfl, hF⟩ := hv
  have hts := atoms_spec (ws := Cond.code yChar prog_10_method_56_code 2 (some .char) :: TB) Bd.pre
  have hT : ∀ x ∈ TB, x.before [Value.ref a, Value.int (nI k)].toArray s = true := fun x hw => hts x (List.mem_cons_of_mem _ hw)
  have hx := Bd.exec
  have hb := Bd.bytes
  have hown : s.vm.findClass "java/lang/String" = some m.cls := findClass_of_methodNamed Bd.named
  have hl := lv_entry [Value.ref a, Value.int (nI k)] (n := 2) (Nat.le_refl 2)
  rw [lg_entry_eq]
  generalize (lg_sl [Value.ref a, Value.int (nI k)] ++ List.replicate (2 - (lg_sl [Value.ref a, Value.int (nI k)]).length) Slot.unset).toArray = ls0 at hl ⊢
  have l0 : ls0[0]? = some (.val (.ref a)) := hl.2.2 (0, .ref a) List.mem_cons_self
  have l1 : ls0[1]? = some (.val (.int (nI k))) := hl.2.2 (1, .int (nI k)) (List.mem_cons_of_mem _ List.mem_cons_self)
  obtain ⟨cell, o1, o2, o3, -⟩ := hF.1
  refine lv_aload_n hx hb (k := 0) (by decide +kernel) rfl l0 ?_
  refine s_call (rest := []) (va_runV (b := a) (C := "java/lang/String") (As := []) (Ts := TB) (cc := prog_10_method_56_code) (nL := 2) (own := "java/lang/String") ⟨hx, hb, hml, hown, hT⟩ (met_latin l B a w) ⟨callB_of 0 hT (good_cons (tb_at (j := 199) (by decide +kernel))) rfl rfl rfl (hT (.initialized "java/lang/String") (tb_at (j := 59) (by decide +kernel))) (hT (.methodLink "java/lang/String" 492 yLatin) (tb_at (j := 196) (by decide +kernel))) (by decide +kernel) ⟨Nat.le_of_ble_eq_true rfl, Nat.le_of_ble_eq_true rfl⟩, hT (.instanceMethod yLatin) (tb_at (j := 197) (by decide +kernel)), hT (.selects "java/lang/String" yLatin yLatin) (tb_at (j := 198) (by decide +kernel))⟩ ⟨strF_blind [.ref a] B a w, ⟨cell, o1, o2, o3⟩, fun U hU hW => ⟨rfl, hF.alike hW.alike hU⟩⟩ rfl rfl hl.1 rfl (lv_room (by decide)) d56_1 ⟨Nat.le_refl 0, Nat.le_refl 0⟩) ?_
  refine lv_if_eq (off := 12) (tgt := 16) hx hb (by decide +kernel) (by decide) (fun z => absurd z (by decide)) (fun _ => ?_)
  refine lv_aload_n hx hb (k := 0) (by decide +kernel) rfl l0 ?_
  refine vk_getf hx hb hF.2.2.1 va_S.rf hown (hT (.fieldLink "java/lang/String" 9 "java/lang/String" "value" "[B") (tb_at (j := 558) (by decide +kernel))) (fun _ h => h) (by decide +kernel) ?_
  refine lv_iload_n hx hb (k := 1) (by decide +kernel) rfl l1 ?_
  refine s_call (rest := []) (va_runS (As := [.ref w, .int (nI k)]) (Ts := TB) (cc := prog_10_method_56_code) (nL := 2) (own := "java/lang/String") ⟨hx, hb, hml, hown, hT⟩ (met_lchar l B a w hk) ⟨callB_of 2 hT (good_cons (tb_at (j := 202) (by decide +kernel))) rfl rfl rfl (hT (.initialized "java/lang/StringLatin1") (tb_at (j := 60) (by decide +kernel))) (hT (.methodLink "java/lang/String" 495 yLChar) (tb_at (j := 200) (by decide +kernel))) (by decide +kernel) ⟨Nat.le_refl 3, Nat.le_refl 64⟩, hT (.static yLChar) (tb_at (j := 201) (by decide +kernel))⟩ ⟨strF_blind [.ref w, .int (nI k)] B a w, fun U hU hW => ⟨rfl, hF.alike hW.alike hU⟩⟩ rfl rfl hl.1 rfl (lv_room (by decide)) d56_12 ⟨Nat.le_refl 0, Nat.le_refl 0⟩) ?_
  exact W.zret (ty := .char) hx hb Bd.returns (opB_c hk).2 (fun t ht _ => ⟨rfl, ht⟩) (fun q hq => by cases hq) (by decide +kernel)
