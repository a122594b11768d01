/-! The one call of the JDK that reads a String: isOperator. -/
theorem d54_6 : decode prog_10_method_54_code 6 = .ok (.invokevirtual 335, 3) := by decide +kernel
def opB : List Int32 := [43, 45, 42, 60, 61, 38, 33, 63, 80, 70, 87, 67]
/-- the String of operators, at a, its bytes at w -/
def strF (B a w : Nat) (s : State) : Prop := va_O "java/lang/String" a (fun q => B ≤ q) s s.heap ∧ va_OF "java/lang/String" "coder" "B" (.int 0) a (fun q => B ≤ q) s s.heap ∧ va_OF "java/lang/String" "value" "[B" (.ref w) a (fun q => B ≤ q) s s.heap ∧ va_T .byte w 12 (fun j => .int (opB.getD j 0)) (fun q => B ≤ q) s s.heap ∧ va_Z "java/lang/String" "COMPACT_STRINGS" "Z" (.int 1) (fun q => B ≤ q) s s.heap ∧ va_Zq "jdk/internal/util/Preconditions" "SIOOBE_FORMATTER" "Ljava/util/function/BiFunction;" (fun q => B ≤ q) s s.heap
theorem strF.alike {B a w : Nat} {u U : State} (hW : u.vm.Alike U.vm) (hh : U.heap = u.heap) (h : strF B a w u) : strF B a w U := by
  obtain ⟨h1, h2, h3, h4, h5, h6⟩ := h
  unfold strF
  rw [hh]
  exact ⟨h1.moved hW, h2.moved hW, h3.moved hW, h4.moved hW, h5.moved hW, h6.moved hW⟩
theorem strF_blind (as : List Value) (B a w : Nat) : FrameBlind (va_Pc as (strF B a w)) := fun x U g mk q => ⟨q.1, q.2.alike (U := U.calling g mk x) (Vm.Alike.refl U.vm) rfl⟩
def strQ (v : Option Value) : Array Value → State → Outcome → State → Prop := fun _ st oc t => oc = .returned v ∧ t.heap = st.heap
theorem good_cons {w : Cond} (hw : w ∈ TB) : GoodIn TB (w :: TB) := by
  intro x hx
  have : x ∈ TB := by
    rcases List.mem_cons.mp hx with rfl | h
    · exact hw
    · exact h
  exact ⟨this, TB_good x this⟩
theorem tb_at {j : Nat} {w : Cond} (h : TB[j]? = some w) : w ∈ TB := List.mem_of_getElem? h
section STR
variable {p : Program} {l : Launch} {e : Env} {R : Room} {s : State} {m : MethodId} {args : Array Value} {below : List Frame} {meth : Method} {c : Code} {H : Heap} {locs : List Loc} {cells slots : Nat} {Q : State → Prop}
theorem s_call {pc : Nat} {ls : Array Slot} {rest st0 : List Value} {a : Array Value} {v : Option Value} (hr : va_Run p l e R s m args below meth c H locs cells slots 0 0 (F0 m pc ls st0) rest (strQ v a) (fun _ => False))
    (kk : W p l e R s m args below meth c H locs cells slots Q (F0 m (pc + 3) ls (v.toList ++ rest))) : W p l e R s m args below meth c H locs cells slots Q (F0 m pc ls st0) := by
  intro T hT X
  obtain ⟨v', st₀, t, T', L, g0, X', hL, g1, g2, ⟨hv, hh⟩, stp1⟩ := hr T hT X
  cases hv
  have hTH : T'.heap = H := by rw [g1, hh, g0]
  have hL0 : L = [] := by
    cases L with
    | nil => rfl
    | cons x xs => exact (hL x List.mem_cons_self).elim
  subst hL0
  rw [List.append_nil] at X'
  obtain ⟨t2, a1, b1⟩ := kk T' hTH X'
  exact ⟨t2, stp1 t2 a1, b1⟩
end STR
def yCoder : MethodName := ⟨"java/lang/String", "coder", "()B"⟩
def yLatin : MethodName := ⟨"java/lang/String", "isLatin1", "()Z"⟩
def yLen : MethodName := ⟨"java/lang/String", "length", "()I"⟩
def yChar : MethodName := ⟨"java/lang/String", "charAt", "(I)C"⟩
def yLChar : MethodName := ⟨"java/lang/StringLatin1", "charAt", "([BI)C"⟩
def yCheck : MethodName := ⟨"java/lang/String", "checkIndex", "(II)V"⟩
def yPre : MethodName := ⟨"jdk/internal/util/Preconditions", "checkIndex", "(IILjava/util/function/BiFunction;)I"⟩
abbrev rmS (f n : Nat) : Room := { frames := f, cells := 0, slots := 0, locals := n }
theorem met_coder (l : Launch) (B a w : Nat) : Met l yCoder (Cond.code yCoder prog_10_method_152_code 1 (some .byte) :: TB) (rmS 0 0) (va_Pc [.ref a] (strF B a w)) (strQ (some (.int 0))) 0 0 (fun _ => False) := by
  refine va_MetF (cc := prog_10_method_152_code) (maxL := 1) (ret := some .byte) (by decide +kernel) rfl ?_
  intro p e s m args below meth c s₁ Bd hml hv
  obtain ⟨rfl, hF⟩ := hv
  have hts := atoms_spec (ws := Cond.code yCoder prog_10_method_152_code 1 (some .byte) :: TB) Bd.pre
  have hT : ∀ x ∈ TB, x.before [Value.ref a].toArray s = true := fun x hw => hts x (List.mem_cons_of_mem _ hw)
  have hx := Bd.exec
  have hb := Bd.bytes
  have hown : s.vm.findClass "java/lang/String" = some m.cls := findClass_of_methodNamed Bd.named
  have hl := lv_entry [Value.ref a] (n := 1) (Nat.le_refl 1)
  rw [lg_entry_eq]
  generalize (lg_sl [Value.ref a] ++ List.replicate (1 - (lg_sl [Value.ref a]).length) Slot.unset).toArray = ls0 at hl ⊢
  have l0 : ls0[0]? = some (.val (.ref a)) := hl.2.2 (0, .ref a) List.mem_cons_self
  refine va_gets hx hb hF.2.2.2.2.1 va_S.rf hown (hT (.fieldLink "java/lang/String" 38 "java/lang/String" "COMPACT_STRINGS" "Z") (tb_at (j := 191) (by decide +kernel))) (fun _ h => h) (by decide +kernel) ?_
  refine lv_if_eq (off := 10) (tgt := 13) hx hb (by decide +kernel) (by decide) (fun z => absurd z (by decide)) (fun _ => ?_)
  refine lv_aload_n hx hb (k := 0) (by decide +kernel) rfl l0 ?_
  refine vk_getf hx hb hF.2.1 va_S.rf hown (hT (.fieldLink "java/lang/String" 15 "java/lang/String" "coder" "B") (tb_at (j := 559) (by decide +kernel))) (fun _ h => h) (by decide +kernel) ?_
  refine lv_goto (off := 4) (tgt := 14) hx hb (by decide +kernel) (by decide) ?_
  exact W.zret (ty := .byte) hx hb Bd.returns rfl (fun t ht _ => ⟨rfl, ht⟩) (fun q hq => by cases hq) (by decide +kernel)
theorem met_latin (l : Launch) (B a w : Nat) : Met l yLatin (Cond.code yLatin prog_10_method_154_code 1 (some .boolean) :: TB) (rmS 0 0) (va_Pc [.ref a] (strF B a w)) (strQ (some (.int 1))) 0 0 (fun _ => False) := by
  refine va_MetF (cc := prog_10_method_154_code) (maxL := 1) (ret := some .boolean) (by decide +kernel) rfl ?_
  intro p e s m args below meth c s₁ Bd hml hv
  obtain ⟨rfl, hF⟩ := hv
  have hts := atoms_spec (ws := Cond.code yLatin prog_10_method_154_code 1 (some .boolean) :: TB) Bd.pre
  have hT : ∀ x ∈ TB, x.before [Value.ref a].toArray s = true := fun x hw => hts x (List.mem_cons_of_mem _ hw)
  have hx := Bd.exec
  have hb := Bd.bytes
  have hown : s.vm.findClass "java/lang/String" = some m.cls := findClass_of_methodNamed Bd.named
  have hl := lv_entry [Value.ref a] (n := 1) (Nat.le_refl 1)
  rw [lg_entry_eq]
  generalize (lg_sl [Value.ref a] ++ List.replicate (1 - (lg_sl [Value.ref a]).length) Slot.unset).toArray = ls0 at hl ⊢
  have l0 : ls0[0]? = some (.val (.ref a)) := hl.2.2 (0, .ref a) List.mem_cons_self
  refine va_gets hx hb hF.2.2.2.2.1 va_S.rf hown (hT (.fieldLink "java/lang/String" 38 "java/lang/String" "COMPACT_STRINGS" "Z") (tb_at (j := 191) (by decide +kernel))) (fun _ h => h) (by decide +kernel) ?_
  refine lv_if_eq (off := 14) (tgt := 17) hx hb (by decide +kernel) (by decide) (fun z => absurd z (by decide)) (fun _ => ?_)
  refine lv_aload_n hx hb (k := 0) (by decide +kernel) rfl l0 ?_
  refine vk_getf hx hb hF.2.1 va_S.rf hown (hT (.fieldLink "java/lang/String" 15 "java/lang/String" "coder" "B") (tb_at (j := 559) (by decide +kernel))) (fun _ h => h) (by decide +kernel) ?_
  refine lv_if_ne (off := 7) (tgt := 17) hx hb (by decide +kernel) (by decide) (fun z => absurd rfl z) (fun _ => ?_)
  refine lv_iconst hx hb (n := 1) (by decide +kernel) rfl ?_
  refine lv_goto (off := 4) (tgt := 18) hx hb (by decide +kernel) (by decide) ?_
  exact W.zret (ty := .boolean) hx hb Bd.returns rfl (fun t ht _ => ⟨rfl, ht⟩) (fun q hq => by cases hq) (by decide +kernel)
theorem met_len (l : Launch) (B a w : Nat) : Met l yLen (Cond.code yLen prog_10_method_54_code 1 (some .int) :: TB) (rmS 1 20) (va_Pc [.ref a] (strF B a w)) (strQ (some (.int 12))) 0 0 (fun _ => False) := by
  refine va_MetF (cc := prog_10_method_54_code) (maxL := 1) (ret := some .int) (by decide +kernel) rfl ?_
  intro p e s m args below meth c s₁ Bd hml hv
  obtain ⟨rfl, hF⟩ := hv
  have hts := atoms_spec (ws := Cond.code yLen prog_10_method_54_code 1 (some .int) :: TB) Bd.pre
  have hT : ∀ x ∈ TB, x.before [Value.ref a].toArray s = true := fun x hw => hts x (List.mem_cons_of_mem _ hw)
  have hx := Bd.exec
  have hb := Bd.bytes
  have hown : s.vm.findClass "java/lang/String" = some m.cls := findClass_of_methodNamed Bd.named
  have hl := lv_entry [Value.ref a] (n := 1) (Nat.le_refl 1)
  rw [lg_entry_eq]
  generalize (lg_sl [Value.ref a] ++ List.replicate (1 - (lg_sl [Value.ref a]).length) Slot.unset).toArray = ls0 at hl ⊢
  have l0 : ls0[0]? = some (.val (.ref a)) := hl.2.2 (0, .ref a) List.mem_cons_self
  obtain ⟨cell, o1, o2, o3, -⟩ := hF.1
  refine lv_aload_n hx hb (k := 0) (by decide +kernel) rfl l0 ?_
  refine vk_getf hx hb hF.2.2.1 va_S.rf hown (hT (.fieldLink "java/lang/String" 9 "java/lang/String" "value" "[B") (tb_at (j := 558) (by decide +kernel))) (fun _ h => h) (by decide +kernel) ?_
  refine va_tlen hx hb hF.2.2.2.1 va_S.rf (v := 12) (by decide) (by decide +kernel) ?_
  refine lv_aload_n hx hb (k := 0) (by decide +kernel) rfl l0 ?_
  refine s_call (rest := [.int 12]) (va_runV (b := a) (C := "java/lang/String") (As := []) (Ts := TB) (cc := prog_10_method_54_code) (nL := 1) (own := "java/lang/String") ⟨hx, hb, hml, hown, hT⟩ (met_coder l B a w) ⟨callB_of 0 hT (good_cons (tb_at (j := 190) (by decide +kernel))) rfl rfl rfl (hT (.initialized "java/lang/String") (tb_at (j := 59) (by decide +kernel))) (hT (.methodLink "java/lang/String" 335 yCoder) (tb_at (j := 187) (by decide +kernel))) (by decide +kernel) ⟨Nat.le_refl 1, Nat.le_refl 20⟩, hT (.instanceMethod yCoder) (tb_at (j := 188) (by decide +kernel)), hT (.selects "java/lang/String" yCoder yCoder) (tb_at (j := 189) (by decide +kernel))⟩ ⟨strF_blind [.ref a] B a w, ⟨cell, o1, o2, o3⟩, fun U hU hW => ⟨rfl, hF.alike hW.alike hU⟩⟩ rfl rfl hl.1 rfl (lv_room (by decide)) d54_6 ⟨Nat.le_refl 0, Nat.le_refl 0⟩) ?_
  refine lv_ishr hx hb (by decide +kernel) ?_
  have e1 : (12 : Int32) >>> ((0 : Int32) &&& 31) = 12 := by decide
  rw [e1]
  exact W.iret hx hb Bd.returns (fun t ht _ => ⟨rfl, ht⟩) (fun q hq => by cases hq) (by decide +kernel)
