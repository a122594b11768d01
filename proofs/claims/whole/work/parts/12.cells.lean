/-! The cells behind the two constructors: their kinds and lengths are fixed, what they hold is one function s: address, place, number.
1 FlowEquations, 2 line, 3 Program, 4 equations, 5 clocks, 6 + 9 v the v-th Equation (text, parts, named, isTerm, insideP, termClocks, termValues, memories behind it), 78 Checker, 79 needs, 80 Run, 81 inputs, 82 values, 83 presences, 84 order, 85 the draft; 94 the reference, 95 line, 96 code, 97 size, 98 end, 99 fits, 100 inside, 101 val, 102 memory, 103 term, 104 lineTerm, 105 clock, 106 input, 107 present, 108 done, 109 needs, 110 now, 111 presences, 112 actives, 113 expected. -/
abbrev St : Type := Nat → Nat → Int32
def kdL : List Nat := [0, 100, 0, 103, 12, 0, 102, 0, 0, 0, 1, 1, 0, 0, 0, 102, 0, 0, 0, 1, 1, 0, 0, 0, 102, 0, 0, 0, 1, 1, 0, 0, 0, 102, 0, 0, 0, 1, 1, 0, 0, 0, 102, 0, 0, 0, 1, 1, 0, 0, 0, 102, 0, 0, 0, 1, 1, 0, 0, 0, 102, 0, 0, 0, 1, 1, 0, 0, 0, 102, 0, 0, 0, 1, 1, 0, 0, 0, 101, 0, 104, 0, 0, 0, 0, 102, 0, 0, 0, 1, 1, 0, 0, 0, 105, 0, 0, 0, 0, 0, 0, 0, 0, 1, 1, 0, 0, 1, 1, 1, 0, 0, 0, 0]
def alL : List Nat := [0, 0, 24, 0, 8, 8, 0, 24, 72, 24, 24, 24, 24, 24, 24, 0, 24, 72, 24, 24, 24, 24, 24, 24, 0, 24, 72, 24, 24, 24, 24, 24, 24, 0, 24, 72, 24, 24, 24, 24, 24, 24, 0, 24, 72, 24, 24, 24, 24, 24, 24, 0, 24, 72, 24, 24, 24, 24, 24, 24, 0, 24, 72, 24, 24, 24, 24, 24, 24, 0, 24, 72, 24, 24, 24, 24, 24, 24, 0, 8, 0, 4, 8, 8, 8, 0, 24, 72, 24, 24, 24, 24, 24, 24, 0, 24, 192, 8, 192, 192, 192, 192, 192, 192, 24, 8, 4, 8, 8, 64, 8, 8, 9, 24]
def kd (a : Nat) : Nat := kdL.getD a 99
def al (L a : Nat) : Nat := if a = 0 then L else alL.getD a 0
def fl (ci : Nat) (s : St) (a : Nat) : List Value := match ci with
  | 0 => [.ref 2, .int (s a 1), .int (s a 2), .ref 3, .ref 78, .ref 80, .ref (s a 6).toNatClampNeg, .int (s a 7)]
  | 1 => [.ref 3, .ref 79]
  | 2 => [.ref (a + 1), .int (s a 1), .int (s a 2), .int (s a 3), .ref (a + 2), .ref (a + 3), .ref (a + 4), .ref (a + 5), .ref (a + 6), .ref (a + 7), .ref (a + 8)]
  | 3 => [.ref 4, .ref 5]
  | 4 => [.ref 3, .ref 81, .ref 82, .ref 83, .ref 84, .int (s a 5), .int (s a 6), .int (s a 7), .int (s a 8), .int (s a 9)]
  | _ => [.ref 95, .int (s a 1), .int (s a 2), .int (s a 3), .ref 96, .ref 97, .ref 98, .ref 99, .ref 100, .ref 101, .ref 102, .ref 103, .ref 104, .ref 105, .ref 106, .int (s a 15), .int (s a 16), .ref 107, .ref 108, .ref 109, .ref 110, .ref 111, .ref 112, .ref 113]
def hpK (L : Nat) (s : St) (a k : Nat) : Option mC :=
  if k = 0 then some (.inl (0, al L a, .inl (s a)))
  else if k = 1 then some (.inl (1, al L a, .inl (s a)))
  else if k = 12 then some (.inl (12, al L a, .inr (.inr (.inr (.inr (fun j => if j < 8 then some (s a j).toNatClampNeg else none))))))
  else if 100 ≤ k then some (.inr (k - 100, fl (k - 100) s a))
  else none
def hp (L : Nat) (s : St) (a : Nat) : Option mC := hpK L s a (kd a)
def hH (L : Nat) (s : St) : MH := (114, 3922, hp L s)
/-- one number changes -/
def sU (s : St) (a j : Nat) (x : Int32) : St := fun b k => if b = a ∧ k = j then x else s b k
theorem sU_same (s : St) (a j : Nat) (x : Int32) : sU s a j x a j = x := by simp [sU]
theorem sU_a (s : St) {a b : Nat} (j k : Nat) (x : Int32) (h : b ≠ a) : sU s a j x b k = s b k := by simp [sU, h]
theorem sU_j (s : St) (a b : Nat) {j k : Nat} (x : Int32) (h : k ≠ j) : sU s a j x b k = s b k := by simp [sU, h]
theorem hp_off {L : Nat} {s t : St} {b : Nat} (h : ∀ j, s b j = t b j) : hp L s b = hp L t b := by
  have e : s b = t b := funext h
  have f : ∀ ci, fl ci s b = fl ci t b := by
    intro ci
    unfold fl
    split <;> simp only [e]
  unfold hp hpK
  simp only [e, f]
theorem hp_up {L : Nat} {s : St} {a j : Nat} {x : Int32} {c : mC} (h : hp L (sU s a j x) a = some c) : va_up (hp L s) a (some c) = hp L (sU s a j x) := by
  funext b
  by_cases hb : b = a
  · subst hb
    rw [va_up_self, h]
  · rw [va_up_ne _ _ hb]
    exact hp_off (fun k => (sU_a s j k x hb).symm)
theorem hp_arr {L : Nat} {s : St} {a t : Nat} (hk : kd a = t) (ht : t = 0 ∨ t = 1) : hp L s a = some (.inl (t, al L a, .inl (s a))) := by
  unfold hp hpK
  rw [hk]
  rcases ht with rfl | rfl <;> rfl
theorem ag {L : Nat} {s : St} {t a : Nat} {i : Int32} (hk : kd a = t) (ht : t = 0 ∨ t = 1) (hi : ¬ (i < 0 ∨ al L a ≤ i.toNatClampNeg)) : ageti (hH L s) t a i = some (s a i.toNatClampNeg) := by
  have e : (hH L s).2.2 a = some (.inl (t, al L a, .inl (s a))) := hp_arr hk ht
  unfold ageti
  rw [e]
  exact if_pos ⟨rfl, hi⟩
theorem upd_sU (s : St) (a j : Nat) (x : Int32) : upd (s a) j x = sU s a j x a := by
  funext k
  by_cases hk : k = j
  · subst hk; simp [upd, sU]
  · simp [upd, sU, hk]
theorem ap {L : Nat} {s : St} {t a : Nat} {i x : Int32} (hk : kd a = t) (ht : t = 0 ∨ t = 1) (hi : ¬ (i < 0 ∨ al L a ≤ i.toNatClampNeg)) (h0 : a ≠ 0) : aputi (hH L s) t a i x = some (hH L (sU s a i.toNatClampNeg x)) := by
  have e : (hH L s).2.2 a = some (.inl (t, al L a, .inl (s a))) := hp_arr hk ht
  unfold aputi
  rw [e]
  refine (if_pos ⟨rfl, hi, h0⟩).trans ?_
  show some (114, 3922, va_up (hp L s) a (some (.inl (t, al L a, .inl (upd (s a) i.toNatClampNeg x))))) = some (114, 3922, hp L (sU s a i.toNatClampNeg x))
  rw [hp_up (j := i.toNatClampNeg) (x := x) (by rw [hp_arr hk ht, upd_sU])]
theorem ag_n {L : Nat} {s : St} {t a k : Nat} (hk : kd a = t) (ht : t = 0 ∨ t = 1) (hi : k < al L a) (hl : al L a < 2147483648) : ageti (hH L s) t a (nI k) = some (s a k) := by
  have h1 : (nI k).toNatClampNeg = k := nI_clamp (by omega)
  have h2 := ag (L := L) (s := s) (i := nI k) hk ht (by rw [h1]; exact fun z => z.elim (nI_pos (by omega)) (by omega))
  rw [h1] at h2
  exact h2
theorem ap_n {L : Nat} {s : St} {t a k : Nat} {x : Int32} (hk : kd a = t) (ht : t = 0 ∨ t = 1) (hi : k < al L a) (hl : al L a < 2147483648) (h0 : a ≠ 0) : aputi (hH L s) t a (nI k) x = some (hH L (sU s a k x)) := by
  have h1 : (nI k).toNatClampNeg = k := nI_clamp (by omega)
  have h2 := ap (L := L) (s := s) (i := nI k) (x := x) hk ht (by rw [h1]; exact fun z => z.elim (nI_pos (by omega)) (by omega)) h0
  rw [h1] at h2
  exact h2
/-- the nine equations -/
def isE (e : Nat) : Prop := e = 6 ∨ e = 15 ∨ e = 24 ∨ e = 33 ∨ e = 42 ∨ e = 51 ∨ e = 60 ∨ e = 69 ∨ e = 85
theorem isE_kd {e : Nat} (h : isE e) : kd e = 102 ∧ (kd (e + 1) = 0 ∧ kd (e + 2) = 0 ∧ kd (e + 3) = 0 ∧ kd (e + 4) = 1 ∧ kd (e + 5) = 1 ∧ kd (e + 6) = 0 ∧ kd (e + 7) = 0 ∧ kd (e + 8) = 0) ∧ ∀ L, al L (e + 1) = 24 ∧ al L (e + 2) = 72 ∧ al L (e + 3) = 24 ∧ al L (e + 4) = 24 ∧ al L (e + 5) = 24 ∧ al L (e + 6) = 24 ∧ al L (e + 7) = 24 ∧ al L (e + 8) = 24 := by
  rcases h with rfl | rfl | rfl | rfl | rfl | rfl | rfl | rfl | rfl <;> exact ⟨rfl, ⟨rfl, rfl, rfl, rfl, rfl, rfl, rfl, rfl⟩, fun L => ⟨rfl, rfl, rfl, rfl, rfl, rfl, rfl, rfl⟩⟩
theorem isE_ge {e : Nat} (h : isE e) : 6 ≤ e ∧ e ≤ 85 := by
  rcases h with rfl | rfl | rfl | rfl | rfl | rfl | rfl | rfl | rfl <;> decide
theorem hp_obj {L : Nat} {s : St} {a ci : Nat} (hk : kd a = 100 + ci) : hp L s a = some (.inr (ci, fl ci s a)) := by
  unfold hp hpK
  rw [hk, if_neg (by omega), if_neg (by omega), if_neg (by omega), if_pos (by omega), Nat.add_sub_cancel_left]
theorem fg {L : Nat} {s : St} {a ci k : Nat} {v : Value} (hk : kd a = 100 + ci) (hv : (fl ci s a)[k]? = some v) : fgetv (hH L s) a ci k = some v := by
  have e : (hH L s).2.2 a = some (.inr (ci, fl ci s a)) := hp_obj hk
  unfold fgetv
  rw [e]
  simp only [if_true]
  exact hv
theorem fp {L : Nat} {s : St} {a ci k : Nat} {v : Value} {x : Int32} {ty : FieldType} (hk : kd a = 100 + ci) (hl : k < (fl ci s a).length) (hn : narrow ty v = v) (hf : fits ty v = true) (he : (fl ci s a).set k v = fl ci (sU s a k x) a) : fputh (hH L s) a ci k ty v = some (hH L (sU s a k x)) := by
  have e : (hH L s).2.2 a = some (.inr (ci, fl ci s a)) := hp_obj hk
  unfold fputh
  rw [e]
  refine (if_pos ⟨rfl, hl, hn, hf⟩).trans ?_
  show some (114, 3922, va_up (hp L s) a (some (.inr (ci, (fl ci s a).set k v)))) = some (114, 3922, hp L (sU s a k x))
  rw [he, hp_up (j := k) (x := x) (hp_obj hk)]
theorem co {L : Nat} {s : St} {a ci : Nat} (hk : kd a = 100 + ci) : clsOf (hH L s) a = some ci := by
  have e : (hH L s).2.2 a = some (.inr (ci, fl ci s a)) := hp_obj hk
  unfold clsOf
  rw [e]
section FLD
variable (L : Nat) (s : St)
theorem cq_1 : clsOf (hH L s) 1 = some 0 := co rfl
theorem fg_1_0 : fgetv (hH L s) 1 0 0 = some (.ref 2) := fg rfl rfl
theorem fg_1_1 : fgetv (hH L s) 1 0 1 = some (.int (s 1 1)) := fg rfl rfl
theorem fp_1_1 (x : Int32) : fputh (hH L s) 1 0 1 .int (.int x) = some (hH L (sU s 1 1 x)) := fp rfl (Nat.le_of_ble_eq_true rfl) rfl rfl rfl
theorem fg_1_2 : fgetv (hH L s) 1 0 2 = some (.int (s 1 2)) := fg rfl rfl
theorem fp_1_2 (x : Int32) : fputh (hH L s) 1 0 2 .int (.int x) = some (hH L (sU s 1 2 x)) := fp rfl (Nat.le_of_ble_eq_true rfl) rfl rfl rfl
theorem fg_1_3 : fgetv (hH L s) 1 0 3 = some (.ref 3) := fg rfl rfl
theorem fg_1_4 : fgetv (hH L s) 1 0 4 = some (.ref 78) := fg rfl rfl
theorem fg_1_5 : fgetv (hH L s) 1 0 5 = some (.ref 80) := fg rfl rfl
theorem fg_1_6 : fgetv (hH L s) 1 0 6 = some (.ref (s 1 6).toNatClampNeg) := fg rfl rfl
theorem fg_1_7 : fgetv (hH L s) 1 0 7 = some (.int (s 1 7)) := fg rfl rfl
theorem fp_1_7_0 : fputh (hH L s) 1 0 7 .boolean (.int 0) = some (hH L (sU s 1 7 0)) := fp rfl (Nat.le_of_ble_eq_true rfl) rfl rfl rfl
theorem fp_1_7_1 : fputh (hH L s) 1 0 7 .boolean (.int 1) = some (hH L (sU s 1 7 1)) := fp rfl (Nat.le_of_ble_eq_true rfl) rfl rfl rfl
theorem cq_78 : clsOf (hH L s) 78 = some 1 := co rfl
theorem fg_78_0 : fgetv (hH L s) 78 1 0 = some (.ref 3) := fg rfl rfl
theorem fg_78_1 : fgetv (hH L s) 78 1 1 = some (.ref 79) := fg rfl rfl
theorem cq_3 : clsOf (hH L s) 3 = some 3 := co rfl
theorem fg_3_0 : fgetv (hH L s) 3 3 0 = some (.ref 4) := fg rfl rfl
theorem fg_3_1 : fgetv (hH L s) 3 3 1 = some (.ref 5) := fg rfl rfl
theorem cq_80 : clsOf (hH L s) 80 = some 4 := co rfl
theorem fg_80_0 : fgetv (hH L s) 80 4 0 = some (.ref 3) := fg rfl rfl
theorem fg_80_1 : fgetv (hH L s) 80 4 1 = some (.ref 81) := fg rfl rfl
theorem fg_80_2 : fgetv (hH L s) 80 4 2 = some (.ref 82) := fg rfl rfl
theorem fg_80_3 : fgetv (hH L s) 80 4 3 = some (.ref 83) := fg rfl rfl
theorem fg_80_4 : fgetv (hH L s) 80 4 4 = some (.ref 84) := fg rfl rfl
theorem fg_80_5 : fgetv (hH L s) 80 4 5 = some (.int (s 80 5)) := fg rfl rfl
theorem fp_80_5 (x : Int32) : fputh (hH L s) 80 4 5 .int (.int x) = some (hH L (sU s 80 5 x)) := fp rfl (Nat.le_of_ble_eq_true rfl) rfl rfl rfl
theorem fg_80_6 : fgetv (hH L s) 80 4 6 = some (.int (s 80 6)) := fg rfl rfl
theorem fp_80_6 (x : Int32) : fputh (hH L s) 80 4 6 .int (.int x) = some (hH L (sU s 80 6 x)) := fp rfl (Nat.le_of_ble_eq_true rfl) rfl rfl rfl
theorem fg_80_7 : fgetv (hH L s) 80 4 7 = some (.int (s 80 7)) := fg rfl rfl
theorem fp_80_7 (x : Int32) : fputh (hH L s) 80 4 7 .int (.int x) = some (hH L (sU s 80 7 x)) := fp rfl (Nat.le_of_ble_eq_true rfl) rfl rfl rfl
theorem fg_80_8 : fgetv (hH L s) 80 4 8 = some (.int (s 80 8)) := fg rfl rfl
theorem fp_80_8 (x : Int32) : fputh (hH L s) 80 4 8 .int (.int x) = some (hH L (sU s 80 8 x)) := fp rfl (Nat.le_of_ble_eq_true rfl) rfl rfl rfl
theorem fg_80_9 : fgetv (hH L s) 80 4 9 = some (.int (s 80 9)) := fg rfl rfl
theorem fp_80_9 (x : Int32) : fputh (hH L s) 80 4 9 .int (.int x) = some (hH L (sU s 80 9 x)) := fp rfl (Nat.le_of_ble_eq_true rfl) rfl rfl rfl
theorem cq_94 : clsOf (hH L s) 94 = some 5 := co rfl
theorem fg_94_0 : fgetv (hH L s) 94 5 0 = some (.ref 95) := fg rfl rfl
theorem fg_94_1 : fgetv (hH L s) 94 5 1 = some (.int (s 94 1)) := fg rfl rfl
theorem fp_94_1 (x : Int32) : fputh (hH L s) 94 5 1 .int (.int x) = some (hH L (sU s 94 1 x)) := fp rfl (Nat.le_of_ble_eq_true rfl) rfl rfl rfl
theorem fg_94_2 : fgetv (hH L s) 94 5 2 = some (.int (s 94 2)) := fg rfl rfl
theorem fp_94_2 (x : Int32) : fputh (hH L s) 94 5 2 .int (.int x) = some (hH L (sU s 94 2 x)) := fp rfl (Nat.le_of_ble_eq_true rfl) rfl rfl rfl
theorem fg_94_3 : fgetv (hH L s) 94 5 3 = some (.int (s 94 3)) := fg rfl rfl
theorem fp_94_3 (x : Int32) : fputh (hH L s) 94 5 3 .int (.int x) = some (hH L (sU s 94 3 x)) := fp rfl (Nat.le_of_ble_eq_true rfl) rfl rfl rfl
theorem fg_94_4 : fgetv (hH L s) 94 5 4 = some (.ref 96) := fg rfl rfl
theorem fg_94_5 : fgetv (hH L s) 94 5 5 = some (.ref 97) := fg rfl rfl
theorem fg_94_6 : fgetv (hH L s) 94 5 6 = some (.ref 98) := fg rfl rfl
theorem fg_94_7 : fgetv (hH L s) 94 5 7 = some (.ref 99) := fg rfl rfl
theorem fg_94_8 : fgetv (hH L s) 94 5 8 = some (.ref 100) := fg rfl rfl
theorem fg_94_9 : fgetv (hH L s) 94 5 9 = some (.ref 101) := fg rfl rfl
theorem fg_94_10 : fgetv (hH L s) 94 5 10 = some (.ref 102) := fg rfl rfl
theorem fg_94_11 : fgetv (hH L s) 94 5 11 = some (.ref 103) := fg rfl rfl
theorem fg_94_12 : fgetv (hH L s) 94 5 12 = some (.ref 104) := fg rfl rfl
theorem fg_94_13 : fgetv (hH L s) 94 5 13 = some (.ref 105) := fg rfl rfl
theorem fg_94_14 : fgetv (hH L s) 94 5 14 = some (.ref 106) := fg rfl rfl
theorem fg_94_15 : fgetv (hH L s) 94 5 15 = some (.int (s 94 15)) := fg rfl rfl
theorem fp_94_15_0 : fputh (hH L s) 94 5 15 .boolean (.int 0) = some (hH L (sU s 94 15 0)) := fp rfl (Nat.le_of_ble_eq_true rfl) rfl rfl rfl
theorem fp_94_15_1 : fputh (hH L s) 94 5 15 .boolean (.int 1) = some (hH L (sU s 94 15 1)) := fp rfl (Nat.le_of_ble_eq_true rfl) rfl rfl rfl
theorem fg_94_16 : fgetv (hH L s) 94 5 16 = some (.int (s 94 16)) := fg rfl rfl
theorem fp_94_16 (x : Int32) : fputh (hH L s) 94 5 16 .int (.int x) = some (hH L (sU s 94 16 x)) := fp rfl (Nat.le_of_ble_eq_true rfl) rfl rfl rfl
theorem fg_94_17 : fgetv (hH L s) 94 5 17 = some (.ref 107) := fg rfl rfl
theorem fg_94_18 : fgetv (hH L s) 94 5 18 = some (.ref 108) := fg rfl rfl
theorem fg_94_19 : fgetv (hH L s) 94 5 19 = some (.ref 109) := fg rfl rfl
theorem fg_94_20 : fgetv (hH L s) 94 5 20 = some (.ref 110) := fg rfl rfl
theorem fg_94_21 : fgetv (hH L s) 94 5 21 = some (.ref 111) := fg rfl rfl
theorem fg_94_22 : fgetv (hH L s) 94 5 22 = some (.ref 112) := fg rfl rfl
theorem fg_94_23 : fgetv (hH L s) 94 5 23 = some (.ref 113) := fg rfl rfl
theorem fp_1_6 (e : Nat) (he : e < 2147483648) : fputh (hH L s) 1 0 6 (.object "FlowEquations$Equation") (.ref e) = some (hH L (sU s 1 6 (nI e))) := by
  refine fp rfl (Nat.le_of_ble_eq_true rfl) rfl rfl ?_
  simp only [fl, sU, List.set_cons_succ, List.set_cons_zero]
  simp [nI_clamp he]
variable {e : Nat}
theorem cq_E (h : isE e) : clsOf (hH L s) e = some 2 := co (isE_kd h).1
theorem fg_E_0 (h : isE e) : fgetv (hH L s) e 2 0 = some (.ref (e + 1)) := fg (isE_kd h).1 rfl
theorem fg_E_1 (h : isE e) : fgetv (hH L s) e 2 1 = some (.int (s e 1)) := fg (isE_kd h).1 rfl
theorem fp_E_1 (h : isE e) (x : Int32) : fputh (hH L s) e 2 1 .int (.int x) = some (hH L (sU s e 1 x)) := fp (isE_kd h).1 (Nat.le_of_ble_eq_true rfl) rfl rfl (by simp [fl, sU])
theorem fg_E_2 (h : isE e) : fgetv (hH L s) e 2 2 = some (.int (s e 2)) := fg (isE_kd h).1 rfl
theorem fp_E_2 (h : isE e) (x : Int32) : fputh (hH L s) e 2 2 .int (.int x) = some (hH L (sU s e 2 x)) := fp (isE_kd h).1 (Nat.le_of_ble_eq_true rfl) rfl rfl (by simp [fl, sU])
theorem fg_E_3 (h : isE e) : fgetv (hH L s) e 2 3 = some (.int (s e 3)) := fg (isE_kd h).1 rfl
theorem fp_E_3 (h : isE e) (x : Int32) : fputh (hH L s) e 2 3 .int (.int x) = some (hH L (sU s e 3 x)) := fp (isE_kd h).1 (Nat.le_of_ble_eq_true rfl) rfl rfl (by simp [fl, sU])
theorem fg_E_4 (h : isE e) : fgetv (hH L s) e 2 4 = some (.ref (e + 2)) := fg (isE_kd h).1 rfl
theorem fg_E_5 (h : isE e) : fgetv (hH L s) e 2 5 = some (.ref (e + 3)) := fg (isE_kd h).1 rfl
theorem fg_E_6 (h : isE e) : fgetv (hH L s) e 2 6 = some (.ref (e + 4)) := fg (isE_kd h).1 rfl
theorem fg_E_7 (h : isE e) : fgetv (hH L s) e 2 7 = some (.ref (e + 5)) := fg (isE_kd h).1 rfl
theorem fg_E_8 (h : isE e) : fgetv (hH L s) e 2 8 = some (.ref (e + 6)) := fg (isE_kd h).1 rfl
theorem fg_E_9 (h : isE e) : fgetv (hH L s) e 2 9 = some (.ref (e + 7)) := fg (isE_kd h).1 rfl
theorem fg_E_10 (h : isE e) : fgetv (hH L s) e 2 10 = some (.ref (e + 8)) := fg (isE_kd h).1 rfl
end FLD
