/-! The constructors: Program, Checker, Run. -/
abbrev rA (F : Nat → Option Nat) : Option mC := some (.inl (12, 8, .inr (.inr (.inr (.inr F)))))
def PF (g : Nat → Option mC) (fs : List Value) (F : Nat → Option Nat) (C : Nat → Int32) : Nat → Option mC := va_up (va_up (va_up g 3 (some (.inr (3, fs)))) 4 (rA F)) 5 (some (.inl (0, 8, .inl C)))
def PB (m z : Nat) (g : Nat → Option mC) (fs : List Value) (F : Nat → Option Nat) (C : Nat → Int32) : MH := HP m z (PF g fs F C)
section PROG
variable {m z : Nat} {g : Nat → Option mC} {fs : List Value} {F : Nat → Option Nat} {C : Nat → Int32}
theorem PF_3 : PF g fs F C 3 = some (.inr (3, fs)) := rfl
theorem PF_4 : PF g fs F C 4 = rA F := rfl
theorem PF_5 : PF g fs F C 5 = some (.inl (0, 8, .inl C)) := rfl
theorem PF_o {a : Nat} (h : 6 ≤ a) : PF g fs F C a = g a := by
  unfold PF
  rw [va_up_ne _ _ (by omega), va_up_ne _ _ (by omega), va_up_ne _ _ (by omega)]
theorem PB_0 : OB 4 z g 3 3 fs = PB 4 z g fs F C := HP_ext (fun a ha => by
  unfold PF
  rw [va_up_ne _ _ (show a ≠ 5 by omega), va_up_ne _ _ (show a ≠ 4 by omega)])
theorem PB_1 : (PB m z g fs F C).1 = m := rfl
theorem PB_put {k : Nat} {ty : FieldType} {v : Value} (ho : 3 < m) (hk : k < fs.length) (h1 : narrow ty v = v) (h2 : fits ty v = true) : fputh (PB m z g fs F C) 3 3 k ty v = some (PB m z g (fs.set k v) F C) := by
  have e : (PB m z g fs F C).2.2 3 = some (.inr (3, fs)) := (HP_at ho).trans PF_3
  unfold fputh
  rw [e]
  refine (if_pos ⟨rfl, hk, h1, h2⟩).trans ?_
  have e2 := HP_set (z := z) (g := PF g fs F C) (v := .inr (3, fs.set k v)) ho
  have e3 : va_up (PF g fs F C) 3 (some (.inr (3, fs.set k v))) = PF g (fs.set k v) F C := by
    unfold PF
    rw [up_cm (show 5 ≠ 3 by decide), up_cm (show 4 ≠ 3 by decide), up_up]
  rw [e3] at e2
  exact congrArg some e2
theorem PB_get {k : Nat} {v : Value} (ho : 3 < m) (hv : fs[k]? = some v) : fgetv (PB m z g fs F C) 3 3 k = some v := by
  have e : (PB m z g fs F C).2.2 3 = some (.inr (3, fs)) := (HP_at ho).trans PF_3
  unfold fgetv
  rw [e]
  exact (if_pos rfl).trans hv
theorem PB_ar {k v : Nat} {us : List Value} (ho : v < m) (h4 : 4 < m) (hv : 6 ≤ v) (hk : k < 8) (hg : g v = some (.inr (2, us))) : aputr (PB m z g fs F C) 4 (nI k) v = some (PB m z g fs (va_up F k (some v)) C) := by
  have e : (PB m z g fs F C).2.2 4 = rA F := (HP_at h4).trans PF_4
  have ev : (PB m z g fs F C).2.2 v = some (.inr (2, us)) := (HP_at ho).trans ((PF_o hv).trans hg)
  have ec : clsOf (PB m z g fs F C) v = some 2 := by
    unfold clsOf
    rw [ev]
  have h1 : (nI k).toNatClampNeg = k := nI_clamp (by omega)
  unfold aputr
  rw [e]
  refine (if_pos ⟨by decide, ec, by rw [h1]; exact fun z => z.elim (nI_pos (by omega)) (by omega), by decide⟩).trans ?_
  rw [h1]
  have e2 := HP_set (z := z) (g := PF g fs F C) (v := .inl (12, 8, .inr (.inr (.inr (.inr (va_up F k (some v))))))) h4
  have e3 : va_up (PF g fs F C) 4 (rA (va_up F k (some v))) = PF g fs (va_up F k (some v)) C := by
    unfold PF
    rw [up_cm (show 5 ≠ 4 by decide), up_up]
  have e4 : HP m z (va_up (PF g fs F C) 4 (rA (va_up F k (some v)))) = PB m z g fs (va_up F k (some v)) C := by
    rw [e3]
    rfl
  exact congrArg some (e2.trans e4)
theorem PB_ai {k : Nat} {x : Int32} (h5 : 5 < m) (hk : k < 8) : aputi (PB m z g fs F C) 0 5 (nI k) x = some (PB m z g fs F (upd C k x)) := by
  have e : (PB m z g fs F C).2.2 5 = some (.inl (0, 8, .inl C)) := (HP_at h5).trans PF_5
  have h1 : (nI k).toNatClampNeg = k := nI_clamp (by omega)
  unfold aputi
  rw [e]
  refine (if_pos ⟨rfl, by rw [h1]; exact fun z => z.elim (nI_pos (by omega)) (by omega), by decide⟩).trans ?_
  rw [h1]
  have e2 := HP_set (z := z) (g := PF g fs F C) (v := .inl (0, 8, .inl (upd C k x))) h5
  have e3 : va_up (PF g fs F C) 5 (some (.inl (0, 8, .inl (upd C k x)))) = PF g fs F (upd C k x) := by
    unfold PF
    rw [up_up]
  rw [e3] at e2
  exact congrArg some e2
end PROG
def Fk (k : Nat) : Nat → Option Nat := fun j => if j < k then some (6 + 9 * j) else none
def Ck (k : Nat) : Nat → Int32 := fun j => if j < k then -1 else 0
theorem Fk_s (k : Nat) : va_up (Fk k) k (some (6 + 9 * k)) = Fk (k + 1) := funext (fun j => by
  unfold Fk
  by_cases q : j = k
  · subst q
    rw [va_up_self, if_pos (by omega)]
  · rw [va_up_ne _ _ q]
    by_cases y : j < k
    · rw [if_pos y, if_pos (by omega)]
    · rw [if_neg y, if_neg (by omega)])
theorem Ck_s (k : Nat) : upd (Ck k) k (-1) = Ck (k + 1) := funext (fun j => by
  unfold Ck upd
  by_cases q : j = k
  · subst q
    simp
  · by_cases y : j < k
    · simp [q, y, show j < k + 1 by omega]
    · simp [q, y, show ¬ j < k + 1 by omega])
/-- the eight equations are there -/
def eq8 (g : Nat → Option mC) : Prop := ∀ k, k < 8 → eqC g (6 + 9 * k) ∧ g (6 + 9 * k) = some (.inr (2, eqF (6 + 9 * k)))
theorem PF_eqC {g : Nat → Option mC} {fs : List Value} {F : Nat → Option Nat} {C : Nat → Int32} {e : Nat} (h6 : 6 ≤ e) (h : eqC g e) : eqC (PF g fs F C) e := by
  unfold eqC at h ⊢
  rw [PF_o (by omega), PF_o (by omega), PF_o (by omega), PF_o (by omega), PF_o (by omega), PF_o (by omega), PF_o (by omega), PF_o (by omega)]
  exact h
theorem l_prog (d z : Nat) (g : Nat → Option mC) (hg : eq8 g) : ∀ r k : Nat, k + r = 8 → rn (d + 7) 1 23 [some (.ref 3), some (.int (nI k))] [] (PB (6 + 9 * k) (z + 251 * k) g [.ref 4, .ref 5] (Fk k) (Ck k)) = some (none, PB 78 (z + 2008) g [.ref 4, .ref 5] (Fk 8) (Ck 8)) := by
  intro r
  induction r with
  | zero =>
    intro k hk
    have hk : k = 8 := by omega
    subst hk
    rw [e1_23, e1_24, e1_26, if_neg (show ¬ nI 8 < 8 by decide), e1_55]
  | succ r ih =>
    intro k hk
    have h1 : k < 8 := by omega
    obtain ⟨c1, c2⟩ := hg k h1
    have hl : nI k < 8 := nI_lt (b := 8) h1 (by decide)
    have hi := i_eq d (6 + 9 * k) (z + 251 * k + 11) (PF g [.ref 4, .ref 5] (Fk k) (Ck k)) (PF_eqC (by omega) c1)
    have hen : OB (6 + 9 * k + 9) (z + 251 * k + 11 + 240) (PF g [.ref 4, .ref 5] (Fk k) (Ck k)) (6 + 9 * k) 2 (eqF (6 + 9 * k)) = PB (6 + 9 * (k + 1)) (z + 251 * (k + 1)) g [.ref 4, .ref 5] (Fk k) (Ck k) := by
      rw [OB_end ((PF_o (by omega)).trans c2)]
      have e1 : 6 + 9 * k + 9 = 6 + 9 * (k + 1) := by omega
      have e2 : z + 251 * k + 11 + 240 = z + 251 * (k + 1) := by omega
      rw [e1, e2]
      rfl
    rw [hen] at hi
    have hnew : mkobj (PB (6 + 9 * k) (z + 251 * k) g [.ref 4, .ref 5] (Fk k) (Ck k)) 2 11 [.null, .int 0, .int 0, .int 0, .null, .null, .null, .null, .null, .null, .null] = OB (6 + 9 * k + 1) (z + 251 * k + 11) (PF g [.ref 4, .ref 5] (Fk k) (Ck k)) (6 + 9 * k) 2 [.null, .int 0, .int 0, .int 0, .null, .null, .null, .null, .null, .null, .null] := HP_new
    rw [e1_23, e1_24, e1_26, if_pos hl, e1_29, e1_30, PB_get (v := .ref 4) (by omega) (by rfl), ob, e1_33, e1_34, PB_1, hnew, e1_37, e1_38, hi, ob]
    dsimp only
    rw [tl0, e1_41, PB_ar (by omega) (by omega) (by omega) h1 c2, ob, e1_42, e1_43, PB_get (v := .ref 5) (by omega) (by rfl), ob, e1_46, e1_47, e1_48, PB_ai (by omega) h1, ob, e1_49, e1_52, nI_1, Fk_s, Ck_s]
    exact ih (k + 1) (by omega)
theorem i_prog (d z : Nat) (g : Nat → Option mC) (hg : eq8 g) (h3 : g 3 = some (.inr (3, [.ref 4, .ref 5]))) (h4 : g 4 = rA (Fk 8)) (h5 : g 5 = some (.inl (0, 8, .inl (Ck 8)))) : rn (d + 7) 1 0 [some (.ref 3), none] [] (OB 4 z g 3 3 [.null, .null]) = some (none, HP 78 (z + 2024) g) := by
  have a4 : mkarr (PB 4 z g [.null, .null] (Fk 0) (Ck 0)) 12 8 (.inr (.inr (.inr (.inr (fun _ => none))))) = PB 5 (z + 8) g [.null, .null] (Fk 0) (Ck 0) := HP_arr (by rw [PF_4]; rfl)
  have a5 : mkarr (PB 5 (z + 8) g [.ref 4, .null] (Fk 0) (Ck 0)) 0 8 (.inl (fun _ => 0)) = PB 6 (z + 8 + 8) g [.ref 4, .null] (Fk 0) (Ck 0) := HP_arr (by rw [PF_5]; rfl)
  have hl := l_prog d (z + 8 + 8) g hg 8 0 (by decide)
  have p1 : fputh (PB 5 (z + 8) g [.null, .null] (Fk 0) (Ck 0)) 3 3 0 (.array (.object "FlowEquations$Equation")) (.ref 4) = some (PB 5 (z + 8) g [.ref 4, .null] (Fk 0) (Ck 0)) := PB_put (by omega) (by exact Nat.le_of_ble_eq_true rfl) (by rfl) (by rfl)
  have p2 : fputh (PB 6 (z + 8 + 8) g [.ref 4, .null] (Fk 0) (Ck 0)) 3 3 1 (.array .int) (.ref 5) = some (PB 6 (z + 8 + 8) g [.ref 4, .ref 5] (Fk 0) (Ck 0)) := PB_put (by omega) (by exact Nat.le_of_ble_eq_true rfl) (by rfl) (by rfl)
  rw [PB_0 (F := Fk 0) (C := Ck 0), e1_0, e1_1, e1_4, e1_5, e1_7 (hz := by decide), PB_1, cz8, a4, e1_10, p1, ob, e1_13, e1_14, e1_16 (hz := by decide), PB_1, cz8, a5, e1_18, p2, ob, e1_21, e1_22]
  refine Eq.trans hl ?_
  have e : PB 78 (z + 8 + 8 + 2008) g [.ref 4, .ref 5] (Fk 8) (Ck 8) = HP 78 (z + 2024) g := by
    unfold PB PF
    rw [up_id h3, up_id h4, up_id h5]
  rw [e]
theorem i_chk (d z : Nat) (g : Nat → Option mC) (h : g 79 = zA 0 8) : rn (d + 6) 3 0 [some (.ref 78), some (.ref 3)] [] (OB 79 z g 78 1 [.null, .null]) = some (none, OB 80 (z + 8) g 78 1 [.ref 3, .ref 79]) := by
  rw [e3_0,
    e3_1,
    e3_4,
    e3_5,
    e3_6, OB_put (by omega) (by exact Nat.le_of_ble_eq_true rfl) (by rfl) (by rfl), ob,
    e3_9,
    e3_10,
    e3_12 (hz := by decide), OB_1, cz8, OB_arr h (by omega),
    e3_14, OB_put (by omega) (by exact Nat.le_of_ble_eq_true rfl) (by rfl) (by rfl), ob,
    e3_17]
  rfl
theorem i_run (d z : Nat) (g : Nat → Option mC) (h0 : g 81 = zA 0 4) (h1 : g 82 = zA 0 8) (h2 : g 83 = zA 0 8) (h3 : g 84 = zA 0 8) : rn (d + 6) 4 0 [some (.ref 80), some (.ref 3)] [] (OB 81 z g 80 4 [.null, .null, .null, .null, .null, .int 0, .int 0, .int 0, .int 0, .int 0]) = some (none, OB 85 (z + 28) g 80 4 [.ref 3, .ref 81, .ref 82, .ref 83, .ref 84, .int 0, .int 0, .int 0, .int 0, .int 0]) := by
  rw [e4_0,
    e4_1,
    e4_4,
    e4_5,
    e4_6, OB_put (by omega) (by exact Nat.le_of_ble_eq_true rfl) (by rfl) (by rfl), ob,
    e4_9,
    e4_10,
    e4_11 (hz := by decide), OB_1, cz4, OB_arr h0 (by omega),
    e4_13, OB_put (by omega) (by exact Nat.le_of_ble_eq_true rfl) (by rfl) (by rfl), ob,
    e4_16,
    e4_17,
    e4_19 (hz := by decide), OB_1, cz8, OB_arr h1 (by omega),
    e4_21, OB_put (by omega) (by exact Nat.le_of_ble_eq_true rfl) (by rfl) (by rfl), ob,
    e4_24,
    e4_25,
    e4_27 (hz := by decide), OB_1, cz8, OB_arr h2 (by omega),
    e4_29, OB_put (by omega) (by exact Nat.le_of_ble_eq_true rfl) (by rfl) (by rfl), ob,
    e4_32,
    e4_33,
    e4_35 (hz := by decide), OB_1, cz8, OB_arr h3 (by omega),
    e4_37, OB_put (by omega) (by exact Nat.le_of_ble_eq_true rfl) (by rfl) (by rfl), ob,
    e4_40,
    e4_41,
    e4_42, OB_put (by omega) (by exact Nat.le_of_ble_eq_true rfl) (by rfl) (by rfl), ob,
    e4_45,
    e4_46,
    e4_47, OB_put (by omega) (by exact Nat.le_of_ble_eq_true rfl) (by rfl) (by rfl), ob,
    e4_50,
    e4_51,
    e4_52, OB_put (by omega) (by exact Nat.le_of_ble_eq_true rfl) (by rfl) (by rfl), ob,
    e4_55,
    e4_56,
    e4_57, OB_put (by omega) (by exact Nat.le_of_ble_eq_true rfl) (by rfl) (by rfl), ob,
    e4_60,
    e4_61,
    e4_62, OB_put (by omega) (by exact Nat.le_of_ble_eq_true rfl) (by rfl) (by rfl), ob,
    e4_65]
  rfl
