/-! The constructors: what lies in the cells when the law begins. -/
def HP (m z : Nat) (g : Nat → Option mC) : MH := (m, z, fun a => if a < m then g a else none)
theorem HP_fn {m : Nat} {g g' : Nat → Option mC} (h : ∀ a, a < m → g a = g' a) : (fun a => if a < m then g a else none) = (fun a => if a < m then g' a else none) := funext (fun a => by
  by_cases q : a < m
  · rw [if_pos q, if_pos q, h a q]
  · rw [if_neg q, if_neg q])
theorem HP_ext {m z : Nat} {g g' : Nat → Option mC} (h : ∀ a, a < m → g a = g' a) : HP m z g = HP m z g' := by
  unfold HP
  rw [HP_fn h]
theorem HP_up {m z : Nat} {g : Nat → Option mC} {v : mC} : ((m + 1, z, va_up (fun a => if a < m then g a else none) m (some v)) : MH) = HP (m + 1) z (va_up g m (some v)) := by
  have e : va_up (fun a => if a < m then g a else none) m (some v) = (fun a => if a < m + 1 then va_up g m (some v) a else none) := funext (fun a => by
    by_cases q : a = m
    · subst q
      rw [va_up_self, va_up_self, if_pos (by omega)]
    · rw [va_up_ne _ _ q, va_up_ne _ _ q]
      by_cases y : a < m
      · rw [if_pos y, if_pos (by omega)]
      · rw [if_neg y, if_neg (by omega)])
  unfold HP
  rw [e]
theorem HP_at {m z a : Nat} {g : Nat → Option mC} (ha : a < m) : (HP m z g).2.2 a = g a := if_pos ha
theorem HP_arr {m z t n : Nat} {g : Nat → Option mC} {x : (Nat → Int32) ⊕ (Nat → Int64) ⊕ (Nat → UInt32) ⊕ (Nat → UInt64) ⊕ (Nat → Option Nat)} (h : g m = some (.inl (t, n, x))) : mkarr (HP m z g) t n x = HP (m + 1) (z + n) g := by
  show ((m + 1, z + n, va_up (fun a => if a < m then g a else none) m (some (.inl (t, n, x)))) : MH) = _
  rw [HP_up]
  refine HP_ext (fun a _ => ?_)
  by_cases q : a = m
  · subst q
    rw [va_up_self, h]
  · rw [va_up_ne _ _ q]
/-- an object under construction -/
def OB (m z : Nat) (g : Nat → Option mC) (o ci : Nat) (fs : List Value) : MH := HP m z (va_up g o (some (.inr (ci, fs))))
theorem OB_1 {m z o ci : Nat} {g : Nat → Option mC} {fs : List Value} : (OB m z g o ci fs).1 = m := rfl
theorem HP_1 {m z : Nat} {g : Nat → Option mC} : (HP m z g).1 = m := rfl
theorem HP_new {m z ci n : Nat} {g : Nat → Option mC} {fs : List Value} : mkobj (HP m z g) ci n fs = OB (m + 1) (z + n) g m ci fs := HP_up
theorem OB_new {m z o ci ci2 n : Nat} {g : Nat → Option mC} {fs fs2 : List Value} : mkobj (OB m z g o ci fs) ci2 n fs2 = OB (m + 1) (z + n) (va_up g o (some (.inr (ci, fs)))) m ci2 fs2 := HP_up
theorem OB_arr {m z o ci t n : Nat} {g : Nat → Option mC} {fs : List Value} {x : (Nat → Int32) ⊕ (Nat → Int64) ⊕ (Nat → UInt32) ⊕ (Nat → UInt64) ⊕ (Nat → Option Nat)} (h : g m = some (.inl (t, n, x))) (hm : m ≠ o) : mkarr (OB m z g o ci fs) t n x = OB (m + 1) (z + n) g o ci fs := HP_arr (by rw [va_up_ne _ _ hm]; exact h)
theorem OB_at {m z o ci : Nat} {g : Nat → Option mC} {fs : List Value} (ho : o < m) : (OB m z g o ci fs).2.2 o = some (.inr (ci, fs)) := (HP_at ho).trans (va_up_self _ _ _)
theorem HP_set {m z o : Nat} {g : Nat → Option mC} {v : mC} (ho : o < m) : ((m, z, va_up (fun a => if a < m then g a else none) o (some v)) : MH) = HP m z (va_up g o (some v)) := by
  have e : va_up (fun a => if a < m then g a else none) o (some v) = (fun a => if a < m then va_up g o (some v) a else none) := funext (fun a => by
    by_cases q : a = o
    · subst q
      rw [va_up_self, va_up_self, if_pos ho]
    · rw [va_up_ne _ _ q, va_up_ne _ _ q])
  unfold HP
  rw [e]
theorem up_up {g : Nat → Option mC} {o : Nat} {v w : Option mC} : va_up (va_up g o v) o w = va_up g o w := funext (fun a => by
  by_cases q : a = o
  · subst q
    rw [va_up_self, va_up_self]
  · rw [va_up_ne _ _ q, va_up_ne _ _ q, va_up_ne _ _ q])
theorem up_cm {g : Nat → Option mC} {o p : Nat} {v w : Option mC} (h : o ≠ p) : va_up (va_up g o v) p w = va_up (va_up g p w) o v := funext (fun a => by
  by_cases q : a = o
  · subst q
    rw [va_up_ne _ _ h, va_up_self, va_up_self]
  · by_cases y : a = p
    · subst y
      rw [va_up_self, va_up_ne _ _ q, va_up_self]
    · rw [va_up_ne _ _ y, va_up_ne _ _ q, va_up_ne _ _ q, va_up_ne _ _ y])
theorem up_id {g : Nat → Option mC} {o : Nat} {v : Option mC} (h : g o = v) : va_up g o v = g := funext (fun a => by
  by_cases q : a = o
  · subst q
    rw [va_up_self, h]
  · rw [va_up_ne _ _ q])
theorem OB_put {m z o ci k : Nat} {g : Nat → Option mC} {fs : List Value} {ty : FieldType} {v : Value} (ho : o < m) (hk : k < fs.length) (h1 : narrow ty v = v) (h2 : fits ty v = true) : fputh (OB m z g o ci fs) o ci k ty v = some (OB m z g o ci (fs.set k v)) := by
  unfold fputh
  rw [OB_at ho]
  refine (if_pos ⟨rfl, hk, h1, h2⟩).trans ?_
  have e := HP_set (z := z) (g := va_up g o (some (.inr (ci, fs)))) (v := .inr (ci, fs.set k v)) ho
  rw [up_up] at e
  exact congrArg some e
theorem OB_get {m z o ci k : Nat} {g : Nat → Option mC} {fs : List Value} {v : Value} (ho : o < m) (hv : fs[k]? = some v) : fgetv (OB m z g o ci fs) o ci k = some v := by
  unfold fgetv
  rw [OB_at ho]
  exact (if_pos rfl).trans hv
theorem OB_end {m z o ci : Nat} {g : Nat → Option mC} {fs : List Value} (h : g o = some (.inr (ci, fs))) : OB m z g o ci fs = HP m z g := by
  unfold OB
  rw [up_id h]
abbrev zA (t n : Nat) : Option mC := some (.inl (t, n, .inl (fun _ => 0)))
theorem cz24 : (24 : Int32).toNatClampNeg = 24 := by decide
theorem cz72 : (72 : Int32).toNatClampNeg = 72 := by decide
theorem cz8 : (8 : Int32).toNatClampNeg = 8 := by decide
theorem cz4 : (4 : Int32).toNatClampNeg = 4 := by decide
theorem cz9 : (9 : Int32).toNatClampNeg = 9 := by decide
theorem cz64 : (64 : Int32).toNatClampNeg = 64 := by decide
theorem cz192 : (192 : Int32).toNatClampNeg = 192 := by decide
/-- an Equation's arrays -/
def eqC (g : Nat → Option mC) (e : Nat) : Prop := g (e + 1) = zA 0 24 ∧ g (e + 2) = zA 0 72 ∧ g (e + 3) = zA 0 24 ∧ g (e + 4) = zA 1 24 ∧ g (e + 5) = zA 1 24 ∧ g (e + 6) = zA 0 24 ∧ g (e + 7) = zA 0 24 ∧ g (e + 8) = zA 0 24
def eqF (e : Nat) : List Value := [.ref (e + 1), .int 0, .int 0, .int (-1), .ref (e + 2), .ref (e + 3), .ref (e + 4), .ref (e + 5), .ref (e + 6), .ref (e + 7), .ref (e + 8)]
theorem i_eq (d e z : Nat) (g : Nat → Option mC) (h : eqC g e) : rn (d + 6) 2 0 [some (.ref e)] [] (OB (e + 1) z g e 2 [.null, .int 0, .int 0, .int 0, .null, .null, .null, .null, .null, .null, .null]) = some (none, OB (e + 9) (z + 240) g e 2 (eqF e)) := by
  obtain ⟨h0, h1, h2, h3, h4, h5, h6, h7⟩ := h
  rw [e2_0,
    e2_1,
    e2_4,
    e2_5,
    e2_7 (hz := by decide), OB_1, cz24, OB_arr h0 (by omega),
    e2_9, OB_put (by omega) (by exact Nat.le_of_ble_eq_true rfl) (by rfl) (by rfl), ob,
    e2_12,
    e2_13,
    e2_14, OB_put (by omega) (by exact Nat.le_of_ble_eq_true rfl) (by rfl) (by rfl), ob,
    e2_17,
    e2_18,
    e2_19, OB_put (by omega) (by exact Nat.le_of_ble_eq_true rfl) (by rfl) (by rfl), ob,
    e2_22,
    e2_23,
    e2_24, OB_put (by omega) (by exact Nat.le_of_ble_eq_true rfl) (by rfl) (by rfl), ob,
    e2_27,
    e2_28,
    e2_30 (hz := by decide), OB_1, cz72, OB_arr h1 (by omega),
    e2_32, OB_put (by omega) (by exact Nat.le_of_ble_eq_true rfl) (by rfl) (by rfl), ob,
    e2_35,
    e2_36,
    e2_38 (hz := by decide), OB_1, cz24, OB_arr h2 (by omega),
    e2_40, OB_put (by omega) (by exact Nat.le_of_ble_eq_true rfl) (by rfl) (by rfl), ob,
    e2_43,
    e2_44,
    e2_46 (hz := by decide), OB_1, cz24, OB_arr h3 (by omega),
    e2_48, OB_put (by omega) (by exact Nat.le_of_ble_eq_true rfl) (by rfl) (by rfl), ob,
    e2_51,
    e2_52,
    e2_54 (hz := by decide), OB_1, cz24, OB_arr h4 (by omega),
    e2_56, OB_put (by omega) (by exact Nat.le_of_ble_eq_true rfl) (by rfl) (by rfl), ob,
    e2_59,
    e2_60,
    e2_62 (hz := by decide), OB_1, cz24, OB_arr h5 (by omega),
    e2_64, OB_put (by omega) (by exact Nat.le_of_ble_eq_true rfl) (by rfl) (by rfl), ob,
    e2_67,
    e2_68,
    e2_70 (hz := by decide), OB_1, cz24, OB_arr h6 (by omega),
    e2_72, OB_put (by omega) (by exact Nat.le_of_ble_eq_true rfl) (by rfl) (by rfl), ob,
    e2_75,
    e2_76,
    e2_78 (hz := by decide), OB_1, cz24, OB_arr h7 (by omega),
    e2_80, OB_put (by omega) (by exact Nat.le_of_ble_eq_true rfl) (by rfl) (by rfl), ob,
    e2_83]
  rfl
