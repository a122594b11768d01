/-! The constructors: both faces; where the law begins. -/
def s0 (f : Nat → Int32) : St := fun a j => if a = 0 then f j else if a = 4 then (if j < 8 then nI (6 + 9 * j) else 0) else if a = 5 ∨ a = 105 then Ck 8 j else if a = 1 ∧ j = 6 then 85 else if (a = 1 ∧ j = 2) ∨ (a = 94 ∧ j = 2) ∨ ((a = 6 ∨ a = 15 ∨ a = 24 ∨ a = 33 ∨ a = 42 ∨ a = 51 ∨ a = 60 ∨ a = 69 ∨ a = 85) ∧ j = 3) then -1 else 0
theorem s0_z {f : Nat → Int32} {a j : Nat} (h : ¬ (a = 0 ∨ a = 4 ∨ a = 5 ∨ a = 105 ∨ (a = 1 ∧ (j = 6 ∨ j = 2)) ∨ (a = 94 ∧ j = 2) ∨ ((a = 6 ∨ a = 15 ∨ a = 24 ∨ a = 33 ∨ a = 42 ∨ a = 51 ∨ a = 60 ∨ a = 69 ∨ a = 85) ∧ j = 3))) : s0 f a j = 0 := by
  unfold s0
  rw [if_neg (by omega), if_neg (by omega), if_neg (by omega), if_neg (by omega), if_neg (by omega)]
theorem G_z {L a t n : Nat} {f : Nat → Int32} (hk : kd a = t) (ht : t = 0 ∨ t = 1) (hn : al L a = n) (h : ¬ (a = 0 ∨ a = 4 ∨ a = 5 ∨ a = 105 ∨ a = 1 ∨ a = 94 ∨ a = 6 ∨ a = 15 ∨ a = 24 ∨ a = 33 ∨ a = 42 ∨ a = 51 ∨ a = 60 ∨ a = 69 ∨ a = 85)) : hp L (s0 f) a = zA t n := by
  have e : s0 f a = fun _ => 0 := funext (fun j => s0_z (by omega))
  rw [hp_arr hk ht, hn, e]
theorem G_eqC {L e : Nat} {f : Nat → Int32} (he : isE e) : eqC (hp L (s0 f)) e := by
  rcases he with rfl | rfl | rfl | rfl | rfl | rfl | rfl | rfl | rfl <;> exact ⟨G_z rfl (Or.inl rfl) rfl (by decide), G_z rfl (Or.inl rfl) rfl (by decide), G_z rfl (Or.inl rfl) rfl (by decide), G_z rfl (Or.inr rfl) rfl (by decide), G_z rfl (Or.inr rfl) rfl (by decide), G_z rfl (Or.inl rfl) rfl (by decide), G_z rfl (Or.inl rfl) rfl (by decide), G_z rfl (Or.inl rfl) rfl (by decide)⟩
theorem G_eqO {L e : Nat} {f : Nat → Int32} (he : isE e) : hp L (s0 f) e = some (.inr (2, eqF e)) := by
  rcases he with rfl | rfl | rfl | rfl | rfl | rfl | rfl | rfl | rfl <;> rfl
theorem isE_9 {k : Nat} (hk : k < 8) : isE (6 + 9 * k) := by
  unfold isE
  omega
theorem G_eq8 {L : Nat} {f : Nat → Int32} : eq8 (hp L (s0 f)) := fun k hk => ⟨G_eqC (isE_9 hk), G_eqO (isE_9 hk)⟩
theorem G_4 {L : Nat} {f : Nat → Int32} : hp L (s0 f) 4 = rA (Fk 8) := by
  have e : (fun j => if j < 8 then some (s0 f 4 j).toNatClampNeg else none) = Fk 8 := funext (fun j => by
    unfold Fk
    by_cases q : j < 8
    · have e1 : s0 f 4 j = nI (6 + 9 * j) := by
        unfold s0
        rw [if_neg (by omega), if_pos rfl, if_pos q]
      rw [if_pos q, if_pos q, e1, nI_clamp (by omega)]
    · rw [if_neg q, if_neg q])
  show some (Sum.inl (12, 8, Sum.inr (Sum.inr (Sum.inr (Sum.inr (fun j => if j < 8 then some (s0 f 4 j).toNatClampNeg else none)))))) = _
  rw [e]
theorem G_5 {L : Nat} {f : Nat → Int32} : hp L (s0 f) 5 = some (.inl (0, 8, .inl (Ck 8))) := by
  have e : s0 f 5 = Ck 8 := funext (fun j => by
    unfold s0
    rw [if_neg (by omega), if_neg (by omega), if_pos (Or.inl rfl)])
  rw [hp_arr (t := 0) rfl (Or.inl rfl), e]
  rfl
theorem G_105 {L : Nat} {f : Nat → Int32} : hp L (s0 f) 105 = some (.inl (0, 8, .inl (Ck 8))) := by
  have e : s0 f 105 = Ck 8 := funext (fun j => by
    unfold s0
    rw [if_neg (by omega), if_neg (by omega), if_pos (Or.inr rfl)])
  rw [hp_arr (t := 0) rfl (Or.inl rfl), e]
  rfl
theorem OB_get2 {m z o p ci cj k : Nat} {g : Nat → Option mC} {fs us : List Value} {v : Value} (hp : p < m) (hne : p ≠ o) (hv : us[k]? = some v) : fgetv (OB m z (va_up g p (some (.inr (cj, us)))) o ci fs) p cj k = some v := by
  have e : (OB m z (va_up g p (some (.inr (cj, us)))) o ci fs).2.2 p = some (.inr (cj, us)) := by
    refine (HP_at hp).trans ?_
    rw [va_up_ne _ _ hne, va_up_self]
  unfold fgetv
  rw [e]
  exact (if_pos rfl).trans hv
section FACE
variable (d L : Nat) (f : Nat → Int32)
theorem j_prog (z : Nat) (us : List Value) : rn (d + 7) 1 0 [some (.ref 3), none] [] (OB 4 z (va_up (hp L (s0 f)) 1 (some (.inr (0, us)))) 3 3 [.null, .null]) = some (none, OB 78 (z + 2024) (hp L (s0 f)) 1 0 us) := by
  have o : ∀ a, 2 ≤ a → va_up (hp L (s0 f)) 1 (some (.inr (0, us))) a = hp L (s0 f) a := fun a ha => va_up_ne _ _ (by omega)
  refine i_prog d z _ (fun k hk => ?_) (by rw [o 3 (by decide)]; rfl) (by rw [o 4 (by decide)]; exact G_4) (by rw [o 5 (by decide)]; exact G_5)
  obtain ⟨h1, h2⟩ := G_eq8 (L := L) (f := f) k hk
  unfold eqC at h1 ⊢
  rw [o _ (by omega), o _ (by omega), o _ (by omega), o _ (by omega), o _ (by omega), o _ (by omega), o _ (by omega), o _ (by omega), o _ (by omega)]
  exact ⟨h1, h2⟩
theorem j_chk (z : Nat) (us : List Value) : rn (d + 6) 3 0 [some (.ref 78), some (.ref 3)] [] (OB 79 z (va_up (hp L (s0 f)) 1 (some (.inr (0, us)))) 78 1 [.null, .null]) = some (none, OB 80 (z + 8) (hp L (s0 f)) 1 0 us) := by
  rw [i_chk d z _ (by rw [va_up_ne _ _ (by decide)]; exact G_z rfl (Or.inl rfl) rfl (by decide)), OB_end (by rw [va_up_ne _ _ (by decide)]; rfl)]
  rfl
theorem j_run (z : Nat) (us : List Value) : rn (d + 6) 4 0 [some (.ref 80), some (.ref 3)] [] (OB 81 z (va_up (hp L (s0 f)) 1 (some (.inr (0, us)))) 80 4 [.null, .null, .null, .null, .null, .int 0, .int 0, .int 0, .int 0, .int 0]) = some (none, OB 85 (z + 28) (hp L (s0 f)) 1 0 us) := by
  rw [i_run d z _ (by rw [va_up_ne _ _ (by decide)]; exact G_z rfl (Or.inl rfl) rfl (by decide)) (by rw [va_up_ne _ _ (by decide)]; exact G_z rfl (Or.inl rfl) rfl (by decide)) (by rw [va_up_ne _ _ (by decide)]; exact G_z rfl (Or.inl rfl) rfl (by decide)) (by rw [va_up_ne _ _ (by decide)]; exact G_z rfl (Or.inl rfl) rfl (by decide)), OB_end (by rw [va_up_ne _ _ (by decide)]; rfl)]
  rfl
theorem j_eq (z : Nat) (us : List Value) : rn (d + 6) 2 0 [some (.ref 85)] [] (OB 86 z (va_up (hp L (s0 f)) 1 (some (.inr (0, us)))) 85 2 [.null, .int 0, .int 0, .int 0, .null, .null, .null, .null, .null, .null, .null]) = some (none, OB 94 (z + 240) (hp L (s0 f)) 1 0 us) := by
  have o : ∀ a, 2 ≤ a → va_up (hp L (s0 f)) 1 (some (.inr (0, us))) a = hp L (s0 f) a := fun a ha => va_up_ne _ _ (by omega)
  have h1 := G_eqC (L := L) (f := f) (e := 85) (by unfold isE; omega)
  have h2 := G_eqO (L := L) (f := f) (e := 85) (by unfold isE; omega)
  rw [i_eq d 85 z _ (by
    unfold eqC at h1 ⊢
    rw [o _ (by omega), o _ (by omega), o _ (by omega), o _ (by omega), o _ (by omega), o _ (by omega), o _ (by omega), o _ (by omega)]
    exact h1), OB_end (by rw [o _ (by omega)]; exact h2)]
  rfl
theorem i_face : rn (d + 8) 0 0 [some (.ref 1)] [] (OB 2 8 (hp L (s0 f)) 1 0 [.null, .int 0, .int 0, .null, .null, .null, .null, .int 0]) = some (none, HP 94 2357 (hp L (s0 f))) := by
  have h2 : hp L (s0 f) 2 = zA 0 24 := G_z rfl (Or.inl rfl) rfl (by decide)
  rw [e0_0,
    e0_1,
    e0_4,
    e0_5,
    e0_7 (hz := by decide), OB_1, cz24, OB_arr h2 (by omega),
    e0_9, OB_put (by omega) (by exact Nat.le_of_ble_eq_true rfl) (by rfl) (by rfl), ob,
    e0_12,
    e0_13,
    e0_14, OB_put (by omega) (by exact Nat.le_of_ble_eq_true rfl) (by rfl) (by rfl), ob,
    e0_17,
    e0_18,
    e0_19, OB_put (by omega) (by exact Nat.le_of_ble_eq_true rfl) (by rfl) (by rfl), ob,
    e0_22,
    e0_23, OB_1, OB_new,
    e0_26,
    e0_27, j_prog, ob]
  dsimp only
  rw [tl0, e0_30, OB_put (by omega) (by exact Nat.le_of_ble_eq_true rfl) (by rfl) (by rfl), ob,
    e0_33,
    e0_34, OB_1, OB_new,
    e0_37,
    e0_38,
    e0_39, OB_get2 (v := .ref 3) (by omega) (by omega) (by rfl), ob,
    e0_42, j_chk, ob]
  dsimp only
  rw [tl0, e0_45, OB_put (by omega) (by exact Nat.le_of_ble_eq_true rfl) (by rfl) (by rfl), ob,
    e0_48,
    e0_49, OB_1, OB_new,
    e0_52,
    e0_53,
    e0_54, OB_get2 (v := .ref 3) (by omega) (by omega) (by rfl), ob,
    e0_57, j_run, ob]
  dsimp only
  rw [tl0, e0_60, OB_put (by omega) (by exact Nat.le_of_ble_eq_true rfl) (by rfl) (by rfl), ob,
    e0_63,
    e0_64, OB_1, OB_new,
    e0_67,
    e0_68, j_eq, ob]
  dsimp only
  rw [tl0, e0_71, OB_put (by omega) (by exact Nat.le_of_ble_eq_true rfl) (by rfl) (by rfl), ob,
    e0_74,
    e0_75,
    e0_76, OB_put (by omega) (by exact Nat.le_of_ble_eq_true rfl) (by rfl) (by rfl), ob,
    e0_79]
  refine congrArg some (Prod.ext rfl ?_)
  exact OB_end (by rfl)
end FACE
/-- the reference's CLOCKS while they are set -/
def GM (g : Nat → Option mC) (C : Nat → Int32) : Nat → Option mC := va_up g 105 (some (.inl (0, 8, .inl C)))
theorem OM_ai {m z k : Nat} {g : Nat → Option mC} {fs : List Value} {C : Nat → Int32} {x : Int32} (hm : 105 < m) (hk : k < 8) : aputi (OB m z (GM g C) 94 5 fs) 0 105 (nI k) x = some (OB m z (GM g (upd C k x)) 94 5 fs) := by
  have e : (OB m z (GM g C) 94 5 fs).2.2 105 = some (.inl (0, 8, .inl C)) := by
    refine (HP_at hm).trans ?_
    rw [va_up_ne _ _ (by decide)]
    exact va_up_self _ _ _
  have h1 : (nI k).toNatClampNeg = k := nI_clamp (by omega)
  unfold aputi
  rw [e]
  refine (if_pos ⟨rfl, by rw [h1]; exact fun z => z.elim (nI_pos (by omega)) (by omega), by decide⟩).trans ?_
  rw [h1]
  have e2 := HP_set (z := z) (g := va_up (GM g C) 94 (some (.inr (5, fs)))) (v := .inl (0, 8, .inl (upd C k x))) hm
  have e3 : va_up (va_up (GM g C) 94 (some (.inr (5, fs)))) 105 (some (.inl (0, 8, .inl (upd C k x)))) = va_up (GM g (upd C k x)) 94 (some (.inr (5, fs))) := by
    unfold GM
    rw [up_cm (show 94 ≠ 105 by decide), up_up]
  rw [e3] at e2
  exact congrArg some e2
theorem l_mod (d z : Nat) (g : Nat → Option mC) (fs : List Value) (hf : fs[13]? = some (.ref 105)) : ∀ r k : Nat, k + r = 8 → rn d 65 169 [some (.ref 94), some (.int (nI k))] [] (OB 114 z (GM g (Ck k)) 94 5 fs) = some (none, OB 114 z (GM g (Ck 8)) 94 5 fs) := by
  intro r
  induction r with
  | zero =>
    intro k hk
    have hk : k = 8 := by omega
    subst hk
    rw [e65_169, e65_170, e65_172, if_neg (show ¬ nI 8 < 8 by decide), e65_188]
  | succ r ih =>
    intro k hk
    have h1 : k < 8 := by omega
    have hl : nI k < 8 := nI_lt (b := 8) h1 (by decide)
    rw [e65_169, e65_170, e65_172, if_pos hl, e65_175, e65_176, OB_get (by omega) hf, ob, e65_179, e65_180, e65_181, OM_ai (by omega) h1, ob, e65_182, e65_185, nI_1, Ck_s]
    exact ih (k + 1) (by omega)
theorem i_model (d L : Nat) (f : Nat → Int32) : rn (d + 6) 65 0 [some (.ref 94), none] [] (OB 95 2381 (hp L (s0 f)) 94 5 [.null, .int 0, .int 0, .int 0, .null, .null, .null, .null, .null, .null, .null, .null, .null, .null, .null, .int 0, .int 0, .null, .null, .null, .null, .null, .null, .null]) = some (none, HP 114 3922 (hp L (s0 f))) := by
  have o : ∀ a, a ≠ 105 → GM (hp L (s0 f)) (Ck 0) a = hp L (s0 f) a := fun a ha => va_up_ne _ _ ha
  have st : OB 95 2381 (hp L (s0 f)) 94 5 [.null, .int 0, .int 0, .int 0, .null, .null, .null, .null, .null, .null, .null, .null, .null, .null, .null, .int 0, .int 0, .null, .null, .null, .null, .null, .null, .null] = OB 95 2381 (GM (hp L (s0 f)) (Ck 0)) 94 5 [.null, .int 0, .int 0, .int 0, .null, .null, .null, .null, .null, .null, .null, .null, .null, .null, .null, .int 0, .int 0, .null, .null, .null, .null, .null, .null, .null] := HP_ext (fun a ha => by
    by_cases q : a = 94
    · subst q
      rw [va_up_self, va_up_self]
    · rw [va_up_ne _ _ q, va_up_ne _ _ q, o a (by omega)])
  have h0 : GM (hp L (s0 f)) (Ck 0) 95 = zA 0 24 := (o 95 (by decide)).trans (G_z rfl (Or.inl rfl) rfl (by decide))
  have h1 : GM (hp L (s0 f)) (Ck 0) 96 = zA 0 192 := (o 96 (by decide)).trans (G_z rfl (Or.inl rfl) rfl (by decide))
  have h2 : GM (hp L (s0 f)) (Ck 0) 97 = zA 0 8 := (o 97 (by decide)).trans (G_z rfl (Or.inl rfl) rfl (by decide))
  have h3 : GM (hp L (s0 f)) (Ck 0) 98 = zA 0 192 := (o 98 (by decide)).trans (G_z rfl (Or.inl rfl) rfl (by decide))
  have h4 : GM (hp L (s0 f)) (Ck 0) 99 = zA 0 192 := (o 99 (by decide)).trans (G_z rfl (Or.inl rfl) rfl (by decide))
  have h5 : GM (hp L (s0 f)) (Ck 0) 100 = zA 0 192 := (o 100 (by decide)).trans (G_z rfl (Or.inl rfl) rfl (by decide))
  have h6 : GM (hp L (s0 f)) (Ck 0) 101 = zA 0 192 := (o 101 (by decide)).trans (G_z rfl (Or.inl rfl) rfl (by decide))
  have h7 : GM (hp L (s0 f)) (Ck 0) 102 = zA 0 192 := (o 102 (by decide)).trans (G_z rfl (Or.inl rfl) rfl (by decide))
  have h8 : GM (hp L (s0 f)) (Ck 0) 103 = zA 1 192 := (o 103 (by decide)).trans (G_z rfl (Or.inr rfl) rfl (by decide))
  have h9 : GM (hp L (s0 f)) (Ck 0) 104 = zA 1 24 := (o 104 (by decide)).trans (G_z rfl (Or.inr rfl) rfl (by decide))
  have h10 : GM (hp L (s0 f)) (Ck 0) 105 = zA 0 8 := va_up_self _ _ _
  have h11 : GM (hp L (s0 f)) (Ck 0) 106 = zA 0 4 := (o 106 (by decide)).trans (G_z rfl (Or.inl rfl) rfl (by decide))
  have h12 : GM (hp L (s0 f)) (Ck 0) 107 = zA 1 8 := (o 107 (by decide)).trans (G_z rfl (Or.inr rfl) rfl (by decide))
  have h13 : GM (hp L (s0 f)) (Ck 0) 108 = zA 1 8 := (o 108 (by decide)).trans (G_z rfl (Or.inr rfl) rfl (by decide))
  have h14 : GM (hp L (s0 f)) (Ck 0) 109 = zA 1 64 := (o 109 (by decide)).trans (G_z rfl (Or.inr rfl) rfl (by decide))
  have h15 : GM (hp L (s0 f)) (Ck 0) 110 = zA 0 8 := (o 110 (by decide)).trans (G_z rfl (Or.inl rfl) rfl (by decide))
  have h16 : GM (hp L (s0 f)) (Ck 0) 111 = zA 0 8 := (o 111 (by decide)).trans (G_z rfl (Or.inl rfl) rfl (by decide))
  have h17 : GM (hp L (s0 f)) (Ck 0) 112 = zA 0 9 := (o 112 (by decide)).trans (G_z rfl (Or.inl rfl) rfl (by decide))
  have h18 : GM (hp L (s0 f)) (Ck 0) 113 = zA 0 24 := (o 113 (by decide)).trans (G_z rfl (Or.inl rfl) rfl (by decide))
  rw [st]
  rw [e65_0,
    e65_1,
    e65_4,
    e65_5,
    e65_7 (hz := by decide), OB_1, cz24, OB_arr h0 (by omega),
    e65_9, OB_put (by omega) (by exact Nat.le_of_ble_eq_true rfl) (by rfl) (by rfl), ob,
    e65_12,
    e65_13,
    e65_14, OB_put (by omega) (by exact Nat.le_of_ble_eq_true rfl) (by rfl) (by rfl), ob,
    e65_17,
    e65_18,
    e65_21 (hz := by decide), OB_1, cz192, OB_arr h1 (by omega),
    e65_23, OB_put (by omega) (by exact Nat.le_of_ble_eq_true rfl) (by rfl) (by rfl), ob,
    e65_26,
    e65_27,
    e65_29 (hz := by decide), OB_1, cz8, OB_arr h2 (by omega),
    e65_31, OB_put (by omega) (by exact Nat.le_of_ble_eq_true rfl) (by rfl) (by rfl), ob,
    e65_34,
    e65_35,
    e65_38 (hz := by decide), OB_1, cz192, OB_arr h3 (by omega),
    e65_40, OB_put (by omega) (by exact Nat.le_of_ble_eq_true rfl) (by rfl) (by rfl), ob,
    e65_43,
    e65_44,
    e65_47 (hz := by decide), OB_1, cz192, OB_arr h4 (by omega),
    e65_49, OB_put (by omega) (by exact Nat.le_of_ble_eq_true rfl) (by rfl) (by rfl), ob,
    e65_52,
    e65_53,
    e65_56 (hz := by decide), OB_1, cz192, OB_arr h5 (by omega),
    e65_58, OB_put (by omega) (by exact Nat.le_of_ble_eq_true rfl) (by rfl) (by rfl), ob,
    e65_61,
    e65_62,
    e65_65 (hz := by decide), OB_1, cz192, OB_arr h6 (by omega),
    e65_67, OB_put (by omega) (by exact Nat.le_of_ble_eq_true rfl) (by rfl) (by rfl), ob,
    e65_70,
    e65_71,
    e65_74 (hz := by decide), OB_1, cz192, OB_arr h7 (by omega),
    e65_76, OB_put (by omega) (by exact Nat.le_of_ble_eq_true rfl) (by rfl) (by rfl), ob,
    e65_79,
    e65_80,
    e65_83 (hz := by decide), OB_1, cz192, OB_arr h8 (by omega),
    e65_85, OB_put (by omega) (by exact Nat.le_of_ble_eq_true rfl) (by rfl) (by rfl), ob,
    e65_88,
    e65_89,
    e65_91 (hz := by decide), OB_1, cz24, OB_arr h9 (by omega),
    e65_93, OB_put (by omega) (by exact Nat.le_of_ble_eq_true rfl) (by rfl) (by rfl), ob,
    e65_96,
    e65_97,
    e65_99 (hz := by decide), OB_1, cz8, OB_arr h10 (by omega),
    e65_101, OB_put (by omega) (by exact Nat.le_of_ble_eq_true rfl) (by rfl) (by rfl), ob,
    e65_104,
    e65_105,
    e65_106 (hz := by decide), OB_1, cz4, OB_arr h11 (by omega),
    e65_108, OB_put (by omega) (by exact Nat.le_of_ble_eq_true rfl) (by rfl) (by rfl), ob,
    e65_111,
    e65_112,
    e65_114 (hz := by decide), OB_1, cz8, OB_arr h12 (by omega),
    e65_116, OB_put (by omega) (by exact Nat.le_of_ble_eq_true rfl) (by rfl) (by rfl), ob,
    e65_119,
    e65_120,
    e65_122 (hz := by decide), OB_1, cz8, OB_arr h13 (by omega),
    e65_124, OB_put (by omega) (by exact Nat.le_of_ble_eq_true rfl) (by rfl) (by rfl), ob,
    e65_127,
    e65_128,
    e65_130 (hz := by decide), OB_1, cz64, OB_arr h14 (by omega),
    e65_132, OB_put (by omega) (by exact Nat.le_of_ble_eq_true rfl) (by rfl) (by rfl), ob,
    e65_135,
    e65_136,
    e65_138 (hz := by decide), OB_1, cz8, OB_arr h15 (by omega),
    e65_140, OB_put (by omega) (by exact Nat.le_of_ble_eq_true rfl) (by rfl) (by rfl), ob,
    e65_143,
    e65_144,
    e65_146 (hz := by decide), OB_1, cz8, OB_arr h16 (by omega),
    e65_148, OB_put (by omega) (by exact Nat.le_of_ble_eq_true rfl) (by rfl) (by rfl), ob,
    e65_151,
    e65_152,
    e65_154 (hz := by decide), OB_1, cz9, OB_arr h17 (by omega),
    e65_156, OB_put (by omega) (by exact Nat.le_of_ble_eq_true rfl) (by rfl) (by rfl), ob,
    e65_159,
    e65_160,
    e65_162 (hz := by decide), OB_1, cz24, OB_arr h18 (by omega),
    e65_164, OB_put (by omega) (by exact Nat.le_of_ble_eq_true rfl) (by rfl) (by rfl), ob,
    e65_167,
    e65_168]
  refine Eq.trans (l_mod (d + 6) _ _ _ (by rfl) 8 0 (by decide)) ?_
  have e1 : GM (hp L (s0 f)) (Ck 8) = hp L (s0 f) := up_id G_105
  rw [e1]
  refine congrArg some (Prod.ext rfl ?_)
  exact OB_end (by rfl)
theorem HP_hH (L : Nat) (f : Nat → Int32) : HP 114 3922 (hp L (s0 f)) = hH L (s0 f) := by
  have e : (fun a => if a < 114 then hp L (s0 f) a else none) = hp L (s0 f) := funext (fun a => by
    by_cases q : a < 114
    · rw [if_pos q]
    · have hk : kd a = 99 := by
        unfold kd
        rw [List.getD_eq_getElem?_getD, List.getElem?_eq_none (by show 114 ≤ a; omega)]
        rfl
      rw [if_neg q]
      unfold hp hpK
      rw [hk]
      rfl)
  unfold HP hH
  rw [e]
