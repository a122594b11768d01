/-! The script is never written. -/
def cel0 (h : MH) : Prop := 0 < h.1 ∧ ∃ x, h.2.2 0 = some (.inl x)
def kp0 (h h' : MH) : Prop := cel0 h → 0 < h'.1 ∧ h'.2.2 0 = h.2.2 0
theorem kp0.rf (h : MH) : kp0 h h := fun z => ⟨z.1, rfl⟩
theorem kp0.tr {h h' h'' : MH} (h1 : kp0 h h') (h2 : kp0 h' h'') : kp0 h h'' := fun z => by
  obtain ⟨a, b⟩ := h1 z
  obtain ⟨x, hx⟩ := z.2
  obtain ⟨c, d⟩ := h2 ⟨a, x, by rw [b]; exact hx⟩
  exact ⟨c, d.trans b⟩
theorem fputh_0 {h h' : MH} {a ci k : Nat} {ty : FieldType} {v : Value} (hv : fputh h a ci k ty v = some h') : kp0 h h' := by
  unfold fputh at hv
  split at hv
  · next c fs ha =>
    split at hv
    · cases hv
      rintro ⟨z, x, hx⟩
      have hne : 0 ≠ a := fun y => by
        subst y
        rw [ha] at hx
        cases hx
      exact ⟨z, va_up_ne _ _ hne⟩
    · cases hv
  · cases hv
theorem aputi_0 {h h' : MH} {t a : Nat} {i x : Int32} (hv : aputi h t a i x = some h') : kp0 h h' := by
  unfold aputi at hv
  split at hv
  · split at hv
    · next q =>
      cases hv
      exact fun z => ⟨z.1, va_up_ne _ _ (fun y => q.2.2 y.symm)⟩
    · cases hv
  · cases hv
theorem aputr_0 {h h' : MH} {a v : Nat} {i : Int32} (hv : aputr h a i v = some h') : kp0 h h' := by
  unfold aputr at hv
  split at hv
  · split at hv
    · next q =>
      cases hv
      exact fun z => ⟨z.1, va_up_ne _ _ (fun y => q.2.2.2 y.symm)⟩
    · cases hv
  · cases hv
theorem acopy_0 {h h' : MH} {a0 a : Nat} {sp dp n : Int32} (hv : acopy h a0 sp a dp n = some h') : kp0 h h' := by
  unfold acopy at hv
  split at hv
  · split at hv
    · next q =>
      cases hv
      exact fun z => ⟨z.1, va_up_ne _ _ (fun y => q.2.2.2.2.2.2.2.2 y.symm)⟩
    · cases hv
  · cases hv
theorem mkarr_0 (h : MH) (t n : Nat) (x : (Nat → Int32) ⊕ (Nat → Int64) ⊕ (Nat → UInt32) ⊕ (Nat → UInt64) ⊕ (Nat → Option Nat)) : kp0 h (mkarr h t n x) := fun z => ⟨Nat.succ_pos _, va_up_ne _ _ (fun y => by have := z.1; omega)⟩
theorem mkobj_0 (h : MH) (ci n : Nat) (fs : List Value) : kp0 h (mkobj h ci n fs) := fun z => ⟨Nat.succ_pos _, va_up_ne _ _ (fun y => by have := z.1; omega)⟩
theorem stpH_0 {M : Nat} {i : Instr} {pc : Nat} {lo : ML} {st : List Value} {h h' : MH} {f : MF} (hs : stpH M i pc lo st h = some (.inl (f, h'))) : kp0 h h' := by
  unfold stpH at hs
  split at hs
  · cases hs; exact kp0.rf _
  · cases hs; exact kp0.rf _
  · cases hs; exact kp0.rf _
  · unfold gfS at hs
    repeat' split at hs
    all_goals first
      | (cases hs; done)
      | (cases hs; exact kp0.rf _)
  · unfold pfS at hs
    split at hs
    · split at hs
      · split at hs
        · next hv => cases hs; exact fputh_0 hv
        · cases hs
      · cases hs
    · cases hs
  · unfold ialS at hs
    repeat' split at hs
    all_goals first
      | (cases hs; done)
      | (cases hs; exact kp0.rf _)
  · unfold ialS at hs
    repeat' split at hs
    all_goals first
      | (cases hs; done)
      | (cases hs; exact kp0.rf _)
  · unfold iasS at hs
    split at hs
    · split at hs
      · cases hs
      · split at hs
        · next hv => cases hs; exact aputi_0 hv
        · cases hs
    · cases hs
  · unfold iasS at hs
    split at hs
    · split at hs
      · cases hs
      · split at hs
        · next hv => cases hs; exact aputi_0 hv
        · cases hs
    · cases hs
  · unfold aalS at hs
    repeat' split at hs
    all_goals first
      | (cases hs; done)
      | (cases hs; exact kp0.rf _)
  · unfold aasS at hs
    split at hs
    · split at hs
      · next hv => cases hs; exact aputr_0 hv
      · cases hs
    · cases hs
  · unfold alnS at hs
    repeat' split at hs
    all_goals first
      | (cases hs; done)
      | (cases hs; exact kp0.rf _)
  · unfold nwaS at hs
    split at hs
    · split at hs
      · cases hs; exact mkarr_0 _ _ _ _
      · cases hs
    · cases hs
  · unfold nwqS at hs
    split at hs
    · split at hs
      · split at hs
        · cases hs; exact mkarr_0 _ _ _ _
        · cases hs
      · cases hs
    · cases hs
  · unfold nwS at hs
    split at hs
    · cases hs; exact mkobj_0 _ _ _ _
    · cases hs
  · unfold invS at hs
    split at hs
    · split at hs <;> cases hs
    · cases hs
  · unfold invS at hs
    split at hs
    · split at hs <;> cases hs
    · cases hs
  · unfold invS at hs
    split at hs
    · split at hs <;> cases hs
    · cases hs
  · unfold iretS at hs
    split at hs
    · split at hs <;> cases hs
    · cases hs
  · unfold lretS at hs
    split at hs
    · split at hs <;> cases hs
    · cases hs
  · unfold aretS at hs
    split at hs
    · split at hs <;> cases hs
    · cases hs
  · unfold vretS at hs
    split at hs
    · split at hs <;> cases hs
    · cases hs
  · cases hs
theorem stp_0 {M pc : Nat} {lo : ML} {st : List Value} {h h' : MH} {f : MF} (hs : stp M pc lo st h = some (.inl (f, h'))) : kp0 h h' := by
  obtain ⟨i, -, h1 | h1⟩ := stp_ins hs
  · obtain ⟨pc', lo', st', e1, e2⟩ := stpP_keep h1
    cases e1
    exact kp0.rf _
  · exact stpH_0 h1
theorem bi_0 {M' : Nat} {as : List Value} {h : MH} {V : MR} (hb : bi M' as h = some V) : kp0 h V.2 := by
  unfold bi at hb
  split at hb
  · cases hb
  · unfold biR at hb
    split at hb
    · split at hb
      · cases hb; exact kp0.rf _
      · cases hb
    · split at hb
      · split at hb
        · next hv => cases hb; exact acopy_0 hv
        · cases hb
      · cases hb
    · split at hb
      · cases hb; exact kp0.rf _
      · cases hb
    · cases hb
theorem ex_0 : ∀ (n d M pc : Nat) (lo : ML) (st : List Value) (h : MH) (v : Option Value) (h' : MH), ex n d M pc lo st h = some (v, h') → kp0 h h' := by
  intro n
  induction n with
  | zero => intro d M pc lo st h v h' hR; cases hR
  | succ n ih =>
    intro d M pc lo st h v h' hR
    cases hs : stp M pc lo st h with
    | none => simp only [ex, hs] at hR; cases hR
    | some r =>
      obtain ⟨f, h1⟩ | ⟨M', as, f⟩ | v1 := r
      · rw [ex_next hs] at hR
        exact (stp_0 hs).tr (ih _ _ _ _ _ _ _ _ hR)
      · cases hb : bi M' as h with
        | some V =>
          by_cases hd : d < 6
          · exfalso
            simp only [ex, hs, hb, if_pos hd] at hR
            cases hR
          · obtain ⟨d, rfl⟩ : ∃ k, d = k + 6 := ⟨d - 6, by omega⟩
            rw [ex_bi hs hb] at hR
            exact (bi_0 hb).tr (ih _ _ _ _ _ _ _ _ hR)
        | none =>
          cases d with
          | zero =>
            exfalso
            simp only [ex, hs, hb] at hR
            cases hR
          | succ d =>
            rw [ex_call hs hb] at hR
            cases h1 : ex n d M' 0 (ent (mx M') as) [] h with
            | none => rw [h1] at hR; cases hR
            | some R1 =>
              rw [h1] at hR
              have a := ih _ _ _ _ _ _ R1.1 R1.2 h1
              have b := ih _ _ _ _ _ _ _ _ (show ex n (d + 1) M f.1 f.2.1 (R1.1.toList ++ f.2.2) R1.2 = some (v, h') from hR)
              exact a.tr b
      · rw [ex_ret hs] at hR
        cases hR
        exact kp0.rf _
theorem hH_0 (L : Nat) (s : St) : (hH L s).2.2 0 = some (.inl (0, L, .inl (s 0))) := rfl
/-- a call leaves the script as it was -/
theorem rn_0 {d M pc L : Nat} {lo : ML} {st : List Value} {s s' : St} {v : Option Value} (hr : rn d M pc lo st (hH L s) = some (v, hH L s')) : s' 0 = s 0 := by
  obtain ⟨n, hn⟩ := rn_iff.mp hr
  have := (ex_0 _ _ _ _ _ _ _ _ _ hn ⟨by show 0 < 114; decide, _, hH_0 L s⟩).2
  rw [hH_0, hH_0] at this
  injection this with this
  injection this with this
  injection this with this1 this
  injection this with this1 this
  injection this with this
