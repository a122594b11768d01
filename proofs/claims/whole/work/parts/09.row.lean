/-! One step as an equation: what the printed rows (part 10) rest on. -/
section ROW
variable {d M pc : Nat} {lo : ML} {st : List Value} {h : MH} {i : Instr}
theorem stp_P {r : SR} (hi : insM M pc = some i) (hs : stpP i pc lo st h = some r) : stp M pc lo st h = some r := by
  unfold stp
  rw [hi]
  simp only [hs]
theorem stp_H {r : Option SR} (hi : insM M pc = some i) (hn : stpP i pc lo st h = none) (hs : stpH M i pc lo st h = r) : stp M pc lo st h = r := by
  unfold stp
  rw [hi]
  simp only [hn]
  exact hs
theorem rn_none (hs : stp M pc lo st h = none) : rn d M pc lo st h = none := by
  apply opt_ext
  intro R
  rw [rn_iff]
  constructor
  · rintro ⟨n, hn⟩
    cases n with
    | zero => cases hn
    | succ n => simp only [ex, hs] at hn; cases hn
  · intro hR
    cases hR
theorem rP {pc' : Nat} {lo' : ML} {st' : List Value} (hi : insM M pc = some i) (hs : stpP i pc lo st h = some (.inl ((pc', lo', st'), h))) : rn d M pc lo st h = rn d M pc' lo' st' h := rn_next (stp_P hi hs)
theorem rB1 {k : ClassFile.Cond} {off : Int} {x : Int32} (t : Nat) (hi : insM M pc = some (.ifCond k off)) (ht : (pc : Int) + off = (t : Int)) : rn d M pc lo (.int x :: st) h = if cb k x 0 = true then rn d M t lo st h else rn d M (pc + 3) lo st h := by
  have h0 : 0 ≤ (pc : Int) + off := by omega
  have h1 : ((pc : Int) + off).toNat = t := by omega
  by_cases hc : cb k x 0 = true
  · rw [if_pos hc]
    refine rn_next (stp_P hi ?_)
    show br1 k pc off lo (.int x :: st) h = _
    simp only [br1, if_pos h0, if_pos hc, nx, h1]
  · rw [if_neg hc]
    refine rn_next (stp_P hi ?_)
    show br1 k pc off lo (.int x :: st) h = _
    simp only [br1, if_pos h0, if_neg hc, nx]
theorem rB2 {k : ClassFile.Cond} {off : Int} {x y : Int32} (t : Nat) (hi : insM M pc = some (.if_icmp k off)) (ht : (pc : Int) + off = (t : Int)) : rn d M pc lo (.int y :: .int x :: st) h = if cb k x y = true then rn d M t lo st h else rn d M (pc + 3) lo st h := by
  have h0 : 0 ≤ (pc : Int) + off := by omega
  have h1 : ((pc : Int) + off).toNat = t := by omega
  by_cases hc : cb k x y = true
  · rw [if_pos hc]
    refine rn_next (stp_P hi ?_)
    show br2 k pc off lo (.int y :: .int x :: st) h = _
    simp only [br2, if_pos h0, if_pos hc, nx, h1]
  · rw [if_neg hc]
    refine rn_next (stp_P hi ?_)
    show br2 k pc off lo (.int y :: .int x :: st) h = _
    simp only [br2, if_pos h0, if_neg hc, nx]
theorem i32_nlt (x y : Int32) : ¬ x < y ↔ y ≤ x := Int32.not_lt
theorem ite_dec {α : Type} {p : Prop} [Decidable p] {q : Bool} (hq : q = decide p) (a b : α) : (if q = true then a else b) = if p then a else b := by
  subst hq
  by_cases hp : p <;> simp [hp]
theorem ite_ndec {α : Type} {p r : Prop} [Decidable p] [Decidable r] {q : Bool} (hq : q = decide r) (hr : r ↔ ¬ p) (a b : α) : (if q = true then a else b) = if p then b else a := by
  subst hq
  by_cases hp : p
  · have : ¬ r := fun z => hr.mp z hp
    simp [hp, this]
  · have : r := hr.mpr hp
    simp [hp, this]
variable {off : Int} {x y : Int32}
theorem rEq1 (t : Nat) (hi : insM M pc = some (.ifCond .eq off)) (ht : (pc : Int) + off = (t : Int)) : rn d M pc lo (.int x :: st) h = if x = 0 then rn d M t lo st h else rn d M (pc + 3) lo st h := (rB1 t hi ht).trans (ite_dec rfl _ _)
theorem rNe1 (t : Nat) (hi : insM M pc = some (.ifCond .ne off)) (ht : (pc : Int) + off = (t : Int)) : rn d M pc lo (.int x :: st) h = if x = 0 then rn d M (pc + 3) lo st h else rn d M t lo st h := (rB1 t hi ht).trans (ite_ndec (r := ¬ x = 0) rfl Iff.rfl _ _)
theorem rLt1 (t : Nat) (hi : insM M pc = some (.ifCond .lt off)) (ht : (pc : Int) + off = (t : Int)) : rn d M pc lo (.int x :: st) h = if x < 0 then rn d M t lo st h else rn d M (pc + 3) lo st h := (rB1 t hi ht).trans (ite_dec rfl _ _)
theorem rGe1 (t : Nat) (hi : insM M pc = some (.ifCond .ge off)) (ht : (pc : Int) + off = (t : Int)) : rn d M pc lo (.int x :: st) h = if x < 0 then rn d M (pc + 3) lo st h else rn d M t lo st h := (rB1 t hi ht).trans (ite_ndec (r := 0 ≤ x) rfl Int32.not_lt.symm _ _)
theorem rGt1 (t : Nat) (hi : insM M pc = some (.ifCond .gt off)) (ht : (pc : Int) + off = (t : Int)) : rn d M pc lo (.int x :: st) h = if 0 < x then rn d M t lo st h else rn d M (pc + 3) lo st h := (rB1 t hi ht).trans (ite_dec rfl _ _)
theorem rLe1 (t : Nat) (hi : insM M pc = some (.ifCond .le off)) (ht : (pc : Int) + off = (t : Int)) : rn d M pc lo (.int x :: st) h = if 0 < x then rn d M (pc + 3) lo st h else rn d M t lo st h := (rB1 t hi ht).trans (ite_ndec (r := x ≤ 0) rfl Int32.not_lt.symm _ _)
theorem rEq2 (t : Nat) (hi : insM M pc = some (.if_icmp .eq off)) (ht : (pc : Int) + off = (t : Int)) : rn d M pc lo (.int y :: .int x :: st) h = if x = y then rn d M t lo st h else rn d M (pc + 3) lo st h := (rB2 t hi ht).trans (ite_dec rfl _ _)
theorem rNe2 (t : Nat) (hi : insM M pc = some (.if_icmp .ne off)) (ht : (pc : Int) + off = (t : Int)) : rn d M pc lo (.int y :: .int x :: st) h = if x = y then rn d M (pc + 3) lo st h else rn d M t lo st h := (rB2 t hi ht).trans (ite_ndec (r := ¬ x = y) rfl Iff.rfl _ _)
theorem rLt2 (t : Nat) (hi : insM M pc = some (.if_icmp .lt off)) (ht : (pc : Int) + off = (t : Int)) : rn d M pc lo (.int y :: .int x :: st) h = if x < y then rn d M t lo st h else rn d M (pc + 3) lo st h := (rB2 t hi ht).trans (ite_dec rfl _ _)
theorem rGe2 (t : Nat) (hi : insM M pc = some (.if_icmp .ge off)) (ht : (pc : Int) + off = (t : Int)) : rn d M pc lo (.int y :: .int x :: st) h = if x < y then rn d M (pc + 3) lo st h else rn d M t lo st h := (rB2 t hi ht).trans (ite_ndec (r := y ≤ x) rfl Int32.not_lt.symm _ _)
theorem rGt2 (t : Nat) (hi : insM M pc = some (.if_icmp .gt off)) (ht : (pc : Int) + off = (t : Int)) : rn d M pc lo (.int y :: .int x :: st) h = if y < x then rn d M t lo st h else rn d M (pc + 3) lo st h := (rB2 t hi ht).trans (ite_dec rfl _ _)
theorem rLe2 (t : Nat) (hi : insM M pc = some (.if_icmp .le off)) (ht : (pc : Int) + off = (t : Int)) : rn d M pc lo (.int y :: .int x :: st) h = if y < x then rn d M (pc + 3) lo st h else rn d M t lo st h := (rB2 t hi ht).trans (ite_ndec (r := x ≤ y) rfl Int32.not_lt.symm _ _)
theorem rBind {α : Type} {o : Option α} {f : α → Option SR} {g : α → Nat × ML × List Value × MH} (hs : stp M pc lo st h = o.bind f) (hf : ∀ a, f a = some (.inl (((g a).1, (g a).2.1, (g a).2.2.1), (g a).2.2.2))) : rn d M pc lo st h = o.bind (fun a => rn d M (g a).1 (g a).2.1 (g a).2.2.1 (g a).2.2.2) := by
  cases o with
  | none => exact rn_none hs
  | some a => exact rn_next (hs.trans (hf a))
theorem rGet {ci k a : Nat} {idx : Nat} {tl : List Nat} (hi : insM M pc = some (.getfield idx)) (hq : rv M pc = ci :: k :: tl) : rn d M pc lo (.ref a :: st) h = (fgetv h a ci k).bind (fun v => rn d M (pc + 3) lo (v :: st) h) := by
  refine rBind (f := fun v => nx (pc + 3) lo (v :: st) h) (g := fun v => (pc + 3, lo, v :: st, h)) (stp_H hi rfl ?_) (fun _ => rfl)
  show gfS (rv M pc) pc lo (.ref a :: st) h = _
  rw [hq]
  simp only [gfS]
  cases fgetv h a ci k <;> rfl
theorem rPut {ci k a : Nat} {v : Value} {idx : Nat} {tl : List Nat} (hi : insM M pc = some (.putfield idx)) (hq : rv M pc = ci :: k :: tl) : rn d M pc lo (v :: .ref a :: st) h = (fputh h a ci k (tyF ci k) v).bind (fun h' => rn d M (pc + 3) lo st h') := by
  refine rBind (f := fun h' => nx (pc + 3) lo st h') (g := fun h' => (pc + 3, lo, st, h')) (stp_H hi rfl ?_) (fun _ => rfl)
  show pfS (rv M pc) pc lo (v :: .ref a :: st) h = _
  rw [hq]
  simp only [pfS]
  cases fputh h a ci k (tyF ci k) v <;> rfl
theorem rIald {a : Nat} {j : Int32} (hi : insM M pc = some .iaload) : rn d M pc lo (.int j :: .ref a :: st) h = (ageti h 0 a j).bind (fun v => rn d M (pc + 1) lo (.int v :: st) h) := by
  refine rBind (f := fun v => nx (pc + 1) lo (.int v :: st) h) (g := fun v => (pc + 1, lo, .int v :: st, h)) (stp_H hi rfl ?_) (fun _ => rfl)
  show ialS 0 pc lo (.int j :: .ref a :: st) h = _
  simp only [ialS]
  cases ageti h 0 a j <;> rfl
theorem rBald {a : Nat} {j : Int32} (hi : insM M pc = some .baload) : rn d M pc lo (.int j :: .ref a :: st) h = (ageti h 1 a j).bind (fun v => rn d M (pc + 1) lo (.int v :: st) h) := by
  refine rBind (f := fun v => nx (pc + 1) lo (.int v :: st) h) (g := fun v => (pc + 1, lo, .int v :: st, h)) (stp_H hi rfl ?_) (fun _ => rfl)
  show ialS 1 pc lo (.int j :: .ref a :: st) h = _
  simp only [ialS]
  cases ageti h 1 a j <;> rfl
theorem rIast {a : Nat} {j v : Int32} (hi : insM M pc = some .iastore) : rn d M pc lo (.int v :: .int j :: .ref a :: st) h = (aputi h 0 a j v).bind (fun h' => rn d M (pc + 1) lo st h') := by
  refine rBind (f := fun h' => nx (pc + 1) lo st h') (g := fun h' => (pc + 1, lo, st, h')) (stp_H hi rfl ?_) (fun _ => rfl)
  show iasS 0 pc lo (.int v :: .int j :: .ref a :: st) h = _
  have hn : ¬ ((0 : Nat) = 1 ∧ ¬ (v &&& 1 = v)) := fun z => absurd z.1 (by decide)
  simp only [iasS, if_neg hn]
  cases aputi h 0 a j v <;> rfl
theorem rBast {a : Nat} {j v : Int32} (hv : v &&& 1 = v) (hi : insM M pc = some .bastore) : rn d M pc lo (.int v :: .int j :: .ref a :: st) h = (aputi h 1 a j v).bind (fun h' => rn d M (pc + 1) lo st h') := by
  refine rBind (f := fun h' => nx (pc + 1) lo st h') (g := fun h' => (pc + 1, lo, st, h')) (stp_H hi rfl ?_) (fun _ => rfl)
  show iasS 1 pc lo (.int v :: .int j :: .ref a :: st) h = _
  have hn : ¬ ((1 : Nat) = 1 ∧ ¬ (v &&& 1 = v)) := fun z => z.2 hv
  unfold iasS
  dsimp only
  rw [if_neg hn]
  cases aputi h 1 a j v <;> rfl
theorem rAald {a : Nat} {j : Int32} (hi : insM M pc = some .aaload) : rn d M pc lo (.int j :: .ref a :: st) h = (agetr h a j).bind (fun v => rn d M (pc + 1) lo (va_rf v :: st) h) := by
  refine rBind (f := fun v => nx (pc + 1) lo (va_rf v :: st) h) (g := fun v => (pc + 1, lo, va_rf v :: st, h)) (stp_H hi rfl ?_) (fun _ => rfl)
  show aalS pc lo (.int j :: .ref a :: st) h = _
  simp only [aalS]
  cases agetr h a j <;> rfl
theorem rAast {a v : Nat} {j : Int32} (hi : insM M pc = some .aastore) : rn d M pc lo (.ref v :: .int j :: .ref a :: st) h = (aputr h a j v).bind (fun h' => rn d M (pc + 1) lo st h') := by
  refine rBind (f := fun h' => nx (pc + 1) lo st h') (g := fun h' => (pc + 1, lo, st, h')) (stp_H hi rfl ?_) (fun _ => rfl)
  show aasS pc lo (.ref v :: .int j :: .ref a :: st) h = _
  simp only [aasS]
  cases aputr h a j v <;> rfl
theorem rAlen {a : Nat} (hi : insM M pc = some .arraylength) : rn d M pc lo (.ref a :: st) h = (alenv h a).bind (fun v => rn d M (pc + 1) lo (.int v :: st) h) := by
  refine rBind (f := fun v => nx (pc + 1) lo (.int v :: st) h) (g := fun v => (pc + 1, lo, .int v :: st, h)) (stp_H hi rfl ?_) (fun _ => rfl)
  show alnS pc lo (.ref a :: st) h = _
  simp only [alnS]
  cases alenv h a <;> rfl
theorem rNewa {t : ArrayType} {n : Int32} (hn : ¬ n < 0 ∧ ¬ atag t = 9 ∧ n.toNatClampNeg ≤ 1000000) (hi : insM M pc = some (.newarray t)) : rn d M pc lo (.int n :: st) h = rn d M (pc + 2) lo (.ref h.1 :: st) (mkarr h (atag t) n.toNatClampNeg (azero t)) := by
  refine rn_next (stp_H hi rfl ?_)
  show nwaS t pc lo (.int n :: st) h = _
  simp only [nwaS, if_pos hn, nx]
theorem rNewq {idx ci : Nat} {tl : List Nat} {n : Int32} (hn : ¬ n < 0 ∧ n.toNatClampNeg ≤ 1000000) (hi : insM M pc = some (.anewarray idx)) (hq : rv M pc = ci :: tl) : rn d M pc lo (.int n :: st) h = rn d M (pc + 3) lo (.ref h.1 :: st) (mkarr h (10 + ci) n.toNatClampNeg (.inr (.inr (.inr (.inr (fun _ => none)))))) := by
  refine rn_next (stp_H hi rfl ?_)
  show nwqS (rv M pc) pc lo (.int n :: st) h = _
  rw [hq]
  simp only [nwqS, if_pos hn, nx]
theorem rNew {idx ci : Nat} {tl : List Nat} (hi : insM M pc = some (.new idx)) (hq : rv M pc = ci :: tl) : rn d M pc lo st h = rn d M (pc + 3) lo (.ref h.1 :: st) (mkobj h ci (nF ci) (dfs ci)) := by
  refine rn_next (stp_H hi rfl ?_)
  show nwS (rv M pc) pc lo st h = _
  rw [hq]
  rfl
theorem rLdc {idx : Nat} (hi : insM M pc = some (.ldc idx)) : rn d M pc lo st h = rn d M (pc + 2) lo (.int (kI M pc) :: st) h := rn_next (stp_H hi rfl rfl)
theorem rLdcw {idx : Nat} (hi : insM M pc = some (.ldc_w idx)) : rn d M pc lo st h = rn d M (pc + 3) lo (.int (kI M pc) :: st) h := rn_next (stp_H hi rfl rfl)
theorem rLdc2 {idx : Nat} (hi : insM M pc = some (.ldc2_w idx)) : rn d M pc lo st h = rn d M (pc + 3) lo (.long (kJ M pc) :: st) h := rn_next (stp_H hi rfl rfl)
theorem rRet {v : Option Value} (hi : insM M pc = some i) (hn : stpP i pc lo st h = none) (hs : stpH M i pc lo st h = some (.inr (.inr v))) : rn d M pc lo st h = some (v, h) := rn_ret (stp_H hi hn hs)
theorem rIretZ {x : Int32} (hx : x &&& 1 = x) (hi : insM M pc = some .ireturn) (ht : rtM M = some .boolean) : rn d M pc lo [.int x] h = some (some (.int x), h) := by
  refine rRet hi rfl ?_
  show iretS M [.int x] = _
  have hc : rtM M = some .int ∨ (rtM M = some .boolean ∧ x &&& 1 = x) := Or.inr ⟨ht, hx⟩
  simp only [iretS, if_pos hc]
theorem rIret {x : Int32} (hi : insM M pc = some .ireturn) (ht : rtM M = some .int) : rn d M pc lo [.int x] h = some (some (.int x), h) := by
  refine rRet hi rfl ?_
  show iretS M [.int x] = _
  have hc : rtM M = some .int ∨ (rtM M = some .boolean ∧ x &&& 1 = x) := Or.inl ht
  simp only [iretS, if_pos hc]
theorem rLret {x : Int64} (hi : insM M pc = some .lreturn) (ht : rtM M = some .long) : rn d M pc lo [.long x] h = some (some (.long x), h) := by
  refine rRet hi rfl ?_
  show lretS M [.long x] = _
  simp only [lretS, if_pos ht]
theorem rAret {x : Nat} (hi : insM M pc = some .areturn) (ht : isRf (rtM M) = true) : rn d M pc lo [.ref x] h = some (some (.ref x), h) := by
  refine rRet hi rfl ?_
  show aretS M [.ref x] = _
  simp only [aretS, if_pos ht]
theorem rVret (hi : insM M pc = some .return_) (ht : rtM M = none) : rn d M pc lo [] h = some (none, h) := by
  refine rRet hi rfl ?_
  show vretS M [] = _
  simp only [vretS, if_pos ht]
/-- a call: kind, number, how many on the stack, class -/
theorem rInv {kind M' n ci : Nat} {tl : List Nat} (hi : insM M pc = some i) (hn : stpP i pc lo st h = none) (hv : stpH M i pc lo st h = invS (rv M pc) pc lo st h) (hq : rv M pc = kind :: M' :: n :: ci :: tl) (hM : M' < 900) (h1 : n ≤ st.length) (h2 : cats (st.drop n) ≤ 8) (h3 : cats (st.take n).reverse ≤ mx M') (h4 : rcv kind ci (st.take n).reverse h = true) :
    rn (d + 1) M pc lo st h = (rn d M' 0 (ent (mx M') (st.take n).reverse) [] h).bind (fun R => rn (d + 1) M (pc + 3) lo (R.1.toList ++ st.drop n) R.2) := by
  refine rn_call (stp_H hi hn (hv.trans ?_)) (bi_none hM _ _)
  rw [hq]
  simp only [invS, if_pos (⟨h1, h2, h3, h4⟩ : _ ∧ _ ∧ _ ∧ _)]
theorem rBi {kind M' n ci : Nat} {tl : List Nat} {V : MR} (hi : insM M pc = some i) (hn : stpP i pc lo st h = none) (hv : stpH M i pc lo st h = invS (rv M pc) pc lo st h) (hq : rv M pc = kind :: M' :: n :: ci :: tl) (h1 : n ≤ st.length) (h2 : cats (st.drop n) ≤ 8) (h3 : cats (st.take n).reverse ≤ mx M') (h4 : rcv kind ci (st.take n).reverse h = true) (hb : bi M' (st.take n).reverse h = some V) :
    rn (d + 6) M pc lo st h = rn (d + 6) M (pc + 3) lo (V.1.toList ++ st.drop n) V.2 := by
  refine rn_bi (stp_H hi hn (hv.trans ?_)) hb
  rw [hq]
  simp only [invS, if_pos (⟨h1, h2, h3, h4⟩ : _ ∧ _ ∧ _ ∧ _)]
theorem rcv_V {ci a : Nat} {As : List Value} (hc : clsOf h a = some ci) : rcv 2 ci (.ref a :: As) h = true := decide_eq_true hc
theorem rcv_VN {ci a : Nat} {As : List Value} (hc : clsOf h a = some ci) : rcv 3 ci (.ref a :: As) h = true := decide_eq_true hc
def lookT : List (Int32 × Nat) → Nat → Int32 → Nat
  | [], dt, _ => dt
  | (k, t) :: r, dt, x => if x = k then t else lookT r dt x
def lookO : List (Int × Int) → List (Int32 × Nat) → Nat → Bool
  | [], [], _ => true
  | (a, o) :: r, (k, t) :: r', pc => decide (k.toInt = a) && (decide ((pc : Int) + o = (t : Int)) && lookO r r' pc)
  | _, _, _ => false
theorem lookO_eq {dflt : Int} {dt pc : Nat} {x : Int32} (hd : (pc : Int) + dflt = (dt : Int)) : ∀ (ps : List (Int × Int)) (tg : List (Int32 × Nat)), lookO ps tg pc = true → (pc : Int) + Op.lookupswitch.offset ps dflt x.toInt = ((lookT tg dt x : Nat) : Int) := by
  intro ps
  induction ps with
  | nil =>
    intro tg h
    cases tg with
    | nil => simpa [Op.lookupswitch.offset, lookT] using hd
    | cons _ _ => cases h
  | cons q ps ih =>
    intro tg h
    obtain ⟨a, o⟩ := q
    cases tg with
    | nil => cases h
    | cons q' tg =>
      obtain ⟨k, t⟩ := q'
      simp only [lookO, Bool.and_eq_true, decide_eq_true_eq] at h
      obtain ⟨h1, h2, h3⟩ := h
      by_cases hx : x = k
      · subst hx
        rw [Op.lookupswitch.offset_cons, if_pos h1.symm]
        simp only [lookT, if_true]
        exact h2
      · rw [lv_osw hx h1]
        simp only [lookT, if_neg hx]
        exact ih tg h3
theorem rLook {dflt : Int} {ps : Array (Int × Int)} {dt : Nat} (tg : List (Int32 × Nat)) (hi : insM M pc = some (.lookupswitch dflt ps)) (hp : (ps.toList.zip (ps.toList.drop 1)).all (fun (a, next) => a.1 < next.1) = true) (hd : (pc : Int) + dflt = (dt : Int)) (hk : lookO ps.toList tg pc = true) : rn d M pc lo (.int x :: st) h = rn d M (lookT tg dt x) lo st h := by
  have e := lookO_eq (x := x) hd ps.toList tg hk
  have h0 : 0 ≤ (pc : Int) + Op.lookupswitch.offset ps.toList dflt x.toInt := by omega
  have h1 : ((pc : Int) + Op.lookupswitch.offset ps.toList dflt x.toInt).toNat = lookT tg dt x := by omega
  refine rn_next (stp_P hi ?_)
  show swL dflt ps pc lo (.int x :: st) h = _
  simp only [swL, if_pos hp, jm, if_pos h0, nx, h1]
end ROW
section TAB
variable {d M pc : Nat} {lo : ML} {st : List Value} {h : MH} {x : Int32}
def tabO : List Int → List (Int32 × Nat) → Int → Nat → Bool
  | [], [], _, _ => true
  | o :: r, (k, t) :: r', lw, pc => decide (k.toInt = lw) && (decide ((pc : Int) + o = (t : Int)) && tabO r r' (lw + 1) pc)
  | _, _, _, _ => false
theorem tabO_eq {dt pc : Nat} {x : Int32} : ∀ (offs : List Int) (tg : List (Int32 × Nat)) (lw : Int), tabO offs tg lw pc = true → ((x.toInt < lw ∨ lw + offs.length ≤ x.toInt) ∧ lookT tg dt x = dt) ∨ (¬ x.toInt < lw ∧ ∃ off, offs[(x.toInt - lw).toNat]? = some off ∧ (pc : Int) + off = ((lookT tg dt x : Nat) : Int)) := by
  intro offs
  induction offs with
  | nil =>
    intro tg lw h
    cases tg with
    | nil => exact Or.inl ⟨by simp; omega, rfl⟩
    | cons _ _ => cases h
  | cons o offs ih =>
    intro tg lw h
    cases tg with
    | nil => cases h
    | cons q tg =>
      obtain ⟨k, t⟩ := q
      simp only [tabO, Bool.and_eq_true, decide_eq_true_eq] at h
      obtain ⟨h1, h2, h3⟩ := h
      by_cases hx : x = k
      · subst hx
        refine Or.inr ⟨by omega, o, ?_, ?_⟩
        · have : (x.toInt - lw).toNat = 0 := by omega
          rw [this]
          rfl
        · simp only [lookT, if_true]
          exact h2
      · have hne : ¬ x.toInt = lw := fun e => hx (Int32.toInt_inj.mp (e.trans h1.symm))
        simp only [lookT, if_neg hx]
        rcases ih tg (lw + 1) h3 with ⟨a1, a2⟩ | ⟨a1, off, a2, a3⟩
        · refine Or.inl ⟨?_, a2⟩
          simp only [List.length_cons]
          omega
        · refine Or.inr ⟨by omega, off, ?_, a3⟩
          have : (x.toInt - lw).toNat = (x.toInt - (lw + 1)).toNat + 1 := by omega
          rw [this, List.getElem?_cons_succ]
          exact a2
theorem rTab {dflt lw hi : Int} {offs : Array Int} {dt : Nat} {tg : List (Int32 × Nat)} (hi0 : insM M pc = some (.tableswitch dflt lw hi offs)) (hd : (pc : Int) + dflt = (dt : Int)) (hh : hi = lw + offs.toList.length - 1) (hk : tabO offs.toList tg lw pc = true) : rn d M pc lo (.int x :: st) h = rn d M (lookT tg dt x) lo st h := by
  refine rn_next (stp_P hi0 ?_)
  show swT dflt lw hi offs pc lo (.int x :: st) h = _
  rcases tabO_eq (dt := dt) (x := x) offs.toList tg lw hk with ⟨a1, a2⟩ | ⟨a1, off, a2, a3⟩
  · have hc : x.toInt < lw ∨ hi < x.toInt := by omega
    have h0 : 0 ≤ (pc : Int) + dflt := by omega
    have h1 : ((pc : Int) + dflt).toNat = lookT tg dt x := by omega
    simp only [swT, if_pos hc, jm, if_pos h0, nx, h1]
  · have hlt : (x.toInt - lw).toNat < offs.toList.length := (List.getElem?_eq_some_iff.mp a2).1
    have hc : ¬ (x.toInt < lw ∨ hi < x.toInt) := by omega
    have ha : offs[(x.toInt - lw).toNat]? = some off := by rw [← Array.getElem?_toList]; exact a2
    have h0 : 0 ≤ (pc : Int) + off := by omega
    have h1 : ((pc : Int) + off).toNat = lookT tg dt x := by omega
    simp only [swT, if_neg hc, ha, jm, if_pos h0, nx, h1]
end TAB
def lookR {α : Type} (F : Nat → α) : List (Int32 × Nat) → Nat → Int32 → α
  | [], dt, _ => F dt
  | (k, t) :: r, dt, x => if x = k then F t else lookR F r dt x
theorem lookT_F {α : Type} (F : Nat → α) : ∀ (tg : List (Int32 × Nat)) (dt : Nat) (x : Int32), F (lookT tg dt x) = lookR F tg dt x
  | [], _, _ => rfl
  | (k, t) :: r, dt, x => by
    by_cases hx : x = k
    · simp only [lookT, lookR, if_pos hx]
    · simp only [lookT, lookR, if_neg hx]
      exact lookT_F F r dt x
