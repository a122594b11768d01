/-! One step of the small machine, by the tables of the part of names: insM (instruction), rv (what it names), kI, kJ (constants), clT, tyF, nF (classes), nmM, cod, mx, rtM (methods). -/
def atag : ArrayType → Nat
  | .int => 0
  | .boolean => 1
  | _ => 9
def azero : ArrayType → ((Nat → Int32) ⊕ (Nat → Int64) ⊕ (Nat → UInt32) ⊕ (Nat → UInt64) ⊕ (Nat → Option Nat))
  | .long => .inr (.inl (fun _ => 0))
  | _ => .inl (fun _ => 0)
def dfs (ci : Nat) : List Value := (List.range (nF ci)).map fun k => defaultValue (tyF ci k)
def gfS (q : List Nat) (pc : Nat) (lo : ML) (st : List Value) (h : MH) : Option SR := match q with
  | ci :: k :: _ => (match st with
    | .ref a :: r => (match fgetv h a ci k with
      | some v => nx (pc + 3) lo (v :: r) h
      | none => none)
    | _ => none)
  | _ => none
def pfS (q : List Nat) (pc : Nat) (lo : ML) (st : List Value) (h : MH) : Option SR := match q with
  | ci :: k :: _ => (match st with
    | v :: .ref a :: r => (match fputh h a ci k (tyF ci k) v with
      | some h' => nx (pc + 3) lo r h'
      | none => none)
    | _ => none)
  | _ => none
def ialS (t pc : Nat) (lo : ML) (st : List Value) (h : MH) : Option SR := match st with
  | .int i :: .ref a :: r => (match ageti h t a i with
    | some x => nx (pc + 1) lo (.int x :: r) h
    | none => none)
  | _ => none
def iasS (t pc : Nat) (lo : ML) (st : List Value) (h : MH) : Option SR := match st with
  | .int x :: .int i :: .ref a :: r => if t = 1 ∧ ¬ (x &&& 1 = x) then none else (match aputi h t a i x with
    | some h' => nx (pc + 1) lo r h'
    | none => none)
  | _ => none
def aalS (pc : Nat) (lo : ML) (st : List Value) (h : MH) : Option SR := match st with
  | .int i :: .ref a :: r => (match agetr h a i with
    | some x => nx (pc + 1) lo (va_rf x :: r) h
    | none => none)
  | _ => none
def aasS (pc : Nat) (lo : ML) (st : List Value) (h : MH) : Option SR := match st with
  | .ref v :: .int i :: .ref a :: r => (match aputr h a i v with
    | some h' => nx (pc + 1) lo r h'
    | none => none)
  | _ => none
def alnS (pc : Nat) (lo : ML) (st : List Value) (h : MH) : Option SR := match st with
  | .ref a :: r => (match alenv h a with
    | some x => nx (pc + 1) lo (.int x :: r) h
    | none => none)
  | _ => none
def nwaS (t : ArrayType) (pc : Nat) (lo : ML) (st : List Value) (h : MH) : Option SR := match st with
  | .int n :: r => if ¬ n < 0 ∧ ¬ atag t = 9 ∧ n.toNatClampNeg ≤ 1000000 then nx (pc + 2) lo (.ref h.1 :: r) (mkarr h (atag t) n.toNatClampNeg (azero t)) else none
  | _ => none
def nwqS (q : List Nat) (pc : Nat) (lo : ML) (st : List Value) (h : MH) : Option SR := match q with
  | ci :: _ => (match st with
    | .int n :: r => if ¬ n < 0 ∧ n.toNatClampNeg ≤ 1000000 then nx (pc + 3) lo (.ref h.1 :: r) (mkarr h (10 + ci) n.toNatClampNeg (.inr (.inr (.inr (.inr (fun _ => none)))))) else none
    | _ => none)
  | _ => none
def nwS (q : List Nat) (pc : Nat) (lo : ML) (st : List Value) (h : MH) : Option SR := match q with
  | ci :: _ => nx (pc + 3) lo (.ref h.1 :: st) (mkobj h ci (nF ci) (dfs ci))
  | _ => none
/-- kinds of calls: 0 static, 1 static of a nest mate, 2 virtual, 3 virtual of a nest mate, 4 constructor, 5 a nest mate's, 6 built in -/
def rcv (kind ci : Nat) (as : List Value) (h : MH) : Bool := match kind with
  | 0 => true
  | 1 => true
  | 6 => true
  | 2 => (match as with
    | .ref a :: _ => decide (clsOf h a = some ci)
    | _ => false)
  | 3 => (match as with
    | .ref a :: _ => decide (clsOf h a = some ci)
    | _ => false)
  | 4 => (match as with
    | .ref _ :: _ => true
    | _ => false)
  | 5 => (match as with
    | .ref _ :: _ => true
    | _ => false)
  | _ => false
def invS (q : List Nat) (pc : Nat) (lo : ML) (st : List Value) (h : MH) : Option SR := match q with
  | kind :: M' :: n :: ci :: _ => if n ≤ st.length ∧ cats (st.drop n) ≤ 8 ∧ cats (st.take n).reverse ≤ mx M' ∧ rcv kind ci (st.take n).reverse h = true then some (.inr (.inl (M', (st.take n).reverse, (pc + 3, lo, st.drop n)))) else none
  | _ => none
def iretS (M : Nat) (st : List Value) : Option SR := match st with
  | [.int x] => if rtM M = some .int ∨ (rtM M = some .boolean ∧ x &&& 1 = x) then some (.inr (.inr (some (.int x)))) else none
  | _ => none
def lretS (M : Nat) (st : List Value) : Option SR := match st with
  | [.long x] => if rtM M = some .long then some (.inr (.inr (some (.long x)))) else none
  | _ => none
def isRf (ty : Option FieldType) : Bool := match ty with
  | some (.object _) => true
  | some (.array _) => true
  | _ => false
def aretS (M : Nat) (st : List Value) : Option SR := match st with
  | [.ref x] => if isRf (rtM M) = true then some (.inr (.inr (some (.ref x)))) else none
  | _ => none
def vretS (M : Nat) (st : List Value) : Option SR := match st with
  | [] => if rtM M = none then some (.inr (.inr none)) else none
  | _ => none
def stpH (M : Nat) (i : Instr) (pc : Nat) (lo : ML) (st : List Value) (h : MH) : Option SR := match i with
  | .ldc _ => nx (pc + 2) lo (.int (kI M pc) :: st) h
  | .ldc_w _ => nx (pc + 3) lo (.int (kI M pc) :: st) h
  | .ldc2_w _ => nx (pc + 3) lo (.long (kJ M pc) :: st) h
  | .getfield _ => gfS (rv M pc) pc lo st h
  | .putfield _ => pfS (rv M pc) pc lo st h
  | .iaload => ialS 0 pc lo st h
  | .baload => ialS 1 pc lo st h
  | .iastore => iasS 0 pc lo st h
  | .bastore => iasS 1 pc lo st h
  | .aaload => aalS pc lo st h
  | .aastore => aasS pc lo st h
  | .arraylength => alnS pc lo st h
  | .newarray t => nwaS t pc lo st h
  | .anewarray _ => nwqS (rv M pc) pc lo st h
  | .new _ => nwS (rv M pc) pc lo st h
  | .invokestatic _ => invS (rv M pc) pc lo st h
  | .invokevirtual _ => invS (rv M pc) pc lo st h
  | .invokespecial _ => invS (rv M pc) pc lo st h
  | .ireturn => iretS M st
  | .lreturn => lretS M st
  | .areturn => aretS M st
  | .return_ => vretS M st
  | _ => none
def stp (M pc : Nat) (lo : ML) (st : List Value) (h : MH) : Option SR := match insM M pc with
  | none => none
  | some i => (match stpP i pc lo st h with
    | some r => some r
    | none => stpH M i pc lo st h)
/-- the built-in methods: 900 Object's constructor, 901 System.arraycopy of ints, 902 isOperator -/
def acopy (h : MH) (a0 : Nat) (sp : Int32) (a : Nat) (dp n : Int32) : Option MH := match h.2.2 a0, h.2.2 a with
  | some (.inl (t0, n0, .inl f)), some (.inl (t1, n1, .inl g)) => if t0 = 0 ∧ t1 = 0 ∧ ¬ sp < 0 ∧ ¬ dp < 0 ∧ ¬ n < 0 ∧ sp.toNatClampNeg + n.toNatClampNeg ≤ n0 ∧ dp.toNatClampNeg + n.toNatClampNeg ≤ n1 ∧ a0 ≠ 0 ∧ a ≠ 0 then some (h.1, h.2.1, va_up h.2.2 a (some (.inl (t1, n1, .inl (va_cpy f g sp.toNatClampNeg dp.toNatClampNeg n.toNatClampNeg))))) else none
  | _, _ => none
def isOpc (c : Int32) : Bool := ([43, 45, 42, 60, 61, 38, 33, 63, 80, 70, 87, 67] : List Int32).contains c
def biR (M' : Nat) (as : List Value) (h : MH) : Option MR := match M' with
  | 0 => (match as with
    | [.ref _] => some (none, h)
    | _ => none)
  | 1 => (match as with
    | [.ref a0, .int sp, .ref a, .int dp, .int n] => (match acopy h a0 sp a dp n with
      | some h' => some (none, h')
      | none => none)
    | _ => none)
  | 2 => (match as with
    | [.int c] => some (some (.int (if isOpc c = true then 1 else 0)), h)
    | _ => none)
  | _ => none
def bi (M' : Nat) (as : List Value) (h : MH) : Option MR := if M' < 900 then none else biR (M' - 900) as h
theorem acopy_size {h h' : MH} {a0 a : Nat} {sp dp n : Int32} (hv : acopy h a0 sp a dp n = some h') : h'.1 = h.1 ∧ h'.2.1 = h.2.1 := by
  unfold acopy at hv
  split at hv
  · split at hv
    · cases hv; exact ⟨rfl, rfl⟩
    · cases hv
  · cases hv
theorem bi_size {M' : Nat} {as : List Value} {h : MH} {V : MR} (hb : bi M' as h = some V) : h.1 ≤ V.2.1 ∧ h.2.1 ≤ V.2.2.1 := by
  unfold bi at hb
  split at hb
  · cases hb
  · unfold biR at hb
    split at hb
    · split at hb
      · cases hb; exact ⟨Nat.le_refl _, Nat.le_refl _⟩
      · cases hb
    · split at hb
      · split at hb
        · next hv => cases hb; exact ⟨Nat.le_of_eq (acopy_size hv).1.symm, Nat.le_of_eq (acopy_size hv).2.symm⟩
        · cases hb
      · cases hb
    · split at hb
      · cases hb; exact ⟨Nat.le_refl _, Nat.le_refl _⟩
      · cases hb
    · cases hb
theorem bi_ge {M' : Nat} {as : List Value} {h : MH} {V : MR} (hb : bi M' as h = some V) : 900 ≤ M' := by
  unfold bi at hb
  split at hb
  · cases hb
  · omega
theorem bi_none {M' : Nat} (hM : M' < 900) (as : List Value) (h : MH) : bi M' as h = none := if_pos hM
/-! Runs of the small machine. n: steps; d: how many frames may stand above this one. -/
def entL : List Value → ML
  | [] => []
  | v :: vs => if v.category = 2 then some v :: mSec :: entL vs else some v :: entL vs
def ent (n : Nat) (as : List Value) : ML := entL as ++ List.replicate (n - (entL as).length) none
def ex : Nat → Nat → Nat → Nat → ML → List Value → MH → Option MR
  | 0, _, _, _, _, _, _ => none
  | n + 1, d, M, pc, lo, st, h => match stp M pc lo st h with
    | none => none
    | some (.inl (f, h')) => ex n d M f.1 f.2.1 f.2.2 h'
    | some (.inr (.inr v)) => some (v, h)
    | some (.inr (.inl (M', as, f))) => match bi M' as h with
      | some R => if d < 6 then none else ex n d M f.1 f.2.1 (R.1.toList ++ f.2.2) R.2
      | none => match d with
        | 0 => none
        | d' + 1 => match ex n d' M' 0 (ent (mx M') as) [] h with
          | none => none
          | some (v, h') => ex n d M f.1 f.2.1 (v.toList ++ f.2.2) h'
theorem ex_next {n d M pc : Nat} {lo : ML} {st : List Value} {h h' : MH} {f : MF} (hs : stp M pc lo st h = some (.inl (f, h'))) : ex (n + 1) d M pc lo st h = ex n d M f.1 f.2.1 f.2.2 h' := by
  simp only [ex, hs]
theorem ex_ret {n d M pc : Nat} {lo : ML} {st : List Value} {h : MH} {v : Option Value} (hs : stp M pc lo st h = some (.inr (.inr v))) : ex (n + 1) d M pc lo st h = some (v, h) := by
  simp only [ex, hs]
theorem ex_bi {n d M pc M' : Nat} {as : List Value} {lo : ML} {st : List Value} {h : MH} {f : MF} {R : MR} (hs : stp M pc lo st h = some (.inr (.inl (M', as, f)))) (hb : bi M' as h = some R) : ex (n + 1) (d + 6) M pc lo st h = ex n (d + 6) M f.1 f.2.1 (R.1.toList ++ f.2.2) R.2 := by
  have : ¬ d + 6 < 6 := by omega
  simp only [ex, hs, hb, if_neg this]
theorem ex_call {n d M pc M' : Nat} {as : List Value} {lo : ML} {st : List Value} {h : MH} {f : MF} (hs : stp M pc lo st h = some (.inr (.inl (M', as, f)))) (hb : bi M' as h = none) : ex (n + 1) (d + 1) M pc lo st h = (ex n d M' 0 (ent (mx M') as) [] h).bind (fun R => ex n (d + 1) M f.1 f.2.1 (R.1.toList ++ f.2.2) R.2) := by
  simp only [ex, hs, hb]
  cases ex n d M' 0 (ent (mx M') as) [] h <;> rfl
theorem ex_mono : ∀ (n d M pc : Nat) (lo : ML) (st : List Value) (h : MH) (R : MR), ex n d M pc lo st h = some R → ex (n + 1) d M pc lo st h = some R := by
  intro n
  induction n with
  | zero => intro d M pc lo st h R hR; cases hR
  | succ n ih =>
    intro d M pc lo st h R hR
    cases hs : stp M pc lo st h with
    | none => simp only [ex, hs] at hR; cases hR
    | some r =>
      obtain ⟨f, h'⟩ | ⟨M', as, f⟩ | v := r
      · rw [ex_next hs] at hR ⊢
        exact ih _ _ _ _ _ _ _ hR
      · cases hb : bi M' as h with
        | some v =>
          by_cases hd : d < 6
          · exfalso
            simp only [ex, hs, hb, if_pos hd] at hR
            cases hR
          · obtain ⟨d, rfl⟩ : ∃ k, d = k + 6 := ⟨d - 6, by omega⟩
            rw [ex_bi hs hb] at hR ⊢
            exact ih _ _ _ _ _ _ _ hR
        | none =>
          cases d with
          | zero =>
            exfalso
            simp only [ex, hs, hb] at hR
            cases hR
          | succ d =>
            rw [ex_call hs hb] at hR ⊢
            cases h1 : ex n d M' 0 (ent (mx M') as) [] h with
            | none => rw [h1] at hR; cases hR
            | some R1 =>
              rw [h1] at hR
              rw [ih _ _ _ _ _ _ _ h1]
              exact ih _ _ _ _ _ _ _ hR
      · rw [ex_ret hs] at hR ⊢
        exact hR
theorem ex_le {n k d M pc : Nat} {lo : ML} {st : List Value} {h : MH} {R : MR} (hR : ex n d M pc lo st h = some R) : ex (n + k) d M pc lo st h = some R := by
  induction k with
  | zero => exact hR
  | succ k ih => exact ex_mono _ _ _ _ _ _ _ _ ih
noncomputable def rn (d M pc : Nat) (lo : ML) (st : List Value) (h : MH) : Option MR := @dite (Option MR) (∃ R n, ex n d M pc lo st h = some R) (Classical.propDecidable _) (fun H => some (Classical.choose H)) (fun _ => none)
theorem rn_iff {d M pc : Nat} {lo : ML} {st : List Value} {h : MH} {R : MR} : rn d M pc lo st h = some R ↔ ∃ n, ex n d M pc lo st h = some R := by
  unfold rn
  constructor
  · intro hR
    split at hR
    · next H =>
      cases hR
      exact Classical.choose_spec H
    · cases hR
  · rintro ⟨n, hn⟩
    have H : ∃ R n, ex n d M pc lo st h = some R := ⟨R, n, hn⟩
    rw [dif_pos H]
    obtain ⟨k, hk⟩ := Classical.choose_spec H
    have h1 := ex_le (k := k) hn
    have h2 := ex_le (k := n) hk
    rw [Nat.add_comm k n, h1] at h2
    exact congrArg some (Option.some.inj h2).symm
theorem opt_ext {α : Type} {x y : Option α} (h : ∀ a, x = some a ↔ y = some a) : x = y := by
  cases x with
  | none => cases y with
    | none => rfl
    | some b => exact absurd ((h b).mpr rfl) (by simp)
  | some a => exact ((h a).mp rfl).symm
theorem rn_next {d M pc pc' : Nat} {lo lo' : ML} {st st' : List Value} {h h' : MH} (hs : stp M pc lo st h = some (.inl ((pc', lo', st'), h'))) : rn d M pc lo st h = rn d M pc' lo' st' h' := by
  apply opt_ext
  intro R
  rw [rn_iff, rn_iff]
  constructor
  · rintro ⟨n, hn⟩
    cases n with
    | zero => cases hn
    | succ n => exact ⟨n, by rw [ex_next hs] at hn; exact hn⟩
  · rintro ⟨n, hn⟩
    exact ⟨n + 1, by rw [ex_next hs]; exact hn⟩
theorem rn_ret {d M pc : Nat} {lo : ML} {st : List Value} {h : MH} {v : Option Value} (hs : stp M pc lo st h = some (.inr (.inr v))) : rn d M pc lo st h = some (v, h) :=
  rn_iff.mpr ⟨1, ex_ret hs⟩
theorem rn_bi {d M pc M' pc' : Nat} {as : List Value} {lo lo' : ML} {st st' : List Value} {h : MH} {V : MR} (hs : stp M pc lo st h = some (.inr (.inl (M', as, (pc', lo', st'))))) (hb : bi M' as h = some V) : rn (d + 6) M pc lo st h = rn (d + 6) M pc' lo' (V.1.toList ++ st') V.2 := by
  apply opt_ext
  intro R
  rw [rn_iff, rn_iff]
  constructor
  · rintro ⟨n, hn⟩
    cases n with
    | zero => cases hn
    | succ n => exact ⟨n, by rw [ex_bi hs hb] at hn; exact hn⟩
  · rintro ⟨n, hn⟩
    exact ⟨n + 1, by rw [ex_bi hs hb]; exact hn⟩
theorem rn_call {d M pc M' pc' : Nat} {as : List Value} {lo lo' : ML} {st st' : List Value} {h : MH} (hs : stp M pc lo st h = some (.inr (.inl (M', as, (pc', lo', st'))))) (hb : bi M' as h = none) : rn (d + 1) M pc lo st h = (rn d M' 0 (ent (mx M') as) [] h).bind (fun R => rn (d + 1) M pc' lo' (R.1.toList ++ st') R.2) := by
  apply opt_ext
  intro R
  rw [rn_iff]
  constructor
  · rintro ⟨n, hn⟩
    cases n with
    | zero => cases hn
    | succ n =>
      rw [ex_call hs hb] at hn
      cases h1 : ex n d M' 0 (ent (mx M') as) [] h with
      | none => rw [h1] at hn; cases hn
      | some R1 =>
        rw [h1] at hn
        rw [rn_iff.mpr ⟨n, h1⟩]
        exact rn_iff.mpr ⟨n, hn⟩
  · intro hR
    cases h1 : rn d M' 0 (ent (mx M') as) [] h with
    | none => rw [h1] at hR; cases hR
    | some R1 =>
      rw [h1] at hR
      obtain ⟨n1, e1⟩ := rn_iff.mp h1
      obtain ⟨n2, e2⟩ := rn_iff.mp (show rn (d + 1) M pc' lo' (R1.1.toList ++ st') R1.2 = some R from hR)
      refine ⟨n1 + n2 + 1, ?_⟩
      rw [ex_call hs hb, ex_le e1]
      show ex (n1 + n2) (d + 1) M pc' lo' (R1.1.toList ++ st') R1.2 = some R
      rw [Nat.add_comm]
      exact ex_le e2
