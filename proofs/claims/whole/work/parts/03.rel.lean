/-! The small machine's cells and frames beside the JVM's. Address 0 is the script (b), address k + 1 the k-th cell from B on. -/
def ad (b B : Nat) : Nat → Nat
  | 0 => b
  | k + 1 => B + k
def up (b B : Nat) : Value → Value
  | .ref k => .ref (ad b B k)
  | v => v
def cvA (b B : Nat) : ((Nat → Int32) ⊕ (Nat → Int64) ⊕ (Nat → UInt32) ⊕ (Nat → UInt64) ⊕ (Nat → Option Nat)) → ((Nat → Int32) ⊕ (Nat → Int64) ⊕ (Nat → UInt32) ⊕ (Nat → UInt64) ⊕ (Nat → Option Nat))
  | .inr (.inr (.inr (.inr f))) => .inr (.inr (.inr (.inr (fun j => (f j).map (ad b B)))))
  | x => x
def cv (b B : Nat) (dA : Nat → ClassId) : mC → va_E
  | .inl (t, n, x) => .inl (dA t, n, cvA b B x)
  | .inr (ci, fs) => .inr (ci, fs.map (up b B))
theorem up_rf (b B : Nat) (r : Option Nat) : va_rf (r.map (ad b B)) = up b B (va_rf r) := by cases r <;> rfl
theorem up_cat (b B : Nat) (v : Value) : (up b B v).category = v.category := by cases v <;> rfl
theorem up_cats (b B : Nat) (l : List Value) : ((l.map (up b B)).map fun v => v.category).sum = cats l := by
  unfold cats
  rw [List.map_map]
  congr 1
  exact List.map_congr_left fun v _ => up_cat b B v
theorem up_narrow {b B : Nat} {ty : FieldType} {v : Value} (h : narrow ty v = v) : narrow ty (up b B v) = up b B v := by
  cases v <;> first | exact h | (cases ty <;> rfl)
theorem up_fits {b B : Nat} {ty : FieldType} {v : Value} (h : fits ty v = true) : fits ty (up b B v) = true := by
  cases v <;> first | exact h | (cases ty <;> first | rfl | exact h)
/-- the known locals -/
def lis1 (b B : Nat) (lo : ML) (i : Nat) : Option (Nat × Value) := match lo[i]? with
  | some (some (.int x)) => some (i, .int x)
  | some (some (.ref a)) => some (i, .ref (ad b B a))
  | some (some (.long x)) => if lo[i + 1]? = some mSec then some (i, .long x) else none
  | _ => none
def lis (b B : Nat) (lo : ML) : List (Nat × Value) := (List.range lo.length).filterMap (lis1 b B lo)
def RL (b B : Nat) (lo : ML) (ls : Array Slot) : Prop := lv_has ls lo.length (lis b B lo)
theorem lis_mem {b B : Nat} {lo : ML} {q : Nat × Value} : q ∈ lis b B lo ↔ ∃ i, i < lo.length ∧ lis1 b B lo i = some q := by
  simp [lis, List.mem_filterMap]
theorem lis_in {b B : Nat} {lo : ML} {i : Nat} {v : Value} (h : lis1 b B lo i = some (i, v)) : (i, v) ∈ lis b B lo := by
  refine lis_mem.mpr ⟨i, ?_, h⟩
  apply Classical.byContradiction
  intro hn
  have h1 : lo[i]? = none := List.getElem?_eq_none_iff.mpr (Nat.not_lt.mp hn)
  rw [lis1, h1] at h
  cases h
theorem lis1_fst {b B : Nat} {lo : ML} {i : Nat} {q : Nat × Value} (h : lis1 b B lo i = some q) : q.1 = i := by
  unfold lis1 at h
  split at h
  · cases h; rfl
  · cases h; rfl
  · split at h
    · cases h; rfl
    · cases h
  · cases h
theorem RL.at {b B : Nat} {lo : ML} {ls : Array Slot} (h : RL b B lo ls) {i : Nat} {v : Value} (hv : lis1 b B lo i = some (i, v)) : ls[i]? = some (.val v) := h.2.2 (i, v) (lis_in hv)
theorem RL.sub {b B : Nat} {lo : ML} {ls : Array Slot} {n : Nat} {l : List (Nat × Value)} (h : lv_has ls n l) (hn : n = lo.length) (hs : ∀ q ∈ lis b B lo, q ∈ l) : RL b B lo ls := by
  subst hn
  exact ⟨h.1, h.2.1, fun q hq => h.2.2 q (hs q hq)⟩
theorem lis_set1 {b B : Nat} {lo : ML} {k : Nat} {v : Value} (hk : k < lo.length) (hv : (∃ x, v = .int x) ∨ ∃ a, v = .ref a) : ∀ q ∈ lis b B (lo.set k (some v)), q ∈ (k, up b B v) :: (lis b B lo).filter (fun q => !(q.1 == k) && !(q.1 + 1 == k && q.2.category == 2)) := by
  intro q hq
  obtain ⟨i, hi, h⟩ := lis_mem.mp hq
  rw [List.length_set] at hi
  by_cases hik : i = k
  · subst hik
    have h1 : lis1 b B (lo.set i (some v)) i = some (i, up b B v) := by
      rcases hv with ⟨x, rfl⟩ | ⟨a, rfl⟩ <;> simp [lis1, hk, up]
    rw [h1] at h
    cases h
    exact List.mem_cons_self
  · have g0 : (lo.set k (some v))[i]? = lo[i]? := List.getElem?_set_ne (Ne.symm hik)
    refine List.mem_cons_of_mem _ (List.mem_filter.mpr ?_)
    have key : lis1 b B lo i = some q ∧ (i + 1 = k → ¬ q.2.category = 2) := by
      unfold lis1 at h ⊢
      rw [g0] at h
      split at h
      · next x hx => cases h; exact ⟨rfl, fun _ => by simp [Value.category]⟩
      · next a hx => cases h; exact ⟨rfl, fun _ => by simp [Value.category]⟩
      · next x hx =>
        split at h
        · next hs =>
          cases h
          by_cases hk1 : i + 1 = k
          · exfalso
            rw [hk1, List.getElem?_set_self hk] at hs
            rcases hv with ⟨x, rfl⟩ | ⟨a, rfl⟩ <;> cases hs
          · rw [List.getElem?_set_ne (Ne.symm hk1)] at hs
            exact ⟨if_pos hs, fun h => absurd h hk1⟩
        · cases h
      · cases h
    have hq1 : q.1 = i := lis1_fst key.1
    refine ⟨lis_mem.mpr ⟨i, hi, key.1⟩, ?_⟩
    rw [hq1]
    simp only [Bool.and_eq_true, Bool.not_eq_true', beq_eq_false_iff_ne, ne_eq, Bool.and_eq_false_iff]
    refine ⟨hik, ?_⟩
    by_cases hk1 : i + 1 = k
    · exact Or.inr (by simpa using key.2 hk1)
    · exact Or.inl hk1
theorem lis_set2 {b B : Nat} {lo : ML} {k : Nat} {x : Int64} (hk : k + 1 < lo.length) : ∀ q ∈ lis b B ((lo.set k (some (.long x))).set (k + 1) mSec), q ∈ (k, Value.long x) :: (lis b B lo).filter (fun q => !(q.1 == k) && (!(q.1 == k + 1) && !(q.1 + 1 == k && q.2.category == 2))) := by
  intro q hq
  obtain ⟨i, hi, h⟩ := lis_mem.mp hq
  rw [List.length_set, List.length_set] at hi
  by_cases hik : i = k
  · subst hik
    have e1 : ((lo.set i (some (.long x))).set (i + 1) mSec)[i]? = some (some (.long x)) := by
      rw [List.getElem?_set_ne (by omega), List.getElem?_set_self (by omega)]
    have e2 : ((lo.set i (some (.long x))).set (i + 1) mSec)[i + 1]? = some mSec := by
      rw [List.getElem?_set_self (by rw [List.length_set]; exact hk)]
    unfold lis1 at h
    rw [e1] at h
    simp only [e2, if_true] at h
    cases h
    exact List.mem_cons_self
  · by_cases hik2 : i = k + 1
    · exfalso
      subst hik2
      unfold lis1 at h
      rw [List.getElem?_set_self (by rw [List.length_set]; exact hk)] at h
      cases h
    · have g0 : ((lo.set k (some (.long x))).set (k + 1) mSec)[i]? = lo[i]? := by
        rw [List.getElem?_set_ne (Ne.symm hik2), List.getElem?_set_ne (Ne.symm hik)]
      refine List.mem_cons_of_mem _ (List.mem_filter.mpr ?_)
      have key : lis1 b B lo i = some q ∧ (i + 1 = k → ¬ q.2.category = 2) := by
        unfold lis1 at h ⊢
        rw [g0] at h
        split at h
        · next x hx => cases h; exact ⟨rfl, fun _ => by simp [Value.category]⟩
        · next a hx => cases h; exact ⟨rfl, fun _ => by simp [Value.category]⟩
        · next y hx =>
          split at h
          · next hs =>
            cases h
            by_cases hk1 : i + 1 = k
            · exfalso
              rw [hk1, List.getElem?_set_ne (by omega), List.getElem?_set_self (by omega)] at hs
              cases hs
            · rw [List.getElem?_set_ne (by omega), List.getElem?_set_ne (Ne.symm hk1)] at hs
              exact ⟨if_pos hs, fun h => absurd h hk1⟩
          · cases h
        · cases h
      have hq1 : q.1 = i := lis1_fst key.1
      refine ⟨lis_mem.mpr ⟨i, hi, key.1⟩, ?_⟩
      rw [hq1]
      simp only [Bool.and_eq_true, Bool.not_eq_true', beq_eq_false_iff_ne, ne_eq, Bool.and_eq_false_iff]
      refine ⟨hik, hik2, ?_⟩
      by_cases hk1 : i + 1 = k
      · exact Or.inr (by simpa using key.2 hk1)
      · exact Or.inl hk1
/-! Steps that look at the frame alone: the JVM does what the small machine does. -/
def dec (cc : ByteArray) (pc : Nat) (i : Instr) : Prop := ∃ len, decode cc pc = .ok (i, len) ∧ (sw i = false → len = ln i)
def SimP (Wf : JFrame → Prop) (m : MethodId) (b B pc : Nat) (lo : ML) (st : List Value) (h : MH) (r : SR) : Prop :=
  ∃ (pc' : Nat) (lo' : ML) (st' : List Value), r = .inl ((pc', lo', st'), h) ∧ ((∀ ls', RL b B lo' ls' → Wf (F0 m pc' ls' (st'.map (up b B)))) → ∀ ls, RL b B lo ls → Wf (F0 m pc ls (st.map (up b B))))
section SP
variable {Wf : JFrame → Prop} {m : MethodId} {b B pc pc' : Nat} {lo : ML} {st : List Value} {h : MH} {r : SR}
theorem s_nx {st' : List Value} (row : ∀ ls, Wf (F0 m pc' ls (st'.map (up b B))) → Wf (F0 m pc ls (st.map (up b B)))) (hs : nx pc' lo st' h = some r) : SimP Wf m b B pc lo st h r := by
  cases hs
  exact ⟨_, _, _, rfl, fun k ls hl => row ls (k ls hl)⟩
theorem s_jm {off : Int} {st' : List Value} (row : ∀ ls (tgt : Nat), (pc : Int) + off = (tgt : Int) → Wf (F0 m tgt ls (st'.map (up b B))) → Wf (F0 m pc ls (st.map (up b B)))) (hs : jm pc off lo st' h = some r) : SimP Wf m b B pc lo st h r := by
  unfold jm at hs
  split at hs
  · next hn =>
    cases hs
    exact ⟨_, _, _, rfl, fun k ls hl => row ls _ (Int.toNat_of_nonneg hn).symm (k ls hl)⟩
  · cases hs
theorem s_ldI {k : Nat} (row : ∀ (x : Int32) ls, ls[k]? = some (.val (.int x)) → Wf (F0 m pc' ls (.int x :: st.map (up b B))) → Wf (F0 m pc ls (st.map (up b B)))) (hs : ldI pc' k lo st h = some r) : SimP Wf m b B pc lo st h r := by
  unfold ldI at hs
  split at hs
  · next x hx =>
    cases hs
    exact ⟨_, _, _, rfl, fun kk ls hl => row x ls (hl.at (by rw [lis1, hx])) (kk ls hl)⟩
  · cases hs
theorem s_ldJ {k : Nat} (row : ∀ (x : Int64) ls, ls[k]? = some (.val (.long x)) → Wf (F0 m pc' ls (.long x :: st.map (up b B))) → Wf (F0 m pc ls (st.map (up b B)))) (hs : ldJ pc' k lo st h = some r) : SimP Wf m b B pc lo st h r := by
  unfold ldJ at hs
  split at hs
  · next x hx =>
    split at hs
    · next hx2 =>
      cases hs
      exact ⟨_, _, _, rfl, fun kk ls hl => row x ls (hl.at (by rw [lis1, hx]; simp [hx2])) (kk ls hl)⟩
    · cases hs
  · cases hs
theorem s_ldA {k : Nat} (row : ∀ (x : Nat) ls, ls[k]? = some (.val (.ref x)) → Wf (F0 m pc' ls (.ref x :: st.map (up b B))) → Wf (F0 m pc ls (st.map (up b B)))) (hs : ldA pc' k lo st h = some r) : SimP Wf m b B pc lo st h r := by
  unfold ldA at hs
  split at hs
  · next x hx =>
    cases hs
    exact ⟨_, _, _, rfl, fun kk ls hl => row _ ls (hl.at (by rw [lis1, hx])) (kk ls hl)⟩
  · cases hs
theorem s_stI {k : Nat} (row : ∀ (x : Int32) (rest : List Value) ls lv, lv_has ls lo.length lv → k < lo.length → (∀ ls', lv_has ls' lo.length ((k, Value.int x) :: lv.filter (fun q => !(q.1 == k) && !(q.1 + 1 == k && q.2.category == 2))) → Wf (F0 m pc' ls' rest)) → Wf (F0 m pc ls (.int x :: rest))) (hs : stI pc' k lo st h = some r) : SimP Wf m b B pc lo st h r := by
  unfold stI at hs
  split at hs
  · next x rest =>
    split at hs
    · next hk =>
      cases hs
      exact ⟨_, _, _, rfl, fun kk ls hl => row x _ ls _ hl hk fun ls' h' => kk ls' (RL.sub h' (by simp) (lis_set1 hk (Or.inl ⟨x, rfl⟩)))⟩
    · cases hs
  · cases hs
theorem s_stJ {k : Nat} (row : ∀ (x : Int64) (rest : List Value) ls lv, lv_has ls lo.length lv → k + 1 < lo.length → (∀ ls', lv_has ls' lo.length ((k, Value.long x) :: lv.filter (fun q => !(q.1 == k) && (!(q.1 == k + 1) && !(q.1 + 1 == k && q.2.category == 2)))) → Wf (F0 m pc' ls' rest)) → Wf (F0 m pc ls (.long x :: rest))) (hs : stJ pc' k lo st h = some r) : SimP Wf m b B pc lo st h r := by
  unfold stJ at hs
  split at hs
  · next x rest =>
    split at hs
    · next hk =>
      cases hs
      exact ⟨_, _, _, rfl, fun kk ls hl => row x _ ls _ hl hk fun ls' h' => kk ls' (RL.sub h' (by simp) (lis_set2 hk))⟩
    · cases hs
  · cases hs
theorem s_stA {k : Nat} (row : ∀ (x : Nat) (rest : List Value) ls lv, lv_has ls lo.length lv → k < lo.length → (∀ ls', lv_has ls' lo.length ((k, Value.ref x) :: lv.filter (fun q => !(q.1 == k) && !(q.1 + 1 == k && q.2.category == 2))) → Wf (F0 m pc' ls' rest)) → Wf (F0 m pc ls (.ref x :: rest))) (hs : stA pc' k lo st h = some r) : SimP Wf m b B pc lo st h r := by
  unfold stA at hs
  split at hs
  · next x rest =>
    split at hs
    · next hk =>
      cases hs
      exact ⟨_, _, _, rfl, fun kk ls hl => row _ _ ls _ hl hk fun ls' h' => kk ls' (RL.sub h' (by simp) (lis_set1 hk (Or.inr ⟨x, rfl⟩)))⟩
    · cases hs
  · cases hs
theorem s_inc {k : Nat} {n : Int} (row : ∀ (x : Int32) (ls : Array Slot) (lv : List (Nat × Value)) (j : Nat), lv_has ls lo.length lv → lv[j]? = some (k, Value.int x) → k < lo.length → (∀ ls', lv_has ls' lo.length ((k, Value.int (x + Int32.ofInt n)) :: lv.filter (fun q => !(q.1 == k) && !(q.1 + 1 == k && q.2.category == 2))) → Wf (F0 m pc' ls' (st.map (up b B)))) → Wf (F0 m pc ls (st.map (up b B)))) (hs : inc pc' k n lo st h = some r) : SimP Wf m b B pc lo st h r := by
  unfold inc at hs
  split at hs
  · next x hx =>
    cases hs
    have hk : k < lo.length := (List.getElem?_eq_some_iff.mp hx).1
    obtain ⟨j, hj⟩ := List.getElem?_of_mem (lis_in (b := b) (B := B) (lo := lo) (i := k) (v := .int x) (by rw [lis1, hx]))
    exact ⟨_, _, _, rfl, fun kk ls hl => row x ls _ j hl hj hk fun ls' h' => kk ls' (RL.sub h' (by simp) (lis_set1 hk (Or.inl ⟨_, rfl⟩)))⟩
  · cases hs
theorem s_ar1 {f : Int32 → Int32} (row : ∀ (x : Int32) (rest : List Value) ls, Wf (F0 m pc' ls (.int (f x) :: rest)) → Wf (F0 m pc ls (.int x :: rest))) (hs : ar1 f pc' lo st h = some r) : SimP Wf m b B pc lo st h r := by
  unfold ar1 at hs
  split at hs
  · cases hs
    exact ⟨_, _, _, rfl, fun k ls hl => row _ _ ls (k ls hl)⟩
  · cases hs
theorem s_ar2 {f : Int32 → Int32 → Int32} (row : ∀ (x y : Int32) (rest : List Value) ls, Wf (F0 m pc' ls (.int (f x y) :: rest)) → Wf (F0 m pc ls (.int y :: .int x :: rest))) (hs : ar2 f pc' lo st h = some r) : SimP Wf m b B pc lo st h r := by
  unfold ar2 at hs
  split at hs
  · cases hs
    exact ⟨_, _, _, rfl, fun k ls hl => row _ _ _ ls (k ls hl)⟩
  · cases hs
theorem s_dv {f : Int32 → Int32 → Int32} (row : ∀ (x y : Int32) (rest : List Value) ls, ¬ y = 0 → Wf (F0 m pc' ls (.int (f x y) :: rest)) → Wf (F0 m pc ls (.int y :: .int x :: rest))) (hs : dvS f pc' lo st h = some r) : SimP Wf m b B pc lo st h r := by
  unfold dvS at hs
  split at hs
  · split at hs
    · cases hs
    · next hy =>
      cases hs
      exact ⟨_, _, _, rfl, fun k ls hl => row _ _ _ ls hy (k ls hl)⟩
  · cases hs
theorem s_al2 {f : Int64 → Int64 → Int64} (row : ∀ (x y : Int64) (rest : List Value) ls, Wf (F0 m pc' ls (.long (f x y) :: rest)) → Wf (F0 m pc ls (.long y :: .long x :: rest))) (hs : al2 f pc' lo st h = some r) : SimP Wf m b B pc lo st h r := by
  unfold al2 at hs
  split at hs
  · cases hs
    exact ⟨_, _, _, rfl, fun k ls hl => row _ _ _ ls (k ls hl)⟩
  · cases hs
theorem s_als {f : Int64 → Int32 → Int64} (row : ∀ (x : Int64) (y : Int32) (rest : List Value) ls, Wf (F0 m pc' ls (.long (f x y) :: rest)) → Wf (F0 m pc ls (.int y :: .long x :: rest))) (hs : als f pc' lo st h = some r) : SimP Wf m b B pc lo st h r := by
  unfold als at hs
  split at hs
  · cases hs
    exact ⟨_, _, _, rfl, fun k ls hl => row _ _ _ ls (k ls hl)⟩
  · cases hs
theorem s_lcmp (row : ∀ (x y : Int64) (rest : List Value) ls, Wf (F0 m pc' ls (.int (lg_cmp x y) :: rest)) → Wf (F0 m pc ls (.long y :: .long x :: rest))) (hs : lcmpS pc' lo st h = some r) : SimP Wf m b B pc lo st h r := by
  unfold lcmpS at hs
  split at hs
  · cases hs
    exact ⟨_, _, _, rfl, fun k ls hl => row _ _ _ ls (k ls hl)⟩
  · cases hs
theorem s_i2l (row : ∀ (x : Int32) (rest : List Value) ls, Wf (F0 m pc' ls (.long x.toInt64 :: rest)) → Wf (F0 m pc ls (.int x :: rest))) (hs : i2lS pc' lo st h = some r) : SimP Wf m b B pc lo st h r := by
  unfold i2lS at hs
  split at hs
  · cases hs
    exact ⟨_, _, _, rfl, fun k ls hl => row _ _ ls (k ls hl)⟩
  · cases hs
theorem s_l2i (row : ∀ (x : Int64) (rest : List Value) ls, Wf (F0 m pc' ls (.int x.toInt32 :: rest)) → Wf (F0 m pc ls (.long x :: rest))) (hs : l2iS pc' lo st h = some r) : SimP Wf m b B pc lo st h r := by
  unfold l2iS at hs
  split at hs
  · cases hs
    exact ⟨_, _, _, rfl, fun k ls hl => row _ _ ls (k ls hl)⟩
  · cases hs
theorem s_du1 (row : ∀ (v : Value) (rest : List Value) ls, v.category = 1 → Wf (F0 m pc' ls (v :: v :: rest)) → Wf (F0 m pc ls (v :: rest))) (hs : du1 pc' lo st h = some r) : SimP Wf m b B pc lo st h r := by
  unfold du1 at hs
  split at hs
  · split at hs
    · next hv =>
      cases hs
      exact ⟨_, _, _, rfl, fun k ls hl => row _ _ ls (by rw [up_cat]; exact hv) (k ls hl)⟩
    · cases hs
  · cases hs
theorem s_po1 (row : ∀ (v : Value) (rest : List Value) ls, v.category = 1 → Wf (F0 m pc' ls rest) → Wf (F0 m pc ls (v :: rest))) (hs : po1 pc' lo st h = some r) : SimP Wf m b B pc lo st h r := by
  unfold po1 at hs
  split at hs
  · split at hs
    · next hv =>
      cases hs
      exact ⟨_, _, _, rfl, fun k ls hl => row _ _ ls (by rw [up_cat]; exact hv) (k ls hl)⟩
    · cases hs
  · cases hs
theorem s_dux1 (row : ∀ (v w : Value) (rest : List Value) ls, v.category = 1 → w.category = 1 → Wf (F0 m pc' ls (v :: w :: v :: rest)) → Wf (F0 m pc ls (v :: w :: rest))) (hs : dux1 pc' lo st h = some r) : SimP Wf m b B pc lo st h r := by
  unfold dux1 at hs
  split at hs
  · split at hs
    · next hv =>
      cases hs
      exact ⟨_, _, _, rfl, fun k ls hl => row _ _ _ ls (by rw [up_cat]; exact hv.1) (by rw [up_cat]; exact hv.2) (k ls hl)⟩
    · cases hs
  · cases hs
theorem s_dux2 (row : ∀ (v w u : Value) (rest : List Value) ls, v.category = 1 → w.category = 1 → u.category = 1 → Wf (F0 m pc' ls (v :: w :: u :: v :: rest)) → Wf (F0 m pc ls (v :: w :: u :: rest))) (hs : dux2 pc' lo st h = some r) : SimP Wf m b B pc lo st h r := by
  unfold dux2 at hs
  split at hs
  · split at hs
    · next hv =>
      cases hs
      exact ⟨_, _, _, rfl, fun k ls hl => row _ _ _ _ ls (by rw [up_cat]; exact hv.1) (by rw [up_cat]; exact hv.2.1) (by rw [up_cat]; exact hv.2.2) (k ls hl)⟩
    · cases hs
  · cases hs
theorem s_du2 (row : ∀ (v w : Value) (rest : List Value) ls, v.category = 1 → w.category = 1 → Wf (F0 m pc' ls (v :: w :: v :: w :: rest)) → Wf (F0 m pc ls (v :: w :: rest))) (hs : du2 pc' lo st h = some r) : SimP Wf m b B pc lo st h r := by
  unfold du2 at hs
  split at hs
  · split at hs
    · next hv =>
      cases hs
      exact ⟨_, _, _, rfl, fun k ls hl => row _ _ _ ls (by rw [up_cat]; exact hv.1) (by rw [up_cat]; exact hv.2) (k ls hl)⟩
    · cases hs
  · cases hs
theorem s_br1 {k : ClassFile.Cond} {off : Int} (row : ∀ (x : Int32) (rest : List Value) ls (tgt : Nat), (pc : Int) + off = (tgt : Int) → (cb k x 0 = true → Wf (F0 m tgt ls rest)) → (¬ cb k x 0 = true → Wf (F0 m (pc + 3) ls rest)) → Wf (F0 m pc ls (.int x :: rest))) (hs : br1 k pc off lo st h = some r) : SimP Wf m b B pc lo st h r := by
  unfold br1 at hs
  split at hs
  · split at hs
    · next hn =>
      have ht := (Int.toNat_of_nonneg hn).symm
      split at hs
      · next hc =>
        cases hs
        exact ⟨_, _, _, rfl, fun kk ls hl => row _ _ ls _ ht (fun _ => kk ls hl) (fun h => absurd hc h)⟩
      · next hc =>
        cases hs
        exact ⟨_, _, _, rfl, fun kk ls hl => row _ _ ls _ ht (fun h => absurd h hc) (fun _ => kk ls hl)⟩
    · cases hs
  · cases hs
theorem s_br2 {k : ClassFile.Cond} {off : Int} (row : ∀ (x y : Int32) (rest : List Value) ls (tgt : Nat), (pc : Int) + off = (tgt : Int) → (cb k x y = true → Wf (F0 m tgt ls rest)) → (¬ cb k x y = true → Wf (F0 m (pc + 3) ls rest)) → Wf (F0 m pc ls (.int y :: .int x :: rest))) (hs : br2 k pc off lo st h = some r) : SimP Wf m b B pc lo st h r := by
  unfold br2 at hs
  split at hs
  · split at hs
    · next hn =>
      have ht := (Int.toNat_of_nonneg hn).symm
      split at hs
      · next hc =>
        cases hs
        exact ⟨_, _, _, rfl, fun kk ls hl => row _ _ _ ls _ ht (fun _ => kk ls hl) (fun h => absurd hc h)⟩
      · next hc =>
        cases hs
        exact ⟨_, _, _, rfl, fun kk ls hl => row _ _ _ ls _ ht (fun h => absurd h hc) (fun _ => kk ls hl)⟩
    · cases hs
  · cases hs
theorem s_swL {dflt : Int} {ps : Array (Int × Int)} (row : ∀ (x : Int32) (rest : List Value) ls (tgt : Nat), (ps.toList.zip (ps.toList.drop 1)).all (fun (a, next) => a.1 < next.1) = true → (pc : Int) + Op.lookupswitch.offset ps.toList dflt x.toInt = (tgt : Int) → Wf (F0 m tgt ls rest) → Wf (F0 m pc ls (.int x :: rest))) (hs : swL dflt ps pc lo st h = some r) : SimP Wf m b B pc lo st h r := by
  unfold swL at hs
  split at hs
  · split at hs
    · next hp =>
      unfold jm at hs
      split at hs
      · next hn =>
        cases hs
        exact ⟨_, _, _, rfl, fun kk ls hl => row _ _ ls _ hp (Int.toNat_of_nonneg hn).symm (kk ls hl)⟩
      · cases hs
    · cases hs
  · cases hs
theorem s_swT {dflt lw hi : Int} {offs : Array Int} (rowO : ∀ (x : Int32) (rest : List Value) ls (tgt : Nat), (x.toInt < lw ∨ hi < x.toInt) → (pc : Int) + dflt = (tgt : Int) → Wf (F0 m tgt ls rest) → Wf (F0 m pc ls (.int x :: rest)))
    (rowI : ∀ (x : Int32) (off : Int) (rest : List Value) ls (tgt : Nat), ¬ x.toInt < lw → ¬ hi < x.toInt → offs[(x.toInt - lw).toNat]? = some off → (pc : Int) + off = (tgt : Int) → Wf (F0 m tgt ls rest) → Wf (F0 m pc ls (.int x :: rest))) (hs : swT dflt lw hi offs pc lo st h = some r) : SimP Wf m b B pc lo st h r := by
  unfold swT at hs
  split at hs
  · split at hs
    · next ho =>
      unfold jm at hs
      split at hs
      · next hn =>
        cases hs
        exact ⟨_, _, _, rfl, fun kk ls hl => rowO _ _ ls _ ho (Int.toNat_of_nonneg hn).symm (kk ls hl)⟩
      · cases hs
    · next ho =>
      split at hs
      · next off hoff =>
        unfold jm at hs
        split at hs
        · next hn =>
          cases hs
          exact ⟨_, _, _, rfl, fun kk ls hl => rowI _ _ _ ls _ (fun h => ho (Or.inl h)) (fun h => ho (Or.inr h)) hoff (Int.toNat_of_nonneg hn).symm (kk ls hl)⟩
        · cases hs
      · cases hs
  · cases hs
end SP
section SPW
variable {p : Program} {l : Launch} {e : Env} {R : Room} {s : State} {m : MethodId} {args : Array Value} {below : List Frame} {meth : Method} {c : Code} {H : Heap} {locs : List Loc} {cells slots : Nat} {Q : State → Prop}
variable {cc : ByteArray} {b B pc : Nat} {lo : ML} {st : List Value} {h : MH} {r : SR} {i : Instr}
set_option maxHeartbeats 4000000 in
theorem sim_P (hx : p.tables.exec = Jvm.exec) (hb : c.code = cc) (hd : dec cc pc i) (hs : stpP i pc lo st h = some r) : SimP (fun g => W p l e R s m args below meth c H locs cells slots Q g) m b B pc lo st h r := by
  obtain ⟨len, hdg, hl⟩ := hd
  unfold stpP at hs
  split at hs
  · have e1 : len = 1 := hl rfl
    subst e1; exact s_nx (fun ls k => lv_iconst hx hb hdg rfl k) hs
  · have e1 : len = 2 := hl rfl
    subst e1; exact s_nx (fun ls k => lv_bipush hx hb hdg rfl k) hs
  · have e1 : len = 3 := hl rfl
    subst e1; exact s_nx (fun ls k => lv_sipush hx hb hdg rfl k) hs
  · have e1 : len = 1 := hl rfl
    subst e1; exact s_nx (fun ls k => lv_lconst hx hb hdg rfl k) hs
  · have e1 : len = 1 := hl rfl
    subst e1; exact s_ldI (fun x ls hq k => lv_iload_n hx hb hdg rfl hq k) hs
  · have e1 : len = 2 := hl rfl
    subst e1; exact s_ldI (fun x ls hq k => lv_iload hx hb hdg hq k) hs
  · have e1 : len = 1 := hl rfl
    subst e1; exact s_ldJ (fun x ls hq k => lv_lload_n hx hb hdg rfl hq k) hs
  · have e1 : len = 2 := hl rfl
    subst e1; exact s_ldJ (fun x ls hq k => lv_lload hx hb hdg hq k) hs
  · have e1 : len = 1 := hl rfl
    subst e1; exact s_ldA (fun x ls hq k => lv_aload_n hx hb hdg rfl hq k) hs
  · have e1 : len = 2 := hl rfl
    subst e1; exact s_ldA (fun x ls hq k => lv_aload hx hb hdg hq k) hs
  · have e1 : len = 1 := hl rfl
    subst e1; exact s_stI (fun x rest ls lv hv hk k => lv_istore_n hx hb hdg rfl hv hk rfl k) hs
  · have e1 : len = 2 := hl rfl
    subst e1; exact s_stI (fun x rest ls lv hv hk k => lv_istore hx hb hdg hv hk rfl k) hs
  · have e1 : len = 1 := hl rfl
    subst e1; exact s_stJ (fun x rest ls lv hv hk k => lv_lstore_n hx hb hdg rfl hv hk rfl k) hs
  · have e1 : len = 2 := hl rfl
    subst e1; exact s_stJ (fun x rest ls lv hv hk k => lv_lstore hx hb hdg hv hk rfl k) hs
  · have e1 : len = 1 := hl rfl
    subst e1; exact s_stA (fun x rest ls lv hv hk k => lv_astore_n hx hb hdg rfl hv hk rfl k) hs
  · have e1 : len = 2 := hl rfl
    subst e1; exact s_stA (fun x rest ls lv hv hk k => lv_astore hx hb hdg hv hk rfl k) hs
  · have e1 : len = 3 := hl rfl
    subst e1; exact s_inc (fun x ls lv j hv hj hk k => lv_iinc hx hb hdg hv hj rfl hk rfl k) hs
  · have e1 : len = 1 := hl rfl
    subst e1; exact s_ar2 (fun x y rest ls k => lv_iadd hx hb hdg k) hs
  · have e1 : len = 1 := hl rfl
    subst e1; exact s_ar2 (fun x y rest ls k => lv_isub hx hb hdg k) hs
  · have e1 : len = 1 := hl rfl
    subst e1; exact s_ar2 (fun x y rest ls k => lv_imul hx hb hdg k) hs
  · have e1 : len = 1 := hl rfl
    subst e1; exact s_ar2 (fun x y rest ls k => lv_iand hx hb hdg k) hs
  · have e1 : len = 1 := hl rfl
    subst e1; exact s_ar2 (fun x y rest ls k => lv_ior hx hb hdg k) hs
  · have e1 : len = 1 := hl rfl
    subst e1; exact s_ar2 (fun x y rest ls k => lv_ixor hx hb hdg k) hs
  · have e1 : len = 1 := hl rfl
    subst e1; exact s_ar2 (fun x y rest ls k => lv_ishl hx hb hdg k) hs
  · have e1 : len = 1 := hl rfl
    subst e1; exact s_ar2 (fun x y rest ls k => lv_ishr hx hb hdg k) hs
  · have e1 : len = 1 := hl rfl
    subst e1; exact s_ar2 (fun x y rest ls k => lv_iushr hx hb hdg rfl k) hs
  · have e1 : len = 1 := hl rfl
    subst e1; exact s_dv (fun x y rest ls hy k => lv_idiv hx hb hdg hy k) hs
  · have e1 : len = 1 := hl rfl
    subst e1; exact s_dv (fun x y rest ls hy k => lv_irem hx hb hdg hy k) hs
  · have e1 : len = 1 := hl rfl
    subst e1; exact s_ar1 (fun x rest ls k => lv_ineg hx hb hdg k) hs
  · have e1 : len = 1 := hl rfl
    subst e1; exact s_al2 (fun x y rest ls k => lv_ladd hx hb hdg k) hs
  · have e1 : len = 1 := hl rfl
    subst e1; exact s_al2 (fun x y rest ls k => lv_lsub hx hb hdg k) hs
  · have e1 : len = 1 := hl rfl
    subst e1; exact s_al2 (fun x y rest ls k => lv_lmul hx hb hdg k) hs
  · have e1 : len = 1 := hl rfl
    subst e1; exact s_al2 (fun x y rest ls k => lv_land hx hb hdg k) hs
  · have e1 : len = 1 := hl rfl
    subst e1; exact s_al2 (fun x y rest ls k => lv_lor hx hb hdg k) hs
  · have e1 : len = 1 := hl rfl
    subst e1; exact s_al2 (fun x y rest ls k => lv_lxor hx hb hdg k) hs
  · have e1 : len = 1 := hl rfl
    subst e1; exact s_als (fun x y rest ls k => lv_lushr hx hb hdg rfl k) hs
  · have e1 : len = 1 := hl rfl
    subst e1; exact s_als (fun x y rest ls k => lv_lshl hx hb hdg rfl k) hs
  · have e1 : len = 1 := hl rfl
    subst e1; exact s_als (fun x y rest ls k => lv_lshr hx hb hdg rfl k) hs
  · have e1 : len = 1 := hl rfl
    subst e1; exact s_lcmp (fun x y rest ls k => W.lcmp hx hb hdg k) hs
  · have e1 : len = 1 := hl rfl
    subst e1; exact s_i2l (fun x rest ls k => lv_i2l hx hb hdg rfl k) hs
  · have e1 : len = 1 := hl rfl
    subst e1; exact s_l2i (fun x rest ls k => lv_l2i hx hb hdg rfl k) hs
  · have e1 : len = 1 := hl rfl
    subst e1; exact s_du1 (fun v rest ls hv k => lv_dup hx hb hdg hv k) hs
  · have e1 : len = 1 := hl rfl
    subst e1; exact s_dux1 (fun v w rest ls hv hw k => lv_dup_x1 hx hb hdg hv hw k) hs
  · have e1 : len = 1 := hl rfl
    subst e1; exact s_dux2 (fun v w u rest ls hv hw hu k => lv_dup_x2 hx hb hdg hv hw hu k) hs
  · have e1 : len = 1 := hl rfl
    subst e1; exact s_du2 (fun v w rest ls hv hw k => lv_dup2_11 hx hb hdg hv hw k) hs
  · have e1 : len = 1 := hl rfl
    subst e1; exact s_po1 (fun v rest ls hv k => lv_pop hx hb hdg hv k) hs
  · have e1 : len = 3 := hl rfl
    subst e1; exact s_jm (fun ls tgt ht k => lv_goto hx hb hdg ht k) hs
  · next k off =>
    have e1 : len = 3 := hl rfl
    subst e1
    refine s_br1 (fun x rest ls tgt ht kt kf => ?_) hs
    cases k with
    | eq => exact lv_if_eq hx hb hdg ht (fun q => kt (decide_eq_true q)) (fun q => kf (fun z => q (of_decide_eq_true z)))
    | ne => exact lv_if_ne hx hb hdg ht (fun q => kt (decide_eq_true q)) (fun q => kf (fun z => (of_decide_eq_true z) q))
    | lt => exact lv_if_lt hx hb hdg ht (fun q => kt (decide_eq_true q)) (fun q => kf (fun z => q (of_decide_eq_true z)))
    | ge => exact lv_if_ge hx hb hdg ht (fun q => kt (decide_eq_true q)) (fun q => kf (fun z => q (of_decide_eq_true z)))
    | gt => exact lv_if_gt hx hb hdg ht (fun q => kt (decide_eq_true q)) (fun q => kf (fun z => q (of_decide_eq_true z)))
    | le => exact lv_if_le hx hb hdg ht (fun q => kt (decide_eq_true q)) (fun q => kf (fun z => q (of_decide_eq_true z)))
  · next k off =>
    have e1 : len = 3 := hl rfl
    subst e1
    refine s_br2 (fun x y rest ls tgt ht kt kf => ?_) hs
    cases k with
    | eq => exact lv_icmp_eq hx hb hdg ht (fun q => kt (decide_eq_true q)) (fun q => kf (fun z => q (of_decide_eq_true z)))
    | ne => exact lv_icmp_ne hx hb hdg ht (fun q => kt (decide_eq_true q)) (fun q => kf (fun z => (of_decide_eq_true z) q))
    | lt => exact lv_icmp_lt hx hb hdg ht (fun q => kt (decide_eq_true q)) (fun q => kf (fun z => q (of_decide_eq_true z)))
    | ge => exact lv_icmp_ge hx hb hdg ht (fun q => kt (decide_eq_true q)) (fun q => kf (fun z => q (of_decide_eq_true z)))
    | gt => exact lv_icmp_gt hx hb hdg ht (fun q => kt (decide_eq_true q)) (fun q => kf (fun z => q (of_decide_eq_true z)))
    | le => exact lv_icmp_le hx hb hdg ht (fun q => kt (decide_eq_true q)) (fun q => kf (fun z => q (of_decide_eq_true z)))
  · exact s_swL (fun x rest ls tgt hp ht k => lv_lookup hx hb hdg hp rfl ht k) hs
  · exact s_swT (fun x rest ls tgt ho ht k => lv_tableOut hx hb hdg ho ht k) (fun x off rest ls tgt h1 h2 ho ht k => lv_tableIn hx hb hdg h1 h2 ho ht k) hs
  · cases hs
end SPW
