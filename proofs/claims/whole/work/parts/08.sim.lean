def mK (dC : Nat → ClassId) (dI : Nat → Nat → Nat) (dA : Nat → ClassId) (s : State) : Prop := va_K (dC, dI) clT [] s ∧ (∀ t ∈ srtL, ArrOfT s (dA t) (tyT t) ∧ va_RA s (dA t) (tyT t)) ∧ (∀ w ∈ NW, va_Nw w s) ∧ (∀ C ∈ AOL, va_AO C s)
/-- the one String constant, and what String's methods read of statics: below B, where nothing is written -/
def strK (B : Nat) (s : State) : Prop := ∃ (adK adV : Nat → Nat), vk_R "FlowEquations" 161 "+-*<=&!?PFWC" (adK 0) s ∧ vk_S 1 [12] [[43, 45, 42, 60, 61, 38, 33, 63, 80, 70, 87, 67]] adK adV (fun q => B ≤ q) s s.heap ∧ va_Z "java/lang/String" "COMPACT_STRINGS" "Z" (.int 1) (fun q => B ≤ q) s s.heap ∧ va_Zq "jdk/internal/util/Preconditions" "SIOOBE_FORMATTER" "Ljava/util/function/BiFunction;" (fun q => B ≤ q) s s.heap
theorem strK.moved {B : Nat} {u U : State} (hW : u.WarmedH U.vm) (hq : ∀ a : Nat, a < u.heap.size → ¬ B ≤ a → U.heap[a]? = u.heap[a]?) (h : strK B u) : strK B U := by
  obtain ⟨adK, adV, h1, h2, h3, h4⟩ := h
  exact ⟨adK, adV, h1.warm hW, (h2.moved hW.alike).kept hq, (h3.moved hW.alike).kept hq, (h4.moved hW.alike).kept hq⟩
theorem strK.same {B : Nat} {u U : State} (hv : U.vm = u.vm) (hh : U.heap = u.heap) (h : strK B u) : strK B U := by
  obtain ⟨adK, adV, h1, h2, h3, h4⟩ := h
  have ha : u.vm.Alike U.vm := hv ▸ Vm.Alike.refl u.vm
  exact ⟨adK, adV, h1.same hv, by rw [hh]; exact h2.moved ha, by rw [hh]; exact h3.moved ha, by rw [hh]; exact h4.moved ha⟩
theorem srt_0 : 0 ∈ srtL := by decide
theorem srt_1 : 1 ∈ srtL := by decide
theorem srt_ref {s : State} {dA : Nat → ClassId} {t : Nat} (h : ArrOfT s (dA t) (tyT t)) (ht : t ∈ srtL) (h10 : 10 ≤ t) : ∃ C, ArrOfT s (dA t) (.object C) := by
  have : t = 12 := by simp [srtL] at ht; omega
  subst this
  exact ⟨_, h⟩
theorem srt_RA {s : State} {dA : Nat → ClassId} {t : Nat} {r : vw_C} (h : va_RA s (dA t) (tyT t)) (ht : t ∈ srtL) (h10 : 10 ≤ t) (hr : clT[t - 10]? = some r) : va_RA s (dA t) (.object r.1) := by
  have : t = 12 := by simp [srtL] at ht; omega
  subst this
  cases hr
  exact h
section MSIM
variable {p : Program} {l : Launch} {e : Env} {R : Room} {s : State} {m : MethodId} {args : Array Value} {below : List Frame} {meth : Method} {c : Code} {H : Heap} {locs : List Loc} {cells slots : Nat} {Q : State → Prop}
variable {b B : Nat} {dC : Nat → ClassId} {dI : Nat → Nat → Nat} {dA : Nat → ClassId}
abbrev RHm (b B : Nat) (dC : Nat → ClassId) (dI : Nat → Nat → Nat) (dA : Nat → ClassId) (s : State) (h : MH) (H : Heap) : Prop := RH b B dC dI dA clT srtL s h H
theorem mK.moved {u U : State} (hW : u.WarmedH U.vm) (h : mK dC dI dA u) : mK dC dI dA U := by
  obtain ⟨h1, h2, h3, h4⟩ := h
  exact ⟨h1.moved hW.alike, fun t ht => ⟨arrOfT_moved hW.alike (h2 t ht).1, (h2 t ht).2.moved hW.alike⟩, fun w hw => NW_warm hW hw (h3 w hw), fun C hC => (h4 C hC).moved hW.alike⟩
def mQ (b B : Nat) (dC : Nat → ClassId) (dI : Nat → Nat → Nat) (dA : Nat → ClassId) (v : Option Value) (h' : MH) : Array Value → State → Outcome → State → Prop := fun _ st oc t => (oc = .returned (v.map (up b B)) ∧ RHm b B dC dI dA t h' t.heap) ∧ va_F (fun q => B ≤ q) st t
theorem w_call {pc : Nat} {ls : Array Slot} {rest st0 : List Value} {a : Array Value} {mc ms : Nat} {v : Option Value} {h' : MH} (hr : va_Run p l e R s m args below meth c H locs cells slots mc ms (F0 m pc ls st0) rest (mQ b B dC dI dA v h' a) (fun q => B ≤ q)) (hS : va_S (fun q => B ≤ q) s.heap H locs)
    (kk : ∀ (H1 : Heap) (locs1 : List Loc), RHm b B dC dI dA s h' H1 → va_S (fun q => B ≤ q) s.heap H1 locs1 → W p l e R s m args below meth c H1 locs1 (cells + mc) (slots + ms) Q (F0 m (pc + 3) ls ((v.map (up b B)).toList ++ rest))) : W p l e R s m args below meth c H locs cells slots Q (F0 m pc ls st0) := by
  intro T hT X
  obtain ⟨v', st₀, t, T', L, h0, X', hL, e1, e2, ⟨⟨hv, hRH⟩, hz, hk⟩, st⟩ := hr T hT X
  cases hv
  rw [h0] at hz hk
  have hRH' : RHm b B dC dI dA s h' T'.heap := by
    rw [e1]
    refine RH.moved ?_ hRH
    rw [← e2]
    exact X'.warmed.alike.symm
  obtain ⟨t2, a1, b1⟩ := kk T'.heap (locs ++ L) hRH' ⟨Nat.le_trans hS.1 (by rw [e1]; exact hz), fun q h1 h2 => by rw [e1, hk q (Nat.lt_of_lt_of_le h1 hS.1) h2]; exact hS.2.1 q h1 h2, fun q hq => by
      rcases List.mem_append.mp hq with h | h
      · exact hS.2.2 q h
      · exact hL q h⟩ T' rfl X'
  exact ⟨t2, st t2 a1, b1⟩
def mCt (B : Nat) (dC : Nat → ClassId) (dI : Nat → Nat → Nat) (dA : Nat → ClassId) (p : Program) (s : State) (m : MethodId) (args : Array Value) (meth : Method) (c : Code) (M : Nat) : Prop :=
  p.tables.exec = Jvm.exec ∧ c.code = cod M ∧ c.maxLocals = mx M ∧ s.vm.findClass (nmM M).cls = some m.cls ∧ (∀ w ∈ TB, w.before args s = true) ∧ meth.name = (nmM M).name ∧ mK dC dI dA s ∧ strK B s
/-- the steps that read or write cells, or make some -/
theorem sim_H {M pc pc' z0 z1 : Nat} {i : Instr} {lo lo' : ML} {ls : Array Slot} {st st' : List Value} {h h' : MH} (C : mCt B dC dI dA p s m args meth c M) (hR : RHm b B dC dI dA s h H) (hS : va_S (fun q => B ≤ q) s.heap H locs) (hd : dec (cod M) pc i) (hok : okI M pc i = true) (hs : stpH M i pc lo st h = some (.inl ((pc', lo', st'), h'))) (hz0 : cells + z0 = h.1) (hz1 : slots + z1 = h.2.1) (hr0 : h'.1 ≤ R.cells + z0) (hr1 : h'.2.1 ≤ R.slots + z1)
    (kk : ∀ (H1 : Heap) (locs1 : List Loc) (cells1 slots1 : Nat), RHm b B dC dI dA s h' H1 → va_S (fun q => B ≤ q) s.heap H1 locs1 → cells1 + z0 = h'.1 → slots1 + z1 = h'.2.1 → W p l e R s m args below meth c H1 locs1 cells1 slots1 Q (F0 m pc' ls (st'.map (up b B)))) :
    lo' = lo ∧ W p l e R s m args below meth c H locs cells slots Q (F0 m pc ls (st.map (up b B))) := by
  obtain ⟨hx, hb, hml, hown, hts, hnm, ⟨hK, hAr, hNW, hAO⟩, -⟩ := C
  obtain ⟨len, hdg, hl⟩ := hd
  unfold stpH at hs
  split at hs
  · -- ldc
    have e1 : len = 2 := hl rfl
    subst e1
    cases hs
    refine ⟨rfl, ?_⟩
    simp only [okI] at hok
    split at hok
    · exact lv_ldc hx hb hown (hts _ (wat_in hok)) hdg (kk H locs cells slots hR hS hz0 hz1)
    · cases hok
  · -- ldc_w
    have e1 : len = 3 := hl rfl
    subst e1
    cases hs
    refine ⟨rfl, ?_⟩
    simp only [okI] at hok
    split at hok
    · exact lv_ldcw hx hb hown (hts _ (wat_in hok)) hdg (kk H locs cells slots hR hS hz0 hz1)
    · cases hok
  · -- ldc2_w
    have e1 : len = 3 := hl rfl
    subst e1
    cases hs
    refine ⟨rfl, ?_⟩
    simp only [okI] at hok
    split at hok
    · exact lv_ldc2 hx hb hown (hts _ (wat_in hok)) hdg (kk H locs cells slots hR hS hz0 hz1)
    · cases hok
  · -- getfield
    have e1 : len = 3 := hl rfl
    subst e1
    simp only [okI] at hok
    unfold gfS at hs
    unfold okF at hok
    split at hs
    · next ci k tl hq =>
      rw [hq] at hok
      split at hok
      · next ci' k' md j tl' hq' =>
        cases hq'
        split at hs
        · split at hs
          · next v hv =>
            cases hs
            refine ⟨rfl, ?_⟩
            split at hok
            · next C T N hcl =>
              simp only [Bool.and_eq_true, decide_eq_true_eq] at hok
              obtain ⟨hk, hw⟩ := hok
              refine w_get (host := hostM M) hx hb hts hK hR (clT_ok hcl) hk hown ?_ hv hdg (kk H locs cells slots hR hS hz0 hz1)
              split at hw
              · exact Or.inl (hts _ (wat_in hw))
              · exact Or.inr (va_Nw.use rfl (hNW _ (nwat_in hw)))
            · cases hok
          · cases hs
        · cases hs
      · cases hok
    · cases hs
  · -- putfield
    have e1 : len = 3 := hl rfl
    subst e1
    simp only [okI] at hok
    unfold pfS at hs
    unfold okP at hok
    split at hs
    · next ci k tl hq =>
      rw [hq] at hok
      split at hok
      · next ci' k' md j tl' hq' =>
        cases hq'
        split at hs
        · split at hs
          · next h2 hv =>
            cases hs
            refine ⟨rfl, ?_⟩
            split at hok
            · next C T N hcl =>
              simp only [Bool.and_eq_true, decide_eq_true_eq] at hok
              obtain ⟨hk, hw⟩ := hok
              have e9 := fputh_size hv
              refine w_put (host := hostM M) hx hb hts hK hR hS (clT_ok hcl) hk hown ?_ hv hdg (fun H1 locs1 a1 a2 => kk H1 locs1 cells slots a1 a2 (by rw [e9.1]; exact hz0) (by rw [e9.2]; exact hz1))
              split at hw
              · simp only [Bool.and_eq_true, decide_eq_true_eq] at hw
                exact Or.inl ⟨hw.1, Or.inl (hts _ (wat_in hw.2))⟩
              · simp only [Bool.and_eq_true, decide_eq_true_eq] at hw
                exact Or.inl ⟨hw.1, Or.inr (va_Nw.use rfl (hNW _ (nwat_in hw.2)))⟩
              · simp only [Bool.and_eq_true, decide_eq_true_eq] at hw
                exact Or.inr ⟨hw.1, hnm.trans hw.2.1, hw.2.2.1, hts _ (wat_in hw.2.2.2)⟩
            · cases hok
          · cases hs
        · cases hs
      · cases hok
    · cases hs
  · -- iaload
    have e1 : len = 1 := hl rfl
    subst e1
    unfold ialS at hs
    split at hs
    · split at hs
      · next x hv =>
        cases hs
        exact ⟨rfl, w_iald hx hb hR (hAr 0 srt_0).1 hv hdg (kk H locs cells slots hR hS hz0 hz1)⟩
      · cases hs
    · cases hs
  · -- baload
    have e1 : len = 1 := hl rfl
    subst e1
    unfold ialS at hs
    split at hs
    · split at hs
      · next x hv =>
        cases hs
        exact ⟨rfl, w_zald hx hb hR (hAr 1 srt_1).1 hv hdg (kk H locs cells slots hR hS hz0 hz1)⟩
      · cases hs
    · cases hs
  · -- iastore
    have e1 : len = 1 := hl rfl
    subst e1
    unfold iasS at hs
    split at hs
    · split at hs
      · cases hs
      · split at hs
        · next h2 hv =>
          cases hs
          have e9 := aputi_size hv
          exact ⟨rfl, w_iast hx hb hR hS (hAr 0 srt_0).1 hv hdg (fun H1 locs1 a1 a2 => kk H1 locs1 cells slots a1 a2 (by rw [e9.1]; exact hz0) (by rw [e9.2]; exact hz1))⟩
        · cases hs
    · cases hs
  · -- bastore
    have e1 : len = 1 := hl rfl
    subst e1
    unfold iasS at hs
    split at hs
    · split at hs
      · cases hs
      · next hnr =>
        split at hs
        · next h2 hv =>
          cases hs
          have e9 := aputi_size hv
          exact ⟨rfl, w_zast hx hb hR hS (hAr 1 srt_1).1 (congrArg Value.int (Classical.byContradiction fun q => hnr ⟨rfl, q⟩)) hv hdg (fun H1 locs1 a1 a2 => kk H1 locs1 cells slots a1 a2 (by rw [e9.1]; exact hz0) (by rw [e9.2]; exact hz1))⟩
        · cases hs
    · cases hs
  · -- aaload
    have e1 : len = 1 := hl rfl
    subst e1
    unfold aalS at hs
    split at hs
    · split at hs
      · next x hv =>
        cases hs
        exact ⟨rfl, w_aald hx hb hR (fun t ht h10 => srt_ref (hAr t ht).1 ht h10) hv hdg (kk H locs cells slots hR hS hz0 hz1)⟩
      · cases hs
    · cases hs
  · -- aastore
    have e1 : len = 1 := hl rfl
    subst e1
    unfold aasS at hs
    split at hs
    · split at hs
      · next h2 hv =>
        cases hs
        have e9 := aputr_size hv
        exact ⟨rfl, w_aast hx hb hK hR hS (fun t r ht h10 hr => srt_RA (hAr t ht).2 ht h10 hr) hv hdg (fun H1 locs1 a1 a2 => kk H1 locs1 cells slots a1 a2 (by rw [e9.1]; exact hz0) (by rw [e9.2]; exact hz1))⟩
      · cases hs
    · cases hs
  · -- arraylength
    have e1 : len = 1 := hl rfl
    subst e1
    unfold alnS at hs
    split at hs
    · split at hs
      · next x hv =>
        cases hs
        exact ⟨rfl, w_alen hx hb hR (fun t ht => ⟨_, (hAr t ht).1⟩) hv hdg (kk H locs cells slots hR hS hz0 hz1)⟩
      · cases hs
    · cases hs
  · -- newarray
    next ty =>
    have e1 : len = 2 := hl rfl
    subst e1
    simp only [okI] at hok
    unfold nwaS at hs
    split at hs
    · split at hs
      · next n r hc =>
        cases hs
        refine ⟨rfl, ?_⟩
        split at hok
        · next j tl hq =>
          simp only [Bool.and_eq_true, decide_eq_true_eq] at hok
          obtain ⟨hw, hsl, hty, hcs⟩ := hok
          have hA := (hAr _ hsl).2
          rw [hty] at hA
          have hr0' : h.1 + 1 ≤ R.cells + z0 := hr0
          have hr1' : h.2.1 + n.toNatClampNeg ≤ R.slots + z1 := hr1
          refine w_newa hx hb hR hS (a0 := azero ty) (t := atag ty) (hts _ (wat_in hw)) hsl ?_ ?_ hc.1 rfl ?_ (by omega) (by omega) hdg (fun H1 a1 a2 => kk H1 locs (cells + 1) _ a1 a2 (by show cells + 1 + z0 = h.1 + 1; omega) (by show slots + n.toNatClampNeg + z1 = h.2.1 + n.toNatClampNeg; omega))
          · rcases hcs with rfl | rfl <;> exact hA
          · intro cA
            rcases hcs with rfl | rfl <;> rfl
          · have := hc.2.2
            rcases hcs with rfl | rfl <;> simp [newarray.typeOf, componentBytes] <;> omega
        · cases hok
      · cases hs
    · cases hs
  · -- anewarray
    have e1 : len = 3 := hl rfl
    subst e1
    simp only [okI] at hok
    unfold nwqS at hs
    unfold okQ at hok
    split at hs
    · next ci tl hq =>
      rw [hq] at hok
      split at hok
      · next ci' j1 tl' hq' =>
        cases hq'
        split at hs
        · split at hs
          · next n r hc =>
            cases hs
            refine ⟨rfl, ?_⟩
            split at hok
            · next C T N hcl =>
              simp only [Bool.and_eq_true, decide_eq_true_eq] at hok
              obtain ⟨hw, hsl, hty, hao⟩ := hok
              have hA := (hAr _ hsl).2
              rw [hty] at hA
              obtain ⟨kA, comp, k1, k2, k3, k4⟩ := hA
              have hr0' : h.1 + 1 ≤ R.cells + z0 := hr0
              have hr1' : h.2.1 + n.toNatClampNeg ≤ R.slots + z1 := hr1
              exact w_newq hx hb hR hS hown (hts _ (wat_in hw)) (hAO _ hao) hsl k4 hc.1 rfl (by omega) (by omega) (by omega) hdg (fun H1 a1 a2 => kk H1 locs (cells + 1) _ a1 a2 (by show cells + 1 + z0 = h.1 + 1; omega) (by show slots + n.toNatClampNeg + z1 = h.2.1 + n.toNatClampNeg; omega))
            · cases hok
          · cases hs
        · cases hs
      · cases hok
    · cases hs
  · -- new
    have e1 : len = 3 := hl rfl
    subst e1
    simp only [okI] at hok
    unfold nwS at hs
    unfold okN at hok
    split at hs
    · next ci tl hq =>
      rw [hq] at hok
      split at hok
      · next ci' j1 j2 j3 tl' hq' =>
        cases hq'
        cases hs
        refine ⟨rfl, ?_⟩
        split at hok
        · next C T N hcl =>
          simp only [Bool.and_eq_true, decide_eq_true_eq] at hok
          obtain ⟨rfl, w1, w2, w3⟩ := hok
          have hr0' : h.1 + 1 ≤ R.cells + z0 := hr0
          have hr1' : h.2.1 + nF ci ≤ R.slots + z1 := hr1
          exact w_new hx hb hts hK hR hS (clT_ok hcl) hown (hts _ (wat_in w1)) (hts _ (wat_in w2)) (hts _ (wat_in w3)) (by omega) (by omega) hdg (fun H1 a1 a2 => kk H1 locs (cells + 1) _ a1 a2 (by show cells + 1 + z0 = h.1 + 1; omega) (by show slots + nF ci + z1 = h.2.1 + nF ci; omega))
        · cases hok
      · cases hok
    · cases hs
  · unfold invS at hs
    split at hs
    · split at hs <;> cases hs
    · cases hs
  · unfold invS at hs
    split at hs
    · split at hs <;> cases hs
    · cases hs
  · unfold invS at hs
    split at hs
    · split at hs <;> cases hs
    · cases hs
  · unfold iretS at hs
    split at hs
    · split at hs <;> cases hs
    · cases hs
  · unfold lretS at hs
    split at hs
    · split at hs <;> cases hs
    · cases hs
  · unfold aretS at hs
    split at hs
    · split at hs <;> cases hs
    · cases hs
  · unfold vretS at hs
    split at hs
    · split at hs <;> cases hs
    · cases hs
  · cases hs
/-! entry -/
theorem entL_len : ∀ as : List Value, (entL as).length = cats as
  | [] => rfl
  | v :: vs => by
    have ih := entL_len vs
    unfold cats at ih ⊢
    rcases lv_cat v with hv | hv <;> simp [entL, hv, ih] <;> omega
theorem lis1_cons (b B : Nat) (x : Option Value) (L : ML) (i : Nat) : lis1 b B (x :: L) (i + 1) = (lis1 b B L i).map (fun q => (q.1 + 1, q.2)) := by
  unfold lis1
  simp only [List.getElem?_cons_succ]
  generalize L[i]? = y
  rcases y with _ | _ | v
  · rfl
  · rfl
  · cases v <;> first | rfl | (by_cases hz : L[i + 1]? = some mSec <;> simp [hz])
theorem lis1_ent (b B r : Nat) : ∀ (as : List Value) (k i : Nat) (w : Value), lis1 b B (entL as ++ List.replicate r none) i = some (i, w) → (k + i, w) ∈ lv_args k (as.map (up b B)) := by
  intro as
  induction as with
  | nil =>
    intro k i w h
    exfalso
    unfold lis1 at h
    simp only [entL, List.nil_append, List.getElem?_replicate] at h
    by_cases hi : i < r
    · rw [if_pos hi] at h; cases h
    · rw [if_neg hi] at h; cases h
  | cons v vs ih =>
    intro k i w h
    rcases lv_cat v with hv | hv
    · have e1 : entL (v :: vs) = some v :: entL vs := by simp [entL, hv]
      rw [e1, List.cons_append] at h
      have e2 : lv_args k ((v :: vs).map (up b B)) = (k, up b B v) :: lv_args (k + 1) (vs.map (up b B)) := by simp [lv_args, up_cat, hv]
      rw [e2]
      cases i with
      | zero =>
        unfold lis1 at h
        simp only [List.getElem?_cons_zero] at h
        cases v <;> simp [Value.category] at hv h
        · rw [← h]; exact List.mem_cons_self
        · rw [← h]; exact List.mem_cons_self
      | succ j =>
        rw [lis1_cons] at h
        cases hj : lis1 b B (entL vs ++ List.replicate r none) j with
        | none => rw [hj] at h; cases h
        | some q =>
          have hq := lis1_fst hj
          rw [hj] at h
          obtain ⟨q1, q2⟩ := q
          cases hq
          simp at h
          subst h
          have := ih (k + 1) _ _ hj
          rw [show k + (q1 + 1) = k + 1 + q1 by omega]
          exact List.mem_cons_of_mem _ this
    · have e1 : entL (v :: vs) = some v :: mSec :: entL vs := by simp [entL, hv]
      rw [e1, List.cons_append, List.cons_append] at h
      have e2 : lv_args k ((v :: vs).map (up b B)) = (k, up b B v) :: lv_args (k + 2) (vs.map (up b B)) := by simp [lv_args, up_cat, hv]
      rw [e2]
      match i, h with
      | 0, h =>
        unfold lis1 at h
        simp only [List.getElem?_cons_zero, List.getElem?_cons_succ] at h
        cases v <;> simp [Value.category] at hv h
        rw [← h]; exact List.mem_cons_self
      | 1, h =>
        rw [lis1_cons] at h
        unfold lis1 at h
        simp only [List.getElem?_cons_zero] at h
        cases h
      | j + 2, h =>
        rw [lis1_cons, lis1_cons] at h
        cases hj : lis1 b B (entL vs ++ List.replicate r none) j with
        | none => rw [hj] at h; cases h
        | some q =>
          have hq := lis1_fst hj
          rw [hj] at h
          obtain ⟨q1, q2⟩ := q
          cases hq
          simp at h
          subst h
          have := ih (k + 2) _ _ hj
          rw [show k + (q1 + 2) = k + 2 + q1 by omega]
          exact List.mem_cons_of_mem _ this
theorem RL_ent {b B n : Nat} {as : List Value} {ls : Array Slot} (hn : cats as ≤ n) (h : lv_has ls n (lv_args 0 (as.map (up b B)))) : RL b B (ent n as) ls := by
  have hlen : n = (ent n as).length := by
    unfold ent
    rw [List.length_append, List.length_replicate, entL_len]
    omega
  refine RL.sub h hlen (fun q hq => ?_)
  obtain ⟨i, hi, h1⟩ := lis_mem.mp hq
  have hf := lis1_fst h1
  obtain ⟨q1, q2⟩ := q
  cases hf
  have := lis1_ent b B _ as 0 _ _ h1
  rw [Nat.zero_add] at this
  exact this
theorem ent_len {n : Nat} {as : List Value} (hn : cats as ≤ n) : (ent n as).length = n := by
  unfold ent
  rw [List.length_append, List.length_replicate, entL_len]
  omega
theorem lg_sl_len (b B : Nat) : ∀ as : List Value, (lg_sl (as.map (up b B))).length = cats as
  | [] => rfl
  | v :: vs => by
    have ih := lg_sl_len b B vs
    unfold lg_sl cats at ih ⊢
    rcases lv_cat v with hv | hv <;> simp [up_cat, hv, ih] <;> omega
/-! what a step keeps -/
theorem stpP_keep {i : Instr} {pc : Nat} {lo : ML} {st : List Value} {h : MH} {r : SR} (hs : stpP i pc lo st h = some r) : ∃ (pc' : Nat) (lo' : ML) (st' : List Value), r = .inl ((pc', lo', st'), h) ∧ lo'.length = lo.length := by
  unfold stpP at hs
  split at hs <;> try simp only [nx, jm, ldI, ldJ, ldA, stI, stJ, stA, inc, ar1, ar2, al2, als, br1, br2, swL, swT, du1, dux1, dux2, du2, po1, i2lS, l2iS, lcmpS, dvS] at hs
  all_goals (repeat' split at hs)
  all_goals first
    | (cases hs; done)
    | (cases hs; exact ⟨_, _, _, rfl, by simp⟩)
theorem stpH_keep {M : Nat} {i : Instr} {pc : Nat} {lo : ML} {st : List Value} {h h' : MH} {f : MF} (hs : stpH M i pc lo st h = some (.inl (f, h'))) : f.2.1 = lo ∧ h.1 ≤ h'.1 ∧ h.2.1 ≤ h'.2.1 := by
  unfold stpH at hs
  split at hs
  · cases hs; exact ⟨rfl, Nat.le_refl _, Nat.le_refl _⟩
  · cases hs; exact ⟨rfl, Nat.le_refl _, Nat.le_refl _⟩
  · cases hs; exact ⟨rfl, Nat.le_refl _, Nat.le_refl _⟩
  · unfold gfS at hs
    repeat' split at hs
    all_goals first
      | (cases hs; done)
      | (cases hs; exact ⟨rfl, Nat.le_refl _, Nat.le_refl _⟩)
  · unfold pfS at hs
    split at hs
    · split at hs
      · split at hs
        · next hv => cases hs; have := fputh_size hv; exact ⟨rfl, by omega, by omega⟩
        · cases hs
      · cases hs
    · cases hs
  · unfold ialS at hs
    repeat' split at hs
    all_goals first
      | (cases hs; done)
      | (cases hs; exact ⟨rfl, Nat.le_refl _, Nat.le_refl _⟩)
  · unfold ialS at hs
    repeat' split at hs
    all_goals first
      | (cases hs; done)
      | (cases hs; exact ⟨rfl, Nat.le_refl _, Nat.le_refl _⟩)
  · unfold iasS at hs
    split at hs
    · split at hs
      · cases hs
      · split at hs
        · next hv => cases hs; have := aputi_size hv; exact ⟨rfl, by omega, by omega⟩
        · cases hs
    · cases hs
  · unfold iasS at hs
    split at hs
    · split at hs
      · cases hs
      · split at hs
        · next hv => cases hs; have := aputi_size hv; exact ⟨rfl, by omega, by omega⟩
        · cases hs
    · cases hs
  · unfold aalS at hs
    repeat' split at hs
    all_goals first
      | (cases hs; done)
      | (cases hs; exact ⟨rfl, Nat.le_refl _, Nat.le_refl _⟩)
  · unfold aasS at hs
    split at hs
    · split at hs
      · next hv => cases hs; have := aputr_size hv; exact ⟨rfl, by omega, by omega⟩
      · cases hs
    · cases hs
  · unfold alnS at hs
    repeat' split at hs
    all_goals first
      | (cases hs; done)
      | (cases hs; exact ⟨rfl, Nat.le_refl _, Nat.le_refl _⟩)
  · unfold nwaS at hs
    split at hs
    · split at hs
      · cases hs; exact ⟨rfl, Nat.le_add_right _ _, Nat.le_add_right _ _⟩
      · cases hs
    · cases hs
  · unfold nwqS at hs
    split at hs
    · split at hs
      · split at hs
        · cases hs; exact ⟨rfl, Nat.le_add_right _ _, Nat.le_add_right _ _⟩
        · cases hs
      · cases hs
    · cases hs
  · unfold nwS at hs
    split at hs
    · cases hs; exact ⟨rfl, Nat.le_add_right _ _, Nat.le_add_right _ _⟩
    · cases hs
  · unfold invS at hs
    split at hs
    · split at hs <;> cases hs
    · cases hs
  · unfold invS at hs
    split at hs
    · split at hs <;> cases hs
    · cases hs
  · unfold invS at hs
    split at hs
    · split at hs <;> cases hs
    · cases hs
  · unfold iretS at hs
    split at hs
    · split at hs <;> cases hs
    · cases hs
  · unfold lretS at hs
    split at hs
    · split at hs <;> cases hs
    · cases hs
  · unfold aretS at hs
    split at hs
    · split at hs <;> cases hs
    · cases hs
  · unfold vretS at hs
    split at hs
    · split at hs <;> cases hs
    · cases hs
  · cases hs
theorem stp_ins {M pc : Nat} {lo : ML} {st : List Value} {h : MH} {r : SR} (hs : stp M pc lo st h = some r) : ∃ i, insM M pc = some i ∧ (stpP i pc lo st h = some r ∨ stpH M i pc lo st h = some r) := by
  unfold stp at hs
  split at hs
  · cases hs
  · next i hi =>
    refine ⟨i, hi, ?_⟩
    split at hs
    · next r' hr => cases hs; exact Or.inl hr
    · exact Or.inr hs
theorem stp_size {M pc : Nat} {lo : ML} {st : List Value} {h h' : MH} {f : MF} (hs : stp M pc lo st h = some (.inl (f, h'))) : f.2.1.length = lo.length ∧ h.1 ≤ h'.1 ∧ h.2.1 ≤ h'.2.1 := by
  obtain ⟨i, -, h1 | h1⟩ := stp_ins hs
  · obtain ⟨pc', lo', st', e1, e2⟩ := stpP_keep h1
    cases e1
    exact ⟨e2, Nat.le_refl _, Nat.le_refl _⟩
  · obtain ⟨e1, e2⟩ := stpH_keep h1
    exact ⟨by rw [e1], e2⟩
theorem ex_size : ∀ (n d M pc : Nat) (lo : ML) (st : List Value) (h : MH) (v : Option Value) (h' : MH), ex n d M pc lo st h = some (v, h') → h.1 ≤ h'.1 ∧ h.2.1 ≤ h'.2.1 := by
  intro n
  induction n with
  | zero => intro d M pc lo st h v h' hR; cases hR
  | succ n ih =>
    intro d M pc lo st h v h' hR
    cases hs : stp M pc lo st h with
    | none => simp only [ex, hs] at hR; cases hR
    | some r =>
      obtain ⟨f, h1⟩ | ⟨M', as, f⟩ | v1 := r
      · rw [ex_next hs] at hR
        have a := (stp_size hs).2
        have b := ih _ _ _ _ _ _ _ _ hR
        exact ⟨Nat.le_trans a.1 b.1, Nat.le_trans a.2 b.2⟩
      · cases hb : bi M' as h with
        | some V =>
          by_cases hd : d < 6
          · exfalso
            simp only [ex, hs, hb, if_pos hd] at hR
            cases hR
          · obtain ⟨d, rfl⟩ : ∃ k, d = k + 6 := ⟨d - 6, by omega⟩
            rw [ex_bi hs hb] at hR
            have a := bi_size hb
            have b := ih _ _ _ _ _ _ _ _ hR
            exact ⟨Nat.le_trans a.1 b.1, Nat.le_trans a.2 b.2⟩
        | none =>
          cases d with
          | zero =>
            exfalso
            simp only [ex, hs, hb] at hR
            cases hR
          | succ d =>
            rw [ex_call hs hb] at hR
            cases h1 : ex n d M' 0 (ent (mx M') as) [] h with
            | none => rw [h1] at hR; cases hR
            | some R1 =>
              rw [h1] at hR
              have a := ih _ _ _ _ _ _ R1.1 R1.2 h1
              have b := ih _ _ _ _ _ _ _ _ (show ex n (d + 1) M f.1 f.2.1 (R1.1.toList ++ f.2.2) R1.2 = some (v, h') from hR)
              exact ⟨Nat.le_trans a.1 b.1, Nat.le_trans a.2 b.2⟩
      · rw [ex_ret hs] at hR
        cases hR
        exact ⟨Nat.le_refl _, Nat.le_refl _⟩
theorem w_ret {M pc : Nat} {lo : ML} {ls : Array Slot} {st : List Value} {h : MH} {v : Option Value} {Qc : Array Value → State → Outcome → State → Prop} {free : Addr → Prop} (C : mCt B dC dI dA p s m args meth c M) (hlocks : meth.locks = false) (hrt : meth.sig.returnType = rtM M) (hs : stp M pc lo st h = some (.inr (.inr v)))
    (hq : ∀ t : State, t.heap = H → s.WarmedH t.vm → Qc args s (.returned (v.map (up b B))) t) (hf : ∀ q ∈ locs, free q.base) : W p l e R s m args below meth c H locs cells slots (MQ below Qc args s cells slots free) (F0 m pc ls (st.map (up b B))) := by
  obtain ⟨hx, hb, -⟩ := C
  obtain ⟨i, hi, h1 | h1⟩ := stp_ins hs
  · obtain ⟨_, _, _, e1, -⟩ := stpP_keep h1
    cases e1
  · obtain ⟨len, hdg, hl⟩ := ins_dec hi
    unfold stpH at h1
    split at h1
    · cases h1
    · cases h1
    · cases h1
    · unfold gfS at h1
      repeat' split at h1
      all_goals cases h1
    · unfold pfS at h1
      repeat' split at h1
      all_goals cases h1
    · unfold ialS at h1
      repeat' split at h1
      all_goals cases h1
    · unfold ialS at h1
      repeat' split at h1
      all_goals cases h1
    · unfold iasS at h1
      repeat' split at h1
      all_goals cases h1
    · unfold iasS at h1
      repeat' split at h1
      all_goals cases h1
    · unfold aalS at h1
      repeat' split at h1
      all_goals cases h1
    · unfold aasS at h1
      repeat' split at h1
      all_goals cases h1
    · unfold alnS at h1
      repeat' split at h1
      all_goals cases h1
    · unfold nwaS at h1
      repeat' split at h1
      all_goals cases h1
    · unfold nwqS at h1
      repeat' split at h1
      all_goals cases h1
    · unfold nwS at h1
      repeat' split at h1
      all_goals cases h1
    · unfold invS at h1
      repeat' split at h1
      all_goals cases h1
    · unfold invS at h1
      repeat' split at h1
      all_goals cases h1
    · unfold invS at h1
      repeat' split at h1
      all_goals cases h1
    · have e1 : len = 1 := hl rfl
      subst e1
      unfold iretS at h1
      split at h1
      · next x =>
        split at h1
        · next hc =>
          cases h1
          rcases hc with hc | ⟨hc, hn⟩
          · exact W.iret hx hb (hrt.trans hc) hq hf hdg
          · exact W.zret (ty := .boolean) hx hb (hrt.trans hc) (congrArg Value.int hn) hq hf hdg
        · cases h1
      · cases h1
    · have e1 : len = 1 := hl rfl
      subst e1
      unfold lretS at h1
      split at h1
      · split at h1
        · next hc =>
          cases h1
          exact W.lret hx hb (hrt.trans hc) hq hf hdg
        · cases h1
      · cases h1
    · have e1 : len = 1 := hl rfl
      subst e1
      unfold aretS at h1
      split at h1
      · split at h1
        · next hc =>
          cases h1
          cases hr2 : rtM M with
          | none => rw [hr2] at hc; cases hc
          | some ty =>
            rw [hr2] at hc
            exact W.aret (rt := ty) hx hb (hrt.trans hr2) (by cases ty <;> first | (exact Or.inl ⟨_, rfl⟩) | (exact Or.inr ⟨_, rfl⟩) | (cases hc)) (Or.inr ⟨_, rfl⟩) hq hf hdg
        · cases h1
      · cases h1
    · have e1 : len = 1 := hl rfl
      subst e1
      unfold vretS at h1
      split at h1
      · split at h1
        · next hc =>
          cases h1
          exact W.vret hx hb (hrt.trans hc) hq hf hdg
        · cases h1
      · cases h1
    · cases h1
/-- the words of a method -/
def wsM (M : Nat) : List Cond := Cond.code (nmM M) (cod M) (mx M) (rtM M) :: TB
theorem good_wsM {M : Nat} (hM : M < nM) : GoodIn TB (wsM M) := by
  intro w hw
  have hw2 : w ∈ TB := by
    rcases List.mem_cons.mp hw with rfl | hw
    · exact code_in hM
    · exact hw
  exact ⟨hw2, TB_good w hw2⟩
abbrev PcM (b B : Nat) (dC : Nat → ClassId) (dI : Nat → Nat → Nat) (dA : Nat → ClassId) (as : List Value) (h : MH) : Array Value → State → Prop := va_Pc (as.map (up b B)) (fun U => RHm b B dC dI dA U h U.heap ∧ mK dC dI dA U ∧ strK B U)
theorem mK.same {u U : State} (hv : u.vm = U.vm) (h : mK dC dI dA u) : mK dC dI dA U := by
  obtain ⟨h1, h2, h3, h4⟩ := h
  have ha : u.vm.Alike U.vm := hv ▸ Vm.Alike.refl u.vm
  exact ⟨h1.moved ha, fun t ht => ⟨arrOfT_moved ha (h2 t ht).1, (h2 t ht).2.moved ha⟩, fun w hw => va_Nw.same (NW_tab hw) hv (h3 w hw), fun C hC => (h4 C hC).moved ha⟩
theorem PcM_blind (as : List Value) (h : MH) : FrameBlind (PcM b B dC dI dA as h) := by
  intro a U g mk q
  obtain ⟨q0, q1, q2, q3⟩ := q
  exact ⟨q0, RH.moved (s := U) (U := U.calling g mk a) (Vm.Alike.refl U.vm) q1, mK.same (u := U) (U := U.calling g mk a) rfl q2, strK.same (u := U) (U := U.calling g mk a) rfl rfl q3⟩
theorem invS_inv {q : List Nat} {pc M' : Nat} {lo : ML} {st as : List Value} {h : MH} {f : MF} (hs : invS q pc lo st h = some (.inr (.inl (M', as, f)))) : ∃ (kind n ci : Nat) (tl : List Nat), q = kind :: M' :: n :: ci :: tl ∧ n ≤ st.length ∧ cats (st.drop n) ≤ 8 ∧ cats as ≤ mx M' ∧ rcv kind ci as h = true ∧ as = (st.take n).reverse ∧ f = (pc + 3, lo, st.drop n) := by
  unfold invS at hs
  split at hs
  · next kind M2 n ci tl =>
    split at hs
    · next hc =>
      cases hs
      exact ⟨kind, n, ci, tl, rfl, hc.1, hc.2.1, hc.2.2.1, hc.2.2.2, rfl, rfl⟩
    · cases hs
  · cases hs
/-- a call of a method of the tables -/
theorem w_inv {M M' pc mc ms : Nat} {i : Instr} {lo : ML} {ls : Array Slot} {st as : List Value} {h h1 : MH} {f : MF} {v : Option Value} {rm : Room} (C : mCt B dC dI dA p s m args meth c M) (hR : RHm b B dC dI dA s h H) (hS : va_S (fun q => B ≤ q) s.heap H locs) (hd : dec (cod M) pc i) (hok : okI M pc i = true) (hs : stpH M i pc lo st h = some (.inr (.inl (M', as, f)))) (hls : ls.size = mx M) (hM' : M' < nM)
    (hM : Met l (nmM M') (wsM M') rm (PcM b B dC dI dA as h) (mQ b B dC dI dA v h1) mc ms (fun q => B ≤ q)) (hrc : rm.cells = mc) (hrs : rm.slots = ms) (hrf : rm.frames + 1 ≤ R.frames) (hrl : 8 + (mx M' + 11) + rm.locals ≤ R.locals) (hroom : cells + mc ≤ R.cells ∧ slots + ms ≤ R.slots)
    (kk : ∀ (H1 : Heap) (locs1 : List Loc), RHm b B dC dI dA s h1 H1 → va_S (fun q => B ≤ q) s.heap H1 locs1 → W p l e R s m args below meth c H1 locs1 (cells + mc) (slots + ms) Q (F0 m f.1 ls ((v.toList ++ f.2.2).map (up b B)))) :
    f.2.1 = lo ∧ W p l e R s m args below meth c H locs cells slots Q (F0 m pc ls (st.map (up b B))) := by
  obtain ⟨hx, hb, hml, hown, hts, hnm, hK, hStr⟩ := C
  obtain ⟨len, hdg, hl⟩ := hd
  have hP : ∀ U : State, U.heap = H → s.WarmedH U.vm → PcM b B dC dI dA as h (as.map (up b B)).toArray U := fun U hU hW => ⟨rfl, by rw [hU]; exact RH.moved hW.alike hR, hK.moved hW, hStr.moved hW (fun a h1 h2 => by rw [hU]; exact hS.2.1 a h1 h2)⟩
  have hkk : ∀ {pc3 : Nat} {rest : List Value}, f = (pc3, lo, rest) → ∀ (H1 : Heap) (locs1 : List Loc), RHm b B dC dI dA s h1 H1 → va_S (fun q => B ≤ q) s.heap H1 locs1 → W p l e R s m args below meth c H1 locs1 (cells + mc) (slots + ms) Q (F0 m pc3 ls ((v.map (up b B)).toList ++ rest.map (up b B))) := by
    intro pc3 rest hf H1 locs1 a1 a2
    have := kk H1 locs1 a1 a2
    subst hf
    rw [List.map_append] at this
    cases v <;> exact this
  have hst : ∀ n, n ≤ st.length → as = (st.take n).reverse → st.map (up b B) = (as.map (up b B)).reverse ++ (st.drop n).map (up b B) := by
    intro n hn e1
    rw [e1, List.map_reverse, List.reverse_reverse, ← List.map_append, List.take_append_drop]
  have hal : ∀ n, n ≤ st.length → as = (st.take n).reverse → as.length = n := by
    intro n hn e1
    rw [e1, List.length_reverse, List.length_take]
    omega
  have hcat : ∀ n, cats (st.drop n) ≤ 8 → ∀ {pc : Nat} {ls : Array Slot} {rest : List Value}, 2 * (F0 m pc ls rest).monitorRoom + (((st.drop n).map (up b B)).map fun v => v.category).sum ≤ 8 := by
    intro n hn pc ls rest
    exact lv_room (by rw [up_cats]; exact hn)
  have hD : ∀ {n : Nat}, okD (nmM M') n = true → (nmM M').cls ≠ "java/lang/invoke/MethodHandle" ∧ (nmM M').cls ≠ "java/lang/invoke/VarHandle" ∧ (parseMethodDescriptor (nmM M').desc).map (fun d => d.parameters.length) = some n := by
    intro n ho
    simp only [okD, Bool.and_eq_true, decide_eq_true_eq] at ho
    exact ho
  have notB : ∀ {own : String} {idx n : Nat}, okB own idx M' n = true → False := fun ho => okB_ge ho hM'
  have hTB : ∀ {j : Nat} {w : Cond}, wat j w = true → w.before args s = true := fun hw => hts _ (wat_in hw)
  have hNB : ∀ {j idx : Nat}, nwat j (.methodLinkNest (nmM M).cls idx (nmM M') (hostM M)) = true → va_Nw (.methodLinkNest (nmM M).cls idx (nmM M') (hostM M)) s := fun hw => hK.2.2.1 _ (nwat_in hw)
  unfold stpH at hs
  split at hs
  · cases hs
  · cases hs
  · cases hs
  · unfold gfS at hs
    repeat' split at hs
    all_goals cases hs
  · unfold pfS at hs
    repeat' split at hs
    all_goals cases hs
  · unfold ialS at hs
    repeat' split at hs
    all_goals cases hs
  · unfold ialS at hs
    repeat' split at hs
    all_goals cases hs
  · unfold iasS at hs
    repeat' split at hs
    all_goals cases hs
  · unfold iasS at hs
    repeat' split at hs
    all_goals cases hs
  · unfold aalS at hs
    repeat' split at hs
    all_goals cases hs
  · unfold aasS at hs
    repeat' split at hs
    all_goals cases hs
  · unfold alnS at hs
    repeat' split at hs
    all_goals cases hs
  · unfold nwaS at hs
    repeat' split at hs
    all_goals cases hs
  · unfold nwqS at hs
    repeat' split at hs
    all_goals cases hs
  · unfold nwS at hs
    repeat' split at hs
    all_goals cases hs
  · -- invokestatic
    have e1 : len = 3 := hl rfl
    subst e1
    obtain ⟨kind, n, ci, tl, hq, hn, hc8, hcm, hrc2, has, hf⟩ := invS_inv hs
    refine ⟨by rw [hf], ?_⟩
    simp only [okI] at hok
    rw [hq] at hok
    unfold okS at hok
    split at hok
    · next kind' M2 n2 ci2 j1 j2 j3 tl2 hq2 =>
      cases hq2
      split at hok
      · simp only [Bool.and_eq_true, decide_eq_true_eq] at hok
        obtain ⟨-, hd1, w1, w2, w3⟩ := hok
        rw [hst n hn has]
        exact w_call (va_runS (As := as.map (up b B)) (rest := (st.drop n).map (up b B)) ⟨hx, hb, hml, hown, hts⟩ hM ⟨callB_of n hts (good_wsM hM') rfl hrc hrs (hTB w3) (hTB w1) (hD hd1) ⟨hrf, hrl⟩, hTB w2⟩ ⟨PcM_blind as h, hP⟩ rfl (by rw [List.length_map]; exact hal n hn has) hls rfl (hcat n hc8) hdg hroom) hS (hkk hf)
      · simp only [Bool.and_eq_true, decide_eq_true_eq] at hok
        obtain ⟨-, hd1, w1, w2, w3⟩ := hok
        rw [hst n hn has]
        exact w_call (va_runSN (As := as.map (up b B)) (rest := (st.drop n).map (up b B)) ⟨hx, hb, hml, hown, hts⟩ hM ⟨va_cnB n hts (good_wsM hM') rfl hrc hrs (hNB w1) (hTB w3) (hD hd1) ⟨hrf, hrl⟩, hTB w2, trivial⟩ ⟨PcM_blind as h, hP⟩ rfl (by rw [List.length_map]; exact hal n hn has) hls rfl (hcat n hc8) hdg hroom) hS (hkk hf)
      · simp only [Bool.and_eq_true] at hok
        exact (notB hok.2).elim
      · cases hok
    · cases hok
  · -- invokevirtual
    have e1 : len = 3 := hl rfl
    subst e1
    obtain ⟨kind, n, ci, tl, hq, hn, hc8, hcm, hrc2, has, hf⟩ := invS_inv hs
    refine ⟨by rw [hf], ?_⟩
    simp only [okI] at hok
    rw [hq] at hok
    unfold okV at hok
    split at hok
    · next kind' M2 n2 ci2 j1 j2 j3 j4 tl2 hq2 =>
      cases hq2
      simp only [Bool.and_eq_true, decide_eq_true_eq] at hok
      obtain ⟨-, hcl, hn0, hd1, w2, w3, w4, w1⟩ := hok
      split at hcl
      · next C T N hcl2 =>
        have hcl3 : (nmM M').cls = C := of_decide_eq_true hcl
        subst hcl3
        have hal2 := hal n hn has
        have hrcv : ∃ (a : Nat) (As : List Value), as = .ref a :: As ∧ clsOf h a = some ci := by
          unfold rcv at hrc2
          split at hrc2
          · exact absurd w1 (by simp)
          · exact absurd w1 (by simp)
          · exact absurd w1 (by simp)
          · split at hrc2
            · next a As => exact ⟨a, As, rfl, of_decide_eq_true hrc2⟩
            · cases hrc2
          · split at hrc2
            · next a As => exact ⟨a, As, rfl, of_decide_eq_true hrc2⟩
            · cases hrc2
          · exact absurd w1 (by simp)
          · exact absurd w1 (by simp)
          · cases hrc2
        obtain ⟨a, As, hasE, hcls⟩ := hrcv
        have hrecv : ∃ cellB : Cell, H[ad b B a]? = some cellB ∧ cellB.vm.isStatics = false ∧ s.vm.findClass (nmM M').cls = some cellB.cls := by
          unfold clsOf at hcls
          split at hcls
          · next c0 fs hc0 =>
            cases hcls
            obtain ⟨q, rfl, hat⟩ := hR.nz hc0
            exact va_recv hK.1 (va_P.one hat) hcl2 (q0 := 0) rfl
          · cases hcls
        have hP2 : ∀ U : State, U.heap = H → s.WarmedH U.vm → PcM b B dC dI dA as h (Value.ref (ad b B a) :: As.map (up b B)).toArray U := by
          have e2 : as.map (up b B) = Value.ref (ad b B a) :: As.map (up b B) := by rw [hasE]; rfl
          intro U hU hW
          have := hP U hU hW
          rw [e2] at this
          exact this
        have hst2 : st.map (up b B) = (As.map (up b B)).reverse ++ .ref (ad b B a) :: (st.drop n).map (up b B) := by
          rw [hst n hn has, hasE]
          simp [up]
        have hnA : (As.map (up b B)).length = n - 1 := by
          rw [hasE] at hal2
          rw [List.length_map]
          simp at hal2
          omega
        have hkk2 := hkk hf
        rw [hst2]
        split at w1
        · have hr := va_runV (b := ad b B a) (C := (nmM M').cls) (As := As.map (up b B)) (rest := (st.drop n).map (up b B)) (g := F0 m pc ls ((As.map (up b B)).reverse ++ .ref (ad b B a) :: (st.drop n).map (up b B))) (locs := locs) (cells := cells) (slots := slots) (below := below) (meth := meth) (e := e) ⟨hx, hb, hml, hown, hts⟩ hM ⟨callB_of (n - 1) hts (good_wsM hM') rfl hrc hrs (hTB w4) (hTB w1) (hD hd1) ⟨hrf, hrl⟩, hTB w2, hTB w3⟩ ⟨PcM_blind as h, hrecv, hP2⟩ rfl hnA hls rfl (hcat n hc8) hdg hroom
          exact w_call hr hS hkk2
        · have hr := va_runVN (b := ad b B a) (C := (nmM M').cls) (As := As.map (up b B)) (rest := (st.drop n).map (up b B)) (g := F0 m pc ls ((As.map (up b B)).reverse ++ .ref (ad b B a) :: (st.drop n).map (up b B))) (locs := locs) (cells := cells) (slots := slots) (below := below) (meth := meth) (e := e) ⟨hx, hb, hml, hown, hts⟩ hM ⟨va_cnB (n - 1) hts (good_wsM hM') rfl hrc hrs (hNB w1) (hTB w4) (hD hd1) ⟨hrf, hrl⟩, hTB w2, hTB w3⟩ ⟨PcM_blind as h, hrecv, hP2⟩ rfl hnA hls rfl (hcat n hc8) hdg hroom
          exact w_call hr hS hkk2
        · cases w1
      · cases hcl
    · cases hok
  · -- invokespecial
    have e1 : len = 3 := hl rfl
    subst e1
    obtain ⟨kind, n, ci, tl, hq, hn, hc8, hcm, hrc2, has, hf⟩ := invS_inv hs
    refine ⟨by rw [hf], ?_⟩
    simp only [okI] at hok
    rw [hq] at hok
    unfold okC at hok
    split at hok
    · next kind' M2 n2 ci2 j1 j2 j3 tl2 hq2 =>
      cases hq2
      split at hok
      · simp only [Bool.and_eq_true] at hok
        exact (notB hok.2).elim
      · next hk6 =>
        simp only [Bool.and_eq_true, decide_eq_true_eq] at hok
        obtain ⟨-, hn0, hin, hrt0, hd1, w2, w3, w1⟩ := hok
        have hal2 := hal n hn has
        have hrcv : ∃ (a : Nat) (As : List Value), as = .ref a :: As := by
          unfold rcv at hrc2
          split at hrc2
          · exact absurd w1 (by simp)
          · exact absurd w1 (by simp)
          · exact absurd w1 (by simp)
          · exact absurd w1 (by simp)
          · exact absurd w1 (by simp)
          · split at hrc2
            · next a As => exact ⟨a, As, rfl⟩
            · cases hrc2
          · split at hrc2
            · next a As => exact ⟨a, As, rfl⟩
            · cases hrc2
          · cases hrc2
        obtain ⟨a, As, hasE⟩ := hrcv
        have hP2 : ∀ U : State, U.heap = H → s.WarmedH U.vm → PcM b B dC dI dA as h (Value.ref (ad b B a) :: As.map (up b B)).toArray U := by
          have e2 : as.map (up b B) = Value.ref (ad b B a) :: As.map (up b B) := by rw [hasE]; rfl
          intro U hU hW
          have := hP U hU hW
          rw [e2] at this
          exact this
        have hst2 : st.map (up b B) = (As.map (up b B)).reverse ++ .ref (ad b B a) :: (st.drop n).map (up b B) := by
          rw [hst n hn has, hasE]
          simp [up]
        have hnA : (As.map (up b B)).length = n - 1 := by
          rw [hasE] at hal2
          rw [List.length_map]
          simp at hal2
          omega
        have hkk2 := hkk hf
        have hwsE : wsM M' = Cond.code (nmM M') (cod M') (mx M') none :: TB := by unfold wsM; rw [hrt0]
        rw [hst2]
        split at w1
        · have hr := va_runI (b := ad b B a) (As := As.map (up b B)) (rest := (st.drop n).map (up b B)) (g := F0 m pc ls ((As.map (up b B)).reverse ++ .ref (ad b B a) :: (st.drop n).map (up b B))) (locs := locs) (cells := cells) (slots := slots) (below := below) (meth := meth) (e := e) ⟨hx, hb, hml, hown, hts⟩ hM ⟨callB_of (n - 1) hts (good_wsM hM') hwsE hrc hrs (hTB w3) (hTB w1) (hD hd1) ⟨hrf, hrl⟩, hin, hTB w2⟩ ⟨PcM_blind as h, hP2⟩ rfl hnA hls rfl (hcat n hc8) hdg hroom
          exact w_call hr hS hkk2
        · have hr := va_runIN (b := ad b B a) (As := As.map (up b B)) (rest := (st.drop n).map (up b B)) (g := F0 m pc ls ((As.map (up b B)).reverse ++ .ref (ad b B a) :: (st.drop n).map (up b B))) (locs := locs) (cells := cells) (slots := slots) (below := below) (meth := meth) (e := e) ⟨hx, hb, hml, hown, hts⟩ hM ⟨va_cnB (n - 1) hts (good_wsM hM') hwsE hrc hrs (hNB w1) (hTB w3) (hD hd1) ⟨hrf, hrl⟩, hin, hTB w2⟩ ⟨PcM_blind as h, hP2⟩ rfl hnA hls rfl (hcat n hc8) hdg hroom
          exact w_call hr hS hkk2
        · cases w1
    · cases hok
  · unfold iretS at hs
    repeat' split at hs
    all_goals cases hs
  · unfold lretS at hs
    repeat' split at hs
    all_goals cases hs
  · unfold aretS at hs
    repeat' split at hs
    all_goals cases hs
  · unfold vretS at hs
    repeat' split at hs
    all_goals cases hs
  · cases hs
theorem stpH_call {M : Nat} {i : Instr} {pc M' : Nat} {lo : ML} {st as : List Value} {h : MH} {f : MF} (hs : stpH M i pc lo st h = some (.inr (.inl (M', as, f)))) : invS (rv M pc) pc lo st h = some (.inr (.inl (M', as, f))) ∧ ∃ idx, i = .invokestatic idx ∨ i = .invokevirtual idx ∨ i = .invokespecial idx := by
  unfold stpH at hs
  split at hs
  · cases hs
  · cases hs
  · cases hs
  · unfold gfS at hs
    repeat' split at hs
    all_goals cases hs
  · unfold pfS at hs
    repeat' split at hs
    all_goals cases hs
  · unfold ialS at hs
    repeat' split at hs
    all_goals cases hs
  · unfold ialS at hs
    repeat' split at hs
    all_goals cases hs
  · unfold iasS at hs
    repeat' split at hs
    all_goals cases hs
  · unfold iasS at hs
    repeat' split at hs
    all_goals cases hs
  · unfold aalS at hs
    repeat' split at hs
    all_goals cases hs
  · unfold aasS at hs
    repeat' split at hs
    all_goals cases hs
  · unfold alnS at hs
    repeat' split at hs
    all_goals cases hs
  · unfold nwaS at hs
    repeat' split at hs
    all_goals cases hs
  · unfold nwqS at hs
    repeat' split at hs
    all_goals cases hs
  · unfold nwS at hs
    repeat' split at hs
    all_goals cases hs
  · exact ⟨hs, _, Or.inl rfl⟩
  · exact ⟨hs, _, Or.inr (Or.inl rfl)⟩
  · exact ⟨hs, _, Or.inr (Or.inr rfl)⟩
  · unfold iretS at hs
    repeat' split at hs
    all_goals cases hs
  · unfold lretS at hs
    repeat' split at hs
    all_goals cases hs
  · unfold aretS at hs
    repeat' split at hs
    all_goals cases hs
  · unfold vretS at hs
    repeat' split at hs
    all_goals cases hs
  · cases hs
theorem stpH_call_lo {M : Nat} {i : Instr} {pc M' : Nat} {lo : ML} {st as : List Value} {h : MH} {f : MF} (hs : stpH M i pc lo st h = some (.inr (.inl (M', as, f)))) : f.2.1 = lo := by
  obtain ⟨_, _, _, _, -, -, -, -, -, -, e⟩ := invS_inv (stpH_call hs).1
  rw [e]
theorem stpH_call_cats {M : Nat} {i : Instr} {pc M' : Nat} {lo : ML} {st as : List Value} {h : MH} {f : MF} (hs : stpH M i pc lo st h = some (.inr (.inl (M', as, f)))) : cats as ≤ mx M' := by
  obtain ⟨_, _, _, _, -, -, -, e, -⟩ := invS_inv (stpH_call hs).1
  exact e
def yOp : MethodName := ⟨"FlowEquations", "isOperator", "(I)Z"⟩
def wsOp : List Cond := Cond.code yOp prog_1_method_21_code 2 (some .boolean) :: TB
def opQ (c : Int32) : Array Value → State → Outcome → State → Prop := fun _ st oc t => oc = .returned (some (.int (if isOpc c = true then 1 else 0))) ∧ t.heap = st.heap
def opOK (l : Launch) : Prop := ∀ (B : Nat) (c : Int32), Met l yOp wsOp { frames := 4, cells := 0, slots := 0, locals := 200 } (va_Pc [.int c] (fun U => strK B U)) (opQ c) 0 0 (fun _ => False)
theorem call_kind {M pc M' : Nat} {i : Instr} {lo : ML} {st as : List Value} {h : MH} {f : MF} (hok : okI M pc i = true) (hs : stpH M i pc lo st h = some (.inr (.inl (M', as, f)))) : M' < nM ∨ ∃ n idx, n ≤ st.length ∧ cats (st.drop n) ≤ 8 ∧ as = (st.take n).reverse ∧ f = (pc + 3, lo, st.drop n) ∧ ((i = .invokestatic idx ∧ M' ≠ 900 ∧ okB (nmM M).cls idx M' n = true) ∨ (i = .invokespecial idx ∧ M' = 900 ∧ okB (nmM M).cls idx M' n = true)) := by
  obtain ⟨hs2, idx, hi⟩ := stpH_call hs
  obtain ⟨kind, n, ci, tl, hq, hn, hc8, hcm, hrc2, has, hf⟩ := invS_inv hs2
  rcases hi with rfl | rfl | rfl
  · simp only [okI] at hok
    rw [hq] at hok
    unfold okS at hok
    split at hok
    · next hq2 =>
      cases hq2
      split at hok
      · simp only [Bool.and_eq_true, decide_eq_true_eq] at hok
        exact Or.inl hok.1
      · simp only [Bool.and_eq_true, decide_eq_true_eq] at hok
        exact Or.inl hok.1
      · simp only [Bool.and_eq_true, decide_eq_true_eq] at hok
        exact Or.inr ⟨n, idx, hn, hc8, has, hf, Or.inl ⟨rfl, hok.1, hok.2⟩⟩
      · cases hok
    · cases hok
  · simp only [okI] at hok
    rw [hq] at hok
    unfold okV at hok
    split at hok
    · next hq2 =>
      cases hq2
      simp only [Bool.and_eq_true, decide_eq_true_eq] at hok
      exact Or.inl hok.1
    · cases hok
  · simp only [okI] at hok
    rw [hq] at hok
    unfold okC at hok
    split at hok
    · next hq2 =>
      cases hq2
      split at hok
      · simp only [Bool.and_eq_true, decide_eq_true_eq] at hok
        exact Or.inr ⟨n, idx, hn, hc8, has, hf, Or.inr ⟨rfl, hok.1, hok.2⟩⟩
      · simp only [Bool.and_eq_true, decide_eq_true_eq] at hok
        exact Or.inl hok.1
    · cases hok
theorem call_lt {M pc M' : Nat} {i j : Instr} {lo : ML} {st as : List Value} {h : MH} {f : MF} (hok : okI M pc i = true) (hs : stpH M i pc lo st h = some (.inr (.inl (M', as, f)))) (hj : insM M' 0 = some j) : M' < nM := by
  rcases call_kind hok hs with h1 | ⟨n, idx, -, -, -, -, h1 | h1⟩
  · exact h1
  · have h2 := okB_ge' h1.2.2
    have h3 := ins_lt hj
    omega
  · have h2 := okB_ge' h1.2.2
    have h3 := ins_lt hj
    omega
theorem ex_ins {n d M' pc : Nat} {lo : ML} {st : List Value} {h : MH} {R : MR} (hE : ex n d M' pc lo st h = some R) : insM M' pc = some ((insM M' pc).getD .nop) := by
  cases n with
  | zero => cases hE
  | succ n =>
    cases hs : stp M' pc lo st h with
    | none => simp only [ex, hs] at hE; cases hE
    | some r =>
      obtain ⟨i, hi, -⟩ := stp_ins hs
      rw [hi]
      rfl
theorem w_copy {M pc idx : Nat} {ls : Array Slot} {rest : List Value} {h h' : MH} {a0 a : Nat} {sp dp n : Int32} (C : mCt B dC dI dA p s m args meth c M) (hR : RHm b B dC dI dA s h H) (hS : va_S (fun q => B ≤ q) s.heap H locs) (hls : ls.size = mx M) (hlink : (Cond.methodLink (nmM M).cls idx arraycopyName).before args s = true) (hv : acopy h a0 sp a dp n = some h') (hframes : 1 ≤ R.frames) (hlocals : cats rest + 18 ≤ R.locals) (hdg : decode (cod M) pc = .ok (.invokestatic idx, 3))
    (kk : ∀ (H1 : Heap) (locs1 : List Loc), RHm b B dC dI dA s h' H1 → va_S (fun q => B ≤ q) s.heap H1 locs1 → W p l e R s m args below meth c H1 locs1 cells slots Q (F0 m (pc + 3) ls (rest.map (up b B)))) : W p l e R s m args below meth c H locs cells slots Q (F0 m pc ls (.int n :: .int dp :: .ref (ad b B a) :: .int sp :: .ref (ad b B a0) :: rest.map (up b B))) := by
  obtain ⟨hx, hb, hml, hown, hts, hnm, ⟨hK, hAr, hNW, hAO⟩, -⟩ := C
  unfold acopy at hv
  split at hv
  · next t0 n0 f t1 n1 g hc0 hc1 =>
    split at hv
    · next hci =>
      obtain ⟨rfl, rfl, h1, h2, h3, h4, h5, hz0, hz1⟩ := hci
      cases hv
      cases a0 with
      | zero => exact absurd rfl hz0
      | succ k0 =>
      cases a with
      | zero => exact absurd rfl hz1
      | succ k1 =>
      have hat0 : H[B + k0]? = some (vp_cell (dA 0) (n0, .inl f)) := hR.2.2.2.2.2.1 k0 _ hc0
      have hat1 : H[B + k1]? = some (vp_cell (dA 0) (n1, .inl g)) := hR.2.2.2.2.2.1 k1 _ hc1
      have nn : ∀ z : Int32, ¬ z < 0 → z.toInt = (z.toNatClampNeg : Int) := by
        intro z hz
        have hz0 : (0 : Int) ≤ z.toInt := by
          have := Int32.not_lt.mp hz
          simpa using Int32.le_iff_toInt_le.mp this
        show z.toInt = ((z.toInt.toNat : Nat) : Int)
        omega
      intro T hT X
      obtain ⟨-, q0, hk0, cm0, hkk0⟩ := (hAr 0 srt_0).1 n0 (fun j => .int (f j))
      obtain ⟨-, q1, hk1, cm1, hkk1⟩ := (hAr 0 srt_0).1 n1 (fun j => .int (g j))
      obtain ⟨vm', X', step⟩ := X.arraycopy hx hown hlink (hts (.native arraycopyName) (by decide +kernel)) (hts (.static arraycopyName) (by decide +kernel)) (hts (.initialized "java/lang/System") (by decide +kernel)) (src := B + k0) (dst := B + k1) (cs := vp_cell (dA 0) (n0, .inl f)) (cd := vp_cell (dA 0) (n1, .inl g)) (srcPos := sp) (destPos := dp) (n := n) (by rw [hT]; exact hat0) (by rw [hT]; exact hat1)
        (fun _ h => by cases h) (fun _ h => by cases h) (fun h => by cases h) (fun h => by cases h) hk0 hk1 hkk0 hkk1 (by simp [tyT, refKind]) h1 h2 h3
        (by rw [nn sp h1, nn n h3]; show ¬ _ > ((arrV (dA 0) n0 (fun j => .int (f j))).slots.size : Int); rw [arrV_size]; omega)
        (by rw [nn dp h2, nn n h3]; show ¬ _ > ((arrV (dA 0) n1 (fun j => .int (g j))).slots.size : Int); rw [arrV_size]; omega)
        (fun vm₁ _ i hi => by
          have e : (vp_cell (dA 0) (n0, .inl f)).slots.getD (sp.toNatClampNeg + i) .null = .int (f (sp.toNatClampNeg + i)) := by
            show (arrV (dA 0) n0 (fun j => .int (f j))).slots.getD _ _ = _
            rw [Array.getD_eq_getD_getElem?, arrV_read _ _ (by omega)]
            rfl
          refine ⟨?_, ?_⟩
          · rw [e]; rfl
          · rw [e]; exact trivial)
        (g := F0 m pc ls (.int n :: .int dp :: .ref (B + k1) :: .int sp :: .ref (B + k0) :: rest.map (up b B))) rfl (by rw [hml]; exact hls) (rest := rest.map (up b B)) rfl (by rw [hb]; exact hdg) hframes (by
          show 2 * 0 + _ + _ ≤ _
          rw [up_cats]
          have : nativeFrameWords "java/lang/System" "arraycopy" 5 = 7 := by decide +kernel
          rw [this]
          omega)
      have e1 : copied (vp_cell (dA 0) (n0, .inl f)) (vp_cell (dA 0) (n1, .inl g)) sp dp n = vp_cell (dA 0) (n1, .inl (va_cpy f g sp.toNatClampNeg dp.toNatClampNeg n.toNatClampNeg)) := va_copied (fun z => .int z) (dA 0) (dA 0) f g h4
      rw [e1] at X' step
      have hl : B + k1 < H.size := (Array.getElem?_eq_some_iff.mp hat1).1
      have hheap : ((T.setVm vm').setCell (B + k1) (vp_cell (dA 0) (n1, .inl (va_cpy f g sp.toNatClampNeg dp.toNatClampNeg n.toNatClampNeg)))).heap = H.setIfInBounds (B + k1) (vp_cell (dA 0) (n1, .inl (va_cpy f g sp.toNatClampNeg dp.toNatClampNeg n.toNatClampNeg))) := by rw [← hT]; rfl
      have oq : ∀ q : Nat, q ≠ B + k1 → (H.setIfInBounds (B + k1) (vp_cell (dA 0) (n1, .inl (va_cpy f g sp.toNatClampNeg dp.toNatClampNeg n.toNatClampNeg))))[q]? = H[q]? := fun q hq => by simp [Array.getElem?_setIfInBounds, Ne.symm hq]
      have hat' : va_at (dC, dI) clT (B + k1, cv b B dA (.inl (0, n1, .inl (va_cpy f g sp.toNatClampNeg dp.toNatClampNeg n.toNatClampNeg)))) (H.setIfInBounds (B + k1) (vp_cell (dA 0) (n1, .inl (va_cpy f g sp.toNatClampNeg dp.toNatClampNeg n.toNatClampNeg)))) := by
        show (H.setIfInBounds (B + k1) _)[B + k1]? = some _
        simp [Array.getElem?_setIfInBounds, hl]
        rfl
      obtain ⟨t, a1, b1⟩ := kk _ _ (hR.set hc1 hat' (by simp) oq (fun t' x' hx' => by cases hx'; exact srt_0)) ⟨by simp; exact hS.1, fun q g1 g2 => by
          rw [oq q (fun e => g2 (by rw [e]; exact Nat.le_add_right B k1))]
          exact hS.2.1 q g1 g2, fun q hq => by
          rcases List.mem_append.mp hq with h | h
          · exact hS.2.2 q h
          · obtain ⟨z, -, hz⟩ := List.mem_map.mp h
            rw [← hz]
            exact Nat.le_add_right B k1⟩ _ hheap X'
      exact ⟨t, step t a1, b1⟩
    · cases hv
  · cases hv
theorem take_rev {st as : List Value} {n : Nat} (h : as = (st.take n).reverse) : st = as.reverse ++ st.drop n := by
  rw [h, List.reverse_reverse, List.take_append_drop]
/-- a call of a built-in method -/
theorem w_bi {M M' pc z0 z1 : Nat} {i : Instr} {lo : ML} {ls : Array Slot} {st as : List Value} {h h2 : MH} {f : MF} {v2 : Option Value} (hOp : opOK l) (C : mCt B dC dI dA p s m args meth c M) (hR : RHm b B dC dI dA s h H) (hS : va_S (fun q => B ≤ q) s.heap H locs) (hd : dec (cod M) pc i) (hok : okI M pc i = true) (hs : stpH M i pc lo st h = some (.inr (.inl (M', as, f)))) (hb : bi M' as h = some (v2, h2)) (hls : ls.size = mx M) (hfr : 6 ≤ R.frames) (hlo : 384 ≤ R.locals) (hz0 : cells + z0 = h.1) (hz1 : slots + z1 = h.2.1) (hr0 : h2.1 ≤ R.cells + z0) (hr1 : h2.2.1 ≤ R.slots + z1)
    (kk : ∀ (H1 : Heap) (locs1 : List Loc) (cells1 slots1 : Nat), RHm b B dC dI dA s h2 H1 → va_S (fun q => B ≤ q) s.heap H1 locs1 → cells1 + z0 = h2.1 → slots1 + z1 = h2.2.1 → W p l e R s m args below meth c H1 locs1 cells1 slots1 Q (F0 m f.1 ls ((v2.toList ++ f.2.2).map (up b B)))) :
    W p l e R s m args below meth c H locs cells slots Q (F0 m pc ls (st.map (up b B))) := by
  have hge := bi_ge hb
  have C0 := C
  obtain ⟨hx, hbc, hml, hown, hts, hnm, hK, hStr⟩ := C
  obtain ⟨len, hdg, hl⟩ := hd
  rcases call_kind hok hs with h1 | ⟨n, idx, hn, hc8, has, hf, hi⟩
  · exfalso
    have : nM ≤ 900 := by decide
    omega
  · have hst := take_rev has
    have hlen : as.length = n := by rw [has, List.length_reverse, List.length_take]; omega
    subst hf
    rcases hi with ⟨rfl, hne, hB⟩ | ⟨rfl, rfl, hB⟩
    · have e1 : len = 3 := hl rfl
      subst e1
      unfold okB at hB
      split at hB
      · exact absurd rfl hne
      · -- arraycopy
        simp only [Bool.and_eq_true, decide_eq_true_eq] at hB
        have hb2 : biR 1 as h = some (v2, h2) := hb
        simp only [biR] at hb2
        split at hb2
        · next a0 sp a dp nn =>
          split at hb2
          · next h3 hv =>
            cases hb2
            have e9 := acopy_size hv
            rw [hst]
            exact w_copy (rest := st.drop n) C0 hR hS hls (hts _ hB.2) hv (by omega) (by omega) hdg (fun H1 locs1 a1 a2 => kk H1 locs1 cells slots a1 a2 (by rw [e9.1]; exact hz0) (by rw [e9.2]; exact hz1))
          · cases hb2
        · cases hb2
      · -- isOperator
        simp only [Bool.and_eq_true, decide_eq_true_eq] at hB
        have hb2 : biR 2 as h = some (v2, h2) := hb
        simp only [biR] at hb2
        split at hb2
        · next ch =>
          cases hb2
          have hn1 : n = 1 := hB.1
          subst hn1
          have hroom : cells + 0 ≤ R.cells ∧ slots + 0 ≤ R.slots := ⟨by omega, by omega⟩
          have hgood : GoodIn TB wsOp := by
            intro w hw
            have hw2 : w ∈ TB := by
              rcases List.mem_cons.mp hw with rfl | hw
              · exact List.mem_of_getElem? (i := 182) rfl
              · exact hw
            exact ⟨hw2, TB_good w hw2⟩
          have hr := va_runS (H := H) (As := [.int ch]) (rest := (st.drop 1).map (up b B)) (g := F0 m pc ls (.int ch :: (st.drop 1).map (up b B))) (locs := locs) (cells := cells) (slots := slots) (below := below) (meth := meth) (e := e) (R := R) (Ts := TB) ⟨hx, hbc, hml, hown, hts⟩ (hOp B ch) ⟨callB_of 1 hts hgood rfl rfl rfl (hts (.initialized "FlowEquations") (by decide +kernel)) (hts _ hB.2.2) (by decide +kernel) ⟨by show 4 + 1 ≤ R.frames; omega, by show 8 + (2 + 11) + 200 ≤ R.locals; omega⟩, hts (.static yOp) (by decide +kernel)⟩ ⟨fun a U g mk q => ⟨q.1, strK.same (u := U) (U := U.calling g mk a) rfl rfl q.2⟩, fun U hU hW => ⟨rfl, hStr.moved hW (fun a h1 h2 => by rw [hU]; exact hS.2.1 a h1 h2)⟩⟩ rfl rfl hls rfl (lv_room (by rw [up_cats]; exact hc8)) hdg hroom
          rw [hst]
          intro T hT X
          obtain ⟨v', st₀, t, T', L, g0, X', hL, g1, g2, ⟨hv, hh⟩, stp1⟩ := hr T hT X
          cases hv
          have hTH : T'.heap = H := by rw [g1, hh, g0]
          have hL0 : L = [] := by
            cases L with
            | nil => rfl
            | cons x xs => exact (hL x List.mem_cons_self).elim
          subst hL0
          rw [List.append_nil] at X'
          obtain ⟨t2, a1, b1⟩ := kk H locs (cells + 0) (slots + 0) hR hS (by omega) (by omega) T' hTH X'
          exact ⟨t2, stp1 t2 a1, b1⟩
        · cases hb2
      · cases hB
    · -- Object's constructor
      have e1 : len = 3 := hl rfl
      subst e1
      have hB2 : (decide (n = 1) && decide (Cond.methodLink (nmM M).cls idx Lib.objectInit ∈ TB)) = true := hB
      simp only [Bool.and_eq_true, decide_eq_true_eq] at hB2
      have hb2 : biR 0 as h = some (v2, h2) := hb
      simp only [biR] at hb2
      split at hb2
      · next a =>
        cases hb2
        rw [hst]
        exact W.objInit hx hbc hown (hts _ hB2.2) (hts (.instanceMethod Lib.objectInit) (by decide +kernel)) (hts _ (List.mem_of_getElem? (l := TB) (i := 74) rfl)) rfl (by rw [hml]; exact hls) rfl hdg (by omega) (by
          show 2 * 0 + (((st.drop n).map (up b B)).map fun v => v.category).sum + 12 ≤ _
          rw [up_cats]
          omega) (kk H locs cells slots hR hS hz0 hz1)
      · cases hb2
/-- WHAT THE SMALL MACHINE RUNS, THE JVM RUNS -/
theorem sim (l : Launch) (hOp : opOK l) : ∀ (n d M pc : Nat) (lo : ML) (st : List Value) (h : MH) (v : Option Value) (h' : MH), ex n d M pc lo st h = some (v, h') →
    ∀ (p : Program) (e : Env) (R : Room) (s : State) (m : MethodId) (args : Array Value) (below : List Frame) (meth : Method) (c : Code) (Q : State → Prop) (z0 z1 : Nat), mCt B dC dI dA p s m args meth c M → h'.1 ≤ R.cells + z0 → h'.2.1 ≤ R.slots + z1 → d ≤ R.frames → 64 * d ≤ R.locals →
      (∀ (pc' : Nat) (lo' : ML) (ls' : Array Slot) (st' : List Value) (H' : Heap) (locs' : List Loc) (cells' slots' : Nat), stp M pc' lo' st' h' = some (.inr (.inr v)) → RHm b B dC dI dA s h' H' → va_S (fun q => B ≤ q) s.heap H' locs' → cells' + z0 = h'.1 → slots' + z1 = h'.2.1 → W p l e R s m args below meth c H' locs' cells' slots' Q (F0 m pc' ls' (st'.map (up b B)))) →
      ∀ (H : Heap) (locs : List Loc) (cells slots : Nat) (ls : Array Slot), RHm b B dC dI dA s h H → RL b B lo ls → lo.length = mx M → va_S (fun q => B ≤ q) s.heap H locs → cells + z0 = h.1 → slots + z1 = h.2.1 → W p l e R s m args below meth c H locs cells slots Q (F0 m pc ls (st.map (up b B))) := by
  intro n
  induction n with
  | zero => intro d M pc lo st h v h' hR; cases hR
  | succ n ih =>
    intro d M pc lo st h v h' hE p e R s m args below meth c Q z0 z1 C hr0 hr1 hfr hlo hret H locs cells slots ls hR hL hlen hS hz0 hz1
    cases hs : stp M pc lo st h with
    | none => simp only [ex, hs] at hE; cases hE
    | some r =>
      obtain ⟨i, hi, hsi⟩ := stp_ins hs
      have hd := ins_dec hi
      have hok := ins_ok hi
      obtain ⟨f, h1⟩ | ⟨M', as, f⟩ | v1 := r
      · rw [ex_next hs] at hE
        have hsz := ex_size _ _ _ _ _ _ _ _ _ hE
        have hst := stp_size hs
        rcases hsi with hsi | hsi
        · obtain ⟨pc', lo', st', e1, hk⟩ := sim_P (p := p) (l := l) (e := e) (R := R) (s := s) (m := m) (args := args) (below := below) (meth := meth) (c := c) (H := H) (locs := locs) (cells := cells) (slots := slots) (Q := Q) (b := b) (B := B) C.1 C.2.1 hd hsi
          cases e1
          exact hk (fun ls' hL' => ih _ _ _ _ _ _ _ _ hE p e R s m args below meth c Q z0 z1 C hr0 hr1 hfr hlo hret H locs cells slots ls' hR hL' (hst.1.trans hlen) hS hz0 hz1) ls hL
        · obtain ⟨pc', lo', st'⟩ := f
          have hkeep := stpH_keep hsi
          have hlo' : lo' = lo := hkeep.1
          subst hlo'
          exact (sim_H C hR hS hd hok hsi hz0 hz1 (Nat.le_trans hsz.1 hr0) (Nat.le_trans hsz.2 hr1) (fun H1 locs1 cells1 slots1 a1 a2 a3 a4 => ih _ _ _ _ _ _ _ _ hE p e R s m args below meth c Q z0 z1 C hr0 hr1 hfr hlo hret H1 locs1 cells1 slots1 ls a1 hL hlen a2 a3 a4)).2
      · have hsi : stpH M i pc lo st h = some (.inr (.inl (M', as, f))) := by
          rcases hsi with hsi | hsi
          · obtain ⟨_, _, _, e1, -⟩ := stpP_keep hsi
            cases e1
          · exact hsi
        have hls : ls.size = mx M := hL.1.trans hlen
        cases hb : bi M' as h with
        | some V =>
          by_cases hd6 : d < 6
          · exfalso
            simp only [ex, hs, hb, if_pos hd6] at hE
            cases hE
          · obtain ⟨d, rfl⟩ : ∃ k, d = k + 6 := ⟨d - 6, by omega⟩
            rw [ex_bi hs hb] at hE
            have hsz := ex_size _ _ _ _ _ _ _ _ _ hE
            obtain ⟨v2, h2⟩ := V
            have hf : f.2.1 = lo := stpH_call_lo hsi
            refine w_bi hOp C hR hS hd hok hsi hb hls (by omega) (by omega) hz0 hz1 (Nat.le_trans hsz.1 hr0) (Nat.le_trans hsz.2 hr1) (fun H1 locs1 cells1 slots1 a1 a2 a3 a4 => ih _ _ _ _ _ _ _ _ hE p e R s m args below meth c Q z0 z1 C hr0 hr1 hfr hlo hret H1 locs1 cells1 slots1 ls a1 (by rw [hf]; exact hL) (by rw [hf]; exact hlen) a2 a3 a4)
        | none =>
          cases d with
          | zero =>
            exfalso
            simp only [ex, hs, hb] at hE
            cases hE
          | succ d =>
            rw [ex_call hs hb] at hE
            cases h1 : ex n d M' 0 (ent (mx M') as) [] h with
            | none => rw [h1] at hE; cases hE
            | some R1 =>
              rw [h1] at hE
              obtain ⟨v1, h1'⟩ := R1
              have hE : ex n (d + 1) M f.1 f.2.1 (v1.toList ++ f.2.2) h1' = some (v, h') := hE
              have hsz1 := ex_size _ _ _ _ _ _ _ _ _ h1
              have hsz2 := ex_size _ _ _ _ _ _ _ _ _ hE
              have hM' : M' < nM := call_lt hok hsi (ex_ins h1)
              have hf : f.2.1 = lo := stpH_call_lo hsi
              have hcm : cats as ≤ mx M' := stpH_call_cats hsi
              have hmx : mx M' ≤ 40 := mx_le hM'
              have hmet : Met l (nmM M') (wsM M') { frames := d, cells := h1'.1 - h.1, slots := h1'.2.1 - h.2.1, locals := 64 * d } (PcM b B dC dI dA as h) (mQ b B dC dI dA v1 h1') (h1'.1 - h.1) (h1'.2.1 - h.2.1) (fun q => B ≤ q) := by
                refine va_MetF (cc := cod M') (maxL := mx M') (ret := rtM M') (nm_plain hM') rfl ?_
                intro p e s m args below meth c s₁ Bd hml hv
                obtain ⟨rfl, hRH, hK, hStr⟩ := hv
                have hts := atoms_spec (ws := wsM M') Bd.pre
                have hC : mCt B dC dI dA p s m (as.map (up b B)).toArray meth c M' := ⟨Bd.exec, Bd.bytes, hml, findClass_of_methodNamed Bd.named, fun w hw => hts w (List.mem_cons_of_mem _ hw), (name_of_methodNamed Bd.named Bd.method).1, hK, hStr⟩
                have hl := lv_entry (as.map (up b B)) (n := mx M') (by rw [lg_sl_len]; exact hcm)
                rw [lg_entry_eq]
                generalize (lg_sl (as.map (up b B)) ++ List.replicate (mx M' - (lg_sl (as.map (up b B))).length) Slot.unset).toArray = ls0 at hl ⊢
                refine ih d M' 0 (ent (mx M') as) [] h v1 h1' h1 p e _ s m _ below meth c _ h.1 h.2.1 hC (by show h1'.1 ≤ h1'.1 - h.1 + h.1; omega) (by show h1'.2.1 ≤ h1'.2.1 - h.2.1 + h.2.1; omega) (Nat.le_refl _) (Nat.le_refl _) ?_ s.heap [] 0 0 ls0 hRH (RL_ent hcm hl) (ent_len hcm) va_S.rf (Nat.zero_add _) (Nat.zero_add _)
                intro pc' lo' ls' st' H' locs' cells' slots' hst hRH' hS' e1 e2
                have e3 : h1'.1 - h.1 = cells' := by omega
                have e4 : h1'.2.1 - h.2.1 = slots' := by omega
                rw [e3, e4]
                exact w_ret hC Bd.notSynchronized Bd.returns hst (fun t ht hW => ⟨⟨rfl, by rw [ht]; exact RH.moved hW.alike hRH'⟩, hS'.F ht⟩) hS'.2.2
              refine (w_inv C hR hS hd hok hsi hls hM' hmet rfl rfl (by show d + 1 ≤ R.frames; exact hfr) (by show 8 + (mx M' + 11) + 64 * d ≤ R.locals; omega) ⟨by omega, by omega⟩ ?_).2
              intro H1 locs1 a1 a2
              exact ih _ _ _ _ _ _ _ _ hE p e R s m args below meth c Q z0 z1 C hr0 hr1 hfr hlo hret H1 locs1 _ _ ls a1 (by rw [hf]; exact hL) (by rw [hf]; exact hlen) a2 (by omega) (by omega)
      · rw [ex_ret hs] at hE
        cases hE
        exact hret pc lo ls st H locs cells slots hs hR hS hz0 hz1
end MSIM
