/-! The cells: how the two heaps stand beside each other, and the steps that read and write cells. -/
def RH (b B : Nat) (dC : Nat → ClassId) (dI : Nat → Nat → Nat) (dA : Nat → ClassId) (cl : List vw_C) (SL : List Nat) (s : State) (h : MH) (H : Heap) : Prop :=
  (∀ a t x, h.2.2 a = some (.inl (t, x)) → t ∈ SL) ∧ b < B ∧ 1 ≤ h.1 ∧ H.size + 1 = B + h.1 ∧ (∀ a c, h.2.2 a = some c → a < h.1) ∧ (∀ a c, h.2.2 (a + 1) = some c → va_at (dC, dI) cl (B + a, cv b B dA c) H) ∧ (∀ c, h.2.2 0 = some c → ∃ n f, c = .inl (0, n, .inl f) ∧ va_X b n f s H)
theorem up_off {α : Type} {f : Nat → α} {k j : Nat} {v x : α} (h : j ≠ k) (e : va_up f k v j = x) : f j = x := (va_up_ne f v h).symm.trans e
section RHS
variable {b B : Nat} {dC : Nat → ClassId} {dI : Nat → Nat → Nat} {dA : Nat → ClassId} {cl : List vw_C} {SL : List Nat} {s U : State} {h : MH} {H H1 : Heap}
theorem RH.moved (hvm : s.vm.Alike U.vm) (hR : RH b B dC dI dA cl SL s h H) : RH b B dC dI dA cl SL U h H := by
  obtain ⟨h0, h1, h2, h3, h4, h5, h6⟩ := hR
  refine ⟨h0, h1, h2, h3, h4, h5, fun c hc => ?_⟩
  obtain ⟨n, f, e, hX⟩ := h6 c hc
  exact ⟨n, f, e, hX.moved hvm⟩
theorem RH.set {k : Nat} {c c' : mC} (hR : RH b B dC dI dA cl SL s h H) (hc : h.2.2 (k + 1) = some c) (he : va_at (dC, dI) cl (B + k, cv b B dA c') H1) (z : H1.size = H.size) (oq : ∀ q : Nat, q ≠ B + k → H1[q]? = H[q]?) (hs : ∀ t x, c' = .inl (t, x) → t ∈ SL) : RH b B dC dI dA cl SL s (h.1, h.2.1, va_up h.2.2 (k + 1) (some c')) H1 := by
  obtain ⟨h0, h1, h2, h3, h4, h5, h6⟩ := hR
  refine ⟨fun a t x ha => ?_, h1, h2, by rw [z]; exact h3, fun a c0 ha => ?_, fun a c0 ha => ?_, fun c0 ha => ?_⟩
  · by_cases hak : a = k + 1
    · subst hak
      exact hs t x (Option.some.inj ((va_up_self _ _ _).symm.trans ha))
    · exact h0 _ _ _ ((va_up_ne _ _ hak).symm.trans ha)
  · by_cases hak : a = k + 1
    · subst hak; exact h4 _ _ hc
    · exact h4 _ _ ((va_up_ne _ _ hak).symm.trans ha)
  · by_cases hak : a = k
    · subst hak
      have : c' = c0 := Option.some.inj ((va_up_self _ _ _).symm.trans ha)
      rw [← this]; exact he
    · have hne : a + 1 ≠ k + 1 := by omega
      exact (h5 _ _ ((va_up_ne _ _ hne).symm.trans ha)).kept (oq _ (by show B + a ≠ B + k; omega))
  · obtain ⟨n, f, e, hX⟩ := h6 _ (up_off (k := k + 1) (v := some c') (by omega) ha)
    exact ⟨n, f, e, hX.kept (oq b (by omega))⟩
theorem RH.push {c' : mC} {n : Nat} (hR : RH b B dC dI dA cl SL s h H) (he : va_at (dC, dI) cl (H.size, cv b B dA c') H1) (z : H1.size = H.size + 1) (oq : ∀ q : Nat, q < H.size → H1[q]? = H[q]?) (hs : ∀ t x, c' = .inl (t, x) → t ∈ SL) : RH b B dC dI dA cl SL s (h.1 + 1, h.2.1 + n, va_up h.2.2 h.1 (some c')) H1 := by
  obtain ⟨h0, h1, h2, h3, h4, h5, h6⟩ := hR
  refine ⟨fun a t x ha => ?_, h1, Nat.le_add_left _ _, by rw [z]; show H.size + 1 + 1 = B + (h.1 + 1); omega, fun a c0 ha => ?_, fun a c0 ha => ?_, fun c0 ha => ?_⟩
  · by_cases hak : a = h.1
    · have ha2 : va_up h.2.2 h.1 (some c') a = some (.inl (t, x)) := ha
      rw [hak, va_up_self] at ha2
      exact hs t x (Option.some.inj ha2)
    · exact h0 _ _ _ ((va_up_ne _ _ hak).symm.trans ha)
  · show a < h.1 + 1
    by_cases hak : a = h.1
    · omega
    · have := h4 _ _ ((va_up_ne _ _ hak).symm.trans ha)
      omega
  · by_cases hak : a + 1 = h.1
    · have e1 : c' = c0 := by
        have ha2 : va_up h.2.2 h.1 (some c') (a + 1) = some c0 := ha
        rw [hak, va_up_self] at ha2
        exact Option.some.inj ha2
      have e2 : B + a = H.size := by omega
      rw [← e1, e2]; exact he
    · have ha2 := (va_up_ne _ _ hak).symm.trans ha
      have hlt := h4 _ _ ha2
      exact (h5 _ _ ha2).kept (oq _ (by show B + a < H.size; omega))
  · obtain ⟨n, f, e, hX⟩ := h6 _ (up_off (k := h.1) (v := some c') (by omega) ha)
    exact ⟨n, f, e, hX.kept (oq b (by omega))⟩
theorem RH.nz {a ci : Nat} {fs : List Value} (hR : RH b B dC dI dA cl SL s h H) (ha : h.2.2 a = some (.inr (ci, fs))) : ∃ k, a = k + 1 ∧ va_at (dC, dI) cl (B + k, .inr (ci, fs.map (up b B))) H := by
  obtain ⟨h0, h1, h2, h3, h4, h5, h6⟩ := hR
  cases a with
  | zero =>
    obtain ⟨n, f, e, -⟩ := h6 _ ha
    cases e
  | succ k => exact ⟨k, rfl, h5 k _ ha⟩
/-- where the next cell comes -/
theorem RH.next (hR : RH b B dC dI dA cl SL s h H) : ad b B h.1 = H.size := by
  obtain ⟨-, h1, h2, h3, -⟩ := hR
  generalize h.1 = n at h2 h3
  cases n with
  | zero => omega
  | succ k => show B + k = H.size; omega
end RHS
theorem fputh_size {h h' : MH} {a ci k : Nat} {ty : FieldType} {v : Value} (hv : fputh h a ci k ty v = some h') : h'.1 = h.1 ∧ h'.2.1 = h.2.1 := by
  unfold fputh at hv
  split at hv
  · split at hv
    · cases hv; exact ⟨rfl, rfl⟩
    · cases hv
  · cases hv
theorem aputi_size {h h' : MH} {t a : Nat} {i x : Int32} (hv : aputi h t a i x = some h') : h'.1 = h.1 ∧ h'.2.1 = h.2.1 := by
  unfold aputi at hv
  split at hv
  · split at hv
    · cases hv; exact ⟨rfl, rfl⟩
    · cases hv
  · cases hv
theorem aputl_size {h h' : MH} {t a : Nat} {i : Int32} {x : Int64} (hv : aputl h t a i x = some h') : h'.1 = h.1 ∧ h'.2.1 = h.2.1 := by
  unfold aputl at hv
  split at hv
  · split at hv
    · cases hv; exact ⟨rfl, rfl⟩
    · cases hv
  · cases hv
theorem aputr_size {h h' : MH} {a v : Nat} {i : Int32} (hv : aputr h a i v = some h') : h'.1 = h.1 ∧ h'.2.1 = h.2.1 := by
  unfold aputr at hv
  split at hv
  · split at hv
    · cases hv; exact ⟨rfl, rfl⟩
    · cases hv
  · cases hv
theorem va_P.one {D : va_G} {cl : List vw_C} {q : Nat × va_E} {H : Heap} (h : va_at D cl q H) : va_P D cl [q] H := by
  intro k x hx
  match k, hx with
  | 0, hx => cases hx; exact h
  | k + 1, hx => simp at hx
section HW
variable {p : Program} {l : Launch} {e : Env} {R : Room} {s : State} {m : MethodId} {args : Array Value} {below : List Frame} {meth : Method} {c : Code} {H : Heap} {locs : List Loc} {cells slots : Nat} {Q : State → Prop}
variable {cc : ByteArray} {pc : Nat} {ls : Array Slot} {rest : List Value} {b B : Nat} {dC : Nat → ClassId} {dI : Nat → Nat → Nat} {dA : Nat → ClassId} {cl : List vw_C} {SL : List Nat} {h : MH} {Ts : List Cond}
/-- a class's table: its words are there, its types, its names apart -/
def clOK (cl : List vw_C) (Ts : List Cond) (tyF : Nat → Nat → FieldType) (ci : Nat) (C : String) (T : u_T) (N : Nat) : Prop :=
  cl[ci]? = some (C, T, N) ∧ (∀ w ∈ u_ws C T N, w ∈ Ts) ∧ (∀ k, k < N → parseFieldDescriptor (T k).2.2.1 = some (tyF ci k)) ∧ (∀ a, a < N → ∀ b, b < N → a ≠ b → (T a).2.1 ≠ (T b).2.1)
theorem w_get (hx : p.tables.exec = Jvm.exec) (hb : c.code = cc) (hts : ∀ w ∈ Ts, w.before args s = true) (hK : va_K (dC, dI) cl [] s) (hR : RH b B dC dI dA cl SL s h H) {tyF : Nat → Nat → FieldType} {own host C : String} {T : u_T} {N ci k a index : Nat} {v : Value} (hO : clOK cl Ts tyF ci C T N) (hk : k < N) (hown : s.vm.findClass own = some m.cls)
    (hlink : (Cond.fieldLink own index (T k).1 (T k).2.1 (T k).2.2.1).before args s = true ∨ (Cond.fieldLinkNest own index (T k).1 (T k).2.1 (T k).2.2.1 host).before args s = true) (hv : fgetv h a ci k = some v) (hdg : decode cc pc = .ok (.getfield index, 3))
    (kk : W p l e R s m args below meth c H locs cells slots Q (F0 m (pc + 3) ls (up b B v :: rest))) : W p l e R s m args below meth c H locs cells slots Q (F0 m pc ls (.ref (ad b B a) :: rest)) := by
  unfold fgetv at hv
  split at hv
  · next c0 fs hc0 =>
    split at hv
    · next hci =>
      subst hci
      obtain ⟨q, rfl, hat⟩ := hR.nz hc0
      have hvm : (fs.map (up b B))[k]? = some (up b B v) := by rw [List.getElem?_map, hv]; rfl
      rcases hlink with hlink | hlink
      · exact va_get (D := (dC, dI)) (ci := c0) (C := C) (T := T) (N := N) hx hb hts hO.2.1 hown hK (va_P.one hat) 0 rfl hO.1 k hk hlink (fun _ h9 => h9) hvm hdg kk
      · exact va_getN (D := (dC, dI)) (ci := c0) (C := C) (T := T) (N := N) hx hb hts hO.2.1 hown hK (va_P.one hat) 0 rfl hO.1 k hk hlink (fun _ h9 => h9) hvm hdg kk
    · cases hv
  · cases hv
theorem w_put (hx : p.tables.exec = Jvm.exec) (hb : c.code = cc) (hts : ∀ w ∈ Ts, w.before args s = true) (hK : va_K (dC, dI) cl [] s) (hR : RH b B dC dI dA cl SL s h H) (hS : va_S (fun q => B ≤ q) s.heap H locs) {tyF : Nat → Nat → FieldType} {own host C : String} {T : u_T} {N ci k a index : Nat} {v : Value} {h' : MH} (hO : clOK cl Ts tyF ci C T N) (hk : k < N) (hown : s.vm.findClass own = some m.cls)
    (hlink : ((T k).2.2.2 = false ∧ ((Cond.fieldLink own index (T k).1 (T k).2.1 (T k).2.2.1).before args s = true ∨ (Cond.fieldLinkNest own index (T k).1 (T k).2.1 (T k).2.2.1 host).before args s = true)) ∨ ((T k).2.2.2 = true ∧ meth.name = "<init>" ∧ (T k).1 = own ∧ (Cond.fieldLink own index (T k).1 (T k).2.1 (T k).2.2.1).before args s = true))
    (hv : fputh h a ci k (tyF ci k) v = some h') (hdg : decode cc pc = .ok (.putfield index, 3))
    (kk : ∀ (H1 : Heap) (locs1 : List Loc), RH b B dC dI dA cl SL s h' H1 → va_S (fun q => B ≤ q) s.heap H1 locs1 → W p l e R s m args below meth c H1 locs1 cells slots Q (F0 m (pc + 3) ls rest)) : W p l e R s m args below meth c H locs cells slots Q (F0 m pc ls (up b B v :: .ref (ad b B a) :: rest)) := by
  unfold fputh at hv
  split at hv
  · next c0 fs hc0 =>
    split at hv
    · next hci =>
      cases hv
      obtain ⟨rfl, hl, hn, hf⟩ := hci
      obtain ⟨q, rfl, hat⟩ := hR.nz hc0
      obtain ⟨hc, hin, hty, hnm⟩ := hO
      have hap := va_apart (own := own) (D := (dC, dI)) hts hin (tyF c0) hty hnm hK hc
      obtain ⟨r, g1, cell, q1, q2, q3, q4⟩ := hat
      have hr : r = (C, T, N) := Option.some.inj (g1.symm.trans hc)
      subst hr
      obtain ⟨hSl, hfc, kC, hkC, hkind⟩ := hK.1 c0 _ hc
      obtain ⟨cf, kf, fi, f, hi, hsl⟩ := hSl k hk
      have hlay := hts _ (hin _ (u_in_lay hk))
      unfold u_lay at hlay
      have hst := (u_facts hfc hkC (u_lays hts hin hk) hi).1
      have hn' : narrow (tyF c0 k) (up b B v) = up b B v := up_narrow hn
      have hf' : fits (tyF c0 k) (up b B v) = true := up_fits hf
      have fin : ∀ (H' : Heap) (locs1 : List Loc), H'[B + q]? = some (cell.setSlot f.slot (up b B v)) → H'.size = H.size → (∀ x, x ≠ B + q → H'[x]? = H[x]?) → RH b B dC dI dA cl SL s (h.1, h.2.1, va_up h.2.2 (q + 1) (some (.inr (c0, fs.set k v)))) H' := by
        intro H' _ e1 e2 e3
        rw [hsl] at e1
        refine hR.set hc0 ⟨_, hc, ?_⟩ e2 e3 (fun _ _ h9 => by cases h9)
        refine t_OB.to (V := updV (vp_V (fs.map (up b B))) k (up b B v)) ⟨_, e1, q2, q3, t_set q4 hap hk _⟩ (fun j _ => ?_)
        show updV (vp_V (fs.map (up b B))) k (up b B v) j = vp_V ((fs.set k v).map (up b B)) j
        rw [List.map_set]
        exact vp_updV_set (by rw [List.length_map]; exact hl) _ j
      have hSp : ∀ (H' : Heap), H'.size = H.size → (∀ x, x ≠ B + q → H'[x]? = H[x]?) → va_S (fun q => B ≤ q) s.heap H' (locs ++ [⟨B + q, f.slot⟩]) := fun H' e2 e3 => hS.put e2 e3 (Nat.le_add_right B q)
      rcases hlink with ⟨hnf, hlink⟩ | ⟨hfi, hin2, hdecl, hlink⟩
      · rw [if_neg (by rw [hnf]; decide)] at hlay
        have h6 := u_store hfc hkC hkind hlay hi (hty k hk) hn' hf'
        rcases hlink with hlink | hlink
        · exact W.putK hx hb (f := f) ⟨hown, hlink, ⟨_, _, _, hi⟩, hst⟩ (by rw [q2]; exact h6) q1 q3 (by rw [hsl]; exact k2_hasslot (q4 k hk)) rfl rfl hdg fun H' e1 e2 e3 => kk H' _ (fin H' [] e1 e2 e3) (hSp H' e2 e3)
        · exact va_WputK hx hb (f := f) hown hlink hi hst (by rw [q2]; exact h6) q1 q3 (by rw [hsl]; exact k2_hasslot (q4 k hk)) rfl rfl hdg fun H' e1 e2 e3 => kk H' _ (fin H' [] e1 e2 e3) (hSp H' e2 e3)
      · rw [if_pos hfi] at hlay
        have hcf : m.cls = cf := by
          obtain ⟨_, _, c', _, _, _, -, -, hf', -, -, -, hown2, -⟩ := Cond.laysFinal_spec hlay
          have e1 : c' = cf := by have := hi.symm.trans hf'; simp at this; exact this.1.symm
          rw [hdecl] at hown2
          rw [← e1]; exact Option.some.inj (hown.symm.trans hown2)
        have h6 := u_fits hfc hkC hkind (Or.inr hlay) hi (hty k hk) hn' hf'
        exact W.putFinK hx hb hown hlink hi hst hcf hin2 (by rw [q2]; exact h6) q1 q3 (by rw [hsl]; exact k2_hasslot (q4 k hk)) rfl rfl hdg fun H' e1 e2 e3 => kk H' _ (fin H' [] e1 e2 e3) (hSp H' e2 e3)
    · cases hv
  · cases hv
theorem w_iald (hx : p.tables.exec = Jvm.exec) (hb : c.code = cc) (hR : RH b B dC dI dA cl SL s h H) (hA : ArrOfT s (dA 0) .int) {a : Nat} {i x : Int32} (hv : ageti h 0 a i = some x) (hdg : decode cc pc = .ok (.iaload, 1))
    (kk : W p l e R s m args below meth c H locs cells slots Q (F0 m (pc + 1) ls (.int x :: rest))) : W p l e R s m args below meth c H locs cells slots Q (F0 m pc ls (.int i :: .ref (ad b B a) :: rest)) := by
  unfold ageti at hv
  split at hv
  · next t n f hc =>
    split at hv
    · next hci =>
      obtain ⟨rfl, hin⟩ := hci
      cases hv
      have hlt : i.toNatClampNeg < n := Nat.not_le.mp fun q => hin (Or.inr q)
      cases a with
      | zero =>
        obtain ⟨n', f', e, scr, h1, h2, h3, h4, h5⟩ := hR.2.2.2.2.2.2 _ hc
        cases e
        exact W.iald (v := .int (f i.toNatClampNeg)) hx hb h1 h2 h3 (by rw [h4]; exact hin) (h5 _ hlt) rfl rfl hdg kk
      | succ k =>
        have hat : H[B + k]? = some (arrV (dA 0) n (fun j => .int (f j))) := hR.2.2.2.2.2.1 k _ hc
        exact W.iald (v := .int (f i.toNatClampNeg)) hx hb hat (hA n _) (fun q => by cases q) (by rw [arrV_size]; exact hin) (by rw [arrV_read _ _ hlt]) rfl rfl hdg kk
    · cases hv
  · cases hv
theorem w_zald (hx : p.tables.exec = Jvm.exec) (hb : c.code = cc) (hR : RH b B dC dI dA cl SL s h H) (hA : ArrOfT s (dA 1) .boolean) {a : Nat} {i x : Int32} (hv : ageti h 1 a i = some x) (hdg : decode cc pc = .ok (.baload, 1))
    (kk : W p l e R s m args below meth c H locs cells slots Q (F0 m (pc + 1) ls (.int x :: rest))) : W p l e R s m args below meth c H locs cells slots Q (F0 m pc ls (.int i :: .ref (ad b B a) :: rest)) := by
  unfold ageti at hv
  split at hv
  · next t n f hc =>
    split at hv
    · next hci =>
      obtain ⟨rfl, hin⟩ := hci
      cases hv
      have hlt : i.toNatClampNeg < n := Nat.not_le.mp fun q => hin (Or.inr q)
      cases a with
      | zero =>
        obtain ⟨n', f', e, -⟩ := hR.2.2.2.2.2.2 _ hc
        cases e
      | succ k =>
        have hat : H[B + k]? = some (arrV (dA 1) n (fun j => .int (f j))) := hR.2.2.2.2.2.1 k _ hc
        exact W.zald (v := .int (f i.toNatClampNeg)) hx hb hat (hA n _) (fun q => by cases q) (by rw [arrV_size]; exact hin) (by rw [arrV_read _ _ hlt]) rfl rfl hdg kk
    · cases hv
  · cases hv
theorem w_lald (hx : p.tables.exec = Jvm.exec) (hb : c.code = cc) (hR : RH b B dC dI dA cl SL s h H) (hA : ArrOfT s (dA 2) .long) {a : Nat} {i : Int32} {x : Int64} (hv : agetl h 2 a i = some x) (hdg : decode cc pc = .ok (.laload, 1))
    (kk : W p l e R s m args below meth c H locs cells slots Q (F0 m (pc + 1) ls (.long x :: rest))) : W p l e R s m args below meth c H locs cells slots Q (F0 m pc ls (.int i :: .ref (ad b B a) :: rest)) := by
  unfold agetl at hv
  split at hv
  · next t n f hc =>
    split at hv
    · next hci =>
      obtain ⟨rfl, hin⟩ := hci
      cases hv
      have hlt : i.toNatClampNeg < n := Nat.not_le.mp fun q => hin (Or.inr q)
      cases a with
      | zero =>
        obtain ⟨n', f', e, -⟩ := hR.2.2.2.2.2.2 _ hc
        cases e
      | succ k =>
        have hat : H[B + k]? = some (arrV (dA 2) n (fun j => .long (f j))) := hR.2.2.2.2.2.1 k _ hc
        exact W.lald (v := .long (f i.toNatClampNeg)) hx hb hat (hA n _) (fun q => by cases q) (by rw [arrV_size]; exact hin) (by rw [arrV_read _ _ hlt]) rfl rfl hdg kk
    · cases hv
  · cases hv
theorem arrI_upd (cA : ClassId) (n k : Nat) (f : Nat → Int32) (x : Int32) : (arrV cA n (fun j => .int (f j))).setSlot k (.int x) = arrV cA n (fun j => .int (upd f k x j)) := by
  rw [arrV_store]
  congr 1
  funext q
  by_cases hq : q = k
  · subst hq
    simp [updV, upd]
  · simp [updV, upd, hq]
theorem arrL_upd (cA : ClassId) (n k : Nat) (f : Nat → Int64) (x : Int64) : (arrV cA n (fun j => .long (f j))).setSlot k (.long x) = arrV cA n (fun j => .long (vp_updL f k x j)) := by
  rw [arrV_store]
  congr 1
  funext q
  by_cases hq : q = k
  · subst hq
    simp [updV, vp_updL]
  · simp [updV, vp_updL, hq]
theorem w_iast (hx : p.tables.exec = Jvm.exec) (hb : c.code = cc) (hR : RH b B dC dI dA cl SL s h H) (hS : va_S (fun q => B ≤ q) s.heap H locs) (hA : ArrOfT s (dA 0) .int) {a : Nat} {i x : Int32} {h' : MH} (hv : aputi h 0 a i x = some h') (hdg : decode cc pc = .ok (.iastore, 1))
    (kk : ∀ (H1 : Heap) (locs1 : List Loc), RH b B dC dI dA cl SL s h' H1 → va_S (fun q => B ≤ q) s.heap H1 locs1 → W p l e R s m args below meth c H1 locs1 cells slots Q (F0 m (pc + 1) ls rest)) : W p l e R s m args below meth c H locs cells slots Q (F0 m pc ls (.int x :: .int i :: .ref (ad b B a) :: rest)) := by
  unfold aputi at hv
  split at hv
  · next t n f hc =>
    split at hv
    · next hci =>
      obtain ⟨rfl, hin, ha⟩ := hci
      cases hv
      cases a with
      | zero => exact absurd rfl ha
      | succ k =>
        have hat : H[B + k]? = some (arrV (dA 0) n (fun j => .int (f j))) := hR.2.2.2.2.2.1 k _ hc
        refine W.iast hx hb hat (hA n _) (fun q => by cases q) (by rw [arrV_size]; exact hin) rfl rfl hdg fun H1 e z oq => ?_
        rw [arrI_upd] at e
        exact kk H1 _ (hR.set hc e z oq (fun t' x' hx' => by cases hx'; exact hR.1 _ _ _ hc)) (hS.put z oq (Nat.le_add_right B k))
    · cases hv
  · cases hv
theorem w_zast (hx : p.tables.exec = Jvm.exec) (hb : c.code = cc) (hR : RH b B dC dI dA cl SL s h H) (hS : va_S (fun q => B ≤ q) s.heap H locs) (hA : ArrOfT s (dA 1) .boolean) {a : Nat} {i x : Int32} {h' : MH} (hn : narrow .boolean (.int x) = .int x) (hv : aputi h 1 a i x = some h') (hdg : decode cc pc = .ok (.bastore, 1))
    (kk : ∀ (H1 : Heap) (locs1 : List Loc), RH b B dC dI dA cl SL s h' H1 → va_S (fun q => B ≤ q) s.heap H1 locs1 → W p l e R s m args below meth c H1 locs1 cells slots Q (F0 m (pc + 1) ls rest)) : W p l e R s m args below meth c H locs cells slots Q (F0 m pc ls (.int x :: .int i :: .ref (ad b B a) :: rest)) := by
  unfold aputi at hv
  split at hv
  · next t n f hc =>
    split at hv
    · next hci =>
      obtain ⟨rfl, hin, ha⟩ := hci
      cases hv
      cases a with
      | zero => exact absurd rfl ha
      | succ k =>
        have hat : H[B + k]? = some (arrV (dA 1) n (fun j => .int (f j))) := hR.2.2.2.2.2.1 k _ hc
        refine W.zast hx hb hat (hA n _) (fun q => by cases q) (by rw [arrV_size]; exact hin) rfl rfl hdg fun H1 e z oq => ?_
        rw [hn, arrI_upd] at e
        exact kk H1 _ (hR.set hc e z oq (fun t' x' hx' => by cases hx'; exact hR.1 _ _ _ hc)) (hS.put z oq (Nat.le_add_right B k))
    · cases hv
  · cases hv
theorem w_last (hx : p.tables.exec = Jvm.exec) (hb : c.code = cc) (hR : RH b B dC dI dA cl SL s h H) (hS : va_S (fun q => B ≤ q) s.heap H locs) (hA : ArrOfT s (dA 2) .long) {a : Nat} {i : Int32} {x : Int64} {h' : MH} (hv : aputl h 2 a i x = some h') (hdg : decode cc pc = .ok (.lastore, 1))
    (kk : ∀ (H1 : Heap) (locs1 : List Loc), RH b B dC dI dA cl SL s h' H1 → va_S (fun q => B ≤ q) s.heap H1 locs1 → W p l e R s m args below meth c H1 locs1 cells slots Q (F0 m (pc + 1) ls rest)) : W p l e R s m args below meth c H locs cells slots Q (F0 m pc ls (.long x :: .int i :: .ref (ad b B a) :: rest)) := by
  unfold aputl at hv
  split at hv
  · next t n f hc =>
    split at hv
    · next hci =>
      obtain ⟨rfl, hin, ha⟩ := hci
      cases hv
      cases a with
      | zero => exact absurd rfl ha
      | succ k =>
        have hat : H[B + k]? = some (arrV (dA 2) n (fun j => .long (f j))) := hR.2.2.2.2.2.1 k _ hc
        refine W.last hx hb hat (hA n _) (fun q => by cases q) (by rw [arrV_size]; exact hin) rfl rfl hdg fun H1 e z oq => ?_
        rw [arrL_upd] at e
        exact kk H1 _ (hR.set hc e z oq (fun t' x' hx' => by cases hx'; exact hR.1 _ _ _ hc)) (hS.put z oq (Nat.le_add_right B k))
    · cases hv
  · cases hv
theorem w_aald (hx : p.tables.exec = Jvm.exec) (hb : c.code = cc) (hR : RH b B dC dI dA cl SL s h H) (hA : ∀ t, t ∈ SL → 10 ≤ t → ∃ C, ArrOfT s (dA t) (.object C)) {a : Nat} {i : Int32} {x : Option Nat} (hv : agetr h a i = some x) (hdg : decode cc pc = .ok (.aaload, 1))
    (kk : W p l e R s m args below meth c H locs cells slots Q (F0 m (pc + 1) ls (up b B (va_rf x) :: rest))) : W p l e R s m args below meth c H locs cells slots Q (F0 m pc ls (.int i :: .ref (ad b B a) :: rest)) := by
  unfold agetr at hv
  split at hv
  · next t n f hc =>
    split at hv
    · next hci =>
      obtain ⟨ht, hin⟩ := hci
      cases hv
      have hlt : i.toNatClampNeg < n := Nat.not_le.mp fun q => hin (Or.inr q)
      cases a with
      | zero =>
        obtain ⟨n', f', e, -⟩ := hR.2.2.2.2.2.2 _ hc
        cases e
      | succ k =>
        have hat : H[B + k]? = some (arrV (dA t) n (fun j => va_rf ((f j).map (ad b B)))) := hR.2.2.2.2.2.1 k _ hc
        obtain ⟨C, hA⟩ := hA t (hR.1 _ _ _ hc) ht
        rw [← up_rf] at kk
        exact W.aald (v := va_rf ((f i.toNatClampNeg).map (ad b B))) (ty := .object C) hx hb hat (hA n _) rfl (fun q => by cases q) (by rw [arrV_size]; exact hin) (by rw [arrV_read _ _ hlt]) rfl rfl hdg kk
    · cases hv
  · cases hv
theorem w_alen (hx : p.tables.exec = Jvm.exec) (hb : c.code = cc) (hR : RH b B dC dI dA cl SL s h H) (hA : ∀ t, t ∈ SL → ∃ ty, ArrOfT s (dA t) ty) {a : Nat} {x : Int32} (hv : alenv h a = some x) (hdg : decode cc pc = .ok (.arraylength, 1))
    (kk : W p l e R s m args below meth c H locs cells slots Q (F0 m (pc + 1) ls (.int x :: rest))) : W p l e R s m args below meth c H locs cells slots Q (F0 m pc ls (.ref (ad b B a) :: rest)) := by
  unfold alenv at hv
  split at hv
  · next t n x hc =>
    cases hv
    cases a with
    | zero =>
      obtain ⟨n', f', e, scr, h1, h2, h3, h4, h5⟩ := hR.2.2.2.2.2.2 _ hc
      cases e
      exact W.alen (n := Int32.ofNat n) hx hb h1 h2 (by rw [h4] <;> rfl) rfl rfl hdg kk
    | succ k =>
      obtain ⟨ty, hA⟩ := hA t (hR.1 _ _ _ hc)
      have hat : H[B + k]? = some (vp_cell (dA t) (n, cvA b B x)) := hR.2.2.2.2.2.1 k _ hc
      obtain f | f | f | f | f := x
      · exact W.alen (n := Int32.ofNat n) hx hb hat (hA n (fun j => .int (f j))) (by show (arrV _ n _).slots.size.toInt32 = _; rw [arrV_size] <;> rfl) rfl rfl hdg kk
      · exact W.alen (n := Int32.ofNat n) hx hb hat (hA n (fun j => .long (f j))) (by show (arrV _ n _).slots.size.toInt32 = _; rw [arrV_size] <;> rfl) rfl rfl hdg kk
      · exact W.alen (n := Int32.ofNat n) hx hb hat (hA n (fun j => .float (f j))) (by show (arrV _ n _).slots.size.toInt32 = _; rw [arrV_size] <;> rfl) rfl rfl hdg kk
      · exact W.alen (n := Int32.ofNat n) hx hb hat (hA n (fun j => .double (f j))) (by show (arrV _ n _).slots.size.toInt32 = _; rw [arrV_size] <;> rfl) rfl rfl hdg kk
      · exact W.alen (n := Int32.ofNat n) hx hb hat (hA n (fun j => va_rf ((f j).map (ad b B)))) (by show (arrV _ n _).slots.size.toInt32 = _; rw [arrV_size] <;> rfl) rfl rfl hdg kk
  · cases hv
theorem w_aast (hx : p.tables.exec = Jvm.exec) (hb : c.code = cc) (hK : va_K (dC, dI) cl [] s) (hR : RH b B dC dI dA cl SL s h H) (hS : va_S (fun q => B ≤ q) s.heap H locs) (hA : ∀ t r, t ∈ SL → 10 ≤ t → cl[t - 10]? = some r → va_RA s (dA t) (.object r.1)) {a v : Nat} {i : Int32} {h' : MH} (hv : aputr h a i v = some h') (hdg : decode cc pc = .ok (.aastore, 1))
    (kk : ∀ (H1 : Heap) (locs1 : List Loc), RH b B dC dI dA cl SL s h' H1 → va_S (fun q => B ≤ q) s.heap H1 locs1 → W p l e R s m args below meth c H1 locs1 cells slots Q (F0 m (pc + 1) ls rest)) : W p l e R s m args below meth c H locs cells slots Q (F0 m pc ls (.ref (ad b B v) :: .int i :: .ref (ad b B a) :: rest)) := by
  unfold aputr at hv
  split at hv
  · next t n f hc =>
    split at hv
    · next hci =>
      obtain ⟨ht, hcv, hin, ha⟩ := hci
      cases hv
      have hlt : i.toNatClampNeg < n := Nat.not_le.mp fun q => hin (Or.inr q)
      have h0 : ¬ i < 0 := fun q => hin (Or.inl q)
      cases a with
      | zero => exact absurd rfl ha
      | succ k =>
        have hat : H[B + k]? = some (arrV (dA t) n (fun j => va_rf ((f j).map (ad b B)))) := hR.2.2.2.2.2.1 k _ hc
        unfold clsOf at hcv
        split at hcv
        · next c0 vs hcc =>
          cases hcv
          obtain ⟨kv, rfl, r, g1, cellV, g2, g3, g4, -⟩ := hR.nz hcc
          have hcls := (hK.1 _ r g1).2
          obtain ⟨kA, comp, k1, k2, k3, -⟩ := hA t r (hR.1 _ _ _ hc) ht g1
          have hcomp : comp = dC (t - 10) := Option.some.inj (k3.symm.trans hcls.1)
          subst hcomp
          obtain ⟨kC, hkC, -⟩ := hcls.2
          refine W.aast hx hb hat (fun q h => by cases h) (fun h => by cases h) k1 k2 rfl hkC ⟨h0, by rw [arrV_size]; exact hlt⟩ g2 (fun q h => by rw [g4] at h; cases h) (by rw [g3]; exact hkC) (by rw [g3]; exact va_assign hcls) rfl rfl hdg fun H1 e z oq => ?_
          refine kk H1 _ (hR.set hc ?_ z oq (fun t' x' hx' => by cases hx'; exact hR.1 _ _ _ hc)) (hS.put z oq (Nat.le_add_right B k))
          show H1[B + k]? = some (arrV (dA t) n (fun j => va_rf ((va_up f i.toNatClampNeg (some (kv + 1)) j).map (ad b B))))
          rw [e, arrV_store]
          congr 2
          funext q
          by_cases hq : q = i.toNatClampNeg
          · subst hq
            simp [updV, va_up, va_rf, ad]
          · simp [updV, va_up, hq]
        · cases hcv
    · cases hv
  · cases hv
theorem up_dflt (b B : Nat) (ty : FieldType) : up b B (defaultValue ty) = defaultValue ty := by cases ty <;> rfl
/-- a new object -/
theorem w_new (hx : p.tables.exec = Jvm.exec) (hb : c.code = cc) (hts : ∀ w ∈ Ts, w.before args s = true) (hK : va_K (dC, dI) cl [] s) (hR : RH b B dC dI dA cl SL s h H) (hS : va_S (fun q => B ≤ q) s.heap H locs) {tyF : Nat → Nat → FieldType} {own C : String} {T : u_T} {N ci index : Nat} (hO : clOK cl Ts tyF ci C T N) (hown : s.vm.findClass own = some m.cls)
    (hcl : (Cond.classLink own index C).before args s = true) (hinst : (Cond.instantiable C N).before args s = true) (hini : (Cond.initialized C).before args s = true) (hcells : cells + 1 ≤ R.cells) (hslots : slots + N ≤ R.slots) (hdg : decode cc pc = .ok (.new index, 3))
    (kk : ∀ (H1 : Heap), RH b B dC dI dA cl SL s (mkobj h ci N ((List.range N).map fun k => defaultValue (tyF ci k))) H1 → va_S (fun q => B ≤ q) s.heap H1 locs → W p l e R s m args below meth c H1 locs (cells + 1) (slots + N) Q (F0 m (pc + 3) ls (.ref (ad b B h.1) :: rest))) : W p l e R s m args below meth c H locs cells slots Q (F0 m pc ls rest) := by
  obtain ⟨hc, hin, hty, hnm⟩ := hO
  have hKn := hK.1 ci _ hc
  refine W.newcK hx hb hown hcl hinst hini rfl hdg hcells hslots hKn.2.1 rfl fun H1 kC hkC e1 z1 o1 => ?_
  have hat : va_at (dC, dI) cl (H.size, cv b B dA (.inr (ci, (List.range N).map fun k => defaultValue (tyF ci k)))) H1 := by
    refine ⟨_, hc, (u_born (tyF ci) hts hin hKn hkC e1 hty).to (fun j hj => ?_)⟩
    have hj : j < N := hj
    simp [vp_V, hj, up_dflt]
  have hk := kk H1 (hR.push hat z1 o1 (fun _ _ h9 => by cases h9)) ⟨Nat.le_trans hS.1 (by omega), fun x h1 h2 => (o1 x (Nat.lt_of_lt_of_le h1 hS.1)).trans (hS.2.1 x h1 h2), hS.2.2⟩
  rw [hR.next] at hk
  exact hk
/-- a new array of a primitive type -/
theorem w_newa (hx : p.tables.exec = Jvm.exec) (hb : c.code = cc) (hR : RH b B dC dI dA cl SL s h H) (hS : va_S (fun q => B ≤ q) s.heap H locs) {atype : ArrayType} {t N : Nat} {n : Int32} {a0 : (Nat → Int32) ⊕ (Nat → Int64) ⊕ (Nat → UInt32) ⊕ (Nat → UInt64) ⊕ (Nat → Option Nat)} (harr : (Cond.arrayClass (newarray.typeOf atype)).before args s = true) (hSL : t ∈ SL) (hA : s.vm.findClass ("[" ++ (newarray.typeOf atype).toString) = some (dA t))
    (ha : ∀ cA : ClassId, vp_cell cA (N, cvA b B a0) = arrV cA N (fun _ => defaultValue (newarray.typeOf atype))) (hn : ¬ n < 0) (hN : n.toNatClampNeg = N) (hbytes : N * componentBytes (newarray.typeOf atype) ≤ 536870912) (hcells : cells + 1 ≤ R.cells) (hslots : slots + N ≤ R.slots) (hdg : decode cc pc = .ok (.newarray atype, 2))
    (kk : ∀ (H1 : Heap), RH b B dC dI dA cl SL s (mkarr h t N a0) H1 → va_S (fun q => B ≤ q) s.heap H1 locs → W p l e R s m args below meth c H1 locs (cells + 1) (slots + N) Q (F0 m (pc + 2) ls (.ref (ad b B h.1) :: rest))) : W p l e R s m args below meth c H locs cells slots Q (F0 m pc ls (.int n :: rest)) := by
  refine va_newaK hx hb harr rfl hdg rfl hn hN hbytes hcells hslots rfl fun H1 cA e1 z1 o1 hAr hNm => ?_
  have hcA : cA = dA t := Option.some.inj (hNm.symm.trans hA)
  subst hcA
  have hat : va_at (dC, dI) cl (H.size, cv b B dA (.inl (t, N, a0))) H1 := by
    show H1[H.size]? = some (vp_cell (dA t) (N, cvA b B a0))
    rw [ha]
    exact e1
  have hk := kk H1 (hR.push hat z1 o1 (fun t' x' hx' => by cases hx'; exact hSL)) ⟨Nat.le_trans hS.1 (by omega), fun x h1 h2 => (o1 x (Nat.lt_of_lt_of_le h1 hS.1)).trans (hS.2.1 x h1 h2), hS.2.2⟩
  rw [hR.next] at hk
  exact hk
/-- a new array of references -/
theorem w_newq (hx : p.tables.exec = Jvm.exec) (hb : c.code = cc) (hR : RH b B dC dI dA cl SL s h H) (hS : va_S (fun q => B ≤ q) s.heap H locs) {own C : String} {index t N : Nat} {n : Int32} (hown : s.vm.findClass own = some m.cls) (hclink : (Cond.classLink own index C).before args s = true) (hover : va_AO C s) (hSL : t ∈ SL) (hA : s.vm.findClass ("[" ++ (FieldType.object C).toString) = some (dA t))
    (hn : ¬ n < 0) (hN : n.toNatClampNeg = N) (hbytes : N * 4 ≤ 536870912) (hcells : cells + 1 ≤ R.cells) (hslots : slots + N ≤ R.slots) (hdg : decode cc pc = .ok (.anewarray index, 3))
    (kk : ∀ (H1 : Heap), RH b B dC dI dA cl SL s (mkarr h t N (.inr (.inr (.inr (.inr (fun _ => none)))))) H1 → va_S (fun q => B ≤ q) s.heap H1 locs → W p l e R s m args below meth c H1 locs (cells + 1) (slots + N) Q (F0 m (pc + 3) ls (.ref (ad b B h.1) :: rest))) : W p l e R s m args below meth c H locs cells slots Q (F0 m pc ls (.int n :: rest)) := by
  subst hN
  refine W.anew hx hb hown hclink (va_AO.use hover) rfl hdg rfl hn hbytes hcells hslots fun cA kA comp f1 f2 f3 f4 => ?_
  have hcA : cA = dA t := Option.some.inj (f1.symm.trans hA)
  subst hcA
  generalize hH1 : H.push ({ cls := dA t, slots := Array.replicate n.toNatClampNeg .null, vm := .none } : Cell) = H1
  have z1 : H1.size = H.size + 1 := by rw [← hH1, Array.size_push]
  have e1 : H1[H.size]? = some (arrV (dA t) n.toNatClampNeg (fun _ => .null)) := by rw [← hH1, Array.getElem?_push_size, ← arrV_new]
  have o1 : ∀ q : Nat, q < H.size → H1[q]? = H[q]? := fun q hq => by rw [← hH1, Array.getElem?_push, if_neg (Nat.ne_of_lt hq)]
  have hk := kk H1 (hR.push (c' := .inl (t, n.toNatClampNeg, .inr (.inr (.inr (.inr (fun _ => none)))))) e1 z1 o1 (fun t' x' hx' => by cases hx'; exact hSL)) ⟨Nat.le_trans hS.1 (by omega), fun x h1 h2 => (o1 x (Nat.lt_of_lt_of_le h1 hS.1)).trans (hS.2.1 x h1 h2), hS.2.2⟩
  rw [hR.next] at hk
  exact hk
end HW
