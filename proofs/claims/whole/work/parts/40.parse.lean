/-! Reading a line: class and reference side by side. -/
theorem sU_n {s : St} {a j b k : Nat} {x : Int32} (h : ¬ (b = a ∧ k = j)) : sU s a j x b k = s b k := by
  unfold sU
  rw [if_neg h]
/-- where a TERM ends, by its characters alone -/
def pe (t : Nat → Int32) : Nat → Nat → Nat
  | 0, i => i + 1
  | f + 1, i => ch t (pe t f) i (pcn (t i)) + (if t i = 87 then 1 else 0)
def itr (g : Nat → Nat) : Nat → Nat → Nat
  | 0, x => x
  | r + 1, x => itr g r (g x)
theorem itr_s (g : Nat → Nat) : ∀ (r x : Nat), itr g (r + 1) x = g (itr g r x)
  | 0, _ => rfl
  | r + 1, x => by
    rw [itr, itr_s g r, itr]
theorem ch_itr (t : Nat → Int32) (g : Nat → Nat) (i : Nat) : ∀ k, ch t g i k = itr g k (c0 t i)
  | 0 => rfl
  | k + 1 => by
    rw [itr_s, ← ch_itr t g i k]
    rfl
def apW (a c : Int32) : Int32 := if a = 0 ∧ ¬ c = 80 then 0 else 1
/-- a TERM at i, a name at i: what the rows hold -/
def LT (e : Nat) (t : Nat → Int32) (s : St) (q i : Nat) : Prop :=
  s (e + 4) i = 1 ∧ s (e + 3) i = nmF t (pe t 6) i ∧ (s (e + 5) i = 0 ∨ s (e + 5) i = 1) ∧
  (∀ k, k < 3 → s (e + 2) (3 * i + k) = if k < pcn (t i) then nI (ch t (pe t 6) i k) else -1) ∧
  (∀ k, k < pcn (t i) → i < ch t (pe t 6) i k ∧ ch t (pe t 6) i k < q ∧ s (e + 4) (ch t (pe t 6) i k) = 1 ∧ s (e + 5) (ch t (pe t 6) i k) = apW (s (e + 5) i) (t i)) ∧
  i < pe t 6 i ∧ pe t 6 i ≤ q ∧ pe t 6 i = ch t (pe t 6) i (pcn (t i)) + (if t i = 87 then 1 else 0) ∧
  (t i = 67 → i + 1 < q ∧ s (e + 4) (i + 1) = 0) ∧ (t i = 87 → i < pe t 6 i - 1 ∧ s (e + 4) (pe t 6 i - 1) = 0)
def LN (e : Nat) (t : Nat → Int32) (s : St) (p q i : Nat) : Prop :=
  s (e + 4) i = 0 ∧ s (e + 3) i = -1 ∧ cVar (t i) ∧ (∀ k, k < 3 → s (e + 2) (3 * i + k) = -1) ∧
  ∃ o, p ≤ o ∧ o < q ∧ s (e + 4) o = 1 ∧ ((t o = 67 ∧ i = o + 1) ∨ (t o = 87 ∧ i = pe t 6 o - 1))
def Seg (e : Nat) (t : Nat → Int32) (s : St) (p q : Nat) : Prop := ∀ i, p ≤ i → i < q → LT e t s q i ∨ LN e t s p q i
/-- the same rows in [p, q) -/
def eqS (e : Nat) (s s' : St) (p q : Nat) : Prop := (∀ j, 3 * p ≤ j → j < 3 * q → s' (e + 2) j = s (e + 2) j) ∧ ∀ j, p ≤ j → j < q → s' (e + 3) j = s (e + 3) j ∧ s' (e + 4) j = s (e + 4) j ∧ s' (e + 5) j = s (e + 5) j
theorem Seg.mv {e : Nat} {t : Nat → Int32} {s s' : St} {p q p' q' : Nat} (h : Seg e t s p q) (hs : eqS e s s' p q) (hp : p' ≤ p) (hq : q ≤ q') : ∀ i, p ≤ i → i < q → LT e t s' q' i ∨ LN e t s' p' q' i := by
  intro i h1 h2
  have g := fun j a b => (hs.2 j a b).2.1
  rcases h i h1 h2 with a | a
  · obtain ⟨a1, a2, a3, a4, a5, a6, a7, a8, a9, a10⟩ := a
    refine Or.inl ⟨?_, ?_, ?_, fun k hk => ?_, fun k hk => ?_, a6, by omega, a8, fun hc => ?_, fun hc => ?_⟩
    · rw [g i h1 h2]; exact a1
    · rw [(hs.2 i h1 h2).1]; exact a2
    · rw [(hs.2 i h1 h2).2.2]; exact a3
    · rw [hs.1 _ (by omega) (by omega)]; exact a4 k hk
    · obtain ⟨b1, b2, b3, b4⟩ := a5 k hk
      refine ⟨b1, by omega, ?_, ?_⟩
      · rw [g _ (by omega) b2]; exact b3
      · rw [(hs.2 _ (show p ≤ ch t (pe t 6) i k by omega) b2).2.2, (hs.2 i h1 h2).2.2]; exact b4
    · obtain ⟨b1, b2⟩ := a9 hc
      exact ⟨by omega, by rw [g _ (by omega) b1]; exact b2⟩
    · obtain ⟨b1, b2⟩ := a10 hc
      exact ⟨b1, by rw [g _ (by omega) (by omega)]; exact b2⟩
  · obtain ⟨a1, a2, a3, a4, o, o1, o2, o3, o4⟩ := a
    refine Or.inr ⟨?_, ?_, a3, fun k hk => ?_, o, by omega, by omega, ?_, o4⟩
    · rw [g i h1 h2]; exact a1
    · rw [(hs.2 i h1 h2).1]; exact a2
    · rw [hs.1 _ (by omega) (by omega)]; exact a4 k hk
    · rw [g o o1 o2]; exact o3
/-- what reading changes: class, reference -/
def cfr (e : Nat) (s s' : St) (p q : Nat) : Prop := ∀ b j, ¬ (b = e ∧ j = 2) → ¬ (b = e + 2 ∧ 3 * p ≤ j ∧ j < 3 * q) → ¬ (b = e + 3 ∧ p ≤ j ∧ j < q) → ¬ (b = e + 4 ∧ p ≤ j ∧ j < q) → ¬ (b = e + 5 ∧ p ≤ j ∧ j < q) → s' b j = s b j
def rfr (s s' : St) (m p q : Nat) : Prop := ∀ b j, ¬ (b = 94 ∧ (j = 2 ∨ j = 3)) → ¬ (b = 104 ∧ p ≤ j ∧ j < q) → ¬ (b = 113 ∧ m ≤ j) → s' b j = s b j
theorem rfr.tr {s s' s'' : St} {m p q m' p' q' m2 p2 q2 : Nat} (h1 : rfr s s' m p q) (h2 : rfr s' s'' m' p' q') (a : m2 ≤ m ∧ m2 ≤ m') (b : p2 ≤ p ∧ p2 ≤ p') (c : q ≤ q2 ∧ q' ≤ q2) : rfr s s'' m2 p2 q2 := fun x j hx h3 h4 => (h2 x j hx (fun z => h3 ⟨z.1, by omega, by omega⟩) (fun z => h4 ⟨z.1, by omega⟩)).trans (h1 x j hx (fun z => h3 ⟨z.1, by omega, by omega⟩) (fun z => h4 ⟨z.1, by omega⟩))
theorem cfr.tr {e : Nat} {s s' s'' : St} {p q p' q' p2 q2 : Nat} (h1 : cfr e s s' p q) (h2 : cfr e s' s'' p' q') (b : p2 ≤ p ∧ p2 ≤ p') (c : q ≤ q2 ∧ q' ≤ q2) : cfr e s s'' p2 q2 := fun x j hx h3 h4 h5 h6 => (h2 x j hx (fun z => h3 ⟨z.1, by omega, by omega⟩) (fun z => h4 ⟨z.1, by omega, by omega⟩) (fun z => h5 ⟨z.1, by omega, by omega⟩) (fun z => h6 ⟨z.1, by omega, by omega⟩)).trans (h1 x j hx (fun z => h3 ⟨z.1, by omega, by omega⟩) (fun z => h4 ⟨z.1, by omega, by omega⟩) (fun z => h5 ⟨z.1, by omega, by omega⟩) (fun z => h6 ⟨z.1, by omega, by omega⟩))
/-- the reference reads the same line -/
def rOK (s : St) (n : Nat) (t : Nat → Int32) : Prop := s 94 1 = nI n ∧ ∀ i, i < n → s 95 i = t i
theorem rOK.fr {s s' : St} {n m p q : Nat} {t : Nat → Int32} (h : rOK s n t) (hf : rfr s s' m p q) : rOK s' n t := ⟨by rw [hf 94 1 (by omega) (by omega) (by omega)]; exact h.1, fun i hi => by rw [hf 95 i (by omega) (by omega) (by omega)]; exact h.2 i hi⟩
def Suc (d L e n : Nat) (t : Nat → Int32) (f m p q : Nat) (a : Int32) (sc sc' sr : St) : Prop :=
  p < q ∧ q ≤ n ∧ RK sc' e n t ∧ (∀ g, f ≤ g → pe t g p = q) ∧ Seg e t sc' p q ∧ sc' (e + 4) p = 1 ∧ sc' (e + 5) p = a ∧ cfr e sc sc' p q ∧
  ∃ sr', rfr sr sr' m p q ∧ (∀ i, p ≤ i → i < q → sr' 104 i = sc' (e + 4) i) ∧ (sc e 2 = sr 94 3 → sc' e 2 = sr' 94 3) ∧ ∀ R, GR d L sr' q m R → GR d L sr p (m + 1) R
def Fai (d L e n N p : Nat) (sc' sr : St) : Prop := ∃ b, b ≤ n ∧ sc' e 3 = nI b ∧ ∃ sr', sr' 94 2 = nI b ∧ rfr sr sr' 0 0 24 ∧ GR d L sr p N (some (some (.int 0), hH L sr'))
def Clm (d L e n : Nat) (t : Nat → Int32) (f : Nat) : Prop := ∀ p a m sc sr, RK sc e n t → p ≤ n → (a = 0 ∨ a = 1) → m ≤ 2 * (5 - f) → rOK sr n t → sr 113 m = nI (6 - f) → (∀ j, 3 * p ≤ j → j < 72 → sc (e + 2) j = -1) →
  (∃ q, (rdT e n f p a sc).1 = nI q ∧ Suc d L e n t f m p q a sc (rdT e n f p a sc).2 sr) ∨ ((rdT e n f p a sc).1 = -1 ∧ Fai d L e n (m + 1) p (rdT e n f p a sc).2 sr)
/-- the TERMS in a TERM -/
def SucP (d L e n : Nat) (t : Nat → Int32) (f o k r b x q : Nat) (ap : Int32) (sc sc' sr : St) : Prop :=
  x ≤ q ∧ q ≤ n ∧ RK sc' e n t ∧ (∀ g, f ≤ g → itr (pe t g) r x = q) ∧ Seg e t sc' x q ∧
  (∀ j, j < r → x ≤ itr (pe t 6) j x ∧ itr (pe t 6) j x < q ∧ sc' (e + 2) (3 * o + (k + j)) = nI (itr (pe t 6) j x) ∧ sc' (e + 4) (itr (pe t 6) j x) = 1 ∧ sc' (e + 5) (itr (pe t 6) j x) = ap) ∧
  (∀ c j, ¬ (c = e ∧ j = 2) → ¬ (c = e + 2 ∧ 3 * o + k ≤ j ∧ j < 3 * o + k + r) → ¬ (c = e + 2 ∧ 3 * x ≤ j ∧ j < 3 * q) → ¬ (c = e + 3 ∧ x ≤ j ∧ j < q) → ¬ (c = e + 4 ∧ x ≤ j ∧ j < q) → ¬ (c = e + 5 ∧ x ≤ j ∧ j < q) → sc' c j = sc c j) ∧
  ∃ sr', rfr sr sr' b x q ∧ (∀ i, x ≤ i → i < q → sr' 104 i = sc' (e + 4) i) ∧ (sc e 2 = sr 94 3 → sc' e 2 = sr' 94 3) ∧ ∀ R, GR d L sr' q b R → GR d L sr x (b + r) R
theorem parts_ok {d L e n : Nat} {t : Nat → Int32} {f : Nat} (hf : f ≤ 4) (hC : Clm d L e n t f) {o : Nat} (ap : Int32) : ∀ (r k x b : Nat) (sc sr : St), k + r ≤ 3 → RK sc e n t → x ≤ n → o < x → rOK sr n t → (∀ j, j < r → sr 113 (b + j) = nI (6 - f)) → (0 < r → b + r ≤ 2 * (5 - f) + 1) → (∀ j, 3 * x ≤ j → j < 72 → sc (e + 2) j = -1) → apV sc e o = ap →
    (∃ q, (rdPL (rdT e n f) e o r k (nI x) sc).1 = nI q ∧ SucP d L e n t f o k r b x q ap sc (rdPL (rdT e n f) e o r k (nI x) sc).2 sr) ∨ ((rdPL (rdT e n f) e o r k (nI x) sc).1 = -1 ∧ Fai d L e n (b + r) x (rdPL (rdT e n f) e o r k (nI x) sc).2 sr) := by
  intro r
  induction r with
  | zero =>
    intro k x b sc sr hk hR hx ho hr h113 hb hp ha
    exact Or.inl ⟨x, rfl, Nat.le_refl x, hx, hR, fun g _ => rfl, fun i h1 h2 => absurd h2 (by omega), fun j hj => absurd hj (by omega), fun _ _ _ _ _ _ _ _ => rfl, sr, fun _ _ _ _ _ => rfl, fun i h1 h2 => absurd h2 (by omega), fun h => h, fun R h => h⟩
  | succ r ih =>
    intro k x b sc sr hk hR hx ho hr h113 hb hp ha
    have hn := hR.2.2.1
    have hm1 := nI_m1 (show x < 2147483648 by omega)
    have ex : (nI x).toNatClampNeg = x := nI_clamp (by omega)
    have hap : ap = 0 ∨ ap = 1 := by rw [← ha]; exact apV_01 sc e o
    have key : rdPL (rdT e n f) e o (r + 1) k (nI x) sc = rdPL (rdT e n f) e o r (k + 1) (rdT e n f x ap (sU sc (e + 2) (3 * o + k) (nI x))).1 (rdT e n f x ap (sU sc (e + 2) (3 * o + k) (nI x))).2 := by
      show (if nI x = -1 then _ else _) = _
      rw [if_neg hm1, ex, ha]
    rw [key]
    have hR2 : RK (sU sc (e + 2) (3 * o + k) (nI x)) e n t := RK_U hR (by omega) (by omega)
    have hp2 : ∀ j, 3 * x ≤ j → j < 72 → sU sc (e + 2) (3 * o + k) (nI x) (e + 2) j = -1 := fun j h1 h2 => by
      rw [sU_j _ _ _ _ (by omega)]
      exact hp j h1 h2
    rcases hC x ap (b + r) _ sr hR2 hx hap (by have := hb (by omega); omega) hr (h113 r (by omega)) hp2 with ⟨q1, e1, hS⟩ | ⟨e1, hF⟩
    · obtain ⟨s1, s2, s3, s4, s5, s6, s7, s8, sr1, s9, s10, s11, s12⟩ := hS
      rw [e1]
      generalize hsc1 : (rdT e n f x ap (sU sc (e + 2) (3 * o + k) (nI x))).2 = sc1 at s3 s5 s6 s7 s8 s10 s11
      have ho5 : sc1 (e + 5) o = sc (e + 5) o := by
        rw [s8 (e + 5) o (by omega) (by omega) (by omega) (by omega) (by omega), sU_a _ _ _ _ (by omega)]
      have ho1 : sc1 (e + 1) o = sc (e + 1) o := by
        rw [s8 (e + 1) o (by omega) (by omega) (by omega) (by omega) (by omega), sU_a _ _ _ _ (by omega)]
      have ha1 : apV sc1 e o = ap := by
        rw [← ha]
        unfold apV
        rw [ho5, ho1]
      have hr1 := hr.fr s9
      have hd1 : ∀ j, 3 * q1 ≤ j → j < 72 → sc1 (e + 2) j = -1 := fun j h1 h2 => by
        rw [s8 (e + 2) j (by omega) (by omega) (by omega) (by omega) (by omega)]
        exact hp2 j (by omega) h2
      have e6 : pe t 6 x = q1 := s4 6 (by omega)
      have h3o : sc1 (e + 2) (3 * o + k) = nI x := by
        rw [s8 (e + 2) _ (by omega) (by omega) (by omega) (by omega) (by omega), sU_same]
      have he2 : sU sc (e + 2) (3 * o + k) (nI x) e 2 = sc e 2 := sU_a _ _ _ _ (by omega)
      rcases ih (k + 1) q1 b sc1 sr1 (by omega) s3 s2 (by omega) hr1 (fun j hj => by rw [s9 113 _ (by omega) (by omega) (by omega)]; exact h113 j (by omega)) (fun _ => by have := hb (by omega); omega) hd1 ha1 with ⟨q, e2, hS2⟩ | ⟨e2, hF2⟩
      · obtain ⟨u1, u2, u3, u4, u5, u6, u7, sr2, u8, u9, u10, u11⟩ := hS2
        refine Or.inl ⟨q, e2, by omega, u2, u3, fun g hg => by rw [itr, s4 g hg]; exact u4 g hg, ?_, ?_, ?_, sr2, s9.tr u8 (by omega) (by omega) (by omega), ?_, ?_, fun R hG => ?_⟩
        · intro i h1 h2
          by_cases hi : i < q1
          · refine Seg.mv s5 ⟨fun j g1 g2 => ?_, fun j g1 g2 => ⟨?_, ?_, ?_⟩⟩ (Nat.le_refl x) u1 i h1 hi
            · exact u7 (e + 2) j (by omega) (by omega) (by omega) (by omega) (by omega) (by omega)
            · exact u7 (e + 3) j (by omega) (by omega) (by omega) (by omega) (by omega) (by omega)
            · exact u7 (e + 4) j (by omega) (by omega) (by omega) (by omega) (by omega) (by omega)
            · exact u7 (e + 5) j (by omega) (by omega) (by omega) (by omega) (by omega) (by omega)
          · exact Seg.mv u5 ⟨fun _ _ _ => rfl, fun _ _ _ => ⟨rfl, rfl, rfl⟩⟩ (by omega) (Nat.le_refl q) i (by omega) h2
        · intro j hj
          cases j with
          | zero =>
            have z : itr (pe t 6) 0 x = x := rfl
            rw [z, Nat.add_zero]
            refine ⟨Nat.le_refl x, by omega, ?_, ?_, ?_⟩
            · rw [u7 (e + 2) _ (by omega) (by omega) (by omega) (by omega) (by omega) (by omega)]
              exact h3o
            · rw [u7 (e + 4) _ (by omega) (by omega) (by omega) (by omega) (by omega) (by omega)]
              exact s6
            · rw [u7 (e + 5) _ (by omega) (by omega) (by omega) (by omega) (by omega) (by omega)]
              exact s7
          | succ j =>
            have hh := u6 j (by omega)
            have ek : k + 1 + j = k + (j + 1) := by omega
            rw [itr, e6]
            rw [ek] at hh
            exact ⟨by omega, hh.2⟩
        · intro c j h1 h2 h3 h4 h5 h6
          rw [u7 c j h1 (by omega) (by omega) (by omega) (by omega) (by omega), s8 c j h1 (by omega) (by omega) (by omega) (by omega), sU_n (by omega)]
        · intro i h1 h2
          by_cases hi : i < q1
          · rw [u8 104 i (by omega) (by omega) (by omega), s10 i h1 hi, u7 (e + 4) i (by omega) (by omega) (by omega) (by omega) (by omega) (by omega)]
          · exact u9 i (by omega) h2
        · intro hh
          exact u10 (s11 (by rw [he2]; exact hh))
        · exact s12 R (u11 R hG)
      · obtain ⟨bb, f1, f2, sr2, f3, f4, f5⟩ := hF2
        exact Or.inr ⟨e2, bb, f1, f2, sr2, f3, s9.tr f4 (by omega) (by omega) (by omega), s12 _ f5⟩
    · obtain ⟨bb, f1, f2, sr2, f3, f4, f5⟩ := hF
      have kn : ∀ s, rdPL (rdT e n f) e o r (k + 1) (-1) s = (-1, s) := fun s => by
        cases r with
        | zero => rfl
        | succ r => exact if_pos rfl
      rw [e1, kn]
      exact Or.inr ⟨rfl, bb, f1, f2, sr2, f3, f4, f5⟩
