/-! What is NEEDED at last: class and reference find the same. -/
def Rch (D : Nat → Nat → Prop) (v u : Nat) : Prop := ∀ P : Nat → Nat → Prop, (∀ a b, D a b → P a b) → (∀ a b c, P a b → P b c → P a c) → P v u
theorem orS (x : Int32) : x ||| x = x := by
  rw [← Int32.toBitVec_inj, Int32.toBitVec_or, BitVec.or_self]
theorem gn3_ok {b : Nat} (hb : b < 8) : ∀ (r k : Nat) (s : St) (j : Nat), gn3 b r k s 79 j = if k ≤ j ∧ j < k + r ∧ bt (s 79 j) b = true then s 79 j ||| s 79 b else s 79 j
  | 0, k, s, j => by rw [if_neg (by omega)]; rfl
  | r + 1, k, s, j => by
    rw [gn3, gn3_ok hb r]
    by_cases q : bt (s 79 k) b = true
    · have q' : ¬ (s 79 k >>> (nI b &&& 31)) &&& 1 = 0 := (bt_shN _ (by omega)).mpr q
      rw [if_pos q']
      have eb : sU s 79 k (s 79 k ||| s 79 b) 79 b = s 79 b := by
        by_cases z : b = k
        · subst z; rw [sU_same, orS]
        · exact sU_n (by omega)
      rw [eb]
      by_cases z : j = k
      · subst z
        rw [if_neg (by omega), sU_same, if_pos ⟨by omega, by omega, q⟩]
      · rw [sU_n (by omega)]
        by_cases y : k + 1 ≤ j ∧ j < k + 1 + r ∧ bt (s 79 j) b = true
        · rw [if_pos y, if_pos ⟨by omega, by omega, y.2.2⟩]
        · rw [if_neg y, if_neg (fun w => y ⟨by omega, by omega, w.2.2⟩)]
    · have q' : ¬ ¬ (s 79 k >>> (nI b &&& 31)) &&& 1 = 0 := fun z => q ((bt_shN _ (by omega)).mp z)
      rw [if_neg q']
      by_cases z : j = k
      · subst z
        rw [if_neg (by omega), if_neg (fun w => q w.2.2)]
      · by_cases y : k + 1 ≤ j ∧ j < k + 1 + r ∧ bt (s 79 j) b = true
        · rw [if_pos y, if_pos ⟨by omega, by omega, y.2.2⟩]
        · rw [if_neg y, if_neg (fun w => y ⟨by omega, by omega, w.2.2⟩)]
/-- the rows as a relation -/
def B79 (s : St) (v u : Nat) : Prop := v < 8 ∧ u < 8 ∧ bt (s 79 v) u = true
def r8 (s : St) : Prop := ∀ v, v < 8 → s8 (s 79 v)
theorem gn3_B {b : Nat} (hb : b < 8) (s : St) (v u : Nat) : B79 (gn3 b 8 0 s) v u ↔ B79 s v u ∨ (B79 s v b ∧ B79 s b u) := by
  unfold B79
  rw [gn3_ok hb]
  by_cases hv : v < 8
  · by_cases q : bt (s 79 v) b = true
    · rw [if_pos ⟨by omega, by omega, q⟩, bt_or]
      constructor
      · rintro ⟨_, h2, h3⟩
        rw [Bool.or_eq_true] at h3
        exact h3.elim (fun z => Or.inl ⟨hv, h2, z⟩) (fun z => Or.inr ⟨⟨hv, hb, q⟩, hb, h2, z⟩)
      · rintro (⟨_, h2, h3⟩ | ⟨_, _, h2, h3⟩)
        · exact ⟨hv, h2, by rw [h3, Bool.true_or]⟩
        · exact ⟨hv, h2, by rw [h3, Bool.or_true]⟩
    · rw [if_neg (fun z => q z.2.2)]
      exact ⟨fun z => Or.inl z, fun z => z.elim id (fun y => absurd y.1.2.2 q)⟩
  · exact ⟨fun z => absurd z.1 hv, fun z => z.elim (fun y => absurd y.1 hv) (fun y => absurd y.1.1 hv)⟩
theorem gn3_r8 {b : Nat} (hb : b < 8) {s : St} (h : r8 s) : r8 (gn3 b 8 0 s) := fun v hv u hu => by
  rw [gn3_ok hb]
  split
  · rw [bt_or, h v hv u hu, h b hb u hu]; rfl
  · exact h v hv u hu
/-- every way through those before b is known -/
def thr (s : St) (b : Nat) : Prop := ∀ v u w, u < b → B79 s v u → B79 s u w → B79 s v w
theorem thr_step {b : Nat} (hb : b < 8) {s : St} (h : thr s b) : thr (gn3 b 8 0 s) (b + 1) := by
  intro v u w hu h1 h2
  rw [gn3_B hb] at h1 h2 ⊢
  by_cases z : u = b
  · subst z
    have h1' : B79 s v u := h1.elim id (fun y => y.1)
    have h2' : B79 s u w := h2.elim id (fun y => y.2)
    exact Or.inr ⟨h1', h2'⟩
  · have hlt : u < b := by omega
    rcases h1 with a | ⟨a1, a2⟩
    · rcases h2 with c | ⟨c1, c2⟩
      · exact Or.inl (h v u w hlt a c)
      · exact Or.inr ⟨h v u b hlt a c1, c2⟩
    · rcases h2 with c | ⟨c1, c2⟩
      · exact Or.inr ⟨a1, h b u w hlt a2 c⟩
      · exact Or.inr ⟨a1, c2⟩
theorem gn2_ok (P : Nat → Nat → Prop) (hP : ∀ a b c, P a b → P b c → P a c) : ∀ (r b : Nat) (s : St), b + r = 8 → thr s b → (∀ v u, B79 s v u → P v u) → r8 s → thr (gn2 r b s) 8 ∧ (∀ v u, B79 s v u → B79 (gn2 r b s) v u) ∧ (∀ v u, B79 (gn2 r b s) v u → P v u) ∧ r8 (gn2 r b s)
  | 0, b, s, hb, h1, h2, h3 => by
    have : b = 8 := by omega
    subst this
    exact ⟨h1, fun _ _ h => h, h2, h3⟩
  | r + 1, b, s, hb, h1, h2, h3 => by
    have hb8 : b < 8 := by omega
    obtain ⟨a1, a2, a3, a4⟩ := gn2_ok P hP r (b + 1) (gn3 b 8 0 s) (by omega) (thr_step hb8 h1) (fun v u h => by
      rw [gn3_B hb8] at h
      exact h.elim (h2 v u) (fun y => hP v b u (h2 v b y.1) (h2 b u y.2))) (gn3_r8 hb8 h3)
    rw [gn2]
    exact ⟨a1, fun v u h => a2 v u ((gn3_B hb8 s v u).mpr (Or.inl h)), a3, a4⟩
/-- the class: its rows are what is NEEDED at last -/
theorem class_reach {s : St} (h8 : r8 s) (v u : Nat) : B79 (gn2 8 0 s) v u ↔ Rch (B79 s) v u := by
  have h0 : thr s 0 := fun _ _ _ h => absurd h (by omega)
  constructor
  · intro h P h1 h2
    exact (gn2_ok P h2 8 0 s (by decide) h0 h1 h8).2.2.1 v u h
  · intro h
    have g := gn2_ok (fun _ _ => True) (fun _ _ _ _ _ => trivial) 8 0 s (by decide) h0 (fun _ _ _ => trivial) h8
    refine h (B79 (gn2 8 0 s)) g.2.1 (fun a b c h1 h2 => ?_)
    exact g.1 a b c h1.2.1 h1 h2
/-- the reference: one walk over all pairs -/
theorem nr2_mono (s : St) {u : Nat} : ∀ (r x : Nat) (w : Int32), bt w u = true → bt (nr2 s r x w) u = true
  | 0, _, _, h => h
  | r + 1, x, w, h => by
    rw [nr2]
    refine nr2_mono s r (x + 1) _ ?_
    split
    · exact h
    · rw [bt_or, h, Bool.true_or]
theorem nr2_adds (s : St) {y : Nat} (hy : ¬ s 109 y = 0) : ∀ (r x : Nat) (w : Int32), x + r = 64 → x ≤ y → y < 64 → bt w (y / 8) = true → bt (nr2 s r x w) (y % 8) = true
  | 0, x, w, h1, h2, h3, h4 => by omega
  | r + 1, x, w, h1, h2, h3, h4 => by
    rw [nr2]
    by_cases z : y = x
    · subst z
      have hn : ¬ (s 109 y = 0 ∨ (w >>> (nI (y / 8) &&& 31)) &&& 1 = 0) := fun q => q.elim hy (fun q => by
        rw [bt_sh w (show y / 8 < 32 by omega)] at q
        rw [q] at h4
        exact absurd h4 (by decide))
      rw [if_neg hn]
      refine nr2_mono s r (y + 1) _ ?_
      rw [bt_or, bt_1 (by omega) (by omega), decide_eq_true rfl, Bool.or_true]
    · refine nr2_adds s hy r (x + 1) _ (by omega) (by omega) h3 ?_
      split
      · exact h4
      · rw [bt_or, h4, Bool.true_or]
theorem nr2_sub (s : St) {C : Nat → Prop} (hC : ∀ y, y < 64 → ¬ s 109 y = 0 → C (y / 8) → C (y % 8)) : ∀ (r x : Nat) (w : Int32), x + r = 64 → (∀ u, u < 32 → bt w u = true → C u) → ∀ u, u < 32 → bt (nr2 s r x w) u = true → C u
  | 0, _, _, _, h => h
  | r + 1, x, w, h1, h => by
    rw [nr2]
    refine nr2_sub s hC r (x + 1) _ (by omega) (fun u hu hb => ?_)
    by_cases q : s 109 x = 0 ∨ (w >>> (nI (x / 8) &&& 31)) &&& 1 = 0
    · rw [if_pos q] at hb
      exact h u hu hb
    · rw [if_neg q, bt_or, bt_1 (by omega) hu, Bool.or_eq_true, decide_eq_true_iff] at hb
      rcases hb with z | z
      · exact h u hu z
      · subst z
        have q2 : bt w (x / 8) = true := (bt_shN w (show x / 8 < 32 by omega)).mp (fun z => q (Or.inr z))
        exact hC x (by omega) (fun z => q (Or.inl z)) (h _ (by omega) q2)
/-- the set is closed under direct needs -/
def clo (s : St) (w : Int32) : Prop := ∀ y, y < 64 → ¬ s 109 y = 0 → bt w (y / 8) = true → bt w (y % 8) = true
theorem clo_nr2 {s : St} {w : Int32} (h : clo s w) : clo s (nr2 s 64 0 w) := by
  intro y hy h1 h2
  have a := nr2_sub s (C := fun u => bt w u = true) (fun y hy h1 h2 => h y hy h1 h2) 64 0 w (by decide) (fun u _ h => h) (y / 8) (by omega) h2
  exact nr2_mono s 64 0 w (h y hy h1 a)
theorem cnt_lt {p q : Nat → Bool} {k : Nat} : ∀ n, (∀ i, i < n → p i = true → q i = true) → k < n → p k = false → q k = true → cntB p n < cntB q n
  | 0, _, h, _, _ => absurd h (by omega)
  | n + 1, h, hk, h1, h2 => by
    have le : ∀ m, m ≤ n → cntB p m ≤ cntB q m := by
      intro m
      induction m with
      | zero => exact fun _ => Nat.le_refl 0
      | succ m ih =>
        intro hm
        have := ih (by omega)
        unfold cntB
        by_cases z : p m = true
        · rw [if_pos z, if_pos (h m (by omega) z)]; omega
        · rw [if_neg z]; omega
    have l := le n (Nat.le_refl n)
    unfold cntB
    by_cases z : k = n
    · subst z
      rw [h1, h2]
      simp
      omega
    · have := cnt_lt n (fun i hi => h i (by omega)) (by omega) h1 h2
      by_cases y : p n = true
      · rw [if_pos y, if_pos (h n (by omega) y)]; omega
      · rw [if_neg y]; omega
theorem nr2_grow {s : St} {w : Int32} (h : ¬ clo s w) : cntB (bt w) 8 < cntB (bt (nr2 s 64 0 w)) 8 := by
  unfold clo at h
  obtain ⟨y, hy⟩ := Classical.not_forall.mp h
  have hy1 : y < 64 ∧ ¬ s 109 y = 0 ∧ bt w (y / 8) = true ∧ ¬ bt w (y % 8) = true := by
    refine ⟨?_, ?_, ?_, ?_⟩
    · exact Classical.byContradiction (fun z => hy (fun a => absurd a z))
    · intro z; exact hy (fun _ a => absurd z a)
    · exact Classical.byContradiction (fun z => hy (fun _ _ a => absurd a z))
    · intro z; exact hy (fun _ _ _ => z)
  refine cnt_lt (k := y % 8) 8 (fun i _ hi => nr2_mono s 64 0 w hi) (by omega) ?_ (nr2_adds s hy1.2.1 64 0 w (by decide) (by omega) hy1.1 hy1.2.2.1)
  cases z : bt w (y % 8)
  · rfl
  · exact absurd z hy1.2.2.2
theorem nr3_clo {s : St} : ∀ (r : Nat) (w : Int32), clo s (nr3 s r w) ∨ cntB (bt w) 8 + r ≤ cntB (bt (nr3 s r w)) 8
  | 0, w => Or.inr (Nat.le_refl _)
  | r + 1, w => by
    rw [nr3]
    rcases nr3_clo r (nr2 s 64 0 w) with h | h
    · exact Or.inl h
    · by_cases z : clo s w
      · have : ∀ r w, clo s w → clo s (nr3 s r w) := by
          intro r
          induction r with
          | zero => exact fun _ h => h
          | succ r ih => exact fun w h => ih _ (clo_nr2 h)
        exact Or.inl (this r _ (clo_nr2 z))
      · have := nr2_grow z
        exact Or.inr (by omega)
theorem cnt_full {p : Nat → Bool} : ∀ n, n ≤ cntB p n → ∀ k, k < n → p k = true
  | 0, _, _, h => absurd h (by omega)
  | n + 1, h, k, hk => by
    have l := cntB_le p n
    unfold cntB at h
    by_cases z : p n = true
    · rw [if_pos z] at h
      by_cases y : k = n
      · subst y; exact z
      · exact cnt_full n (by omega) k (by omega)
    · rw [if_neg z] at h
      omega
theorem nr3_closed (s : St) (w : Int32) : clo s (nr3 s 8 w) := by
  rcases nr3_clo (s := s) 8 w with h | h
  · exact h
  · intro y hy _ _
    exact cnt_full 8 (by omega) _ (by omega)
theorem nr3_mono (s : St) {u : Nat} : ∀ (r : Nat) (w : Int32), bt w u = true → bt (nr3 s r w) u = true
  | 0, _, h => h
  | r + 1, w, h => nr3_mono s r _ (nr2_mono s 64 0 w h)
theorem nr3_sub (s : St) {C : Nat → Prop} (hC : ∀ y, y < 64 → ¬ s 109 y = 0 → C (y / 8) → C (y % 8)) : ∀ (r : Nat) (w : Int32), (∀ u, u < 32 → bt w u = true → C u) → ∀ u, u < 32 → bt (nr3 s r w) u = true → C u
  | 0, _, h => h
  | r + 1, w, h => nr3_sub s hC r _ (nr2_sub s hC 64 0 w (by decide) h)
theorem nr1_ok (s : St) (v : Nat) {u : Nat} (hu : u < 32) : ∀ (r k : Nat) (w : Int32), k + r = 8 → (bt (nr1 s v r k w) u = true ↔ bt w u = true ∨ (k ≤ u ∧ u < 8 ∧ ¬ s 109 (8 * v + u) = 0))
  | 0, k, w, hk => ⟨fun h => Or.inl h, fun h => h.elim id (fun z => by omega)⟩
  | r + 1, k, w, hk => by
    rw [nr1, nr1_ok s v hu r (k + 1) _ (by omega)]
    by_cases q : s 109 (8 * v + k) = 0
    · rw [if_pos q]
      refine ⟨fun h => h.elim Or.inl (fun z => Or.inr ⟨by omega, z.2⟩), fun h => h.elim Or.inl (fun z => ?_)⟩
      by_cases y : u = k
      · subst y; exact absurd q z.2.2
      · exact Or.inr ⟨by omega, z.2⟩
    · rw [if_neg q, bt_or, bt_1 (by omega) hu, Bool.or_eq_true, decide_eq_true_iff]
      constructor
      · rintro ((h | h) | h)
        · exact Or.inl h
        · subst h; exact Or.inr ⟨Nat.le_refl u, by omega, q⟩
        · exact Or.inr ⟨by omega, h.2⟩
      · rintro (h | h)
        · exact Or.inl (Or.inl h)
        · by_cases y : u = k
          · exact Or.inl (Or.inr y)
          · exact Or.inr ⟨by omega, h.2⟩
/-- direct needs of the reference -/
def D109 (s : St) (v u : Nat) : Prop := v < 8 ∧ u < 8 ∧ ¬ s 109 (8 * v + u) = 0
theorem ref_reach {s : St} {v u : Nat} (hv : v < 8) (hu : u < 8) : (¬ (nr3 s 8 (nr1 s v 8 0 0) >>> (nI u &&& 31)) &&& 1 = 0) ↔ Rch (D109 s) v u := by
  rw [bt_shN _ (show u < 32 by omega)]
  have ini : ∀ u, u < 32 → (bt (nr1 s v 8 0 0) u = true ↔ D109 s v u) := fun u hu => by
    rw [nr1_ok s v hu 8 0 0 (by decide), bt_0]
    exact ⟨fun h => h.elim (fun z => absurd z (by decide)) (fun z => ⟨hv, z.2.1, z.2.2⟩), fun h => Or.inr ⟨by omega, h.2.1, h.2.2⟩⟩
  constructor
  · intro h P h1 h2
    refine nr3_sub s (C := fun u => P v u) (fun y hy hy1 hy2 => ?_) 8 (nr1 s v 8 0 0) (fun u hu hb => h1 v u ((ini u hu).mp hb)) u (by omega) h
    refine h2 v (y / 8) (y % 8) hy2 (h1 _ _ ⟨by omega, by omega, ?_⟩)
    have : 8 * (y / 8) + y % 8 = y := by omega
    rw [this]
    exact hy1
  · intro h
    have cl := nr3_closed s (nr1 s v 8 0 0)
    refine h (fun a b => a = v ∨ bt (nr3 s 8 (nr1 s v 8 0 0)) a = true → bt (nr3 s 8 (nr1 s v 8 0 0)) b = true) (fun a b hd hq => ?_) (fun a b c h1 h2 hq => h2 (Or.inr (h1 hq))) (Or.inl rfl)
    rcases hq with z | z
    · subst z
      exact nr3_mono s 8 _ ((ini b (by have := hd.2.1; omega)).mpr hd)
    · have e1 : (8 * a + b) / 8 = a := by have := hd.2.1; omega
      have e2 : (8 * a + b) % 8 = b := by have := hd.2.1; omega
      have := cl (8 * a + b) (by have := hd.1; have := hd.2.1; omega) hd.2.2 (by rw [e1]; exact z)
      rw [e2] at this
      exact this
