/-! Reading an operator. -/
def sN (e x o : Nat) (c : Int32) (s : St) : St := sU (sU (sU s (e + 3) o (c - 97)) (e + 3) x (-1)) (e + 4) x 0
theorem nm_ok {d L e n : Nat} {t : Nat → Int32} {x o m : Nat} {s sr : St} (hR : RK s e n t) (hx : x ≤ n) (hr : rOK sr n t) (hm : m < 24) (h0 : sr 113 m = 0) :
    (x < n ∧ cVar (t x) ∧ rdN e (nI x) o s = (nI (x + 1), sN e x o (t x) s) ∧ ∀ R, GR d L (gS sr x 0) (x + 1) m R → GR d L sr x (m + 1) R) ∨ (rdN e (nI x) o s = (-1, sU s e 3 (nI x)) ∧ Fai d L e n (m + 1) x (sU s e 3 (nI x)) sr) := by
  have hn := hR.2.2.1
  have hm1 := nI_m1 (show x < 2147483648 by omega)
  have ex : (nI x).toNatClampNeg = x := nI_clamp (by omega)
  have e1 : s (e + 1) x = t x := congrFun hR.2.2.2 x
  by_cases q : x < n
  · have h95 := hr.2 x q
    by_cases q2 : cVar (t x)
    · refine Or.inl ⟨q, q2, ?_, fun R hG => ?_⟩
      · unfold rdN
        rw [if_neg hm1, ex, e1, hR.2.1, if_pos ⟨nI_lt q (by omega), q2⟩, nI_1]
        rfl
      · exact G_name hn hr.1 q hm h0 (by rw [h95]; exact q2) hG
    · refine Or.inr ⟨?_, x, hx, sU_same _ _ _ _, gS sr x 0, ?_, fun b j h1 h2 _ => gS_off (by omega) (by omega), ?_⟩
      · unfold rdN
        rw [if_neg hm1, ex, e1, if_neg (fun z => q2 z.2)]
      · unfold gS
        rw [sU_n (by omega), sU_same]
      · exact G_nameN hn hr.1 q hm h0 (by rw [h95]; exact q2)
  · have hxn : x = n := by omega
    subst hxn
    refine Or.inr ⟨?_, x, hx, sU_same _ _ _ _, sU sr 94 2 (nI x), sU_same _ _ _ _, fun b j h1 _ _ => sU_n (by omega), ?_⟩
    · unfold rdN
      rw [if_neg hm1, hR.2.1, if_neg (fun z => q ((nI_ltI (by omega) (by omega)).mp z.1))]
    · have := G_end (d := d) (L := L) hn hr.1 (N := m + 1) (by omega)
      rw [if_neg (by omega)] at this
      exact this
/-- from behind the operator on -/
theorem op_mid {d L e n : Nat} {t : Nat → Int32} {f m p x b : Nat} {a : Int32} {sc s2 sr S : St} (hf : f ≤ 4) (hC : Clm d L e n t f) (hp : p < n) (ha : a = 0 ∨ a = 1) (hm : m ≤ 2 * (4 - f)) (hb : b = gB_ (t p) m) (hx : c0 t p = x) (hxn : x ≤ n)
    (A1 : RK s2 e n t) (A2 : cfr e sc s2 p x) (A4 : s2 (e + 4) p = 1) (A5 : s2 (e + 5) p = a) (A3 : ¬ t p = 87 → s2 (e + 3) p = nmF t (pe t 6) p) (Ap : ∀ j, 3 * p ≤ j → j < 72 → s2 (e + 2) j = -1)
    (AC : t p = 67 → s2 (e + 4) (p + 1) = 0 ∧ s2 (e + 3) (p + 1) = -1 ∧ cVar (t (p + 1)))
    (B1 : rOK S n t) (B2 : rfr sr S m p x) (B3 : ∀ i, p ≤ i → i < x → S 104 i = s2 (e + 4) i) (B4 : sc e 2 = sr 94 3 → s2 e 2 = S 94 3) (B5 : ∀ R, GR d L S x (b + pcn (t p)) R → GR d L sr p (m + 1) R) (B6 : ∀ j, j < pcn (t p) → S 113 (b + j) = nI (6 - f)) (B7 : t p = 87 → S 113 m = 0) :
    let r2 := rdPL (rdT e n f) e p (pcn (t p)) 0 (nI x) s2
    let r := if t p = 87 then rdN e r2.1 p r2.2 else r2
    (∃ q, r.1 = nI q ∧ Suc d L e n t (f + 1) m p q a sc r.2 sr) ∨ (r.1 = -1 ∧ Fai d L e n (m + 1) p r.2 sr) := by
  have hn := A1.2.2.1
  have hK := (pcN_pcn (t p)).2
  have hpx : p < x ∧ (t p = 67 → x = p + 2) ∧ (¬ t p = 67 → x = p + 1) := by
    subst hx
    unfold c0
    by_cases z : t p = 67
    · rw [if_pos z]
      exact ⟨by omega, fun _ => rfl, fun y => absurd z y⟩
    · rw [if_neg z]
      exact ⟨by omega, fun y => absurd y z, fun _ => rfl⟩
  have hbm : m ≤ b ∧ (t p = 87 → b = m + 1 ∧ pcn (t p) = 1) ∧ (¬ t p = 87 → b = m) := by
    subst hb
    unfold gB_
    by_cases z : t p = 87
    · rw [if_pos z]
      exact ⟨by omega, fun _ => ⟨rfl, by rw [z]; decide⟩, fun y => absurd z y⟩
    · rw [if_neg z]
      exact ⟨by omega, fun y => absurd y z, fun _ => rfl⟩
  have hbK : b + pcn (t p) ≤ 2 * (5 - f) + 1 := by
    by_cases z : t p = 87
    · have := hbm.2.1 z
      omega
    · have := hbm.2.2 z
      omega
  have hap : apV s2 e p = apW a (t p) := by
    unfold apV apW
    rw [A5, congrFun A1.2.2.2 p]
  dsimp only
  rcases parts_ok hf hC (o := p) (apW a (t p)) (pcn (t p)) 0 x b s2 S (by omega) A1 hxn hpx.1 B1 B6 (fun _ => hbK) (fun j h1 h2 => Ap j (by omega) h2) hap with ⟨q1, e1, hS⟩ | ⟨e1, hF⟩
  · obtain ⟨u1, u2, u3, u4, u5, u6, u7, sr2, u8, u9, u10, u11⟩ := hS
    generalize hsc : (rdPL (rdT e n f) e p (pcn (t p)) 0 (nI x) s2).2 = s3 at u3 u5 u6 u7 u9 u10
    rw [e1]
    have c4 : s3 (e + 4) p = 1 := by rw [u7 (e + 4) p (by omega) (by omega) (by omega) (by omega) (by omega) (by omega)]; exact A4
    have c5 : s3 (e + 5) p = a := by rw [u7 (e + 5) p (by omega) (by omega) (by omega) (by omega) (by omega) (by omega)]; exact A5
    have c3 : s3 (e + 3) p = s2 (e + 3) p := u7 (e + 3) p (by omega) (by omega) (by omega) (by omega) (by omega) (by omega)
    have cp : ∀ k, k < 3 → s3 (e + 2) (3 * p + k) = if k < pcn (t p) then nI (itr (pe t 6) k x) else -1 := by
      intro k hk
      by_cases z : k < pcn (t p)
      · rw [if_pos z]
        have := (u6 k z).2.2.1
        rw [Nat.zero_add] at this
        exact this
      · rw [if_neg z, u7 (e + 2) _ (by omega) (by omega) (by omega) (by omega) (by omega) (by omega)]
        exact Ap _ (by omega) (by omega)
    have cq : ∀ j, 3 * q1 ≤ j → j < 72 → s3 (e + 2) j = -1 := fun j h1 h2 => by
      rw [u7 (e + 2) _ (by omega) (by omega) (by omega) (by omega) (by omega) (by omega)]
      exact Ap _ (by omega) h2
    have cC : t p = 67 → s3 (e + 4) (p + 1) = 0 ∧ s3 (e + 3) (p + 1) = -1 ∧ cVar (t (p + 1)) ∧ ∀ k, k < 3 → s3 (e + 2) (3 * (p + 1) + k) = -1 := by
      intro hc
      obtain ⟨d1, d2, d3⟩ := AC hc
      have := hpx.2.1 hc
      refine ⟨?_, ?_, d3, fun k hk => ?_⟩
      · rw [u7 (e + 4) _ (by omega) (by omega) (by omega) (by omega) (by omega) (by omega)]; exact d1
      · rw [u7 (e + 3) _ (by omega) (by omega) (by omega) (by omega) (by omega) (by omega)]; exact d2
      · rw [u7 (e + 2) _ (by omega) (by omega) (by omega) (by omega) (by omega) (by omega)]
        exact Ap _ (by omega) (by omega)
    have ck : cfr e sc s3 p q1 := fun c j h1 h2 h3 h4 h5 => by
      rw [u7 c j h1 (by omega) (by omega) (by omega) (by omega) (by omega), A2 c j h1 (by omega) (by omega) (by omega) (by omega)]
    have r104 : ∀ i, p ≤ i → i < q1 → sr2 104 i = s3 (e + 4) i := by
      intro i h1 h2
      by_cases hi : i < x
      · rw [u8 104 i (by omega) (by omega) (by omega), B3 i h1 hi, u7 (e + 4) i (by omega) (by omega) (by omega) (by omega) (by omega) (by omega)]
      · exact u9 i (by omega) h2
    by_cases hW : t p = 87
    · obtain ⟨hb1, hK1⟩ := hbm.2.1 hW
      have n67 : ¬ t p = 67 := by rw [hW]; decide
      have hx1 := hpx.2.2 n67
      have h0 : sr2 113 m = 0 := by rw [u8 113 m (by omega) (by omega) (by omega)]; exact B7 hW
      rw [if_pos hW]
      rcases nm_ok (d := d) (L := L) (o := p) u3 u2 (B1.fr u8) (show m < 24 by omega) h0 with ⟨y1, y2, y3, y4⟩ | ⟨y3, y4⟩
      · rw [y3]
        dsimp only
        have g1 : RK (sN e q1 p (t q1) s3) e n t := RK_U (RK_U (RK_U u3 (by omega) (by omega)) (by omega) (by omega)) (by omega) (by omega)
        have go : ∀ c j, ¬ (c = e + 3 ∧ (j = p ∨ j = q1)) → ¬ (c = e + 4 ∧ j = q1) → sN e q1 p (t q1) s3 c j = s3 c j := fun c j h1 h2 => by
          unfold sN
          rw [sU_n h2, sU_n (by omega), sU_n (by omega)]
        have g3 : sN e q1 p (t q1) s3 (e + 3) p = t q1 - 97 := by
          unfold sN
          rw [sU_n (by omega), sU_n (by omega), sU_same]
        have hq : q1 + 1 = q1 + (if t p = 87 then 1 else 0) := by rw [if_pos hW]
        have hpe6 : pe t 6 p = q1 + 1 := by
          have : pe t (5 + 1) p = ch t (pe t 5) p (pcn (t p)) + (if t p = 87 then 1 else 0) := rfl
          rw [this, ch_itr, hx, u4 5 (by omega), if_pos hW]
        have A := asm (e := e) (n := n) (t := t) (f := f) (p := p) (q1 := q1) (q := q1 + 1) (x := x) (sc' := sN e q1 p (t q1) s3) (a := a) hx hq u1 u4 (by omega) (by rw [go _ _ (by omega) (by omega)]; exact c4) (by rw [g3, nmF87 hW, hpe6]; rfl) (by rw [go _ _ (by omega) (by omega)]; exact c5) ha (fun k hk => by rw [go _ _ (by omega) (by omega)]; exact cp k hk) (fun k hk => by
            obtain ⟨v1, v2, v3, v4, v5⟩ := u6 k hk
            rw [go _ _ (by omega) (by omega), go _ _ (by omega) (by omega)]
            exact ⟨v1, v2, v4, v5⟩) (fun i h1 h2 => Seg.mv u5 ⟨fun j k1 k2 => go _ _ (by omega) (by omega), fun j k1 k2 => ⟨go _ _ (by omega) (by omega), go _ _ (by omega) (by omega), go _ _ (by omega) (by omega)⟩⟩ (by omega) (by omega) i h1 h2) (fun hc => absurd hc n67) (fun _ => ⟨by unfold sN; rw [sU_same], by unfold sN; rw [sU_n (by omega), sU_same], y2, fun k hk => by rw [go _ _ (by omega) (by omega)]; exact cq _ (by omega) (by omega)⟩)
        refine Or.inl ⟨q1 + 1, rfl, by omega, by omega, g1, A.1, A.2, by rw [go _ _ (by omega) (by omega)]; exact c4, by rw [go _ _ (by omega) (by omega)]; exact c5, fun c j h1 h2 h3 h4 h5 => by rw [go c j (by omega) (by omega)]; exact ck c j h1 (by omega) (by omega) (by omega) (by omega), gS sr2 q1 0, ?_, ?_, ?_, ?_⟩
        · intro c j h1 h2 h3
          rw [gS_off (by omega) (by omega), u8 c j h1 (by omega) (by omega), B2 c j h1 (by omega) h3]
        · intro i h1 h2
          by_cases hi : i < q1
          · rw [gS_off (by omega) (by omega), go _ _ (by omega) (by omega)]
            exact r104 i h1 hi
          · have : i = q1 := by omega
            subst this
            unfold gS sN
            rw [sU_same, sU_same]
        · intro hh
          rw [go _ _ (by omega) (by omega), gS_off (by omega) (by omega)]
          exact u10 (B4 hh)
        · intro R hG
          refine B5 R (u11 R ?_)
          rw [hb1]
          exact y4 R hG
      · rw [y3]
        dsimp only
        obtain ⟨bb, f1, f2, sr3, f3, f4, f5⟩ := y4
        refine Or.inr ⟨rfl, bb, f1, f2, sr3, f3, (B2.tr u8 (m2 := 0) (p2 := 0) (q2 := 24) (by omega) (by omega) (by omega)).tr f4 (by omega) (by omega) (by omega), B5 _ (u11 _ ?_)⟩
        rw [hb1]
        exact f5
    · have hb1 := hbm.2.2 hW
      rw [if_neg hW]
      have hq : q1 = q1 + (if t p = 87 then 1 else 0) := by rw [if_neg hW]; rfl
      have A := asm (e := e) (n := n) (t := t) (f := f) (p := p) (q1 := q1) (q := q1) (x := x) (sc' := s3) (a := a) hx hq u1 u4 (by omega) c4 (by rw [c3]; exact A3 hW) c5 ha cp (fun k hk => by
          obtain ⟨v1, v2, v3, v4, v5⟩ := u6 k hk
          exact ⟨v1, v2, v4, v5⟩) (fun i h1 h2 => Seg.mv u5 ⟨fun _ _ _ => rfl, fun _ _ _ => ⟨rfl, rfl, rfl⟩⟩ (by omega) (Nat.le_refl q1) i h1 h2) cC (fun hc => absurd hc hW)
      rw [hsc]
      refine Or.inl ⟨q1, e1, by omega, u2, u3, A.1, A.2, c4, c5, ck, sr2, ?_, r104, fun hh => u10 (B4 hh), fun R hG => B5 R (u11 R (by rw [hb1]; exact hG))⟩
      intro c j h1 h2 h3
      rw [u8 c j h1 (by omega) (by omega), B2 c j h1 (by omega) h3]
  · obtain ⟨bb, f1, f2, sr2, f3, f4, f5⟩ := hF
    have hz : ∀ r2 : Int32 × St, r2.1 = -1 → (if t p = 87 then rdN e r2.1 p r2.2 else r2) = (-1, r2.2) := by
      rintro ⟨y, s⟩ hy
      dsimp only at hy ⊢
      subst hy
      by_cases z : t p = 87
      · rw [if_pos z]
        unfold rdN
        rw [if_pos rfl]
      · rw [if_neg z]
    rw [hz _ e1]
    exact Or.inr ⟨rfl, bb, f1, f2, sr2, f3, B2.tr f4 (by omega) (by omega) (by omega), B5 _ f5⟩
