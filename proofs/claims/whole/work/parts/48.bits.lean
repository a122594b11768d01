/-! Sets of variables as numbers. -/
def bt (w : Int32) (u : Nat) : Bool := w.toBitVec.getLsbD u
theorem sh_n {u : Nat} (hu : u < 32) : (nI u &&& 31) = nI u ∧ ((nI u).toBitVec.smod 32).toNat = u := by
  have : ∀ u : Fin 32, (nI u.1 &&& 31) = nI u.1 ∧ ((nI u.1).toBitVec.smod 32).toNat = u.1 := by decide
  exact this ⟨u, hu⟩
theorem and1 (x : BitVec 32) : x &&& 1#32 = 0#32 ↔ x.getLsbD 0 = false := by
  constructor
  · intro h
    have := congrArg (fun y => y.getLsbD 0) h
    simpa using this
  · intro h
    apply BitVec.eq_of_getLsbD_eq
    intro i hi
    by_cases z : i = 0
    · subst z
      rw [BitVec.getLsbD_and, h]
      simp
    · simp [BitVec.getLsbD_one, z]
theorem bt_sh (w : Int32) {u : Nat} (hu : u < 32) : ((w >>> (nI u &&& 31)) &&& 1 = 0) ↔ bt w u = false := by
  obtain ⟨h1, h2⟩ := sh_n hu
  rw [h1, ← Int32.toBitVec_inj]
  have e1 : (w >>> nI u).toBitVec = w.toBitVec.sshiftRight u := by
    rw [Int32.toBitVec_shiftRight]
    unfold BitVec.sshiftRight'
    rw [h2]
  have e2 : ((w >>> nI u) &&& 1).toBitVec = (w.toBitVec.sshiftRight u) &&& 1#32 := by
    rw [Int32.toBitVec_and, e1]
    rfl
  rw [e2]
  refine (and1 _).trans ?_
  unfold bt
  rw [BitVec.getLsbD_sshiftRight]
  simp [hu]
theorem bt_shN (w : Int32) {u : Nat} (hu : u < 32) : (¬ (w >>> (nI u &&& 31)) &&& 1 = 0) ↔ bt w u = true := by
  rw [bt_sh w hu]
  cases bt w u <;> simp
theorem bt_or (a b : Int32) (u : Nat) : bt (a ||| b) u = (bt a u || bt b u) := by
  unfold bt
  rw [Int32.toBitVec_or, BitVec.getLsbD_or]
theorem bt_0 (u : Nat) : bt 0 u = false := by
  unfold bt
  show (0#32).getLsbD u = false
  simp
theorem bt_1 {k u : Nat} (hk : k < 32) (hu : u < 32) : bt (1 <<< (nI k &&& 31)) u = decide (u = k) := by
  have : ∀ k u : Fin 32, bt (1 <<< (nI k.1 &&& 31)) u.1 = decide (u.1 = k.1) := by decide
  exact this ⟨k, hk⟩ ⟨u, hu⟩
/-- a set of the eight -/
def s8 (w : Int32) : Prop := ∀ u, 8 ≤ u → bt w u = false
theorem s8_lt {w : Int32} (h : s8 w) : w.toBitVec.toNat < 256 := by
  have h2 : w.toBitVec.toNat < 2 ^ 8 := by
    apply Nat.lt_pow_two_of_testBit
    intro i hi
    exact h i hi
  exact h2
def cb8 (p : Nat → Bool) : Nat := cntB p 8
theorem bc_all : ∀ x : Fin 256, bcV (nI x.1) = nI (cntB (fun u => x.1.testBit u) 8) := by decide +kernel
theorem s8_bc {w : Int32} (h : s8 w) : bcV w = nI (cntB (bt w) 8) := by
  have h1 := s8_lt h
  have e : w = nI w.toBitVec.toNat := by
    rw [← Int32.toBitVec_inj]
    apply BitVec.eq_of_toNat_eq
    have := bc_all
    show _ = (BitVec.ofNat 32 w.toBitVec.toNat).toNat
    rw [BitVec.toNat_ofNat]
    omega
  have := bc_all ⟨w.toBitVec.toNat, h1⟩
  rw [← e] at this
  exact this
