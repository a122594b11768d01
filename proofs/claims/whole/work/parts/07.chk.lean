def wat (j : Nat) (w : Cond) : Bool := decide (TB[j]? = some w)
def nwat (j : Nat) (w : Cond) : Bool := decide (NW[j]? = some w)
theorem wat_in {j : Nat} {w : Cond} (h : wat j w = true) : w ∈ TB := List.mem_of_getElem? (of_decide_eq_true h)
theorem nwat_in {j : Nat} {w : Cond} (h : nwat j w = true) : w ∈ NW := List.mem_of_getElem? (of_decide_eq_true h)
def okF (host own : String) (idx : Nat) (q : List Nat) : Bool := match q with
  | ci :: k :: md :: j :: _ => (match clT[ci]? with
    | some (_, T, N) => decide (k < N) && (match md with
      | 0 => wat j (.fieldLink own idx (T k).1 (T k).2.1 (T k).2.2.1)
      | _ => nwat j (.fieldLinkNest own idx (T k).1 (T k).2.1 (T k).2.2.1 host))
    | none => false)
  | _ => false
def okP (host own nm : String) (idx : Nat) (q : List Nat) : Bool := match q with
  | ci :: k :: md :: j :: _ => (match clT[ci]? with
    | some (_, T, N) => decide (k < N) && (match md with
      | 0 => decide ((T k).2.2.2 = false) && wat j (.fieldLink own idx (T k).1 (T k).2.1 (T k).2.2.1)
      | 1 => decide ((T k).2.2.2 = false) && nwat j (.fieldLinkNest own idx (T k).1 (T k).2.1 (T k).2.2.1 host)
      | _ => decide ((T k).2.2.2 = true) && (decide (nm = "<init>") && (decide ((T k).1 = own) && wat j (.fieldLink own idx (T k).1 (T k).2.1 (T k).2.2.1))))
    | none => false)
  | _ => false
def okN (own : String) (idx : Nat) (q : List Nat) : Bool := match q with
  | ci :: j1 :: j2 :: j3 :: _ => (match clT[ci]? with
    | some (C, _, N) => decide (N = nF ci) && (wat j1 (.classLink own idx C) && (wat j2 (.instantiable C N) && wat j3 (.initialized C)))
    | none => false)
  | _ => false
def okQ (own : String) (idx : Nat) (q : List Nat) : Bool := match q with
  | ci :: j1 :: _ => (match clT[ci]? with
    | some (C, _, _) => wat j1 (.classLink own idx C) && (decide (10 + ci ∈ srtL) && (decide (tyT (10 + ci) = .object C) && decide (C ∈ AOL)))
    | none => false)
  | _ => false
def okD (y : MethodName) (n : Nat) : Bool := decide (y.cls ≠ "java/lang/invoke/MethodHandle") && (decide (y.cls ≠ "java/lang/invoke/VarHandle") && decide ((parseMethodDescriptor y.desc).map (fun d => d.parameters.length) = some n))
def okB (own : String) (idx M' n : Nat) : Bool := match M' with
  | 900 => decide (n = 1) && decide (Cond.methodLink own idx Lib.objectInit ∈ TB)
  | 901 => decide (n = 5) && decide (Cond.methodLink own idx arraycopyName ∈ TB)
  | 902 => decide (n = 1) && (decide (own = "FlowEquations") && decide (Cond.methodLink own idx ⟨"FlowEquations", "isOperator", "(I)Z"⟩ ∈ TB))
  | _ => false
theorem okB_ge' {own : String} {idx M' n : Nat} (h : okB own idx M' n = true) : 900 ≤ M' := by
  unfold okB at h
  split at h
  · omega
  · omega
  · omega
  · cases h
theorem okB_ge {own : String} {idx M' n : Nat} (h : okB own idx M' n = true) (hM : M' < nM) : False := by
  have := okB_ge' h
  have h2 : nM ≤ 900 := by decide
  omega
/-- static calls -/
def okS (host own : String) (idx : Nat) (q : List Nat) : Bool := match q with
  | kind :: M' :: n :: _ :: j1 :: j2 :: j3 :: _ => (match kind with
    | 0 => decide (M' < nM) && (okD (nmM M') n && (wat j1 (.methodLink own idx (nmM M')) && (wat j2 (.static (nmM M')) && wat j3 (.initialized (nmM M').cls))))
    | 1 => decide (M' < nM) && (okD (nmM M') n && (nwat j1 (.methodLinkNest own idx (nmM M') host) && (wat j2 (.static (nmM M')) && wat j3 (.initialized (nmM M').cls))))
    | 6 => decide (M' ≠ 900) && okB own idx M' n
    | _ => false)
  | _ => false
def okV (host own : String) (idx : Nat) (q : List Nat) : Bool := match q with
  | kind :: M' :: n :: ci :: j1 :: j2 :: j3 :: j4 :: _ => decide (M' < nM) && ((match clT[ci]? with
    | some (C, _, _) => decide ((nmM M').cls = C)
    | none => false) && (decide (0 < n) && (okD (nmM M') (n - 1) && (wat j2 (.instanceMethod (nmM M')) && (wat j3 (.selects (nmM M').cls (nmM M') (nmM M')) && (wat j4 (.initialized (nmM M').cls) && (match kind with
    | 2 => wat j1 (.methodLink own idx (nmM M'))
    | 3 => nwat j1 (.methodLinkNest own idx (nmM M') host)
    | _ => false)))))))
  | _ => false
def okC (host own : String) (idx : Nat) (q : List Nat) : Bool := match q with
  | kind :: M' :: n :: _ :: j1 :: j2 :: j3 :: _ => (match kind with
    | 6 => decide (M' = 900) && okB own idx M' n
    | _ => decide (M' < nM) && (decide (0 < n) && (decide ((nmM M').name = "<init>") && (decide (rtM M' = none) && (okD (nmM M') (n - 1) && (wat j2 (.instanceMethod (nmM M')) && (wat j3 (.initialized (nmM M').cls) && (match kind with
      | 4 => wat j1 (.methodLink own idx (nmM M'))
      | 5 => nwat j1 (.methodLinkNest own idx (nmM M') host)
      | _ => false))))))))
  | _ => false
def okI (M pc : Nat) (i : Instr) : Bool := match i with
  | .ldc idx => (match rv M pc with
    | j :: _ => wat j (.constant (nmM M).cls idx (kI M pc))
    | _ => false)
  | .ldc_w idx => (match rv M pc with
    | j :: _ => wat j (.constant (nmM M).cls idx (kI M pc))
    | _ => false)
  | .ldc2_w idx => (match rv M pc with
    | j :: _ => wat j (.constantLong (nmM M).cls idx (kJ M pc))
    | _ => false)
  | .getfield idx => okF (hostM M) (nmM M).cls idx (rv M pc)
  | .putfield idx => okP (hostM M) (nmM M).cls (nmM M).name idx (rv M pc)
  | .new idx => okN (nmM M).cls idx (rv M pc)
  | .anewarray idx => okQ (nmM M).cls idx (rv M pc)
  | .newarray t => (match rv M pc with
    | j :: _ => wat j (.arrayClass (newarray.typeOf t)) && (decide (atag t ∈ srtL) && (decide (tyT (atag t) = newarray.typeOf t) && decide (t = .int ∨ t = .boolean)))
    | _ => false)
  | .invokestatic idx => okS (hostM M) (nmM M).cls idx (rv M pc)
  | .invokevirtual idx => okV (hostM M) (nmM M).cls idx (rv M pc)
  | .invokespecial idx => okC (hostM M) (nmM M).cls idx (rv M pc)
  | _ => true

/-- an entry of the tables: it is the code's, and what it names is there -/
def chk (M : Nat) (q : Nat × Instr) : Bool := (match decode (cod M) q.1 with
  | .ok (i, len) => decide (i = q.2) && (sw q.2 || decide (len = ln q.2))
  | _ => false) && okI M q.1 q.2
set_option maxRecDepth 100000 in
theorem dk_0 : ins_0.all (chk 0) = true := by decide +kernel
set_option maxRecDepth 100000 in
theorem dk_1 : ins_1.all (chk 1) = true := by decide +kernel
set_option maxRecDepth 100000 in
theorem dk_2 : ins_2.all (chk 2) = true := by decide +kernel
set_option maxRecDepth 100000 in
theorem dk_3 : ins_3.all (chk 3) = true := by decide +kernel
set_option maxRecDepth 100000 in
theorem dk_4 : ins_4.all (chk 4) = true := by decide +kernel
set_option maxRecDepth 100000 in
theorem dk_5 : ins_5.all (chk 5) = true := by decide +kernel
set_option maxRecDepth 100000 in
theorem dk_6 : ins_6.all (chk 6) = true := by decide +kernel
set_option maxRecDepth 100000 in
theorem dk_7 : ins_7.all (chk 7) = true := by decide +kernel
set_option maxRecDepth 100000 in
theorem dk_8 : ins_8.all (chk 8) = true := by decide +kernel
set_option maxRecDepth 100000 in
theorem dk_9 : ins_9.all (chk 9) = true := by decide +kernel
set_option maxRecDepth 100000 in
theorem dk_10 : ins_10.all (chk 10) = true := by decide +kernel
set_option maxRecDepth 100000 in
theorem dk_11 : ins_11.all (chk 11) = true := by decide +kernel
set_option maxRecDepth 100000 in
theorem dk_12 : ins_12.all (chk 12) = true := by decide +kernel
set_option maxRecDepth 100000 in
theorem dk_13 : ins_13.all (chk 13) = true := by decide +kernel
set_option maxRecDepth 100000 in
theorem dk_14 : ins_14.all (chk 14) = true := by decide +kernel
set_option maxRecDepth 100000 in
theorem dk_15 : ins_15.all (chk 15) = true := by decide +kernel
set_option maxRecDepth 100000 in
theorem dk_16 : ins_16.all (chk 16) = true := by decide +kernel
set_option maxRecDepth 100000 in
theorem dk_17 : ins_17.all (chk 17) = true := by decide +kernel
set_option maxRecDepth 100000 in
theorem dk_18 : ins_18.all (chk 18) = true := by decide +kernel
set_option maxRecDepth 100000 in
theorem dk_19 : ins_19.all (chk 19) = true := by decide +kernel
set_option maxRecDepth 100000 in
theorem dk_20 : ins_20.all (chk 20) = true := by decide +kernel
set_option maxRecDepth 100000 in
theorem dk_21 : ins_21.all (chk 21) = true := by decide +kernel
set_option maxRecDepth 100000 in
theorem dk_22 : ins_22.all (chk 22) = true := by decide +kernel
set_option maxRecDepth 100000 in
theorem dk_23 : ins_23.all (chk 23) = true := by decide +kernel
set_option maxRecDepth 100000 in
theorem dk_24 : ins_24.all (chk 24) = true := by decide +kernel
set_option maxRecDepth 100000 in
theorem dk_25 : ins_25.all (chk 25) = true := by decide +kernel
set_option maxRecDepth 100000 in
theorem dk_26 : ins_26.all (chk 26) = true := by decide +kernel
set_option maxRecDepth 100000 in
theorem dk_27 : ins_27.all (chk 27) = true := by decide +kernel
set_option maxRecDepth 100000 in
theorem dk_28 : ins_28.all (chk 28) = true := by decide +kernel
set_option maxRecDepth 100000 in
theorem dk_29 : ins_29.all (chk 29) = true := by decide +kernel
set_option maxRecDepth 100000 in
theorem dk_30 : ins_30.all (chk 30) = true := by decide +kernel
set_option maxRecDepth 100000 in
theorem dk_31 : ins_31.all (chk 31) = true := by decide +kernel
set_option maxRecDepth 100000 in
theorem dk_32 : ins_32.all (chk 32) = true := by decide +kernel
set_option maxRecDepth 100000 in
theorem dk_33 : ins_33.all (chk 33) = true := by decide +kernel
set_option maxRecDepth 100000 in
theorem dk_34 : ins_34.all (chk 34) = true := by decide +kernel
set_option maxRecDepth 100000 in
theorem dk_35 : ins_35.all (chk 35) = true := by decide +kernel
set_option maxRecDepth 100000 in
theorem dk_36 : ins_36.all (chk 36) = true := by decide +kernel
set_option maxRecDepth 100000 in
theorem dk_37 : ins_37.all (chk 37) = true := by decide +kernel
set_option maxRecDepth 100000 in
theorem dk_38 : ins_38.all (chk 38) = true := by decide +kernel
set_option maxRecDepth 100000 in
theorem dk_39 : ins_39.all (chk 39) = true := by decide +kernel
set_option maxRecDepth 100000 in
theorem dk_40 : ins_40.all (chk 40) = true := by decide +kernel
set_option maxRecDepth 100000 in
theorem dk_41 : ins_41.all (chk 41) = true := by decide +kernel
set_option maxRecDepth 100000 in
theorem dk_42 : ins_42.all (chk 42) = true := by decide +kernel
set_option maxRecDepth 100000 in
theorem dk_43 : ins_43.all (chk 43) = true := by decide +kernel
set_option maxRecDepth 100000 in
theorem dk_44 : ins_44.all (chk 44) = true := by decide +kernel
set_option maxRecDepth 100000 in
theorem dk_45 : ins_45.all (chk 45) = true := by decide +kernel
set_option maxRecDepth 100000 in
theorem dk_46 : ins_46.all (chk 46) = true := by decide +kernel
set_option maxRecDepth 100000 in
theorem dk_47 : ins_47.all (chk 47) = true := by decide +kernel
set_option maxRecDepth 100000 in
theorem dk_48 : ins_48.all (chk 48) = true := by decide +kernel
set_option maxRecDepth 100000 in
theorem dk_49 : ins_49.all (chk 49) = true := by decide +kernel
set_option maxRecDepth 100000 in
theorem dk_50 : ins_50.all (chk 50) = true := by decide +kernel
set_option maxRecDepth 100000 in
theorem dk_51 : ins_51.all (chk 51) = true := by decide +kernel
set_option maxRecDepth 100000 in
theorem dk_52 : ins_52.all (chk 52) = true := by decide +kernel
set_option maxRecDepth 100000 in
theorem dk_53 : ins_53.all (chk 53) = true := by decide +kernel
set_option maxRecDepth 100000 in
theorem dk_54 : ins_54.all (chk 54) = true := by decide +kernel
set_option maxRecDepth 100000 in
theorem dk_55 : ins_55.all (chk 55) = true := by decide +kernel
set_option maxRecDepth 100000 in
theorem dk_56 : ins_56.all (chk 56) = true := by decide +kernel
set_option maxRecDepth 100000 in
theorem dk_57 : ins_57.all (chk 57) = true := by decide +kernel
set_option maxRecDepth 100000 in
theorem dk_58 : ins_58.all (chk 58) = true := by decide +kernel
set_option maxRecDepth 100000 in
theorem dk_59 : ins_59.all (chk 59) = true := by decide +kernel
set_option maxRecDepth 100000 in
theorem dk_60 : ins_60.all (chk 60) = true := by decide +kernel
set_option maxRecDepth 100000 in
theorem dk_61 : ins_61.all (chk 61) = true := by decide +kernel
set_option maxRecDepth 100000 in
theorem dk_62 : ins_62.all (chk 62) = true := by decide +kernel
set_option maxRecDepth 100000 in
theorem dk_63 : ins_63.all (chk 63) = true := by decide +kernel
set_option maxRecDepth 100000 in
theorem dk_64 : ins_64.all (chk 64) = true := by decide +kernel
set_option maxRecDepth 100000 in
theorem dk_65 : ins_65.all (chk 65) = true := by decide +kernel
set_option maxRecDepth 100000 in
theorem dk_66 : ins_66.all (chk 66) = true := by decide +kernel
set_option maxRecDepth 100000 in
theorem dk_67 : ins_67.all (chk 67) = true := by decide +kernel
set_option maxRecDepth 100000 in
theorem dk_68 : ins_68.all (chk 68) = true := by decide +kernel
set_option maxRecDepth 100000 in
theorem dk_69 : ins_69.all (chk 69) = true := by decide +kernel
set_option maxRecDepth 100000 in
theorem dk_70 : ins_70.all (chk 70) = true := by decide +kernel
set_option maxRecDepth 100000 in
theorem dk_71 : ins_71.all (chk 71) = true := by decide +kernel
set_option maxRecDepth 100000 in
theorem dk_72 : ins_72.all (chk 72) = true := by decide +kernel
set_option maxRecDepth 100000 in
theorem dk_73 : ins_73.all (chk 73) = true := by decide +kernel
set_option maxRecDepth 100000 in
theorem dk_74 : ins_74.all (chk 74) = true := by decide +kernel
set_option maxRecDepth 100000 in
theorem dk_75 : ins_75.all (chk 75) = true := by decide +kernel
set_option maxRecDepth 100000 in
theorem dk_76 : ins_76.all (chk 76) = true := by decide +kernel
set_option maxRecDepth 100000 in
theorem dk_77 : ins_77.all (chk 77) = true := by decide +kernel
set_option maxRecDepth 100000 in
theorem dk_78 : ins_78.all (chk 78) = true := by decide +kernel
set_option maxRecDepth 100000 in
theorem dk_79 : ins_79.all (chk 79) = true := by decide +kernel
set_option maxRecDepth 100000 in
theorem dk_80 : ins_80.all (chk 80) = true := by decide +kernel
set_option maxRecDepth 100000 in
theorem dk_81 : ins_81.all (chk 81) = true := by decide +kernel
set_option maxRecDepth 100000 in
theorem dk_82 : ins_82.all (chk 82) = true := by decide +kernel
set_option maxRecDepth 100000 in
theorem dk_83 : ins_83.all (chk 83) = true := by decide +kernel
set_option maxRecDepth 100000 in
theorem dk_84 : ins_84.all (chk 84) = true := by decide +kernel
set_option maxRecDepth 100000 in
theorem dk_85 : ins_85.all (chk 85) = true := by decide +kernel
set_option maxRecDepth 100000 in
theorem dk_86 : ins_86.all (chk 86) = true := by decide +kernel
set_option maxRecDepth 100000 in
theorem dk_87 : ins_87.all (chk 87) = true := by decide +kernel
set_option maxRecDepth 100000 in
theorem dk_88 : ins_88.all (chk 88) = true := by decide +kernel
set_option maxRecDepth 100000 in
theorem dk_89 : ins_89.all (chk 89) = true := by decide +kernel
set_option maxRecDepth 100000 in
theorem dk_90 : ins_90.all (chk 90) = true := by decide +kernel
set_option maxRecDepth 100000 in
theorem dk_91 : ins_91.all (chk 91) = true := by decide +kernel
set_option maxRecDepth 100000 in
theorem dk_92 : ins_92.all (chk 92) = true := by decide +kernel
set_option maxRecDepth 100000 in
theorem dk_93 : ins_93.all (chk 93) = true := by decide +kernel
set_option maxRecDepth 100000 in
theorem dk_94 : ins_94.all (chk 94) = true := by decide +kernel
set_option maxRecDepth 100000 in
theorem dk_95 : ins_95.all (chk 95) = true := by decide +kernel
set_option maxRecDepth 100000 in
theorem dk_96 : ins_96.all (chk 96) = true := by decide +kernel
set_option maxRecDepth 100000 in
theorem dk_97 : ins_97.all (chk 97) = true := by decide +kernel
theorem dk_all : ∀ M, (insL.getD M []).all (chk M) = true := by
  intro M
  match M with
  | 0 => exact dk_0
  | 1 => exact dk_1
  | 2 => exact dk_2
  | 3 => exact dk_3
  | 4 => exact dk_4
  | 5 => exact dk_5
  | 6 => exact dk_6
  | 7 => exact dk_7
  | 8 => exact dk_8
  | 9 => exact dk_9
  | 10 => exact dk_10
  | 11 => exact dk_11
  | 12 => exact dk_12
  | 13 => exact dk_13
  | 14 => exact dk_14
  | 15 => exact dk_15
  | 16 => exact dk_16
  | 17 => exact dk_17
  | 18 => exact dk_18
  | 19 => exact dk_19
  | 20 => exact dk_20
  | 21 => exact dk_21
  | 22 => exact dk_22
  | 23 => exact dk_23
  | 24 => exact dk_24
  | 25 => exact dk_25
  | 26 => exact dk_26
  | 27 => exact dk_27
  | 28 => exact dk_28
  | 29 => exact dk_29
  | 30 => exact dk_30
  | 31 => exact dk_31
  | 32 => exact dk_32
  | 33 => exact dk_33
  | 34 => exact dk_34
  | 35 => exact dk_35
  | 36 => exact dk_36
  | 37 => exact dk_37
  | 38 => exact dk_38
  | 39 => exact dk_39
  | 40 => exact dk_40
  | 41 => exact dk_41
  | 42 => exact dk_42
  | 43 => exact dk_43
  | 44 => exact dk_44
  | 45 => exact dk_45
  | 46 => exact dk_46
  | 47 => exact dk_47
  | 48 => exact dk_48
  | 49 => exact dk_49
  | 50 => exact dk_50
  | 51 => exact dk_51
  | 52 => exact dk_52
  | 53 => exact dk_53
  | 54 => exact dk_54
  | 55 => exact dk_55
  | 56 => exact dk_56
  | 57 => exact dk_57
  | 58 => exact dk_58
  | 59 => exact dk_59
  | 60 => exact dk_60
  | 61 => exact dk_61
  | 62 => exact dk_62
  | 63 => exact dk_63
  | 64 => exact dk_64
  | 65 => exact dk_65
  | 66 => exact dk_66
  | 67 => exact dk_67
  | 68 => exact dk_68
  | 69 => exact dk_69
  | 70 => exact dk_70
  | 71 => exact dk_71
  | 72 => exact dk_72
  | 73 => exact dk_73
  | 74 => exact dk_74
  | 75 => exact dk_75
  | 76 => exact dk_76
  | 77 => exact dk_77
  | 78 => exact dk_78
  | 79 => exact dk_79
  | 80 => exact dk_80
  | 81 => exact dk_81
  | 82 => exact dk_82
  | 83 => exact dk_83
  | 84 => exact dk_84
  | 85 => exact dk_85
  | 86 => exact dk_86
  | 87 => exact dk_87
  | 88 => exact dk_88
  | 89 => exact dk_89
  | 90 => exact dk_90
  | 91 => exact dk_91
  | 92 => exact dk_92
  | 93 => exact dk_93
  | 94 => exact dk_94
  | 95 => exact dk_95
  | 96 => exact dk_96
  | 97 => exact dk_97
  | k + 98 => rfl
theorem lookup_in {α : Type} : ∀ (l : List (Nat × α)) (k : Nat) (a : α), l.lookup k = some a → (k, a) ∈ l
  | [], _, _, h => by cases h
  | (k', a') :: l, k, a, h => by
    rw [List.lookup_cons] at h
    by_cases hk : k = k'
    · subst hk
      simp at h
      subst h
      exact List.mem_cons_self
    · have : (k == k') = false := by simp [hk]
      rw [this] at h
      exact List.mem_cons_of_mem _ (lookup_in l k a h)
theorem ins_chk {M pc : Nat} {i : Instr} (hi : insM M pc = some i) : chk M (pc, i) = true := List.all_eq_true.mp (dk_all M) _ (lookup_in _ _ _ hi)
theorem ins_dec {M pc : Nat} {i : Instr} (hi : insM M pc = some i) : dec (cod M) pc i := by
  have h := ins_chk hi
  unfold chk at h
  rw [Bool.and_eq_true] at h
  have h1 := h.1
  split at h1
  · next i' len hd =>
    simp only [Bool.and_eq_true, Bool.or_eq_true, decide_eq_true_eq] at h1
    obtain ⟨e1, e2⟩ := h1
    subst e1
    exact ⟨len, hd, fun hs => by rcases e2 with e2 | e2 <;> first | (rw [hs] at e2; cases e2) | exact e2⟩
  · cases h1
theorem ins_ok {M pc : Nat} {i : Instr} (hi : insM M pc = some i) : okI M pc i = true := by
  have h := ins_chk hi
  unfold chk at h
  rw [Bool.and_eq_true] at h
  exact h.2
theorem ins_lt {M pc : Nat} {i : Instr} (hi : insM M pc = some i) : M < 98 := by
  apply Classical.byContradiction
  intro hn
  have : insL.getD M [] = [] := by
    rw [List.getD_eq_getElem?_getD, List.getElem?_eq_none_iff.mpr (by show insL.length ≤ M; have : insL.length = 98 := rfl; omega)]
    rfl
  unfold insM at hi
  rw [this] at hi
  cases hi
theorem mx_le' : ∀ M, M < 98 → mx M ≤ 40 := by decide +kernel
theorem mx_le {M : Nat} (hM : M < nM) : mx M ≤ 40 := mx_le' M (by have : nM = 97 := rfl; omega)
theorem nm_plain' : ∀ M, M < nM → plainFor (nmM M) = true := by decide +kernel
theorem nm_plain {M : Nat} (hM : M < nM) : plainFor (nmM M) = true := nm_plain' M hM
set_option maxRecDepth 100000 in
theorem code_in {M : Nat} (hM : M < nM) : Cond.code (nmM M) (cod M) (mx M) (rtM M) ∈ TB := by
  match M, hM with
  | 0, _ => exact List.mem_of_getElem? (i := 71) rfl
  | 1, _ => exact List.mem_of_getElem? (i := 78) rfl
  | 2, _ => exact List.mem_of_getElem? (i := 83) rfl
  | 3, _ => exact List.mem_of_getElem? (i := 116) rfl
  | 4, _ => exact List.mem_of_getElem? (i := 125) rfl
  | 5, _ => exact List.mem_of_getElem? (i := 167) rfl
  | 6, _ => exact List.mem_of_getElem? (i := 170) rfl
  | 7, _ => exact List.mem_of_getElem? (i := 173) rfl
  | 8, _ => exact List.mem_of_getElem? (i := 176) rfl
  | 9, _ => exact List.mem_of_getElem? (i := 179) rfl
  | 10, _ => exact List.mem_of_getElem? (i := 230) rfl
  | 11, _ => exact List.mem_of_getElem? (i := 235) rfl
  | 12, _ => exact List.mem_of_getElem? (i := 238) rfl
  | 13, _ => exact List.mem_of_getElem? (i := 240) rfl
  | 14, _ => exact List.mem_of_getElem? (i := 246) rfl
  | 15, _ => exact List.mem_of_getElem? (i := 249) rfl
  | 16, _ => exact List.mem_of_getElem? (i := 252) rfl
  | 17, _ => exact List.mem_of_getElem? (i := 254) rfl
  | 18, _ => exact List.mem_of_getElem? (i := 257) rfl
  | 19, _ => exact List.mem_of_getElem? (i := 260) rfl
  | 20, _ => exact List.mem_of_getElem? (i := 263) rfl
  | 21, _ => exact List.mem_of_getElem? (i := 265) rfl
  | 22, _ => exact List.mem_of_getElem? (i := 268) rfl
  | 23, _ => exact List.mem_of_getElem? (i := 270) rfl
  | 24, _ => exact List.mem_of_getElem? (i := 275) rfl
  | 25, _ => exact List.mem_of_getElem? (i := 277) rfl
  | 26, _ => exact List.mem_of_getElem? (i := 281) rfl
  | 27, _ => exact List.mem_of_getElem? (i := 285) rfl
  | 28, _ => exact List.mem_of_getElem? (i := 289) rfl
  | 29, _ => exact List.mem_of_getElem? (i := 291) rfl
  | 30, _ => exact List.mem_of_getElem? (i := 294) rfl
  | 31, _ => exact List.mem_of_getElem? (i := 296) rfl
  | 32, _ => exact List.mem_of_getElem? (i := 298) rfl
  | 33, _ => exact List.mem_of_getElem? (i := 300) rfl
  | 34, _ => exact List.mem_of_getElem? (i := 303) rfl
  | 35, _ => exact List.mem_of_getElem? (i := 306) rfl
  | 36, _ => exact List.mem_of_getElem? (i := 309) rfl
  | 37, _ => exact List.mem_of_getElem? (i := 312) rfl
  | 38, _ => exact List.mem_of_getElem? (i := 314) rfl
  | 39, _ => exact List.mem_of_getElem? (i := 317) rfl
  | 40, _ => exact List.mem_of_getElem? (i := 320) rfl
  | 41, _ => exact List.mem_of_getElem? (i := 323) rfl
  | 42, _ => exact List.mem_of_getElem? (i := 326) rfl
  | 43, _ => exact List.mem_of_getElem? (i := 328) rfl
  | 44, _ => exact List.mem_of_getElem? (i := 330) rfl
  | 45, _ => exact List.mem_of_getElem? (i := 333) rfl
  | 46, _ => exact List.mem_of_getElem? (i := 338) rfl
  | 47, _ => exact List.mem_of_getElem? (i := 343) rfl
  | 48, _ => exact List.mem_of_getElem? (i := 345) rfl
  | 49, _ => exact List.mem_of_getElem? (i := 348) rfl
  | 50, _ => exact List.mem_of_getElem? (i := 351) rfl
  | 51, _ => exact List.mem_of_getElem? (i := 354) rfl
  | 52, _ => exact List.mem_of_getElem? (i := 357) rfl
  | 53, _ => exact List.mem_of_getElem? (i := 360) rfl
  | 54, _ => exact List.mem_of_getElem? (i := 362) rfl
  | 55, _ => exact List.mem_of_getElem? (i := 365) rfl
  | 56, _ => exact List.mem_of_getElem? (i := 368) rfl
  | 57, _ => exact List.mem_of_getElem? (i := 370) rfl
  | 58, _ => exact List.mem_of_getElem? (i := 373) rfl
  | 59, _ => exact List.mem_of_getElem? (i := 377) rfl
  | 60, _ => exact List.mem_of_getElem? (i := 379) rfl
  | 61, _ => exact List.mem_of_getElem? (i := 384) rfl
  | 62, _ => exact List.mem_of_getElem? (i := 388) rfl
  | 63, _ => exact List.mem_of_getElem? (i := 392) rfl
  | 64, _ => exact List.mem_of_getElem? (i := 394) rfl
  | 65, _ => exact List.mem_of_getElem? (i := 400) rfl
  | 66, _ => exact List.mem_of_getElem? (i := 453) rfl
  | 67, _ => exact List.mem_of_getElem? (i := 456) rfl
  | 68, _ => exact List.mem_of_getElem? (i := 459) rfl
  | 69, _ => exact List.mem_of_getElem? (i := 462) rfl
  | 70, _ => exact List.mem_of_getElem? (i := 465) rfl
  | 71, _ => exact List.mem_of_getElem? (i := 469) rfl
  | 72, _ => exact List.mem_of_getElem? (i := 474) rfl
  | 73, _ => exact List.mem_of_getElem? (i := 477) rfl
  | 74, _ => exact List.mem_of_getElem? (i := 480) rfl
  | 75, _ => exact List.mem_of_getElem? (i := 484) rfl
  | 76, _ => exact List.mem_of_getElem? (i := 488) rfl
  | 77, _ => exact List.mem_of_getElem? (i := 492) rfl
  | 78, _ => exact List.mem_of_getElem? (i := 496) rfl
  | 79, _ => exact List.mem_of_getElem? (i := 499) rfl
  | 80, _ => exact List.mem_of_getElem? (i := 502) rfl
  | 81, _ => exact List.mem_of_getElem? (i := 505) rfl
  | 82, _ => exact List.mem_of_getElem? (i := 508) rfl
  | 83, _ => exact List.mem_of_getElem? (i := 511) rfl
  | 84, _ => exact List.mem_of_getElem? (i := 514) rfl
  | 85, _ => exact List.mem_of_getElem? (i := 517) rfl
  | 86, _ => exact List.mem_of_getElem? (i := 521) rfl
  | 87, _ => exact List.mem_of_getElem? (i := 524) rfl
  | 88, _ => exact List.mem_of_getElem? (i := 527) rfl
  | 89, _ => exact List.mem_of_getElem? (i := 530) rfl
  | 90, _ => exact List.mem_of_getElem? (i := 533) rfl
  | 91, _ => exact List.mem_of_getElem? (i := 536) rfl
  | 92, _ => exact List.mem_of_getElem? (i := 540) rfl
  | 93, _ => exact List.mem_of_getElem? (i := 543) rfl
  | 94, _ => exact List.mem_of_getElem? (i := 548) rfl
  | 95, _ => exact List.mem_of_getElem? (i := 552) rfl
  | 96, _ => exact List.mem_of_getElem? (i := 556) rfl
  | k + 97, h => exact absurd h (by show ¬ k + 97 < 97; omega)
