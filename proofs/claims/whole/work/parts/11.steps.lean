/-! One-step rows, by program (wip/whole/tools/gen2.py): the reference and the law. -/
-- 65: FlowEquationsModel.<init>()V
theorem e65_0 (d : Nat) (a1 : Option Value) (h : MH) (x : Nat) : rn d 65 0 [some (.ref x), a1] [] h = rn d 65 1 [some (.ref x), a1] [.ref x] h := rP (i := (.aload_n 0)) rfl rfl
theorem e65_1 (d : Nat) (a0 a1 : Option Value) (s0 : Nat) (h : MH)  : rn (d + 6) 65 1 [a0, a1] [.ref s0] h = rn (d + 6) 65 4 [a0, a1] [] h := rBi (i := (.invokespecial 1)) (V := (none, h)) (n := 1) rfl rfl rfl (tl := [401, 0, 0]) rfl (Nat.le_of_ble_eq_true rfl) (Nat.le_of_ble_eq_true rfl) (Nat.le_of_ble_eq_true rfl) rfl rfl
theorem e65_4 (d : Nat) (a1 : Option Value) (h : MH) (x : Nat) : rn d 65 4 [some (.ref x), a1] [] h = rn d 65 5 [some (.ref x), a1] [.ref x] h := rP (i := (.aload_n 0)) rfl rfl
theorem e65_5 (d : Nat) (a0 a1 : Option Value) (s0 : Nat) (h : MH)  : rn d 65 5 [a0, a1] [.ref s0] h = rn d 65 7 [a0, a1] [.int 24, .ref s0] h := rP (i := (.bipush 24)) rfl rfl
theorem e65_7 (d : Nat) (a0 a1 : Option Value) (s0 : Int32) (s1 : Nat) (h : MH) (hz : ¬ s0 < 0 ∧ ¬ atag .int = 9 ∧ s0.toNatClampNeg ≤ 1000000) : rn d 65 7 [a0, a1] [.int s0, .ref s1] h = rn d 65 9 [a0, a1] [.ref h.1, .ref s1] (mkarr h 0 s0.toNatClampNeg (.inl (fun _ => 0))) := rNewa (t := .int) hz rfl
theorem e65_9 (d : Nat) (a0 a1 : Option Value) (s0 s1 : Nat) (h : MH)  : rn d 65 9 [a0, a1] [.ref s0, .ref s1] h = (fputh h s1 5 0 (.array .int) (.ref s0)).bind (fun h => rn d 65 12 [a0, a1] [] h) := rPut (idx := 7) rfl rfl
theorem e65_12 (d : Nat) (a1 : Option Value) (h : MH) (x : Nat) : rn d 65 12 [some (.ref x), a1] [] h = rn d 65 13 [some (.ref x), a1] [.ref x] h := rP (i := (.aload_n 0)) rfl rfl
theorem e65_13 (d : Nat) (a0 a1 : Option Value) (s0 : Nat) (h : MH)  : rn d 65 13 [a0, a1] [.ref s0] h = rn d 65 14 [a0, a1] [.int (-1), .ref s0] h := rP (i := (.iconst (-1))) rfl rfl
theorem e65_14 (d : Nat) (a0 a1 : Option Value) (s0 : Int32) (s1 : Nat) (h : MH)  : rn d 65 14 [a0, a1] [.int s0, .ref s1] h = (fputh h s1 5 2 .int (.int s0)).bind (fun h => rn d 65 17 [a0, a1] [] h) := rPut (idx := 13) rfl rfl
theorem e65_17 (d : Nat) (a1 : Option Value) (h : MH) (x : Nat) : rn d 65 17 [some (.ref x), a1] [] h = rn d 65 18 [some (.ref x), a1] [.ref x] h := rP (i := (.aload_n 0)) rfl rfl
theorem e65_18 (d : Nat) (a0 a1 : Option Value) (s0 : Nat) (h : MH)  : rn d 65 18 [a0, a1] [.ref s0] h = rn d 65 21 [a0, a1] [.int 192, .ref s0] h := rP (i := (.sipush 192)) rfl rfl
theorem e65_21 (d : Nat) (a0 a1 : Option Value) (s0 : Int32) (s1 : Nat) (h : MH) (hz : ¬ s0 < 0 ∧ ¬ atag .int = 9 ∧ s0.toNatClampNeg ≤ 1000000) : rn d 65 21 [a0, a1] [.int s0, .ref s1] h = rn d 65 23 [a0, a1] [.ref h.1, .ref s1] (mkarr h 0 s0.toNatClampNeg (.inl (fun _ => 0))) := rNewa (t := .int) hz rfl
theorem e65_23 (d : Nat) (a0 a1 : Option Value) (s0 s1 : Nat) (h : MH)  : rn d 65 23 [a0, a1] [.ref s0, .ref s1] h = (fputh h s1 5 4 (.array .int) (.ref s0)).bind (fun h => rn d 65 26 [a0, a1] [] h) := rPut (idx := 17) rfl rfl
theorem e65_26 (d : Nat) (a1 : Option Value) (h : MH) (x : Nat) : rn d 65 26 [some (.ref x), a1] [] h = rn d 65 27 [some (.ref x), a1] [.ref x] h := rP (i := (.aload_n 0)) rfl rfl
theorem e65_27 (d : Nat) (a0 a1 : Option Value) (s0 : Nat) (h : MH)  : rn d 65 27 [a0, a1] [.ref s0] h = rn d 65 29 [a0, a1] [.int 8, .ref s0] h := rP (i := (.bipush 8)) rfl rfl
theorem e65_29 (d : Nat) (a0 a1 : Option Value) (s0 : Int32) (s1 : Nat) (h : MH) (hz : ¬ s0 < 0 ∧ ¬ atag .int = 9 ∧ s0.toNatClampNeg ≤ 1000000) : rn d 65 29 [a0, a1] [.int s0, .ref s1] h = rn d 65 31 [a0, a1] [.ref h.1, .ref s1] (mkarr h 0 s0.toNatClampNeg (.inl (fun _ => 0))) := rNewa (t := .int) hz rfl
theorem e65_31 (d : Nat) (a0 a1 : Option Value) (s0 s1 : Nat) (h : MH)  : rn d 65 31 [a0, a1] [.ref s0, .ref s1] h = (fputh h s1 5 5 (.array .int) (.ref s0)).bind (fun h => rn d 65 34 [a0, a1] [] h) := rPut (idx := 20) rfl rfl
theorem e65_34 (d : Nat) (a1 : Option Value) (h : MH) (x : Nat) : rn d 65 34 [some (.ref x), a1] [] h = rn d 65 35 [some (.ref x), a1] [.ref x] h := rP (i := (.aload_n 0)) rfl rfl
theorem e65_35 (d : Nat) (a0 a1 : Option Value) (s0 : Nat) (h : MH)  : rn d 65 35 [a0, a1] [.ref s0] h = rn d 65 38 [a0, a1] [.int 192, .ref s0] h := rP (i := (.sipush 192)) rfl rfl
theorem e65_38 (d : Nat) (a0 a1 : Option Value) (s0 : Int32) (s1 : Nat) (h : MH) (hz : ¬ s0 < 0 ∧ ¬ atag .int = 9 ∧ s0.toNatClampNeg ≤ 1000000) : rn d 65 38 [a0, a1] [.int s0, .ref s1] h = rn d 65 40 [a0, a1] [.ref h.1, .ref s1] (mkarr h 0 s0.toNatClampNeg (.inl (fun _ => 0))) := rNewa (t := .int) hz rfl
theorem e65_40 (d : Nat) (a0 a1 : Option Value) (s0 s1 : Nat) (h : MH)  : rn d 65 40 [a0, a1] [.ref s0, .ref s1] h = (fputh h s1 5 6 (.array .int) (.ref s0)).bind (fun h => rn d 65 43 [a0, a1] [] h) := rPut (idx := 23) rfl rfl
theorem e65_43 (d : Nat) (a1 : Option Value) (h : MH) (x : Nat) : rn d 65 43 [some (.ref x), a1] [] h = rn d 65 44 [some (.ref x), a1] [.ref x] h := rP (i := (.aload_n 0)) rfl rfl
theorem e65_44 (d : Nat) (a0 a1 : Option Value) (s0 : Nat) (h : MH)  : rn d 65 44 [a0, a1] [.ref s0] h = rn d 65 47 [a0, a1] [.int 192, .ref s0] h := rP (i := (.sipush 192)) rfl rfl
theorem e65_47 (d : Nat) (a0 a1 : Option Value) (s0 : Int32) (s1 : Nat) (h : MH) (hz : ¬ s0 < 0 ∧ ¬ atag .int = 9 ∧ s0.toNatClampNeg ≤ 1000000) : rn d 65 47 [a0, a1] [.int s0, .ref s1] h = rn d 65 49 [a0, a1] [.ref h.1, .ref s1] (mkarr h 0 s0.toNatClampNeg (.inl (fun _ => 0))) := rNewa (t := .int) hz rfl
theorem e65_49 (d : Nat) (a0 a1 : Option Value) (s0 s1 : Nat) (h : MH)  : rn d 65 49 [a0, a1] [.ref s0, .ref s1] h = (fputh h s1 5 7 (.array .int) (.ref s0)).bind (fun h => rn d 65 52 [a0, a1] [] h) := rPut (idx := 26) rfl rfl
theorem e65_52 (d : Nat) (a1 : Option Value) (h : MH) (x : Nat) : rn d 65 52 [some (.ref x), a1] [] h = rn d 65 53 [some (.ref x), a1] [.ref x] h := rP (i := (.aload_n 0)) rfl rfl
theorem e65_53 (d : Nat) (a0 a1 : Option Value) (s0 : Nat) (h : MH)  : rn d 65 53 [a0, a1] [.ref s0] h = rn d 65 56 [a0, a1] [.int 192, .ref s0] h := rP (i := (.sipush 192)) rfl rfl
theorem e65_56 (d : Nat) (a0 a1 : Option Value) (s0 : Int32) (s1 : Nat) (h : MH) (hz : ¬ s0 < 0 ∧ ¬ atag .int = 9 ∧ s0.toNatClampNeg ≤ 1000000) : rn d 65 56 [a0, a1] [.int s0, .ref s1] h = rn d 65 58 [a0, a1] [.ref h.1, .ref s1] (mkarr h 0 s0.toNatClampNeg (.inl (fun _ => 0))) := rNewa (t := .int) hz rfl
theorem e65_58 (d : Nat) (a0 a1 : Option Value) (s0 s1 : Nat) (h : MH)  : rn d 65 58 [a0, a1] [.ref s0, .ref s1] h = (fputh h s1 5 8 (.array .int) (.ref s0)).bind (fun h => rn d 65 61 [a0, a1] [] h) := rPut (idx := 29) rfl rfl
theorem e65_61 (d : Nat) (a1 : Option Value) (h : MH) (x : Nat) : rn d 65 61 [some (.ref x), a1] [] h = rn d 65 62 [some (.ref x), a1] [.ref x] h := rP (i := (.aload_n 0)) rfl rfl
theorem e65_62 (d : Nat) (a0 a1 : Option Value) (s0 : Nat) (h : MH)  : rn d 65 62 [a0, a1] [.ref s0] h = rn d 65 65 [a0, a1] [.int 192, .ref s0] h := rP (i := (.sipush 192)) rfl rfl
theorem e65_65 (d : Nat) (a0 a1 : Option Value) (s0 : Int32) (s1 : Nat) (h : MH) (hz : ¬ s0 < 0 ∧ ¬ atag .int = 9 ∧ s0.toNatClampNeg ≤ 1000000) : rn d 65 65 [a0, a1] [.int s0, .ref s1] h = rn d 65 67 [a0, a1] [.ref h.1, .ref s1] (mkarr h 0 s0.toNatClampNeg (.inl (fun _ => 0))) := rNewa (t := .int) hz rfl
theorem e65_67 (d : Nat) (a0 a1 : Option Value) (s0 s1 : Nat) (h : MH)  : rn d 65 67 [a0, a1] [.ref s0, .ref s1] h = (fputh h s1 5 9 (.array .int) (.ref s0)).bind (fun h => rn d 65 70 [a0, a1] [] h) := rPut (idx := 32) rfl rfl
theorem e65_70 (d : Nat) (a1 : Option Value) (h : MH) (x : Nat) : rn d 65 70 [some (.ref x), a1] [] h = rn d 65 71 [some (.ref x), a1] [.ref x] h := rP (i := (.aload_n 0)) rfl rfl
theorem e65_71 (d : Nat) (a0 a1 : Option Value) (s0 : Nat) (h : MH)  : rn d 65 71 [a0, a1] [.ref s0] h = rn d 65 74 [a0, a1] [.int 192, .ref s0] h := rP (i := (.sipush 192)) rfl rfl
theorem e65_74 (d : Nat) (a0 a1 : Option Value) (s0 : Int32) (s1 : Nat) (h : MH) (hz : ¬ s0 < 0 ∧ ¬ atag .int = 9 ∧ s0.toNatClampNeg ≤ 1000000) : rn d 65 74 [a0, a1] [.int s0, .ref s1] h = rn d 65 76 [a0, a1] [.ref h.1, .ref s1] (mkarr h 0 s0.toNatClampNeg (.inl (fun _ => 0))) := rNewa (t := .int) hz rfl
theorem e65_76 (d : Nat) (a0 a1 : Option Value) (s0 s1 : Nat) (h : MH)  : rn d 65 76 [a0, a1] [.ref s0, .ref s1] h = (fputh h s1 5 10 (.array .int) (.ref s0)).bind (fun h => rn d 65 79 [a0, a1] [] h) := rPut (idx := 35) rfl rfl
theorem e65_79 (d : Nat) (a1 : Option Value) (h : MH) (x : Nat) : rn d 65 79 [some (.ref x), a1] [] h = rn d 65 80 [some (.ref x), a1] [.ref x] h := rP (i := (.aload_n 0)) rfl rfl
theorem e65_80 (d : Nat) (a0 a1 : Option Value) (s0 : Nat) (h : MH)  : rn d 65 80 [a0, a1] [.ref s0] h = rn d 65 83 [a0, a1] [.int 192, .ref s0] h := rP (i := (.sipush 192)) rfl rfl
theorem e65_83 (d : Nat) (a0 a1 : Option Value) (s0 : Int32) (s1 : Nat) (h : MH) (hz : ¬ s0 < 0 ∧ ¬ atag .boolean = 9 ∧ s0.toNatClampNeg ≤ 1000000) : rn d 65 83 [a0, a1] [.int s0, .ref s1] h = rn d 65 85 [a0, a1] [.ref h.1, .ref s1] (mkarr h 1 s0.toNatClampNeg (.inl (fun _ => 0))) := rNewa (t := .boolean) hz rfl
theorem e65_85 (d : Nat) (a0 a1 : Option Value) (s0 s1 : Nat) (h : MH)  : rn d 65 85 [a0, a1] [.ref s0, .ref s1] h = (fputh h s1 5 11 (.array .boolean) (.ref s0)).bind (fun h => rn d 65 88 [a0, a1] [] h) := rPut (idx := 38) rfl rfl
theorem e65_88 (d : Nat) (a1 : Option Value) (h : MH) (x : Nat) : rn d 65 88 [some (.ref x), a1] [] h = rn d 65 89 [some (.ref x), a1] [.ref x] h := rP (i := (.aload_n 0)) rfl rfl
theorem e65_89 (d : Nat) (a0 a1 : Option Value) (s0 : Nat) (h : MH)  : rn d 65 89 [a0, a1] [.ref s0] h = rn d 65 91 [a0, a1] [.int 24, .ref s0] h := rP (i := (.bipush 24)) rfl rfl
theorem e65_91 (d : Nat) (a0 a1 : Option Value) (s0 : Int32) (s1 : Nat) (h : MH) (hz : ¬ s0 < 0 ∧ ¬ atag .boolean = 9 ∧ s0.toNatClampNeg ≤ 1000000) : rn d 65 91 [a0, a1] [.int s0, .ref s1] h = rn d 65 93 [a0, a1] [.ref h.1, .ref s1] (mkarr h 1 s0.toNatClampNeg (.inl (fun _ => 0))) := rNewa (t := .boolean) hz rfl
theorem e65_93 (d : Nat) (a0 a1 : Option Value) (s0 s1 : Nat) (h : MH)  : rn d 65 93 [a0, a1] [.ref s0, .ref s1] h = (fputh h s1 5 12 (.array .boolean) (.ref s0)).bind (fun h => rn d 65 96 [a0, a1] [] h) := rPut (idx := 42) rfl rfl
theorem e65_96 (d : Nat) (a1 : Option Value) (h : MH) (x : Nat) : rn d 65 96 [some (.ref x), a1] [] h = rn d 65 97 [some (.ref x), a1] [.ref x] h := rP (i := (.aload_n 0)) rfl rfl
theorem e65_97 (d : Nat) (a0 a1 : Option Value) (s0 : Nat) (h : MH)  : rn d 65 97 [a0, a1] [.ref s0] h = rn d 65 99 [a0, a1] [.int 8, .ref s0] h := rP (i := (.bipush 8)) rfl rfl
theorem e65_99 (d : Nat) (a0 a1 : Option Value) (s0 : Int32) (s1 : Nat) (h : MH) (hz : ¬ s0 < 0 ∧ ¬ atag .int = 9 ∧ s0.toNatClampNeg ≤ 1000000) : rn d 65 99 [a0, a1] [.int s0, .ref s1] h = rn d 65 101 [a0, a1] [.ref h.1, .ref s1] (mkarr h 0 s0.toNatClampNeg (.inl (fun _ => 0))) := rNewa (t := .int) hz rfl
theorem e65_101 (d : Nat) (a0 a1 : Option Value) (s0 s1 : Nat) (h : MH)  : rn d 65 101 [a0, a1] [.ref s0, .ref s1] h = (fputh h s1 5 13 (.array .int) (.ref s0)).bind (fun h => rn d 65 104 [a0, a1] [] h) := rPut (idx := 45) rfl rfl
theorem e65_104 (d : Nat) (a1 : Option Value) (h : MH) (x : Nat) : rn d 65 104 [some (.ref x), a1] [] h = rn d 65 105 [some (.ref x), a1] [.ref x] h := rP (i := (.aload_n 0)) rfl rfl
theorem e65_105 (d : Nat) (a0 a1 : Option Value) (s0 : Nat) (h : MH)  : rn d 65 105 [a0, a1] [.ref s0] h = rn d 65 106 [a0, a1] [.int 4, .ref s0] h := rP (i := (.iconst 4)) rfl rfl
theorem e65_106 (d : Nat) (a0 a1 : Option Value) (s0 : Int32) (s1 : Nat) (h : MH) (hz : ¬ s0 < 0 ∧ ¬ atag .int = 9 ∧ s0.toNatClampNeg ≤ 1000000) : rn d 65 106 [a0, a1] [.int s0, .ref s1] h = rn d 65 108 [a0, a1] [.ref h.1, .ref s1] (mkarr h 0 s0.toNatClampNeg (.inl (fun _ => 0))) := rNewa (t := .int) hz rfl
theorem e65_108 (d : Nat) (a0 a1 : Option Value) (s0 s1 : Nat) (h : MH)  : rn d 65 108 [a0, a1] [.ref s0, .ref s1] h = (fputh h s1 5 14 (.array .int) (.ref s0)).bind (fun h => rn d 65 111 [a0, a1] [] h) := rPut (idx := 48) rfl rfl
theorem e65_111 (d : Nat) (a1 : Option Value) (h : MH) (x : Nat) : rn d 65 111 [some (.ref x), a1] [] h = rn d 65 112 [some (.ref x), a1] [.ref x] h := rP (i := (.aload_n 0)) rfl rfl
theorem e65_112 (d : Nat) (a0 a1 : Option Value) (s0 : Nat) (h : MH)  : rn d 65 112 [a0, a1] [.ref s0] h = rn d 65 114 [a0, a1] [.int 8, .ref s0] h := rP (i := (.bipush 8)) rfl rfl
theorem e65_114 (d : Nat) (a0 a1 : Option Value) (s0 : Int32) (s1 : Nat) (h : MH) (hz : ¬ s0 < 0 ∧ ¬ atag .boolean = 9 ∧ s0.toNatClampNeg ≤ 1000000) : rn d 65 114 [a0, a1] [.int s0, .ref s1] h = rn d 65 116 [a0, a1] [.ref h.1, .ref s1] (mkarr h 1 s0.toNatClampNeg (.inl (fun _ => 0))) := rNewa (t := .boolean) hz rfl
theorem e65_116 (d : Nat) (a0 a1 : Option Value) (s0 s1 : Nat) (h : MH)  : rn d 65 116 [a0, a1] [.ref s0, .ref s1] h = (fputh h s1 5 17 (.array .boolean) (.ref s0)).bind (fun h => rn d 65 119 [a0, a1] [] h) := rPut (idx := 51) rfl rfl
theorem e65_119 (d : Nat) (a1 : Option Value) (h : MH) (x : Nat) : rn d 65 119 [some (.ref x), a1] [] h = rn d 65 120 [some (.ref x), a1] [.ref x] h := rP (i := (.aload_n 0)) rfl rfl
theorem e65_120 (d : Nat) (a0 a1 : Option Value) (s0 : Nat) (h : MH)  : rn d 65 120 [a0, a1] [.ref s0] h = rn d 65 122 [a0, a1] [.int 8, .ref s0] h := rP (i := (.bipush 8)) rfl rfl
theorem e65_122 (d : Nat) (a0 a1 : Option Value) (s0 : Int32) (s1 : Nat) (h : MH) (hz : ¬ s0 < 0 ∧ ¬ atag .boolean = 9 ∧ s0.toNatClampNeg ≤ 1000000) : rn d 65 122 [a0, a1] [.int s0, .ref s1] h = rn d 65 124 [a0, a1] [.ref h.1, .ref s1] (mkarr h 1 s0.toNatClampNeg (.inl (fun _ => 0))) := rNewa (t := .boolean) hz rfl
theorem e65_124 (d : Nat) (a0 a1 : Option Value) (s0 s1 : Nat) (h : MH)  : rn d 65 124 [a0, a1] [.ref s0, .ref s1] h = (fputh h s1 5 18 (.array .boolean) (.ref s0)).bind (fun h => rn d 65 127 [a0, a1] [] h) := rPut (idx := 54) rfl rfl
theorem e65_127 (d : Nat) (a1 : Option Value) (h : MH) (x : Nat) : rn d 65 127 [some (.ref x), a1] [] h = rn d 65 128 [some (.ref x), a1] [.ref x] h := rP (i := (.aload_n 0)) rfl rfl
theorem e65_128 (d : Nat) (a0 a1 : Option Value) (s0 : Nat) (h : MH)  : rn d 65 128 [a0, a1] [.ref s0] h = rn d 65 130 [a0, a1] [.int 64, .ref s0] h := rP (i := (.bipush 64)) rfl rfl
theorem e65_130 (d : Nat) (a0 a1 : Option Value) (s0 : Int32) (s1 : Nat) (h : MH) (hz : ¬ s0 < 0 ∧ ¬ atag .boolean = 9 ∧ s0.toNatClampNeg ≤ 1000000) : rn d 65 130 [a0, a1] [.int s0, .ref s1] h = rn d 65 132 [a0, a1] [.ref h.1, .ref s1] (mkarr h 1 s0.toNatClampNeg (.inl (fun _ => 0))) := rNewa (t := .boolean) hz rfl
theorem e65_132 (d : Nat) (a0 a1 : Option Value) (s0 s1 : Nat) (h : MH)  : rn d 65 132 [a0, a1] [.ref s0, .ref s1] h = (fputh h s1 5 19 (.array .boolean) (.ref s0)).bind (fun h => rn d 65 135 [a0, a1] [] h) := rPut (idx := 57) rfl rfl
theorem e65_135 (d : Nat) (a1 : Option Value) (h : MH) (x : Nat) : rn d 65 135 [some (.ref x), a1] [] h = rn d 65 136 [some (.ref x), a1] [.ref x] h := rP (i := (.aload_n 0)) rfl rfl
theorem e65_136 (d : Nat) (a0 a1 : Option Value) (s0 : Nat) (h : MH)  : rn d 65 136 [a0, a1] [.ref s0] h = rn d 65 138 [a0, a1] [.int 8, .ref s0] h := rP (i := (.bipush 8)) rfl rfl
theorem e65_138 (d : Nat) (a0 a1 : Option Value) (s0 : Int32) (s1 : Nat) (h : MH) (hz : ¬ s0 < 0 ∧ ¬ atag .int = 9 ∧ s0.toNatClampNeg ≤ 1000000) : rn d 65 138 [a0, a1] [.int s0, .ref s1] h = rn d 65 140 [a0, a1] [.ref h.1, .ref s1] (mkarr h 0 s0.toNatClampNeg (.inl (fun _ => 0))) := rNewa (t := .int) hz rfl
theorem e65_140 (d : Nat) (a0 a1 : Option Value) (s0 s1 : Nat) (h : MH)  : rn d 65 140 [a0, a1] [.ref s0, .ref s1] h = (fputh h s1 5 20 (.array .int) (.ref s0)).bind (fun h => rn d 65 143 [a0, a1] [] h) := rPut (idx := 60) rfl rfl
theorem e65_143 (d : Nat) (a1 : Option Value) (h : MH) (x : Nat) : rn d 65 143 [some (.ref x), a1] [] h = rn d 65 144 [some (.ref x), a1] [.ref x] h := rP (i := (.aload_n 0)) rfl rfl
theorem e65_144 (d : Nat) (a0 a1 : Option Value) (s0 : Nat) (h : MH)  : rn d 65 144 [a0, a1] [.ref s0] h = rn d 65 146 [a0, a1] [.int 8, .ref s0] h := rP (i := (.bipush 8)) rfl rfl
theorem e65_146 (d : Nat) (a0 a1 : Option Value) (s0 : Int32) (s1 : Nat) (h : MH) (hz : ¬ s0 < 0 ∧ ¬ atag .int = 9 ∧ s0.toNatClampNeg ≤ 1000000) : rn d 65 146 [a0, a1] [.int s0, .ref s1] h = rn d 65 148 [a0, a1] [.ref h.1, .ref s1] (mkarr h 0 s0.toNatClampNeg (.inl (fun _ => 0))) := rNewa (t := .int) hz rfl
theorem e65_148 (d : Nat) (a0 a1 : Option Value) (s0 s1 : Nat) (h : MH)  : rn d 65 148 [a0, a1] [.ref s0, .ref s1] h = (fputh h s1 5 21 (.array .int) (.ref s0)).bind (fun h => rn d 65 151 [a0, a1] [] h) := rPut (idx := 63) rfl rfl
theorem e65_151 (d : Nat) (a1 : Option Value) (h : MH) (x : Nat) : rn d 65 151 [some (.ref x), a1] [] h = rn d 65 152 [some (.ref x), a1] [.ref x] h := rP (i := (.aload_n 0)) rfl rfl
theorem e65_152 (d : Nat) (a0 a1 : Option Value) (s0 : Nat) (h : MH)  : rn d 65 152 [a0, a1] [.ref s0] h = rn d 65 154 [a0, a1] [.int 9, .ref s0] h := rP (i := (.bipush 9)) rfl rfl
theorem e65_154 (d : Nat) (a0 a1 : Option Value) (s0 : Int32) (s1 : Nat) (h : MH) (hz : ¬ s0 < 0 ∧ ¬ atag .int = 9 ∧ s0.toNatClampNeg ≤ 1000000) : rn d 65 154 [a0, a1] [.int s0, .ref s1] h = rn d 65 156 [a0, a1] [.ref h.1, .ref s1] (mkarr h 0 s0.toNatClampNeg (.inl (fun _ => 0))) := rNewa (t := .int) hz rfl
theorem e65_156 (d : Nat) (a0 a1 : Option Value) (s0 s1 : Nat) (h : MH)  : rn d 65 156 [a0, a1] [.ref s0, .ref s1] h = (fputh h s1 5 22 (.array .int) (.ref s0)).bind (fun h => rn d 65 159 [a0, a1] [] h) := rPut (idx := 66) rfl rfl
theorem e65_159 (d : Nat) (a1 : Option Value) (h : MH) (x : Nat) : rn d 65 159 [some (.ref x), a1] [] h = rn d 65 160 [some (.ref x), a1] [.ref x] h := rP (i := (.aload_n 0)) rfl rfl
theorem e65_160 (d : Nat) (a0 a1 : Option Value) (s0 : Nat) (h : MH)  : rn d 65 160 [a0, a1] [.ref s0] h = rn d 65 162 [a0, a1] [.int 24, .ref s0] h := rP (i := (.bipush 24)) rfl rfl
theorem e65_162 (d : Nat) (a0 a1 : Option Value) (s0 : Int32) (s1 : Nat) (h : MH) (hz : ¬ s0 < 0 ∧ ¬ atag .int = 9 ∧ s0.toNatClampNeg ≤ 1000000) : rn d 65 162 [a0, a1] [.int s0, .ref s1] h = rn d 65 164 [a0, a1] [.ref h.1, .ref s1] (mkarr h 0 s0.toNatClampNeg (.inl (fun _ => 0))) := rNewa (t := .int) hz rfl
theorem e65_164 (d : Nat) (a0 a1 : Option Value) (s0 s1 : Nat) (h : MH)  : rn d 65 164 [a0, a1] [.ref s0, .ref s1] h = (fputh h s1 5 23 (.array .int) (.ref s0)).bind (fun h => rn d 65 167 [a0, a1] [] h) := rPut (idx := 69) rfl rfl
theorem e65_167 (d : Nat) (a0 a1 : Option Value) (h : MH)  : rn d 65 167 [a0, a1] [] h = rn d 65 168 [a0, a1] [.int 0] h := rP (i := (.iconst 0)) rfl rfl
theorem e65_168 (d : Nat) (a0 a1 : Option Value) (s0 : Int32) (h : MH)  : rn d 65 168 [a0, a1] [.int s0] h = rn d 65 169 [a0, some (.int s0)] [] h := rP (i := (.istore_n 1)) rfl rfl
theorem e65_169 (d : Nat) (a0 : Option Value) (h : MH) (x : Int32) : rn d 65 169 [a0, some (.int x)] [] h = rn d 65 170 [a0, some (.int x)] [.int x] h := rP (i := (.iload_n 1)) rfl rfl
theorem e65_170 (d : Nat) (a0 a1 : Option Value) (s0 : Int32) (h : MH)  : rn d 65 170 [a0, a1] [.int s0] h = rn d 65 172 [a0, a1] [.int 8, .int s0] h := rP (i := (.bipush 8)) rfl rfl
theorem e65_172 (d : Nat) (a0 a1 : Option Value) (s0 s1 : Int32) (h : MH)  : rn d 65 172 [a0, a1] [.int s0, .int s1] h = if s1 < s0 then rn d 65 175 [a0, a1] [] h else rn d 65 188 [a0, a1] [] h := rGe2 (off := 16) 188 rfl rfl
theorem e65_175 (d : Nat) (a1 : Option Value) (h : MH) (x : Nat) : rn d 65 175 [some (.ref x), a1] [] h = rn d 65 176 [some (.ref x), a1] [.ref x] h := rP (i := (.aload_n 0)) rfl rfl
theorem e65_176 (d : Nat) (a0 a1 : Option Value) (s0 : Nat) (h : MH)  : rn d 65 176 [a0, a1] [.ref s0] h = (fgetv h s0 5 13).bind (fun v => rn d 65 179 [a0, a1] [v] h) := rGet (idx := 45) rfl rfl
theorem e65_179 (d : Nat) (a0 : Option Value) (s0 : Nat) (h : MH) (x : Int32) : rn d 65 179 [a0, some (.int x)] [.ref s0] h = rn d 65 180 [a0, some (.int x)] [.int x, .ref s0] h := rP (i := (.iload_n 1)) rfl rfl
theorem e65_180 (d : Nat) (a0 a1 : Option Value) (s0 : Int32) (s1 : Nat) (h : MH)  : rn d 65 180 [a0, a1] [.int s0, .ref s1] h = rn d 65 181 [a0, a1] [.int (-1), .int s0, .ref s1] h := rP (i := (.iconst (-1))) rfl rfl
theorem e65_181 (d : Nat) (a0 a1 : Option Value) (s0 s1 : Int32) (s2 : Nat) (h : MH)  : rn d 65 181 [a0, a1] [.int s0, .int s1, .ref s2] h = (aputi h 0 s2 s1 s0).bind (fun h => rn d 65 182 [a0, a1] [] h) := rIast rfl
theorem e65_182 (d : Nat) (a0 : Option Value) (h : MH) (x : Int32) : rn d 65 182 [a0, some (.int x)] [] h = rn d 65 185 [a0, some (.int (x + 1))] [] h := rP (i := (.iinc 1 1)) rfl rfl
theorem e65_185 (d : Nat) (a0 a1 : Option Value) (h : MH)  : rn d 65 185 [a0, a1] [] h = rn d 65 169 [a0, a1] [] h := rP (i := (.goto (-16))) rfl rfl
theorem e65_188 (d : Nat) (a0 a1 : Option Value) (h : MH)  : rn d 65 188 [a0, a1] [] h = some (none, h) := rVret rfl rfl
-- 66: FlowEquationsModel.type(I)I
theorem e66_0 (d : Nat) (a0 a2 : Option Value) (h : MH) (x : Int32) : rn d 66 0 [a0, some (.int x), a2] [] h = rn d 66 1 [a0, some (.int x), a2] [.int x] h := rP (i := (.iload_n 1)) rfl rfl
theorem e66_1 (d : Nat) (a0 a1 a2 : Option Value) (s0 : Int32) (h : MH)  : rn d 66 1 [a0, a1, a2] [.int s0] h = rn d 66 3 [a0, a1, a2] [.int 33, .int s0] h := rP (i := (.bipush 33)) rfl rfl
theorem e66_3 (d : Nat) (a0 a1 a2 : Option Value) (s0 s1 : Int32) (h : MH)  : rn d 66 3 [a0, a1, a2] [.int s0, .int s1] h = if s1 = s0 then rn d 66 36 [a0, a1, a2] [] h else rn d 66 6 [a0, a1, a2] [] h := rEq2 (off := 33) 36 rfl rfl
theorem e66_6 (d : Nat) (a0 a2 : Option Value) (h : MH) (x : Int32) : rn d 66 6 [a0, some (.int x), a2] [] h = rn d 66 7 [a0, some (.int x), a2] [.int x] h := rP (i := (.iload_n 1)) rfl rfl
theorem e66_7 (d : Nat) (a0 a1 a2 : Option Value) (s0 : Int32) (h : MH)  : rn d 66 7 [a0, a1, a2] [.int s0] h = rn d 66 9 [a0, a1, a2] [.int 63, .int s0] h := rP (i := (.bipush 63)) rfl rfl
theorem e66_9 (d : Nat) (a0 a1 a2 : Option Value) (s0 s1 : Int32) (h : MH)  : rn d 66 9 [a0, a1, a2] [.int s0, .int s1] h = if s1 = s0 then rn d 66 36 [a0, a1, a2] [] h else rn d 66 12 [a0, a1, a2] [] h := rEq2 (off := 27) 36 rfl rfl
theorem e66_12 (d : Nat) (a0 a2 : Option Value) (h : MH) (x : Int32) : rn d 66 12 [a0, some (.int x), a2] [] h = rn d 66 13 [a0, some (.int x), a2] [.int x] h := rP (i := (.iload_n 1)) rfl rfl
theorem e66_13 (d : Nat) (a0 a1 a2 : Option Value) (s0 : Int32) (h : MH)  : rn d 66 13 [a0, a1, a2] [.int s0] h = rn d 66 15 [a0, a1, a2] [.int 80, .int s0] h := rP (i := (.bipush 80)) rfl rfl
theorem e66_15 (d : Nat) (a0 a1 a2 : Option Value) (s0 s1 : Int32) (h : MH)  : rn d 66 15 [a0, a1, a2] [.int s0, .int s1] h = if s1 = s0 then rn d 66 36 [a0, a1, a2] [] h else rn d 66 18 [a0, a1, a2] [] h := rEq2 (off := 21) 36 rfl rfl
theorem e66_18 (d : Nat) (a0 a2 : Option Value) (h : MH) (x : Int32) : rn d 66 18 [a0, some (.int x), a2] [] h = rn d 66 19 [a0, some (.int x), a2] [.int x] h := rP (i := (.iload_n 1)) rfl rfl
theorem e66_19 (d : Nat) (a0 a1 a2 : Option Value) (s0 : Int32) (h : MH)  : rn d 66 19 [a0, a1, a2] [.int s0] h = rn d 66 21 [a0, a1, a2] [.int 70, .int s0] h := rP (i := (.bipush 70)) rfl rfl
theorem e66_21 (d : Nat) (a0 a1 a2 : Option Value) (s0 s1 : Int32) (h : MH)  : rn d 66 21 [a0, a1, a2] [.int s0, .int s1] h = if s1 = s0 then rn d 66 36 [a0, a1, a2] [] h else rn d 66 24 [a0, a1, a2] [] h := rEq2 (off := 15) 36 rfl rfl
theorem e66_24 (d : Nat) (a0 a2 : Option Value) (h : MH) (x : Int32) : rn d 66 24 [a0, some (.int x), a2] [] h = rn d 66 25 [a0, some (.int x), a2] [.int x] h := rP (i := (.iload_n 1)) rfl rfl
theorem e66_25 (d : Nat) (a0 a1 a2 : Option Value) (s0 : Int32) (h : MH)  : rn d 66 25 [a0, a1, a2] [.int s0] h = rn d 66 27 [a0, a1, a2] [.int 87, .int s0] h := rP (i := (.bipush 87)) rfl rfl
theorem e66_27 (d : Nat) (a0 a1 a2 : Option Value) (s0 s1 : Int32) (h : MH)  : rn d 66 27 [a0, a1, a2] [.int s0, .int s1] h = if s1 = s0 then rn d 66 36 [a0, a1, a2] [] h else rn d 66 30 [a0, a1, a2] [] h := rEq2 (off := 9) 36 rfl rfl
theorem e66_30 (d : Nat) (a0 a2 : Option Value) (h : MH) (x : Int32) : rn d 66 30 [a0, some (.int x), a2] [] h = rn d 66 31 [a0, some (.int x), a2] [.int x] h := rP (i := (.iload_n 1)) rfl rfl
theorem e66_31 (d : Nat) (a0 a1 a2 : Option Value) (s0 : Int32) (h : MH)  : rn d 66 31 [a0, a1, a2] [.int s0] h = rn d 66 33 [a0, a1, a2] [.int 67, .int s0] h := rP (i := (.bipush 67)) rfl rfl
theorem e66_33 (d : Nat) (a0 a1 a2 : Option Value) (s0 s1 : Int32) (h : MH)  : rn d 66 33 [a0, a1, a2] [.int s0, .int s1] h = if s1 = s0 then rn d 66 36 [a0, a1, a2] [] h else rn d 66 40 [a0, a1, a2] [] h := rNe2 (off := 7) 40 rfl rfl
theorem e66_36 (d : Nat) (a0 a1 a2 : Option Value) (h : MH)  : rn d 66 36 [a0, a1, a2] [] h = rn d 66 37 [a0, a1, a2] [.int 1] h := rP (i := (.iconst 1)) rfl rfl
theorem e66_37 (d : Nat) (a0 a1 a2 : Option Value) (s0 : Int32) (h : MH)  : rn d 66 37 [a0, a1, a2] [.int s0] h = rn d 66 41 [a0, a1, a2] [.int s0] h := rP (i := (.goto 4)) rfl rfl
theorem e66_40 (d : Nat) (a0 a1 a2 : Option Value) (h : MH)  : rn d 66 40 [a0, a1, a2] [] h = rn d 66 41 [a0, a1, a2] [.int 0] h := rP (i := (.iconst 0)) rfl rfl
theorem e66_41 (d : Nat) (a0 a1 a2 : Option Value) (s0 : Int32) (h : MH)  : rn d 66 41 [a0, a1, a2] [.int s0] h = rn d 66 42 [a0, a1, some (.int s0)] [] h := rP (i := (.istore_n 2)) rfl rfl
theorem e66_42 (d : Nat) (a0 a2 : Option Value) (h : MH) (x : Int32) : rn d 66 42 [a0, some (.int x), a2] [] h = rn d 66 43 [a0, some (.int x), a2] [.int x] h := rP (i := (.iload_n 1)) rfl rfl
theorem e66_43 (d : Nat) (a0 a1 a2 : Option Value) (s0 : Int32) (h : MH)  : rn (d + 1) 66 43 [a0, a1, a2] [.int s0] h = (rn d 67 0 [some (.int s0)] [] h).bind (fun R => rn (d + 1) 66 46 [a0, a1, a2] (R.1.toList ++ []) R.2) := rInv (i := (.invokestatic 72)) (n := 1) (tl := [454, 455, 58]) rfl rfl rfl rfl (by decide) (Nat.le_of_ble_eq_true rfl) (Nat.le_of_ble_eq_true rfl) (Nat.le_of_ble_eq_true rfl) rfl
theorem e66_46 (d : Nat) (a0 a1 a2 : Option Value) (s0 : Int32) (h : MH)  : rn d 66 46 [a0, a1, a2] [.int s0] h = if s0 = 0 then rn d 66 49 [a0, a1, a2] [] h else rn d 66 76 [a0, a1, a2] [] h := rNe1 (off := 30) 76 rfl rfl
theorem e66_49 (d : Nat) (a0 a2 : Option Value) (h : MH) (x : Int32) : rn d 66 49 [a0, some (.int x), a2] [] h = rn d 66 50 [a0, some (.int x), a2] [.int x] h := rP (i := (.iload_n 1)) rfl rfl
theorem e66_50 (d : Nat) (a0 a1 a2 : Option Value) (s0 : Int32) (h : MH)  : rn (d + 1) 66 50 [a0, a1, a2] [.int s0] h = (rn d 68 0 [some (.int s0)] [] h).bind (fun R => rn (d + 1) 66 53 [a0, a1, a2] (R.1.toList ++ []) R.2) := rInv (i := (.invokestatic 76)) (n := 1) (tl := [457, 458, 58]) rfl rfl rfl rfl (by decide) (Nat.le_of_ble_eq_true rfl) (Nat.le_of_ble_eq_true rfl) (Nat.le_of_ble_eq_true rfl) rfl
theorem e66_53 (d : Nat) (a0 a1 a2 : Option Value) (s0 : Int32) (h : MH)  : rn d 66 53 [a0, a1, a2] [.int s0] h = if s0 = 0 then rn d 66 56 [a0, a1, a2] [] h else rn d 66 76 [a0, a1, a2] [] h := rNe1 (off := 23) 76 rfl rfl
theorem e66_56 (d : Nat) (a0 a2 : Option Value) (h : MH) (x : Int32) : rn d 66 56 [a0, some (.int x), a2] [] h = rn d 66 57 [a0, some (.int x), a2] [.int x] h := rP (i := (.iload_n 1)) rfl rfl
theorem e66_57 (d : Nat) (a0 a1 a2 : Option Value) (s0 : Int32) (h : MH)  : rn (d + 1) 66 57 [a0, a1, a2] [.int s0] h = (rn d 69 0 [some (.int s0)] [] h).bind (fun R => rn (d + 1) 66 60 [a0, a1, a2] (R.1.toList ++ []) R.2) := rInv (i := (.invokestatic 79)) (n := 1) (tl := [460, 461, 58]) rfl rfl rfl rfl (by decide) (Nat.le_of_ble_eq_true rfl) (Nat.le_of_ble_eq_true rfl) (Nat.le_of_ble_eq_true rfl) rfl
theorem e66_60 (d : Nat) (a0 a1 a2 : Option Value) (s0 : Int32) (h : MH)  : rn d 66 60 [a0, a1, a2] [.int s0] h = if s0 = 0 then rn d 66 63 [a0, a1, a2] [] h else rn d 66 76 [a0, a1, a2] [] h := rNe1 (off := 16) 76 rfl rfl
theorem e66_63 (d : Nat) (a0 a2 : Option Value) (h : MH) (x : Int32) : rn d 66 63 [a0, some (.int x), a2] [] h = rn d 66 64 [a0, some (.int x), a2] [.int x] h := rP (i := (.iload_n 1)) rfl rfl
theorem e66_64 (d : Nat) (a0 a1 a2 : Option Value) (s0 : Int32) (h : MH)  : rn (d + 1) 66 64 [a0, a1, a2] [.int s0] h = (rn d 70 0 [some (.int s0)] [] h).bind (fun R => rn (d + 1) 66 67 [a0, a1, a2] (R.1.toList ++ []) R.2) := rInv (i := (.invokestatic 82)) (n := 1) (tl := [463, 464, 58]) rfl rfl rfl rfl (by decide) (Nat.le_of_ble_eq_true rfl) (Nat.le_of_ble_eq_true rfl) (Nat.le_of_ble_eq_true rfl) rfl
theorem e66_67 (d : Nat) (a0 a1 a2 : Option Value) (s0 : Int32) (h : MH)  : rn d 66 67 [a0, a1, a2] [.int s0] h = if s0 = 0 then rn d 66 70 [a0, a1, a2] [] h else rn d 66 76 [a0, a1, a2] [] h := rNe1 (off := 9) 76 rfl rfl
theorem e66_70 (d : Nat) (a0 a1 : Option Value) (h : MH) (x : Int32) : rn d 66 70 [a0, a1, some (.int x)] [] h = rn d 66 71 [a0, a1, some (.int x)] [.int x] h := rP (i := (.iload_n 2)) rfl rfl
theorem e66_71 (d : Nat) (a0 a1 a2 : Option Value) (s0 : Int32) (h : MH)  : rn d 66 71 [a0, a1, a2] [.int s0] h = if s0 = 0 then rn d 66 74 [a0, a1, a2] [] h else rn d 66 76 [a0, a1, a2] [] h := rNe1 (off := 5) 76 rfl rfl
theorem e66_74 (d : Nat) (a0 a1 a2 : Option Value) (h : MH)  : rn d 66 74 [a0, a1, a2] [] h = rn d 66 75 [a0, a1, a2] [.int (-1)] h := rP (i := (.iconst (-1))) rfl rfl
theorem e66_75 (d : Nat) (a0 a1 a2 : Option Value) (s0 : Int32) (h : MH)  : rn d 66 75 [a0, a1, a2] [.int s0] h = some (some (.int s0), h) := rIret rfl rfl
theorem e66_76 (d : Nat) (a1 a2 : Option Value) (h : MH) (x : Nat) : rn d 66 76 [some (.ref x), a1, a2] [] h = rn d 66 77 [some (.ref x), a1, a2] [.ref x] h := rP (i := (.aload_n 0)) rfl rfl
theorem e66_77 (d : Nat) (a0 a1 a2 : Option Value) (s0 : Nat) (h : MH)  : rn d 66 77 [a0, a1, a2] [.ref s0] h = (fgetv h s0 5 1).bind (fun v => rn d 66 80 [a0, a1, a2] [v] h) := rGet (idx := 85) rfl rfl
theorem e66_80 (d : Nat) (a0 a1 a2 : Option Value) (s0 : Int32) (h : MH)  : rn d 66 80 [a0, a1, a2] [.int s0] h = rn d 66 82 [a0, a1, a2] [.int 24, .int s0] h := rP (i := (.bipush 24)) rfl rfl
theorem e66_82 (d : Nat) (a0 a1 a2 : Option Value) (s0 s1 : Int32) (h : MH)  : rn d 66 82 [a0, a1, a2] [.int s0, .int s1] h = if s1 = s0 then rn d 66 85 [a0, a1, a2] [] h else rn d 66 88 [a0, a1, a2] [] h := rNe2 (off := 6) 88 rfl rfl
theorem e66_85 (d : Nat) (a0 a1 a2 : Option Value) (h : MH)  : rn d 66 85 [a0, a1, a2] [] h = rn d 66 87 [a0, a1, a2] [.int (-2)] h := rP (i := (.bipush (-2))) rfl rfl
theorem e66_87 (d : Nat) (a0 a1 a2 : Option Value) (s0 : Int32) (h : MH)  : rn d 66 87 [a0, a1, a2] [.int s0] h = some (some (.int s0), h) := rIret rfl rfl
theorem e66_88 (d : Nat) (a1 a2 : Option Value) (h : MH) (x : Nat) : rn d 66 88 [some (.ref x), a1, a2] [] h = rn d 66 89 [some (.ref x), a1, a2] [.ref x] h := rP (i := (.aload_n 0)) rfl rfl
theorem e66_89 (d : Nat) (a0 a1 a2 : Option Value) (s0 : Nat) (h : MH)  : rn d 66 89 [a0, a1, a2] [.ref s0] h = (fgetv h s0 5 0).bind (fun v => rn d 66 92 [a0, a1, a2] [v] h) := rGet (idx := 7) rfl rfl
theorem e66_92 (d : Nat) (a1 a2 : Option Value) (s0 : Nat) (h : MH) (x : Nat) : rn d 66 92 [some (.ref x), a1, a2] [.ref s0] h = rn d 66 93 [some (.ref x), a1, a2] [.ref x, .ref s0] h := rP (i := (.aload_n 0)) rfl rfl
theorem e66_93 (d : Nat) (a0 a1 a2 : Option Value) (s0 s1 : Nat) (h : MH)  : rn d 66 93 [a0, a1, a2] [.ref s0, .ref s1] h = (fgetv h s0 5 1).bind (fun v => rn d 66 96 [a0, a1, a2] [v, .ref s1] h) := rGet (idx := 85) rfl rfl
theorem e66_96 (d : Nat) (a0 a2 : Option Value) (s0 : Int32) (s1 : Nat) (h : MH) (x : Int32) : rn d 66 96 [a0, some (.int x), a2] [.int s0, .ref s1] h = rn d 66 97 [a0, some (.int x), a2] [.int x, .int s0, .ref s1] h := rP (i := (.iload_n 1)) rfl rfl
theorem e66_97 (d : Nat) (a0 a1 a2 : Option Value) (s0 s1 : Int32) (s2 : Nat) (h : MH)  : rn d 66 97 [a0, a1, a2] [.int s0, .int s1, .ref s2] h = (aputi h 0 s2 s1 s0).bind (fun h => rn d 66 98 [a0, a1, a2] [] h) := rIast rfl
theorem e66_98 (d : Nat) (a1 a2 : Option Value) (h : MH) (x : Nat) : rn d 66 98 [some (.ref x), a1, a2] [] h = rn d 66 99 [some (.ref x), a1, a2] [.ref x] h := rP (i := (.aload_n 0)) rfl rfl
theorem e66_99 (d : Nat) (a0 a1 a2 : Option Value) (s0 : Nat) (h : MH)  : rn d 66 99 [a0, a1, a2] [.ref s0] h = rn d 66 100 [a0, a1, a2] [.ref s0, .ref s0] h := rP (i := (.dup)) rfl rfl
theorem e66_100 (d : Nat) (a0 a1 a2 : Option Value) (s0 s1 : Nat) (h : MH)  : rn d 66 100 [a0, a1, a2] [.ref s0, .ref s1] h = (fgetv h s0 5 1).bind (fun v => rn d 66 103 [a0, a1, a2] [v, .ref s1] h) := rGet (idx := 85) rfl rfl
theorem e66_103 (d : Nat) (a0 a1 a2 : Option Value) (s0 : Int32) (s1 : Nat) (h : MH)  : rn d 66 103 [a0, a1, a2] [.int s0, .ref s1] h = rn d 66 104 [a0, a1, a2] [.int 1, .int s0, .ref s1] h := rP (i := (.iconst 1)) rfl rfl
theorem e66_104 (d : Nat) (a0 a1 a2 : Option Value) (s0 s1 : Int32) (s2 : Nat) (h : MH)  : rn d 66 104 [a0, a1, a2] [.int s0, .int s1, .ref s2] h = rn d 66 105 [a0, a1, a2] [.int (s1 + s0), .ref s2] h := rP (i := (.iadd)) rfl rfl
theorem e66_105 (d : Nat) (a0 a1 a2 : Option Value) (s0 : Int32) (s1 : Nat) (h : MH)  : rn d 66 105 [a0, a1, a2] [.int s0, .ref s1] h = (fputh h s1 5 1 .int (.int s0)).bind (fun h => rn d 66 108 [a0, a1, a2] [] h) := rPut (idx := 85) rfl rfl
theorem e66_108 (d : Nat) (a1 a2 : Option Value) (h : MH) (x : Nat) : rn d 66 108 [some (.ref x), a1, a2] [] h = rn d 66 109 [some (.ref x), a1, a2] [.ref x] h := rP (i := (.aload_n 0)) rfl rfl
theorem e66_109 (d : Nat) (a0 a1 a2 : Option Value) (s0 : Nat) (h : MH)  : rn d 66 109 [a0, a1, a2] [.ref s0] h = (fgetv h s0 5 1).bind (fun v => rn d 66 112 [a0, a1, a2] [v] h) := rGet (idx := 85) rfl rfl
theorem e66_112 (d : Nat) (a0 a1 a2 : Option Value) (s0 : Int32) (h : MH)  : rn d 66 112 [a0, a1, a2] [.int s0] h = some (some (.int s0), h) := rIret rfl rfl
-- 67: FlowEquationsModel.digit(I)Z
theorem e67_0 (d : Nat) (h : MH) (x : Int32) : rn d 67 0 [some (.int x)] [] h = rn d 67 1 [some (.int x)] [.int x] h := rP (i := (.iload_n 0)) rfl rfl
theorem e67_1 (d : Nat) (a0 : Option Value) (s0 : Int32) (h : MH)  : rn d 67 1 [a0] [.int s0] h = rn d 67 3 [a0] [.int 48, .int s0] h := rP (i := (.bipush 48)) rfl rfl
theorem e67_3 (d : Nat) (a0 : Option Value) (s0 s1 : Int32) (h : MH)  : rn d 67 3 [a0] [.int s0, .int s1] h = if s1 < s0 then rn d 67 16 [a0] [] h else rn d 67 6 [a0] [] h := rLt2 (off := 13) 16 rfl rfl
theorem e67_6 (d : Nat) (h : MH) (x : Int32) : rn d 67 6 [some (.int x)] [] h = rn d 67 7 [some (.int x)] [.int x] h := rP (i := (.iload_n 0)) rfl rfl
theorem e67_7 (d : Nat) (a0 : Option Value) (s0 : Int32) (h : MH)  : rn d 67 7 [a0] [.int s0] h = rn d 67 9 [a0] [.int 57, .int s0] h := rP (i := (.bipush 57)) rfl rfl
theorem e67_9 (d : Nat) (a0 : Option Value) (s0 s1 : Int32) (h : MH)  : rn d 67 9 [a0] [.int s0, .int s1] h = if s0 < s1 then rn d 67 16 [a0] [] h else rn d 67 12 [a0] [] h := rGt2 (off := 7) 16 rfl rfl
theorem e67_12 (d : Nat) (a0 : Option Value) (h : MH)  : rn d 67 12 [a0] [] h = rn d 67 13 [a0] [.int 1] h := rP (i := (.iconst 1)) rfl rfl
theorem e67_13 (d : Nat) (a0 : Option Value) (s0 : Int32) (h : MH)  : rn d 67 13 [a0] [.int s0] h = rn d 67 17 [a0] [.int s0] h := rP (i := (.goto 4)) rfl rfl
theorem e67_16 (d : Nat) (a0 : Option Value) (h : MH)  : rn d 67 16 [a0] [] h = rn d 67 17 [a0] [.int 0] h := rP (i := (.iconst 0)) rfl rfl
theorem e67_17 (d : Nat) (a0 : Option Value) (s0 : Int32) (h : MH) (hz : s0 &&& 1 = s0) : rn d 67 17 [a0] [.int s0] h = some (some (.int s0), h) := rIretZ hz rfl rfl
theorem e67_17q0 (d : Nat) (a0 : Option Value)  (h : MH) : rn d 67 17 [a0] [.int 0] h = some (some (.int 0), h) := rIretZ rfl rfl rfl
theorem e67_17q1 (d : Nat) (a0 : Option Value)  (h : MH) : rn d 67 17 [a0] [.int 1] h = some (some (.int 1), h) := rIretZ rfl rfl rfl
-- 68: FlowEquationsModel.variable(I)Z
theorem e68_0 (d : Nat) (h : MH) (x : Int32) : rn d 68 0 [some (.int x)] [] h = rn d 68 1 [some (.int x)] [.int x] h := rP (i := (.iload_n 0)) rfl rfl
theorem e68_1 (d : Nat) (a0 : Option Value) (s0 : Int32) (h : MH)  : rn d 68 1 [a0] [.int s0] h = rn d 68 3 [a0] [.int 97, .int s0] h := rP (i := (.bipush 97)) rfl rfl
theorem e68_3 (d : Nat) (a0 : Option Value) (s0 s1 : Int32) (h : MH)  : rn d 68 3 [a0] [.int s0, .int s1] h = if s1 < s0 then rn d 68 16 [a0] [] h else rn d 68 6 [a0] [] h := rLt2 (off := 13) 16 rfl rfl
theorem e68_6 (d : Nat) (h : MH) (x : Int32) : rn d 68 6 [some (.int x)] [] h = rn d 68 7 [some (.int x)] [.int x] h := rP (i := (.iload_n 0)) rfl rfl
theorem e68_7 (d : Nat) (a0 : Option Value) (s0 : Int32) (h : MH)  : rn d 68 7 [a0] [.int s0] h = rn d 68 9 [a0] [.int 104, .int s0] h := rP (i := (.bipush 104)) rfl rfl
theorem e68_9 (d : Nat) (a0 : Option Value) (s0 s1 : Int32) (h : MH)  : rn d 68 9 [a0] [.int s0, .int s1] h = if s0 < s1 then rn d 68 16 [a0] [] h else rn d 68 12 [a0] [] h := rGt2 (off := 7) 16 rfl rfl
theorem e68_12 (d : Nat) (a0 : Option Value) (h : MH)  : rn d 68 12 [a0] [] h = rn d 68 13 [a0] [.int 1] h := rP (i := (.iconst 1)) rfl rfl
theorem e68_13 (d : Nat) (a0 : Option Value) (s0 : Int32) (h : MH)  : rn d 68 13 [a0] [.int s0] h = rn d 68 17 [a0] [.int s0] h := rP (i := (.goto 4)) rfl rfl
theorem e68_16 (d : Nat) (a0 : Option Value) (h : MH)  : rn d 68 16 [a0] [] h = rn d 68 17 [a0] [.int 0] h := rP (i := (.iconst 0)) rfl rfl
theorem e68_17 (d : Nat) (a0 : Option Value) (s0 : Int32) (h : MH) (hz : s0 &&& 1 = s0) : rn d 68 17 [a0] [.int s0] h = some (some (.int s0), h) := rIretZ hz rfl rfl
theorem e68_17q0 (d : Nat) (a0 : Option Value)  (h : MH) : rn d 68 17 [a0] [.int 0] h = some (some (.int 0), h) := rIretZ rfl rfl rfl
theorem e68_17q1 (d : Nat) (a0 : Option Value)  (h : MH) : rn d 68 17 [a0] [.int 1] h = some (some (.int 1), h) := rIretZ rfl rfl rfl
-- 69: FlowEquationsModel.isInput(I)Z
theorem e69_0 (d : Nat) (h : MH) (x : Int32) : rn d 69 0 [some (.int x)] [] h = rn d 69 1 [some (.int x)] [.int x] h := rP (i := (.iload_n 0)) rfl rfl
theorem e69_1 (d : Nat) (a0 : Option Value) (s0 : Int32) (h : MH)  : rn d 69 1 [a0] [.int s0] h = rn d 69 3 [a0] [.int 112, .int s0] h := rP (i := (.bipush 112)) rfl rfl
theorem e69_3 (d : Nat) (a0 : Option Value) (s0 s1 : Int32) (h : MH)  : rn d 69 3 [a0] [.int s0, .int s1] h = if s1 < s0 then rn d 69 16 [a0] [] h else rn d 69 6 [a0] [] h := rLt2 (off := 13) 16 rfl rfl
theorem e69_6 (d : Nat) (h : MH) (x : Int32) : rn d 69 6 [some (.int x)] [] h = rn d 69 7 [some (.int x)] [.int x] h := rP (i := (.iload_n 0)) rfl rfl
theorem e69_7 (d : Nat) (a0 : Option Value) (s0 : Int32) (h : MH)  : rn d 69 7 [a0] [.int s0] h = rn d 69 9 [a0] [.int 115, .int s0] h := rP (i := (.bipush 115)) rfl rfl
theorem e69_9 (d : Nat) (a0 : Option Value) (s0 s1 : Int32) (h : MH)  : rn d 69 9 [a0] [.int s0, .int s1] h = if s0 < s1 then rn d 69 16 [a0] [] h else rn d 69 12 [a0] [] h := rGt2 (off := 7) 16 rfl rfl
theorem e69_12 (d : Nat) (a0 : Option Value) (h : MH)  : rn d 69 12 [a0] [] h = rn d 69 13 [a0] [.int 1] h := rP (i := (.iconst 1)) rfl rfl
theorem e69_13 (d : Nat) (a0 : Option Value) (s0 : Int32) (h : MH)  : rn d 69 13 [a0] [.int s0] h = rn d 69 17 [a0] [.int s0] h := rP (i := (.goto 4)) rfl rfl
theorem e69_16 (d : Nat) (a0 : Option Value) (h : MH)  : rn d 69 16 [a0] [] h = rn d 69 17 [a0] [.int 0] h := rP (i := (.iconst 0)) rfl rfl
theorem e69_17 (d : Nat) (a0 : Option Value) (s0 : Int32) (h : MH) (hz : s0 &&& 1 = s0) : rn d 69 17 [a0] [.int s0] h = some (some (.int s0), h) := rIretZ hz rfl rfl
theorem e69_17q0 (d : Nat) (a0 : Option Value)  (h : MH) : rn d 69 17 [a0] [.int 0] h = some (some (.int 0), h) := rIretZ rfl rfl rfl
theorem e69_17q1 (d : Nat) (a0 : Option Value)  (h : MH) : rn d 69 17 [a0] [.int 1] h = some (some (.int 1), h) := rIretZ rfl rfl rfl
-- 70: FlowEquationsModel.pair(I)Z
theorem e70_0 (d : Nat) (h : MH) (x : Int32) : rn d 70 0 [some (.int x)] [] h = rn d 70 1 [some (.int x)] [.int x] h := rP (i := (.iload_n 0)) rfl rfl
theorem e70_1 (d : Nat) (a0 : Option Value) (s0 : Int32) (h : MH)  : rn d 70 1 [a0] [.int s0] h = rn d 70 3 [a0] [.int 43, .int s0] h := rP (i := (.bipush 43)) rfl rfl
theorem e70_3 (d : Nat) (a0 : Option Value) (s0 s1 : Int32) (h : MH)  : rn d 70 3 [a0] [.int s0, .int s1] h = if s1 = s0 then rn d 70 36 [a0] [] h else rn d 70 6 [a0] [] h := rEq2 (off := 33) 36 rfl rfl
theorem e70_6 (d : Nat) (h : MH) (x : Int32) : rn d 70 6 [some (.int x)] [] h = rn d 70 7 [some (.int x)] [.int x] h := rP (i := (.iload_n 0)) rfl rfl
theorem e70_7 (d : Nat) (a0 : Option Value) (s0 : Int32) (h : MH)  : rn d 70 7 [a0] [.int s0] h = rn d 70 9 [a0] [.int 45, .int s0] h := rP (i := (.bipush 45)) rfl rfl
theorem e70_9 (d : Nat) (a0 : Option Value) (s0 s1 : Int32) (h : MH)  : rn d 70 9 [a0] [.int s0, .int s1] h = if s1 = s0 then rn d 70 36 [a0] [] h else rn d 70 12 [a0] [] h := rEq2 (off := 27) 36 rfl rfl
theorem e70_12 (d : Nat) (h : MH) (x : Int32) : rn d 70 12 [some (.int x)] [] h = rn d 70 13 [some (.int x)] [.int x] h := rP (i := (.iload_n 0)) rfl rfl
theorem e70_13 (d : Nat) (a0 : Option Value) (s0 : Int32) (h : MH)  : rn d 70 13 [a0] [.int s0] h = rn d 70 15 [a0] [.int 42, .int s0] h := rP (i := (.bipush 42)) rfl rfl
theorem e70_15 (d : Nat) (a0 : Option Value) (s0 s1 : Int32) (h : MH)  : rn d 70 15 [a0] [.int s0, .int s1] h = if s1 = s0 then rn d 70 36 [a0] [] h else rn d 70 18 [a0] [] h := rEq2 (off := 21) 36 rfl rfl
theorem e70_18 (d : Nat) (h : MH) (x : Int32) : rn d 70 18 [some (.int x)] [] h = rn d 70 19 [some (.int x)] [.int x] h := rP (i := (.iload_n 0)) rfl rfl
theorem e70_19 (d : Nat) (a0 : Option Value) (s0 : Int32) (h : MH)  : rn d 70 19 [a0] [.int s0] h = rn d 70 21 [a0] [.int 60, .int s0] h := rP (i := (.bipush 60)) rfl rfl
theorem e70_21 (d : Nat) (a0 : Option Value) (s0 s1 : Int32) (h : MH)  : rn d 70 21 [a0] [.int s0, .int s1] h = if s1 = s0 then rn d 70 36 [a0] [] h else rn d 70 24 [a0] [] h := rEq2 (off := 15) 36 rfl rfl
theorem e70_24 (d : Nat) (h : MH) (x : Int32) : rn d 70 24 [some (.int x)] [] h = rn d 70 25 [some (.int x)] [.int x] h := rP (i := (.iload_n 0)) rfl rfl
theorem e70_25 (d : Nat) (a0 : Option Value) (s0 : Int32) (h : MH)  : rn d 70 25 [a0] [.int s0] h = rn d 70 27 [a0] [.int 61, .int s0] h := rP (i := (.bipush 61)) rfl rfl
theorem e70_27 (d : Nat) (a0 : Option Value) (s0 s1 : Int32) (h : MH)  : rn d 70 27 [a0] [.int s0, .int s1] h = if s1 = s0 then rn d 70 36 [a0] [] h else rn d 70 30 [a0] [] h := rEq2 (off := 9) 36 rfl rfl
theorem e70_30 (d : Nat) (h : MH) (x : Int32) : rn d 70 30 [some (.int x)] [] h = rn d 70 31 [some (.int x)] [.int x] h := rP (i := (.iload_n 0)) rfl rfl
theorem e70_31 (d : Nat) (a0 : Option Value) (s0 : Int32) (h : MH)  : rn d 70 31 [a0] [.int s0] h = rn d 70 33 [a0] [.int 38, .int s0] h := rP (i := (.bipush 38)) rfl rfl
theorem e70_33 (d : Nat) (a0 : Option Value) (s0 s1 : Int32) (h : MH)  : rn d 70 33 [a0] [.int s0, .int s1] h = if s1 = s0 then rn d 70 36 [a0] [] h else rn d 70 40 [a0] [] h := rNe2 (off := 7) 40 rfl rfl
theorem e70_36 (d : Nat) (a0 : Option Value) (h : MH)  : rn d 70 36 [a0] [] h = rn d 70 37 [a0] [.int 1] h := rP (i := (.iconst 1)) rfl rfl
theorem e70_37 (d : Nat) (a0 : Option Value) (s0 : Int32) (h : MH)  : rn d 70 37 [a0] [.int s0] h = rn d 70 41 [a0] [.int s0] h := rP (i := (.goto 4)) rfl rfl
theorem e70_40 (d : Nat) (a0 : Option Value) (h : MH)  : rn d 70 40 [a0] [] h = rn d 70 41 [a0] [.int 0] h := rP (i := (.iconst 0)) rfl rfl
theorem e70_41 (d : Nat) (a0 : Option Value) (s0 : Int32) (h : MH) (hz : s0 &&& 1 = s0) : rn d 70 41 [a0] [.int s0] h = some (some (.int s0), h) := rIretZ hz rfl rfl
theorem e70_41q0 (d : Nat) (a0 : Option Value)  (h : MH) : rn d 70 41 [a0] [.int 0] h = some (some (.int 0), h) := rIretZ rfl rfl rfl
theorem e70_41q1 (d : Nat) (a0 : Option Value)  (h : MH) : rn d 70 41 [a0] [.int 1] h = some (some (.int 1), h) := rIretZ rfl rfl rfl
-- 71: FlowEquationsModel.types(J)I
theorem e71_0 (d : Nat) (a0 a1 a2 a3 a4 a5 : Option Value) (h : MH)  : rn d 71 0 [a0, a1, a2, a3, a4, a5] [] h = rn d 71 2 [a0, a1, a2, a3, a4, a5] [.int 56] h := rP (i := (.bipush 56)) rfl rfl
theorem e71_2 (d : Nat) (a0 a1 a2 a3 a4 a5 : Option Value) (s0 : Int32) (h : MH)  : rn d 71 2 [a0, a1, a2, a3, a4, a5] [.int s0] h = rn d 71 3 [a0, a1, a2, some (.int s0), a4, a5] [] h := rP (i := (.istore_n 3)) rfl rfl
theorem e71_3 (d : Nat) (a0 a1 a2 a4 a5 : Option Value) (h : MH) (x : Int32) : rn d 71 3 [a0, a1, a2, some (.int x), a4, a5] [] h = rn d 71 4 [a0, a1, a2, some (.int x), a4, a5] [.int x] h := rP (i := (.iload_n 3)) rfl rfl
theorem e71_4 (d : Nat) (a0 a1 a2 a3 a4 a5 : Option Value) (s0 : Int32) (h : MH)  : rn d 71 4 [a0, a1, a2, a3, a4, a5] [.int s0] h = if s0 < 0 then rn d 71 47 [a0, a1, a2, a3, a4, a5] [] h else rn d 71 7 [a0, a1, a2, a3, a4, a5] [] h := rLt1 (off := 43) 47 rfl rfl
theorem e71_7 (d : Nat) (a0 a3 a4 a5 : Option Value) (h : MH) (x : Int64) : rn d 71 7 [a0, some (.long x), mSec, a3, a4, a5] [] h = rn d 71 8 [a0, some (.long x), mSec, a3, a4, a5] [.long x] h := rP (i := (.lload_n 1)) rfl rfl
theorem e71_8 (d : Nat) (a0 a1 a2 a4 a5 : Option Value) (s0 : Int64) (h : MH) (x : Int32) : rn d 71 8 [a0, a1, a2, some (.int x), a4, a5] [.long s0] h = rn d 71 9 [a0, a1, a2, some (.int x), a4, a5] [.int x, .long s0] h := rP (i := (.iload_n 3)) rfl rfl
theorem e71_9 (d : Nat) (a0 a1 a2 a3 a4 a5 : Option Value) (s0 : Int32) (s1 : Int64) (h : MH)  : rn d 71 9 [a0, a1, a2, a3, a4, a5] [.int s0, .long s1] h = rn d 71 10 [a0, a1, a2, a3, a4, a5] [.long (s1.toUInt64 >>> (s0.toInt64.toUInt64 &&& Int64.toUInt64 63)).toInt64] h := rP (i := (.lushr)) rfl rfl
theorem e71_10 (d : Nat) (a0 a1 a2 a3 a4 a5 : Option Value) (s0 : Int64) (h : MH)  : rn d 71 10 [a0, a1, a2, a3, a4, a5] [.long s0] h = rn d 71 11 [a0, a1, a2, a3, a4, a5] [.int s0.toInt32] h := rP (i := (.l2i)) rfl rfl
theorem e71_11 (d : Nat) (a0 a1 a2 a3 a4 a5 : Option Value) (s0 : Int32) (h : MH)  : rn d 71 11 [a0, a1, a2, a3, a4, a5] [.int s0] h = rn d 71 14 [a0, a1, a2, a3, a4, a5] [.int 255, .int s0] h := rP (i := (.sipush 255)) rfl rfl
theorem e71_14 (d : Nat) (a0 a1 a2 a3 a4 a5 : Option Value) (s0 s1 : Int32) (h : MH)  : rn d 71 14 [a0, a1, a2, a3, a4, a5] [.int s0, .int s1] h = rn d 71 15 [a0, a1, a2, a3, a4, a5] [.int (s1 &&& s0)] h := rP (i := (.iand)) rfl rfl
theorem e71_15 (d : Nat) (a0 a1 a2 a3 a4 a5 : Option Value) (s0 : Int32) (h : MH)  : rn d 71 15 [a0, a1, a2, a3, a4, a5] [.int s0] h = rn d 71 17 [a0, a1, a2, a3, some (.int s0), a5] [] h := rP (i := (.istore 4)) rfl rfl
theorem e71_17 (d : Nat) (a0 a1 a2 a3 a5 : Option Value) (h : MH) (x : Int32) : rn d 71 17 [a0, a1, a2, a3, some (.int x), a5] [] h = rn d 71 19 [a0, a1, a2, a3, some (.int x), a5] [.int x] h := rP (i := (.iload 4)) rfl rfl
theorem e71_19 (d : Nat) (a0 a1 a2 a3 a4 a5 : Option Value) (s0 : Int32) (h : MH)  : rn d 71 19 [a0, a1, a2, a3, a4, a5] [.int s0] h = if s0 = 0 then rn d 71 22 [a0, a1, a2, a3, a4, a5] [] h else rn d 71 25 [a0, a1, a2, a3, a4, a5] [] h := rNe1 (off := 6) 25 rfl rfl
theorem e71_22 (d : Nat) (a0 a1 a2 a3 a4 a5 : Option Value) (h : MH)  : rn d 71 22 [a0, a1, a2, a3, a4, a5] [] h = rn d 71 41 [a0, a1, a2, a3, a4, a5] [] h := rP (i := (.goto 19)) rfl rfl
theorem e71_25 (d : Nat) (a1 a2 a3 a4 a5 : Option Value) (h : MH) (x : Nat) : rn d 71 25 [some (.ref x), a1, a2, a3, a4, a5] [] h = rn d 71 26 [some (.ref x), a1, a2, a3, a4, a5] [.ref x] h := rP (i := (.aload_n 0)) rfl rfl
theorem e71_26 (d : Nat) (a0 a1 a2 a3 a5 : Option Value) (s0 : Nat) (h : MH) (x : Int32) : rn d 71 26 [a0, a1, a2, a3, some (.int x), a5] [.ref s0] h = rn d 71 28 [a0, a1, a2, a3, some (.int x), a5] [.int x, .ref s0] h := rP (i := (.iload 4)) rfl rfl
theorem e71_28 (d : Nat) (a0 a1 a2 a3 a4 a5 : Option Value) (s0 : Int32) (s1 : Nat) (h : MH) (hz : clsOf h s1 = some 5) : rn (d + 1) 71 28 [a0, a1, a2, a3, a4, a5] [.int s0, .ref s1] h = (rn d 66 0 [some (.ref s1), some (.int s0), none] [] h).bind (fun R => rn (d + 1) 71 31 [a0, a1, a2, a3, a4, a5] (R.1.toList ++ []) R.2) := rInv (i := (.invokevirtual 88)) (n := 2) (tl := [470, 451, 452, 58]) rfl rfl rfl rfl (by decide) (Nat.le_of_ble_eq_true rfl) (Nat.le_of_ble_eq_true rfl) (Nat.le_of_ble_eq_true rfl) (rcv_V hz)
theorem e71_31 (d : Nat) (a0 a1 a2 a3 a4 a5 : Option Value) (s0 : Int32) (h : MH)  : rn d 71 31 [a0, a1, a2, a3, a4, a5] [.int s0] h = rn d 71 33 [a0, a1, a2, a3, a4, some (.int s0)] [] h := rP (i := (.istore 5)) rfl rfl
theorem e71_33 (d : Nat) (a0 a1 a2 a3 a4 : Option Value) (h : MH) (x : Int32) : rn d 71 33 [a0, a1, a2, a3, a4, some (.int x)] [] h = rn d 71 35 [a0, a1, a2, a3, a4, some (.int x)] [.int x] h := rP (i := (.iload 5)) rfl rfl
theorem e71_35 (d : Nat) (a0 a1 a2 a3 a4 a5 : Option Value) (s0 : Int32) (h : MH)  : rn d 71 35 [a0, a1, a2, a3, a4, a5] [.int s0] h = if s0 < 0 then rn d 71 38 [a0, a1, a2, a3, a4, a5] [] h else rn d 71 41 [a0, a1, a2, a3, a4, a5] [] h := rGe1 (off := 6) 41 rfl rfl
theorem e71_38 (d : Nat) (a0 a1 a2 a3 a4 : Option Value) (h : MH) (x : Int32) : rn d 71 38 [a0, a1, a2, a3, a4, some (.int x)] [] h = rn d 71 40 [a0, a1, a2, a3, a4, some (.int x)] [.int x] h := rP (i := (.iload 5)) rfl rfl
theorem e71_40 (d : Nat) (a0 a1 a2 a3 a4 a5 : Option Value) (s0 : Int32) (h : MH)  : rn d 71 40 [a0, a1, a2, a3, a4, a5] [.int s0] h = some (some (.int s0), h) := rIret rfl rfl
theorem e71_41 (d : Nat) (a0 a1 a2 a4 a5 : Option Value) (h : MH) (x : Int32) : rn d 71 41 [a0, a1, a2, some (.int x), a4, a5] [] h = rn d 71 44 [a0, a1, a2, some (.int (x + (-8))), a4, a5] [] h := rP (i := (.iinc 3 (-8))) rfl rfl
theorem e71_44 (d : Nat) (a0 a1 a2 a3 a4 a5 : Option Value) (h : MH)  : rn d 71 44 [a0, a1, a2, a3, a4, a5] [] h = rn d 71 3 [a0, a1, a2, a3, a4, a5] [] h := rP (i := (.goto (-41))) rfl rfl
theorem e71_47 (d : Nat) (a1 a2 a3 a4 a5 : Option Value) (h : MH) (x : Nat) : rn d 71 47 [some (.ref x), a1, a2, a3, a4, a5] [] h = rn d 71 48 [some (.ref x), a1, a2, a3, a4, a5] [.ref x] h := rP (i := (.aload_n 0)) rfl rfl
theorem e71_48 (d : Nat) (a0 a1 a2 a3 a4 a5 : Option Value) (s0 : Nat) (h : MH)  : rn d 71 48 [a0, a1, a2, a3, a4, a5] [.ref s0] h = (fgetv h s0 5 1).bind (fun v => rn d 71 51 [a0, a1, a2, a3, a4, a5] [v] h) := rGet (idx := 85) rfl rfl
theorem e71_51 (d : Nat) (a0 a1 a2 a3 a4 a5 : Option Value) (s0 : Int32) (h : MH)  : rn d 71 51 [a0, a1, a2, a3, a4, a5] [.int s0] h = some (some (.int s0), h) := rIret rfl rfl
-- 72: FlowEquationsModel.define(I)I
theorem e72_0 (d : Nat) (a0 a2 a3 a4 a5 : Option Value) (h : MH) (x : Int32) : rn d 72 0 [a0, some (.int x), a2, a3, a4, a5] [] h = rn d 72 1 [a0, some (.int x), a2, a3, a4, a5] [.int x] h := rP (i := (.iload_n 1)) rfl rfl
theorem e72_1 (d : Nat) (a0 a1 a2 a3 a4 a5 : Option Value) (s0 : Int32) (h : MH)  : rn d 72 1 [a0, a1, a2, a3, a4, a5] [.int s0] h = if s0 < 0 then rn d 72 10 [a0, a1, a2, a3, a4, a5] [] h else rn d 72 4 [a0, a1, a2, a3, a4, a5] [] h := rLt1 (off := 9) 10 rfl rfl
theorem e72_4 (d : Nat) (a0 a2 a3 a4 a5 : Option Value) (h : MH) (x : Int32) : rn d 72 4 [a0, some (.int x), a2, a3, a4, a5] [] h = rn d 72 5 [a0, some (.int x), a2, a3, a4, a5] [.int x] h := rP (i := (.iload_n 1)) rfl rfl
theorem e72_5 (d : Nat) (a0 a1 a2 a3 a4 a5 : Option Value) (s0 : Int32) (h : MH)  : rn d 72 5 [a0, a1, a2, a3, a4, a5] [.int s0] h = rn d 72 7 [a0, a1, a2, a3, a4, a5] [.int 7, .int s0] h := rP (i := (.bipush 7)) rfl rfl
theorem e72_7 (d : Nat) (a0 a1 a2 a3 a4 a5 : Option Value) (s0 s1 : Int32) (h : MH)  : rn d 72 7 [a0, a1, a2, a3, a4, a5] [.int s0, .int s1] h = if s0 < s1 then rn d 72 10 [a0, a1, a2, a3, a4, a5] [] h else rn d 72 12 [a0, a1, a2, a3, a4, a5] [] h := rLe2 (off := 5) 12 rfl rfl
theorem e72_10 (d : Nat) (a0 a1 a2 a3 a4 a5 : Option Value) (h : MH)  : rn d 72 10 [a0, a1, a2, a3, a4, a5] [] h = rn d 72 11 [a0, a1, a2, a3, a4, a5] [.int (-1)] h := rP (i := (.iconst (-1))) rfl rfl
theorem e72_11 (d : Nat) (a0 a1 a2 a3 a4 a5 : Option Value) (s0 : Int32) (h : MH)  : rn d 72 11 [a0, a1, a2, a3, a4, a5] [.int s0] h = some (some (.int s0), h) := rIret rfl rfl
theorem e72_12 (d : Nat) (a1 a2 a3 a4 a5 : Option Value) (h : MH) (x : Nat) : rn d 72 12 [some (.ref x), a1, a2, a3, a4, a5] [] h = rn d 72 13 [some (.ref x), a1, a2, a3, a4, a5] [.ref x] h := rP (i := (.aload_n 0)) rfl rfl
theorem e72_13 (d : Nat) (a0 a1 a2 a3 a4 a5 : Option Value) (s0 : Nat) (h : MH)  : rn d 72 13 [a0, a1, a2, a3, a4, a5] [.ref s0] h = (fgetv h s0 5 1).bind (fun v => rn d 72 16 [a0, a1, a2, a3, a4, a5] [v] h) := rGet (idx := 85) rfl rfl
theorem e72_16 (d : Nat) (a0 a1 a2 a3 a4 a5 : Option Value) (s0 : Int32) (h : MH)  : rn d 72 16 [a0, a1, a2, a3, a4, a5] [.int s0] h = rn d 72 17 [a0, a1, some (.int s0), a3, a4, a5] [] h := rP (i := (.istore_n 2)) rfl rfl
theorem e72_17 (d : Nat) (a1 a2 a3 a4 a5 : Option Value) (h : MH) (x : Nat) : rn d 72 17 [some (.ref x), a1, a2, a3, a4, a5] [] h = rn d 72 18 [some (.ref x), a1, a2, a3, a4, a5] [.ref x] h := rP (i := (.aload_n 0)) rfl rfl
theorem e72_18 (d : Nat) (a0 a1 a2 a3 a4 a5 : Option Value) (s0 : Nat) (h : MH)  : rn d 72 18 [a0, a1, a2, a3, a4, a5] [.ref s0] h = (fgetv h s0 5 2).bind (fun v => rn d 72 21 [a0, a1, a2, a3, a4, a5] [v] h) := rGet (idx := 13) rfl rfl
theorem e72_21 (d : Nat) (a0 a1 a2 a3 a4 a5 : Option Value) (s0 : Int32) (h : MH)  : rn d 72 21 [a0, a1, a2, a3, a4, a5] [.int s0] h = rn d 72 22 [a0, a1, a2, some (.int s0), a4, a5] [] h := rP (i := (.istore_n 3)) rfl rfl
theorem e72_22 (d : Nat) (a1 a2 a3 a4 a5 : Option Value) (h : MH) (x : Nat) : rn d 72 22 [some (.ref x), a1, a2, a3, a4, a5] [] h = rn d 72 23 [some (.ref x), a1, a2, a3, a4, a5] [.ref x] h := rP (i := (.aload_n 0)) rfl rfl
theorem e72_23 (d : Nat) (a0 a1 a2 a3 a4 a5 : Option Value) (s0 : Nat) (h : MH) (hz : clsOf h s0 = some 5) : rn (d + 1) 72 23 [a0, a1, a2, a3, a4, a5] [.ref s0] h = (rn d 73 0 [some (.ref s0), none, none, none, none, none, none] [] h).bind (fun R => rn (d + 1) 72 26 [a0, a1, a2, a3, a4, a5] (R.1.toList ++ []) R.2) := rInv (i := (.invokevirtual 95)) (n := 1) (tl := [475, 476, 37, 58]) rfl rfl rfl rfl (by decide) (Nat.le_of_ble_eq_true rfl) (Nat.le_of_ble_eq_true rfl) (Nat.le_of_ble_eq_true rfl) (rcv_V hz)
theorem e72_26 (d : Nat) (a0 a1 a2 a3 a4 a5 : Option Value) (s0 : Int32) (h : MH)  : rn d 72 26 [a0, a1, a2, a3, a4, a5] [.int s0] h = rn d 72 28 [a0, a1, a2, a3, some (.int s0), a5] [] h := rP (i := (.istore 4)) rfl rfl
theorem e72_28 (d : Nat) (a1 a2 a3 a4 a5 : Option Value) (h : MH) (x : Nat) : rn d 72 28 [some (.ref x), a1, a2, a3, a4, a5] [] h = rn d 72 29 [some (.ref x), a1, a2, a3, a4, a5] [.ref x] h := rP (i := (.aload_n 0)) rfl rfl
theorem e72_29 (d : Nat) (a0 a1 a2 a3 a4 a5 : Option Value) (s0 : Nat) (h : MH)  : rn d 72 29 [a0, a1, a2, a3, a4, a5] [.ref s0] h = rn d 72 30 [a0, a1, a2, a3, a4, a5] [.int 0, .ref s0] h := rP (i := (.iconst 0)) rfl rfl
theorem e72_30 (d : Nat) (a0 a1 a2 a3 a4 a5 : Option Value) (s0 : Int32) (s1 : Nat) (h : MH)  : rn d 72 30 [a0, a1, a2, a3, a4, a5] [.int s0, .ref s1] h = (fputh h s1 5 1 .int (.int s0)).bind (fun h => rn d 72 33 [a0, a1, a2, a3, a4, a5] [] h) := rPut (idx := 85) rfl rfl
theorem e72_33 (d : Nat) (a0 a1 a2 a3 a5 : Option Value) (h : MH) (x : Int32) : rn d 72 33 [a0, a1, a2, a3, some (.int x), a5] [] h = rn d 72 35 [a0, a1, a2, a3, some (.int x), a5] [.int x] h := rP (i := (.iload 4)) rfl rfl
theorem e72_35 (d : Nat) (a0 a1 a2 a3 a4 a5 : Option Value) (s0 : Int32) (h : MH)  : rn d 72 35 [a0, a1, a2, a3, a4, a5] [.int s0] h = if s0 = 0 then rn d 72 38 [a0, a1, a2, a3, a4, a5] [] h else rn d 72 41 [a0, a1, a2, a3, a4, a5] [] h := rNe1 (off := 6) 41 rfl rfl
theorem e72_38 (d : Nat) (a0 a1 a2 a3 a4 a5 : Option Value) (h : MH)  : rn d 72 38 [a0, a1, a2, a3, a4, a5] [] h = rn d 72 40 [a0, a1, a2, a3, a4, a5] [.int (-3)] h := rP (i := (.bipush (-3))) rfl rfl
theorem e72_40 (d : Nat) (a0 a1 a2 a3 a4 a5 : Option Value) (s0 : Int32) (h : MH)  : rn d 72 40 [a0, a1, a2, a3, a4, a5] [.int s0] h = some (some (.int s0), h) := rIret rfl rfl
theorem e72_41 (d : Nat) (a1 a2 a3 a4 a5 : Option Value) (h : MH) (x : Nat) : rn d 72 41 [some (.ref x), a1, a2, a3, a4, a5] [] h = rn d 72 42 [some (.ref x), a1, a2, a3, a4, a5] [.ref x] h := rP (i := (.aload_n 0)) rfl rfl
theorem e72_42 (d : Nat) (a0 a1 a2 a4 a5 : Option Value) (s0 : Nat) (h : MH) (x : Int32) : rn d 72 42 [a0, a1, a2, some (.int x), a4, a5] [.ref s0] h = rn d 72 43 [a0, a1, a2, some (.int x), a4, a5] [.int x, .ref s0] h := rP (i := (.iload_n 3)) rfl rfl
theorem e72_43 (d : Nat) (a0 a1 a2 a3 a4 a5 : Option Value) (s0 : Int32) (s1 : Nat) (h : MH)  : rn d 72 43 [a0, a1, a2, a3, a4, a5] [.int s0, .ref s1] h = (fputh h s1 5 2 .int (.int s0)).bind (fun h => rn d 72 46 [a0, a1, a2, a3, a4, a5] [] h) := rPut (idx := 13) rfl rfl
theorem e72_46 (d : Nat) (a1 a2 a3 a4 a5 : Option Value) (h : MH) (x : Nat) : rn d 72 46 [some (.ref x), a1, a2, a3, a4, a5] [] h = rn d 72 47 [some (.ref x), a1, a2, a3, a4, a5] [.ref x] h := rP (i := (.aload_n 0)) rfl rfl
theorem e72_47 (d : Nat) (a0 a1 a2 a3 a4 a5 : Option Value) (s0 : Nat) (h : MH)  : rn d 72 47 [a0, a1, a2, a3, a4, a5] [.ref s0] h = (fgetv h s0 5 5).bind (fun v => rn d 72 50 [a0, a1, a2, a3, a4, a5] [v] h) := rGet (idx := 20) rfl rfl
theorem e72_50 (d : Nat) (a0 a2 a3 a4 a5 : Option Value) (s0 : Nat) (h : MH) (x : Int32) : rn d 72 50 [a0, some (.int x), a2, a3, a4, a5] [.ref s0] h = rn d 72 51 [a0, some (.int x), a2, a3, a4, a5] [.int x, .ref s0] h := rP (i := (.iload_n 1)) rfl rfl
theorem e72_51 (d : Nat) (a0 a1 a3 a4 a5 : Option Value) (s0 : Int32) (s1 : Nat) (h : MH) (x : Int32) : rn d 72 51 [a0, a1, some (.int x), a3, a4, a5] [.int s0, .ref s1] h = rn d 72 52 [a0, a1, some (.int x), a3, a4, a5] [.int x, .int s0, .ref s1] h := rP (i := (.iload_n 2)) rfl rfl
theorem e72_52 (d : Nat) (a0 a1 a2 a3 a4 a5 : Option Value) (s0 s1 : Int32) (s2 : Nat) (h : MH)  : rn d 72 52 [a0, a1, a2, a3, a4, a5] [.int s0, .int s1, .ref s2] h = (aputi h 0 s2 s1 s0).bind (fun h => rn d 72 53 [a0, a1, a2, a3, a4, a5] [] h) := rIast rfl
theorem e72_53 (d : Nat) (a0 a1 a2 a3 a4 a5 : Option Value) (h : MH)  : rn d 72 53 [a0, a1, a2, a3, a4, a5] [] h = rn d 72 54 [a0, a1, a2, a3, a4, a5] [.int 0] h := rP (i := (.iconst 0)) rfl rfl
theorem e72_54 (d : Nat) (a0 a1 a2 a3 a4 a5 : Option Value) (s0 : Int32) (h : MH)  : rn d 72 54 [a0, a1, a2, a3, a4, a5] [.int s0] h = rn d 72 56 [a0, a1, a2, a3, a4, some (.int s0)] [] h := rP (i := (.istore 5)) rfl rfl
theorem e72_56 (d : Nat) (a0 a1 a2 a3 a4 : Option Value) (h : MH) (x : Int32) : rn d 72 56 [a0, a1, a2, a3, a4, some (.int x)] [] h = rn d 72 58 [a0, a1, a2, a3, a4, some (.int x)] [.int x] h := rP (i := (.iload 5)) rfl rfl
theorem e72_58 (d : Nat) (a0 a1 a3 a4 a5 : Option Value) (s0 : Int32) (h : MH) (x : Int32) : rn d 72 58 [a0, a1, some (.int x), a3, a4, a5] [.int s0] h = rn d 72 59 [a0, a1, some (.int x), a3, a4, a5] [.int x, .int s0] h := rP (i := (.iload_n 2)) rfl rfl
theorem e72_59 (d : Nat) (a0 a1 a2 a3 a4 a5 : Option Value) (s0 s1 : Int32) (h : MH)  : rn d 72 59 [a0, a1, a2, a3, a4, a5] [.int s0, .int s1] h = if s1 < s0 then rn d 72 62 [a0, a1, a2, a3, a4, a5] [] h else rn d 72 106 [a0, a1, a2, a3, a4, a5] [] h := rGe2 (off := 47) 106 rfl rfl
theorem e72_62 (d : Nat) (a1 a2 a3 a4 a5 : Option Value) (h : MH) (x : Nat) : rn d 72 62 [some (.ref x), a1, a2, a3, a4, a5] [] h = rn d 72 63 [some (.ref x), a1, a2, a3, a4, a5] [.ref x] h := rP (i := (.aload_n 0)) rfl rfl
theorem e72_63 (d : Nat) (a0 a1 a2 a3 a4 a5 : Option Value) (s0 : Nat) (h : MH)  : rn d 72 63 [a0, a1, a2, a3, a4, a5] [.ref s0] h = (fgetv h s0 5 4).bind (fun v => rn d 72 66 [a0, a1, a2, a3, a4, a5] [v] h) := rGet (idx := 17) rfl rfl
theorem e72_66 (d : Nat) (a0 a2 a3 a4 a5 : Option Value) (s0 : Nat) (h : MH) (x : Int32) : rn d 72 66 [a0, some (.int x), a2, a3, a4, a5] [.ref s0] h = rn d 72 67 [a0, some (.int x), a2, a3, a4, a5] [.int x, .ref s0] h := rP (i := (.iload_n 1)) rfl rfl
theorem e72_67 (d : Nat) (a0 a1 a2 a3 a4 a5 : Option Value) (s0 : Int32) (s1 : Nat) (h : MH)  : rn d 72 67 [a0, a1, a2, a3, a4, a5] [.int s0, .ref s1] h = rn d 72 69 [a0, a1, a2, a3, a4, a5] [.int 24, .int s0, .ref s1] h := rP (i := (.bipush 24)) rfl rfl
theorem e72_69 (d : Nat) (a0 a1 a2 a3 a4 a5 : Option Value) (s0 s1 : Int32) (s2 : Nat) (h : MH)  : rn d 72 69 [a0, a1, a2, a3, a4, a5] [.int s0, .int s1, .ref s2] h = rn d 72 70 [a0, a1, a2, a3, a4, a5] [.int (s1 * s0), .ref s2] h := rP (i := (.imul)) rfl rfl
theorem e72_70 (d : Nat) (a0 a1 a2 a3 a4 : Option Value) (s0 : Int32) (s1 : Nat) (h : MH) (x : Int32) : rn d 72 70 [a0, a1, a2, a3, a4, some (.int x)] [.int s0, .ref s1] h = rn d 72 72 [a0, a1, a2, a3, a4, some (.int x)] [.int x, .int s0, .ref s1] h := rP (i := (.iload 5)) rfl rfl
theorem e72_72 (d : Nat) (a0 a1 a2 a3 a4 a5 : Option Value) (s0 s1 : Int32) (s2 : Nat) (h : MH)  : rn d 72 72 [a0, a1, a2, a3, a4, a5] [.int s0, .int s1, .ref s2] h = rn d 72 73 [a0, a1, a2, a3, a4, a5] [.int (s1 + s0), .ref s2] h := rP (i := (.iadd)) rfl rfl
theorem e72_73 (d : Nat) (a1 a2 a3 a4 a5 : Option Value) (s0 : Int32) (s1 : Nat) (h : MH) (x : Nat) : rn d 72 73 [some (.ref x), a1, a2, a3, a4, a5] [.int s0, .ref s1] h = rn d 72 74 [some (.ref x), a1, a2, a3, a4, a5] [.ref x, .int s0, .ref s1] h := rP (i := (.aload_n 0)) rfl rfl
theorem e72_74 (d : Nat) (a0 a1 a2 a3 a4 a5 : Option Value) (s1 : Int32) (s0 s2 : Nat) (h : MH)  : rn d 72 74 [a0, a1, a2, a3, a4, a5] [.ref s0, .int s1, .ref s2] h = (fgetv h s0 5 0).bind (fun v => rn d 72 77 [a0, a1, a2, a3, a4, a5] [v, .int s1, .ref s2] h) := rGet (idx := 7) rfl rfl
theorem e72_77 (d : Nat) (a0 a1 a2 a3 a4 : Option Value) (s1 : Int32) (s0 s2 : Nat) (h : MH) (x : Int32) : rn d 72 77 [a0, a1, a2, a3, a4, some (.int x)] [.ref s0, .int s1, .ref s2] h = rn d 72 79 [a0, a1, a2, a3, a4, some (.int x)] [.int x, .ref s0, .int s1, .ref s2] h := rP (i := (.iload 5)) rfl rfl
theorem e72_79 (d : Nat) (a0 a1 a2 a3 a4 a5 : Option Value) (s0 s2 : Int32) (s1 s3 : Nat) (h : MH)  : rn d 72 79 [a0, a1, a2, a3, a4, a5] [.int s0, .ref s1, .int s2, .ref s3] h = (ageti h 0 s1 s0).bind (fun v => rn d 72 80 [a0, a1, a2, a3, a4, a5] [.int v, .int s2, .ref s3] h) := rIald rfl
theorem e72_80 (d : Nat) (a0 a1 a2 a3 a4 a5 : Option Value) (s0 s1 : Int32) (s2 : Nat) (h : MH)  : rn d 72 80 [a0, a1, a2, a3, a4, a5] [.int s0, .int s1, .ref s2] h = (aputi h 0 s2 s1 s0).bind (fun h => rn d 72 81 [a0, a1, a2, a3, a4, a5] [] h) := rIast rfl
theorem e72_81 (d : Nat) (a1 a2 a3 a4 a5 : Option Value) (h : MH) (x : Nat) : rn d 72 81 [some (.ref x), a1, a2, a3, a4, a5] [] h = rn d 72 82 [some (.ref x), a1, a2, a3, a4, a5] [.ref x] h := rP (i := (.aload_n 0)) rfl rfl
theorem e72_82 (d : Nat) (a0 a1 a2 a3 a4 a5 : Option Value) (s0 : Nat) (h : MH)  : rn d 72 82 [a0, a1, a2, a3, a4, a5] [.ref s0] h = (fgetv h s0 5 11).bind (fun v => rn d 72 85 [a0, a1, a2, a3, a4, a5] [v] h) := rGet (idx := 38) rfl rfl
theorem e72_85 (d : Nat) (a0 a2 a3 a4 a5 : Option Value) (s0 : Nat) (h : MH) (x : Int32) : rn d 72 85 [a0, some (.int x), a2, a3, a4, a5] [.ref s0] h = rn d 72 86 [a0, some (.int x), a2, a3, a4, a5] [.int x, .ref s0] h := rP (i := (.iload_n 1)) rfl rfl
theorem e72_86 (d : Nat) (a0 a1 a2 a3 a4 a5 : Option Value) (s0 : Int32) (s1 : Nat) (h : MH)  : rn d 72 86 [a0, a1, a2, a3, a4, a5] [.int s0, .ref s1] h = rn d 72 88 [a0, a1, a2, a3, a4, a5] [.int 24, .int s0, .ref s1] h := rP (i := (.bipush 24)) rfl rfl
theorem e72_88 (d : Nat) (a0 a1 a2 a3 a4 a5 : Option Value) (s0 s1 : Int32) (s2 : Nat) (h : MH)  : rn d 72 88 [a0, a1, a2, a3, a4, a5] [.int s0, .int s1, .ref s2] h = rn d 72 89 [a0, a1, a2, a3, a4, a5] [.int (s1 * s0), .ref s2] h := rP (i := (.imul)) rfl rfl
theorem e72_89 (d : Nat) (a0 a1 a2 a3 a4 : Option Value) (s0 : Int32) (s1 : Nat) (h : MH) (x : Int32) : rn d 72 89 [a0, a1, a2, a3, a4, some (.int x)] [.int s0, .ref s1] h = rn d 72 91 [a0, a1, a2, a3, a4, some (.int x)] [.int x, .int s0, .ref s1] h := rP (i := (.iload 5)) rfl rfl
theorem e72_91 (d : Nat) (a0 a1 a2 a3 a4 a5 : Option Value) (s0 s1 : Int32) (s2 : Nat) (h : MH)  : rn d 72 91 [a0, a1, a2, a3, a4, a5] [.int s0, .int s1, .ref s2] h = rn d 72 92 [a0, a1, a2, a3, a4, a5] [.int (s1 + s0), .ref s2] h := rP (i := (.iadd)) rfl rfl
theorem e72_92 (d : Nat) (a1 a2 a3 a4 a5 : Option Value) (s0 : Int32) (s1 : Nat) (h : MH) (x : Nat) : rn d 72 92 [some (.ref x), a1, a2, a3, a4, a5] [.int s0, .ref s1] h = rn d 72 93 [some (.ref x), a1, a2, a3, a4, a5] [.ref x, .int s0, .ref s1] h := rP (i := (.aload_n 0)) rfl rfl
theorem e72_93 (d : Nat) (a0 a1 a2 a3 a4 a5 : Option Value) (s1 : Int32) (s0 s2 : Nat) (h : MH)  : rn d 72 93 [a0, a1, a2, a3, a4, a5] [.ref s0, .int s1, .ref s2] h = (fgetv h s0 5 12).bind (fun v => rn d 72 96 [a0, a1, a2, a3, a4, a5] [v, .int s1, .ref s2] h) := rGet (idx := 42) rfl rfl
theorem e72_96 (d : Nat) (a0 a1 a2 a3 a4 : Option Value) (s1 : Int32) (s0 s2 : Nat) (h : MH) (x : Int32) : rn d 72 96 [a0, a1, a2, a3, a4, some (.int x)] [.ref s0, .int s1, .ref s2] h = rn d 72 98 [a0, a1, a2, a3, a4, some (.int x)] [.int x, .ref s0, .int s1, .ref s2] h := rP (i := (.iload 5)) rfl rfl
theorem e72_98 (d : Nat) (a0 a1 a2 a3 a4 a5 : Option Value) (s0 s2 : Int32) (s1 s3 : Nat) (h : MH)  : rn d 72 98 [a0, a1, a2, a3, a4, a5] [.int s0, .ref s1, .int s2, .ref s3] h = (ageti h 1 s1 s0).bind (fun v => rn d 72 99 [a0, a1, a2, a3, a4, a5] [.int v, .int s2, .ref s3] h) := rBald rfl
theorem e72_99 (d : Nat) (a0 a1 a2 a3 a4 a5 : Option Value) (s0 s1 : Int32) (s2 : Nat) (h : MH) (hz : s0 &&& 1 = s0) : rn d 72 99 [a0, a1, a2, a3, a4, a5] [.int s0, .int s1, .ref s2] h = (aputi h 1 s2 s1 s0).bind (fun h => rn d 72 100 [a0, a1, a2, a3, a4, a5] [] h) := rBast hz rfl
theorem e72_99q0 (d : Nat) (a0 a1 a2 a3 a4 a5 : Option Value) (s1 : Int32) (s2 : Nat) (h : MH) : rn d 72 99 [a0, a1, a2, a3, a4, a5] [.int 0, .int s1, .ref s2] h = (aputi h 1 s2 s1 0).bind (fun h => rn d 72 100 [a0, a1, a2, a3, a4, a5] [] h) := rBast rfl rfl
theorem e72_99q1 (d : Nat) (a0 a1 a2 a3 a4 a5 : Option Value) (s1 : Int32) (s2 : Nat) (h : MH) : rn d 72 99 [a0, a1, a2, a3, a4, a5] [.int 1, .int s1, .ref s2] h = (aputi h 1 s2 s1 1).bind (fun h => rn d 72 100 [a0, a1, a2, a3, a4, a5] [] h) := rBast rfl rfl
theorem e72_100 (d : Nat) (a0 a1 a2 a3 a4 : Option Value) (h : MH) (x : Int32) : rn d 72 100 [a0, a1, a2, a3, a4, some (.int x)] [] h = rn d 72 103 [a0, a1, a2, a3, a4, some (.int (x + 1))] [] h := rP (i := (.iinc 5 1)) rfl rfl
theorem e72_103 (d : Nat) (a0 a1 a2 a3 a4 a5 : Option Value) (h : MH)  : rn d 72 103 [a0, a1, a2, a3, a4, a5] [] h = rn d 72 56 [a0, a1, a2, a3, a4, a5] [] h := rP (i := (.goto (-47))) rfl rfl
theorem e72_106 (d : Nat) (a1 a2 a3 a4 a5 : Option Value) (h : MH) (x : Nat) : rn d 72 106 [some (.ref x), a1, a2, a3, a4, a5] [] h = rn d 72 107 [some (.ref x), a1, a2, a3, a4, a5] [.ref x] h := rP (i := (.aload_n 0)) rfl rfl
theorem e72_107 (d : Nat) (a0 a2 a3 a4 a5 : Option Value) (s0 : Nat) (h : MH) (x : Int32) : rn d 72 107 [a0, some (.int x), a2, a3, a4, a5] [.ref s0] h = rn d 72 108 [a0, some (.int x), a2, a3, a4, a5] [.int x, .ref s0] h := rP (i := (.iload_n 1)) rfl rfl
theorem e72_108 (d : Nat) (a0 a1 a2 a3 a4 a5 : Option Value) (s0 : Int32) (s1 : Nat) (h : MH) (hz : clsOf h s1 = some 5) : rn (d + 1) 72 108 [a0, a1, a2, a3, a4, a5] [.int s0, .ref s1] h = (rn d 74 0 [some (.ref s1), some (.int s0), none, none, none, none, none, none] [] h).bind (fun R => rn (d + 1) 72 111 [a0, a1, a2, a3, a4, a5] (R.1.toList ++ []) R.2) := rInv (i := (.invokevirtual 99)) (n := 2) (tl := [478, 479, 38, 58]) rfl rfl rfl rfl (by decide) (Nat.le_of_ble_eq_true rfl) (Nat.le_of_ble_eq_true rfl) (Nat.le_of_ble_eq_true rfl) (rcv_V hz)
theorem e72_111 (d : Nat) (a1 a2 a3 a4 a5 : Option Value) (h : MH) (x : Nat) : rn d 72 111 [some (.ref x), a1, a2, a3, a4, a5] [] h = rn d 72 112 [some (.ref x), a1, a2, a3, a4, a5] [.ref x] h := rP (i := (.aload_n 0)) rfl rfl
theorem e72_112 (d : Nat) (a0 a1 a2 a3 a4 a5 : Option Value) (s0 : Nat) (h : MH)  : rn d 72 112 [a0, a1, a2, a3, a4, a5] [.ref s0] h = rn d 72 113 [a0, a1, a2, a3, a4, a5] [.int 0, .ref s0] h := rP (i := (.iconst 0)) rfl rfl
theorem e72_113 (d : Nat) (a0 a1 a2 a3 a4 a5 : Option Value) (s0 : Int32) (s1 : Nat) (h : MH)  : rn d 72 113 [a0, a1, a2, a3, a4, a5] [.int s0, .ref s1] h = (fputh h s1 5 15 .boolean (.int s0)).bind (fun h => rn d 72 116 [a0, a1, a2, a3, a4, a5] [] h) := rPut (idx := 103) rfl rfl
theorem e72_116 (d : Nat) (a1 a2 a3 a4 a5 : Option Value) (h : MH) (x : Nat) : rn d 72 116 [some (.ref x), a1, a2, a3, a4, a5] [] h = rn d 72 117 [some (.ref x), a1, a2, a3, a4, a5] [.ref x] h := rP (i := (.aload_n 0)) rfl rfl
theorem e72_117 (d : Nat) (a0 a1 a2 a3 a4 a5 : Option Value) (s0 : Nat) (h : MH)  : rn d 72 117 [a0, a1, a2, a3, a4, a5] [.ref s0] h = (fgetv h s0 5 3).bind (fun v => rn d 72 120 [a0, a1, a2, a3, a4, a5] [v] h) := rGet (idx := 92) rfl rfl
theorem e72_120 (d : Nat) (a0 a1 a2 a3 a4 a5 : Option Value) (s0 : Int32) (h : MH)  : rn d 72 120 [a0, a1, a2, a3, a4, a5] [.int s0] h = some (some (.int s0), h) := rIret rfl rfl
-- 73: FlowEquationsModel.good()Z
theorem e73_0 (d : Nat) (a0 a1 a2 a3 a4 a5 a6 : Option Value) (h : MH)  : rn d 73 0 [a0, a1, a2, a3, a4, a5, a6] [] h = rn d 73 1 [a0, a1, a2, a3, a4, a5, a6] [.int 1] h := rP (i := (.iconst 1)) rfl rfl
theorem e73_1 (d : Nat) (a0 a1 a2 a3 a4 a5 a6 : Option Value) (s0 : Int32) (h : MH)  : rn d 73 1 [a0, a1, a2, a3, a4, a5, a6] [.int s0] h = rn d 73 2 [a0, some (.int s0), a2, a3, a4, a5, a6] [] h := rP (i := (.istore_n 1)) rfl rfl
theorem e73_2 (d : Nat) (a1 a2 a3 a4 a5 a6 : Option Value) (h : MH) (x : Nat) : rn d 73 2 [some (.ref x), a1, a2, a3, a4, a5, a6] [] h = rn d 73 3 [some (.ref x), a1, a2, a3, a4, a5, a6] [.ref x] h := rP (i := (.aload_n 0)) rfl rfl
theorem e73_3 (d : Nat) (a0 a1 a2 a3 a4 a5 a6 : Option Value) (s0 : Nat) (h : MH)  : rn d 73 3 [a0, a1, a2, a3, a4, a5, a6] [.ref s0] h = (fgetv h s0 5 23).bind (fun v => rn d 73 6 [a0, a1, a2, a3, a4, a5, a6] [v] h) := rGet (idx := 69) rfl rfl
theorem e73_6 (d : Nat) (a0 a1 a2 a3 a4 a5 a6 : Option Value) (s0 : Nat) (h : MH)  : rn d 73 6 [a0, a1, a2, a3, a4, a5, a6] [.ref s0] h = rn d 73 7 [a0, a1, a2, a3, a4, a5, a6] [.int 0, .ref s0] h := rP (i := (.iconst 0)) rfl rfl
theorem e73_7 (d : Nat) (a0 a1 a2 a3 a4 a5 a6 : Option Value) (s0 : Int32) (s1 : Nat) (h : MH)  : rn d 73 7 [a0, a1, a2, a3, a4, a5, a6] [.int s0, .ref s1] h = rn d 73 8 [a0, a1, a2, a3, a4, a5, a6] [.int 1, .int s0, .ref s1] h := rP (i := (.iconst 1)) rfl rfl
theorem e73_8 (d : Nat) (a0 a1 a2 a3 a4 a5 a6 : Option Value) (s0 s1 : Int32) (s2 : Nat) (h : MH)  : rn d 73 8 [a0, a1, a2, a3, a4, a5, a6] [.int s0, .int s1, .ref s2] h = (aputi h 0 s2 s1 s0).bind (fun h => rn d 73 9 [a0, a1, a2, a3, a4, a5, a6] [] h) := rIast rfl
theorem e73_9 (d : Nat) (a1 a2 a3 a4 a5 a6 : Option Value) (h : MH) (x : Nat) : rn d 73 9 [some (.ref x), a1, a2, a3, a4, a5, a6] [] h = rn d 73 10 [some (.ref x), a1, a2, a3, a4, a5, a6] [.ref x] h := rP (i := (.aload_n 0)) rfl rfl
theorem e73_10 (d : Nat) (a0 a1 a2 a3 a4 a5 a6 : Option Value) (s0 : Nat) (h : MH)  : rn d 73 10 [a0, a1, a2, a3, a4, a5, a6] [.ref s0] h = rn d 73 11 [a0, a1, a2, a3, a4, a5, a6] [.int 0, .ref s0] h := rP (i := (.iconst 0)) rfl rfl
theorem e73_11 (d : Nat) (a0 a1 a2 a3 a4 a5 a6 : Option Value) (s0 : Int32) (s1 : Nat) (h : MH)  : rn d 73 11 [a0, a1, a2, a3, a4, a5, a6] [.int s0, .ref s1] h = (fputh h s1 5 3 .int (.int s0)).bind (fun h => rn d 73 14 [a0, a1, a2, a3, a4, a5, a6] [] h) := rPut (idx := 92) rfl rfl
theorem e73_14 (d : Nat) (a0 a1 a2 a3 a4 a5 a6 : Option Value) (h : MH)  : rn d 73 14 [a0, a1, a2, a3, a4, a5, a6] [] h = rn d 73 15 [a0, a1, a2, a3, a4, a5, a6] [.int 0] h := rP (i := (.iconst 0)) rfl rfl
theorem e73_15 (d : Nat) (a0 a1 a2 a3 a4 a5 a6 : Option Value) (s0 : Int32) (h : MH)  : rn d 73 15 [a0, a1, a2, a3, a4, a5, a6] [.int s0] h = rn d 73 16 [a0, a1, some (.int s0), a3, a4, a5, a6] [] h := rP (i := (.istore_n 2)) rfl rfl
theorem e73_16 (d : Nat) (a0 a1 a3 a4 a5 a6 : Option Value) (h : MH) (x : Int32) : rn d 73 16 [a0, a1, some (.int x), a3, a4, a5, a6] [] h = rn d 73 17 [a0, a1, some (.int x), a3, a4, a5, a6] [.int x] h := rP (i := (.iload_n 2)) rfl rfl
theorem e73_17 (d : Nat) (a1 a2 a3 a4 a5 a6 : Option Value) (s0 : Int32) (h : MH) (x : Nat) : rn d 73 17 [some (.ref x), a1, a2, a3, a4, a5, a6] [.int s0] h = rn d 73 18 [some (.ref x), a1, a2, a3, a4, a5, a6] [.ref x, .int s0] h := rP (i := (.aload_n 0)) rfl rfl
theorem e73_18 (d : Nat) (a0 a1 a2 a3 a4 a5 a6 : Option Value) (s1 : Int32) (s0 : Nat) (h : MH)  : rn d 73 18 [a0, a1, a2, a3, a4, a5, a6] [.ref s0, .int s1] h = (fgetv h s0 5 1).bind (fun v => rn d 73 21 [a0, a1, a2, a3, a4, a5, a6] [v, .int s1] h) := rGet (idx := 85) rfl rfl
theorem e73_21 (d : Nat) (a0 a1 a2 a3 a4 a5 a6 : Option Value) (s0 s1 : Int32) (h : MH)  : rn d 73 21 [a0, a1, a2, a3, a4, a5, a6] [.int s0, .int s1] h = if s1 < s0 then rn d 73 24 [a0, a1, a2, a3, a4, a5, a6] [] h else rn d 73 245 [a0, a1, a2, a3, a4, a5, a6] [] h := rGe2 (off := 224) 245 rfl rfl
theorem e73_24 (d : Nat) (a1 a2 a3 a4 a5 a6 : Option Value) (h : MH) (x : Nat) : rn d 73 24 [some (.ref x), a1, a2, a3, a4, a5, a6] [] h = rn d 73 25 [some (.ref x), a1, a2, a3, a4, a5, a6] [.ref x] h := rP (i := (.aload_n 0)) rfl rfl
theorem e73_25 (d : Nat) (a0 a1 a3 a4 a5 a6 : Option Value) (s0 : Nat) (h : MH) (x : Int32) : rn d 73 25 [a0, a1, some (.int x), a3, a4, a5, a6] [.ref s0] h = rn d 73 26 [a0, a1, some (.int x), a3, a4, a5, a6] [.int x, .ref s0] h := rP (i := (.iload_n 2)) rfl rfl
theorem e73_26 (d : Nat) (a0 a1 a2 a3 a4 a5 a6 : Option Value) (s0 : Int32) (s1 : Nat) (h : MH)  : rn d 73 26 [a0, a1, a2, a3, a4, a5, a6] [.int s0, .ref s1] h = (fputh h s1 5 2 .int (.int s0)).bind (fun h => rn d 73 29 [a0, a1, a2, a3, a4, a5, a6] [] h) := rPut (idx := 13) rfl rfl
theorem e73_29 (d : Nat) (a0 a2 a3 a4 a5 a6 : Option Value) (h : MH) (x : Int32) : rn d 73 29 [a0, some (.int x), a2, a3, a4, a5, a6] [] h = rn d 73 30 [a0, some (.int x), a2, a3, a4, a5, a6] [.int x] h := rP (i := (.iload_n 1)) rfl rfl
theorem e73_30 (d : Nat) (a0 a1 a2 a3 a4 a5 a6 : Option Value) (s0 : Int32) (h : MH)  : rn d 73 30 [a0, a1, a2, a3, a4, a5, a6] [.int s0] h = if s0 = 0 then rn d 73 33 [a0, a1, a2, a3, a4, a5, a6] [] h else rn d 73 35 [a0, a1, a2, a3, a4, a5, a6] [] h := rNe1 (off := 5) 35 rfl rfl
theorem e73_33 (d : Nat) (a0 a1 a2 a3 a4 a5 a6 : Option Value) (h : MH)  : rn d 73 33 [a0, a1, a2, a3, a4, a5, a6] [] h = rn d 73 34 [a0, a1, a2, a3, a4, a5, a6] [.int 0] h := rP (i := (.iconst 0)) rfl rfl
theorem e73_34 (d : Nat) (a0 a1 a2 a3 a4 a5 a6 : Option Value) (s0 : Int32) (h : MH) (hz : s0 &&& 1 = s0) : rn d 73 34 [a0, a1, a2, a3, a4, a5, a6] [.int s0] h = some (some (.int s0), h) := rIretZ hz rfl rfl
theorem e73_34q0 (d : Nat) (a0 a1 a2 a3 a4 a5 a6 : Option Value)  (h : MH) : rn d 73 34 [a0, a1, a2, a3, a4, a5, a6] [.int 0] h = some (some (.int 0), h) := rIretZ rfl rfl rfl
theorem e73_34q1 (d : Nat) (a0 a1 a2 a3 a4 a5 a6 : Option Value)  (h : MH) : rn d 73 34 [a0, a1, a2, a3, a4, a5, a6] [.int 1] h = some (some (.int 1), h) := rIretZ rfl rfl rfl
theorem e73_35 (d : Nat) (a0 a2 a3 a4 a5 a6 : Option Value) (h : MH) (x : Int32) : rn d 73 35 [a0, some (.int x), a2, a3, a4, a5, a6] [] h = rn d 73 38 [a0, some (.int (x + (-1))), a2, a3, a4, a5, a6] [] h := rP (i := (.iinc 1 (-1))) rfl rfl
theorem e73_38 (d : Nat) (a1 a2 a3 a4 a5 a6 : Option Value) (h : MH) (x : Nat) : rn d 73 38 [some (.ref x), a1, a2, a3, a4, a5, a6] [] h = rn d 73 39 [some (.ref x), a1, a2, a3, a4, a5, a6] [.ref x] h := rP (i := (.aload_n 0)) rfl rfl
theorem e73_39 (d : Nat) (a0 a1 a2 a3 a4 a5 a6 : Option Value) (s0 : Nat) (h : MH)  : rn d 73 39 [a0, a1, a2, a3, a4, a5, a6] [.ref s0] h = (fgetv h s0 5 0).bind (fun v => rn d 73 42 [a0, a1, a2, a3, a4, a5, a6] [v] h) := rGet (idx := 7) rfl rfl
theorem e73_42 (d : Nat) (a0 a1 a3 a4 a5 a6 : Option Value) (s0 : Nat) (h : MH) (x : Int32) : rn d 73 42 [a0, a1, some (.int x), a3, a4, a5, a6] [.ref s0] h = rn d 73 43 [a0, a1, some (.int x), a3, a4, a5, a6] [.int x, .ref s0] h := rP (i := (.iload_n 2)) rfl rfl
theorem e73_43 (d : Nat) (a0 a1 a2 a3 a4 a5 a6 : Option Value) (s0 : Int32) (s1 : Nat) (h : MH)  : rn d 73 43 [a0, a1, a2, a3, a4, a5, a6] [.int s0, .ref s1] h = (ageti h 0 s1 s0).bind (fun v => rn d 73 44 [a0, a1, a2, a3, a4, a5, a6] [.int v] h) := rIald rfl
theorem e73_44 (d : Nat) (a0 a1 a2 a3 a4 a5 a6 : Option Value) (s0 : Int32) (h : MH)  : rn d 73 44 [a0, a1, a2, a3, a4, a5, a6] [.int s0] h = rn d 73 45 [a0, a1, a2, some (.int s0), a4, a5, a6] [] h := rP (i := (.istore_n 3)) rfl rfl
theorem e73_45 (d : Nat) (a1 a2 a3 a4 a5 a6 : Option Value) (h : MH) (x : Nat) : rn d 73 45 [some (.ref x), a1, a2, a3, a4, a5, a6] [] h = rn d 73 46 [some (.ref x), a1, a2, a3, a4, a5, a6] [.ref x] h := rP (i := (.aload_n 0)) rfl rfl
theorem e73_46 (d : Nat) (a0 a1 a2 a3 a4 a5 a6 : Option Value) (s0 : Nat) (h : MH)  : rn d 73 46 [a0, a1, a2, a3, a4, a5, a6] [.ref s0] h = (fgetv h s0 5 23).bind (fun v => rn d 73 49 [a0, a1, a2, a3, a4, a5, a6] [v] h) := rGet (idx := 69) rfl rfl
theorem e73_49 (d : Nat) (a0 a2 a3 a4 a5 a6 : Option Value) (s0 : Nat) (h : MH) (x : Int32) : rn d 73 49 [a0, some (.int x), a2, a3, a4, a5, a6] [.ref s0] h = rn d 73 50 [a0, some (.int x), a2, a3, a4, a5, a6] [.int x, .ref s0] h := rP (i := (.iload_n 1)) rfl rfl
theorem e73_50 (d : Nat) (a0 a1 a2 a3 a4 a5 a6 : Option Value) (s0 : Int32) (s1 : Nat) (h : MH)  : rn d 73 50 [a0, a1, a2, a3, a4, a5, a6] [.int s0, .ref s1] h = (ageti h 0 s1 s0).bind (fun v => rn d 73 51 [a0, a1, a2, a3, a4, a5, a6] [.int v] h) := rIald rfl
theorem e73_51 (d : Nat) (a0 a1 a2 a3 a4 a5 a6 : Option Value) (s0 : Int32) (h : MH)  : rn d 73 51 [a0, a1, a2, a3, a4, a5, a6] [.int s0] h = rn d 73 53 [a0, a1, a2, a3, some (.int s0), a5, a6] [] h := rP (i := (.istore 4)) rfl rfl
theorem e73_53 (d : Nat) (a1 a2 a3 a4 a5 a6 : Option Value) (h : MH) (x : Nat) : rn d 73 53 [some (.ref x), a1, a2, a3, a4, a5, a6] [] h = rn d 73 54 [some (.ref x), a1, a2, a3, a4, a5, a6] [.ref x] h := rP (i := (.aload_n 0)) rfl rfl
theorem e73_54 (d : Nat) (a0 a1 a2 a3 a4 a5 a6 : Option Value) (s0 : Nat) (h : MH)  : rn d 73 54 [a0, a1, a2, a3, a4, a5, a6] [.ref s0] h = (fgetv h s0 5 12).bind (fun v => rn d 73 57 [a0, a1, a2, a3, a4, a5, a6] [v] h) := rGet (idx := 42) rfl rfl
theorem e73_57 (d : Nat) (a0 a1 a3 a4 a5 a6 : Option Value) (s0 : Nat) (h : MH) (x : Int32) : rn d 73 57 [a0, a1, some (.int x), a3, a4, a5, a6] [.ref s0] h = rn d 73 58 [a0, a1, some (.int x), a3, a4, a5, a6] [.int x, .ref s0] h := rP (i := (.iload_n 2)) rfl rfl
theorem e73_58 (d : Nat) (a0 a1 a2 a3 a5 a6 : Option Value) (s0 : Int32) (s1 : Nat) (h : MH) (x : Int32) : rn d 73 58 [a0, a1, a2, a3, some (.int x), a5, a6] [.int s0, .ref s1] h = rn d 73 60 [a0, a1, a2, a3, some (.int x), a5, a6] [.int x, .int s0, .ref s1] h := rP (i := (.iload 4)) rfl rfl
theorem e73_60 (d : Nat) (a0 a1 a2 a3 a4 a5 a6 : Option Value) (s0 s1 : Int32) (s2 : Nat) (h : MH)  : rn d 73 60 [a0, a1, a2, a3, a4, a5, a6] [.int s0, .int s1, .ref s2] h = if 0 < s0 then rn d 73 63 [a0, a1, a2, a3, a4, a5, a6] [.int s1, .ref s2] h else rn d 73 67 [a0, a1, a2, a3, a4, a5, a6] [.int s1, .ref s2] h := rLe1 (off := 7) 67 rfl rfl
theorem e73_63 (d : Nat) (a0 a1 a2 a3 a4 a5 a6 : Option Value) (s0 : Int32) (s1 : Nat) (h : MH)  : rn d 73 63 [a0, a1, a2, a3, a4, a5, a6] [.int s0, .ref s1] h = rn d 73 64 [a0, a1, a2, a3, a4, a5, a6] [.int 1, .int s0, .ref s1] h := rP (i := (.iconst 1)) rfl rfl
theorem e73_64 (d : Nat) (a0 a1 a2 a3 a4 a5 a6 : Option Value) (s0 s1 : Int32) (s2 : Nat) (h : MH)  : rn d 73 64 [a0, a1, a2, a3, a4, a5, a6] [.int s0, .int s1, .ref s2] h = rn d 73 68 [a0, a1, a2, a3, a4, a5, a6] [.int s0, .int s1, .ref s2] h := rP (i := (.goto 4)) rfl rfl
theorem e73_67 (d : Nat) (a0 a1 a2 a3 a4 a5 a6 : Option Value) (s0 : Int32) (s1 : Nat) (h : MH)  : rn d 73 67 [a0, a1, a2, a3, a4, a5, a6] [.int s0, .ref s1] h = rn d 73 68 [a0, a1, a2, a3, a4, a5, a6] [.int 0, .int s0, .ref s1] h := rP (i := (.iconst 0)) rfl rfl
theorem e73_68 (d : Nat) (a0 a1 a2 a3 a4 a5 a6 : Option Value) (s0 s1 : Int32) (s2 : Nat) (h : MH) (hz : s0 &&& 1 = s0) : rn d 73 68 [a0, a1, a2, a3, a4, a5, a6] [.int s0, .int s1, .ref s2] h = (aputi h 1 s2 s1 s0).bind (fun h => rn d 73 69 [a0, a1, a2, a3, a4, a5, a6] [] h) := rBast hz rfl
theorem e73_68q0 (d : Nat) (a0 a1 a2 a3 a4 a5 a6 : Option Value) (s1 : Int32) (s2 : Nat) (h : MH) : rn d 73 68 [a0, a1, a2, a3, a4, a5, a6] [.int 0, .int s1, .ref s2] h = (aputi h 1 s2 s1 0).bind (fun h => rn d 73 69 [a0, a1, a2, a3, a4, a5, a6] [] h) := rBast rfl rfl
theorem e73_68q1 (d : Nat) (a0 a1 a2 a3 a4 a5 a6 : Option Value) (s1 : Int32) (s2 : Nat) (h : MH) : rn d 73 68 [a0, a1, a2, a3, a4, a5, a6] [.int 1, .int s1, .ref s2] h = (aputi h 1 s2 s1 1).bind (fun h => rn d 73 69 [a0, a1, a2, a3, a4, a5, a6] [] h) := rBast rfl rfl
theorem e73_69 (d : Nat) (a0 a1 a2 a3 a5 a6 : Option Value) (h : MH) (x : Int32) : rn d 73 69 [a0, a1, a2, a3, some (.int x), a5, a6] [] h = rn d 73 71 [a0, a1, a2, a3, some (.int x), a5, a6] [.int x] h := rP (i := (.iload 4)) rfl rfl
theorem e73_71 (d : Nat) (a0 a1 a2 a3 a4 a5 a6 : Option Value) (s0 : Int32) (h : MH)  : rn d 73 71 [a0, a1, a2, a3, a4, a5, a6] [.int s0] h = if s0 = 0 then rn d 73 74 [a0, a1, a2, a3, a4, a5, a6] [] h else rn d 73 83 [a0, a1, a2, a3, a4, a5, a6] [] h := rNe1 (off := 12) 83 rfl rfl
theorem e73_74 (d : Nat) (a0 a1 a2 a4 a5 a6 : Option Value) (h : MH) (x : Int32) : rn d 73 74 [a0, a1, a2, some (.int x), a4, a5, a6] [] h = rn d 73 75 [a0, a1, a2, some (.int x), a4, a5, a6] [.int x] h := rP (i := (.iload_n 3)) rfl rfl
theorem e73_75 (d : Nat) (a0 a1 a2 a3 a4 a5 a6 : Option Value) (s0 : Int32) (h : MH)  : rn (d + 1) 73 75 [a0, a1, a2, a3, a4, a5, a6] [.int s0] h = (rn d 68 0 [some (.int s0)] [] h).bind (fun R => rn (d + 1) 73 78 [a0, a1, a2, a3, a4, a5, a6] (R.1.toList ++ []) R.2) := rInv (i := (.invokestatic 76)) (n := 1) (tl := [457, 458, 58]) rfl rfl rfl rfl (by decide) (Nat.le_of_ble_eq_true rfl) (Nat.le_of_ble_eq_true rfl) (Nat.le_of_ble_eq_true rfl) rfl
theorem e73_78 (d : Nat) (a0 a1 a2 a3 a4 a5 a6 : Option Value) (s0 : Int32) (h : MH)  : rn d 73 78 [a0, a1, a2, a3, a4, a5, a6] [.int s0] h = if s0 = 0 then rn d 73 81 [a0, a1, a2, a3, a4, a5, a6] [] h else rn d 73 239 [a0, a1, a2, a3, a4, a5, a6] [] h := rNe1 (off := 161) 239 rfl rfl
theorem e73_81 (d : Nat) (a0 a1 a2 a3 a4 a5 a6 : Option Value) (h : MH)  : rn d 73 81 [a0, a1, a2, a3, a4, a5, a6] [] h = rn d 73 82 [a0, a1, a2, a3, a4, a5, a6] [.int 0] h := rP (i := (.iconst 0)) rfl rfl
theorem e73_82 (d : Nat) (a0 a1 a2 a3 a4 a5 a6 : Option Value) (s0 : Int32) (h : MH) (hz : s0 &&& 1 = s0) : rn d 73 82 [a0, a1, a2, a3, a4, a5, a6] [.int s0] h = some (some (.int s0), h) := rIretZ hz rfl rfl
theorem e73_82q0 (d : Nat) (a0 a1 a2 a3 a4 a5 a6 : Option Value)  (h : MH) : rn d 73 82 [a0, a1, a2, a3, a4, a5, a6] [.int 0] h = some (some (.int 0), h) := rIretZ rfl rfl rfl
theorem e73_82q1 (d : Nat) (a0 a1 a2 a3 a4 a5 a6 : Option Value)  (h : MH) : rn d 73 82 [a0, a1, a2, a3, a4, a5, a6] [.int 1] h = some (some (.int 1), h) := rIretZ rfl rfl rfl
theorem e73_83 (d : Nat) (a0 a1 a2 a3 a5 a6 : Option Value) (h : MH) (x : Int32) : rn d 73 83 [a0, a1, a2, a3, some (.int x), a5, a6] [] h = rn d 73 85 [a0, a1, a2, a3, some (.int x), a5, a6] [.int x] h := rP (i := (.iload 4)) rfl rfl
theorem e73_85 (d : Nat) (a1 a2 a3 a4 a5 a6 : Option Value) (s0 : Int32) (h : MH) (x : Nat) : rn d 73 85 [some (.ref x), a1, a2, a3, a4, a5, a6] [.int s0] h = rn d 73 86 [some (.ref x), a1, a2, a3, a4, a5, a6] [.ref x, .int s0] h := rP (i := (.aload_n 0)) rfl rfl
theorem e73_86 (d : Nat) (a0 a1 a2 a3 a4 a5 a6 : Option Value) (s1 : Int32) (s0 : Nat) (h : MH)  : rn d 73 86 [a0, a1, a2, a3, a4, a5, a6] [.ref s0, .int s1] h = (fgetv h s0 5 3).bind (fun v => rn d 73 89 [a0, a1, a2, a3, a4, a5, a6] [v, .int s1] h) := rGet (idx := 92) rfl rfl
theorem e73_89 (d : Nat) (a0 a1 a2 a3 a4 a5 a6 : Option Value) (s0 s1 : Int32) (h : MH)  : rn d 73 89 [a0, a1, a2, a3, a4, a5, a6] [.int s0, .int s1] h = if s0 < s1 then rn d 73 92 [a0, a1, a2, a3, a4, a5, a6] [] h else rn d 73 98 [a0, a1, a2, a3, a4, a5, a6] [] h := rLe2 (off := 9) 98 rfl rfl
theorem e73_92 (d : Nat) (a1 a2 a3 a4 a5 a6 : Option Value) (h : MH) (x : Nat) : rn d 73 92 [some (.ref x), a1, a2, a3, a4, a5, a6] [] h = rn d 73 93 [some (.ref x), a1, a2, a3, a4, a5, a6] [.ref x] h := rP (i := (.aload_n 0)) rfl rfl
theorem e73_93 (d : Nat) (a0 a1 a2 a3 a5 a6 : Option Value) (s0 : Nat) (h : MH) (x : Int32) : rn d 73 93 [a0, a1, a2, a3, some (.int x), a5, a6] [.ref s0] h = rn d 73 95 [a0, a1, a2, a3, some (.int x), a5, a6] [.int x, .ref s0] h := rP (i := (.iload 4)) rfl rfl
theorem e73_95 (d : Nat) (a0 a1 a2 a3 a4 a5 a6 : Option Value) (s0 : Int32) (s1 : Nat) (h : MH)  : rn d 73 95 [a0, a1, a2, a3, a4, a5, a6] [.int s0, .ref s1] h = (fputh h s1 5 3 .int (.int s0)).bind (fun h => rn d 73 98 [a0, a1, a2, a3, a4, a5, a6] [] h) := rPut (idx := 92) rfl rfl
theorem e73_98 (d : Nat) (a0 a1 a2 a4 a5 a6 : Option Value) (h : MH) (x : Int32) : rn d 73 98 [a0, a1, a2, some (.int x), a4, a5, a6] [] h = rn d 73 99 [a0, a1, a2, some (.int x), a4, a5, a6] [.int x] h := rP (i := (.iload_n 3)) rfl rfl
theorem e73_99 (d : Nat) (a0 a1 a2 a3 a4 a5 a6 : Option Value) (s0 : Int32) (h : MH)  : rn (d + 1) 73 99 [a0, a1, a2, a3, a4, a5, a6] [.int s0] h = (rn d 67 0 [some (.int s0)] [] h).bind (fun R => rn (d + 1) 73 102 [a0, a1, a2, a3, a4, a5, a6] (R.1.toList ++ []) R.2) := rInv (i := (.invokestatic 72)) (n := 1) (tl := [454, 455, 58]) rfl rfl rfl rfl (by decide) (Nat.le_of_ble_eq_true rfl) (Nat.le_of_ble_eq_true rfl) (Nat.le_of_ble_eq_true rfl) rfl
theorem e73_102 (d : Nat) (a0 a1 a2 a3 a4 a5 a6 : Option Value) (s0 : Int32) (h : MH)  : rn d 73 102 [a0, a1, a2, a3, a4, a5, a6] [.int s0] h = if s0 = 0 then rn d 73 105 [a0, a1, a2, a3, a4, a5, a6] [] h else rn d 73 239 [a0, a1, a2, a3, a4, a5, a6] [] h := rNe1 (off := 137) 239 rfl rfl
theorem e73_105 (d : Nat) (a0 a1 a2 a4 a5 a6 : Option Value) (h : MH) (x : Int32) : rn d 73 105 [a0, a1, a2, some (.int x), a4, a5, a6] [] h = rn d 73 106 [a0, a1, a2, some (.int x), a4, a5, a6] [.int x] h := rP (i := (.iload_n 3)) rfl rfl
theorem e73_106 (d : Nat) (a0 a1 a2 a3 a4 a5 a6 : Option Value) (s0 : Int32) (h : MH)  : rn (d + 1) 73 106 [a0, a1, a2, a3, a4, a5, a6] [.int s0] h = (rn d 68 0 [some (.int s0)] [] h).bind (fun R => rn (d + 1) 73 109 [a0, a1, a2, a3, a4, a5, a6] (R.1.toList ++ []) R.2) := rInv (i := (.invokestatic 76)) (n := 1) (tl := [457, 458, 58]) rfl rfl rfl rfl (by decide) (Nat.le_of_ble_eq_true rfl) (Nat.le_of_ble_eq_true rfl) (Nat.le_of_ble_eq_true rfl) rfl
theorem e73_109 (d : Nat) (a0 a1 a2 a3 a4 a5 a6 : Option Value) (s0 : Int32) (h : MH)  : rn d 73 109 [a0, a1, a2, a3, a4, a5, a6] [.int s0] h = if s0 = 0 then rn d 73 112 [a0, a1, a2, a3, a4, a5, a6] [] h else rn d 73 239 [a0, a1, a2, a3, a4, a5, a6] [] h := rNe1 (off := 130) 239 rfl rfl
theorem e73_112 (d : Nat) (a0 a1 a2 a4 a5 a6 : Option Value) (h : MH) (x : Int32) : rn d 73 112 [a0, a1, a2, some (.int x), a4, a5, a6] [] h = rn d 73 113 [a0, a1, a2, some (.int x), a4, a5, a6] [.int x] h := rP (i := (.iload_n 3)) rfl rfl
theorem e73_113 (d : Nat) (a0 a1 a2 a3 a4 a5 a6 : Option Value) (s0 : Int32) (h : MH)  : rn (d + 1) 73 113 [a0, a1, a2, a3, a4, a5, a6] [.int s0] h = (rn d 69 0 [some (.int s0)] [] h).bind (fun R => rn (d + 1) 73 116 [a0, a1, a2, a3, a4, a5, a6] (R.1.toList ++ []) R.2) := rInv (i := (.invokestatic 79)) (n := 1) (tl := [460, 461, 58]) rfl rfl rfl rfl (by decide) (Nat.le_of_ble_eq_true rfl) (Nat.le_of_ble_eq_true rfl) (Nat.le_of_ble_eq_true rfl) rfl
theorem e73_116 (d : Nat) (a0 a1 a2 a3 a4 a5 a6 : Option Value) (s0 : Int32) (h : MH)  : rn d 73 116 [a0, a1, a2, a3, a4, a5, a6] [.int s0] h = if s0 = 0 then rn d 73 122 [a0, a1, a2, a3, a4, a5, a6] [] h else rn d 73 119 [a0, a1, a2, a3, a4, a5, a6] [] h := rEq1 (off := 6) 122 rfl rfl
theorem e73_119 (d : Nat) (a0 a1 a2 a3 a4 a5 a6 : Option Value) (h : MH)  : rn d 73 119 [a0, a1, a2, a3, a4, a5, a6] [] h = rn d 73 239 [a0, a1, a2, a3, a4, a5, a6] [] h := rP (i := (.goto 120)) rfl rfl
theorem e73_122 (d : Nat) (a0 a1 a2 a3 a5 a6 : Option Value) (h : MH) (x : Int32) : rn d 73 122 [a0, a1, a2, a3, some (.int x), a5, a6] [] h = rn d 73 124 [a0, a1, a2, a3, some (.int x), a5, a6] [.int x] h := rP (i := (.iload 4)) rfl rfl
theorem e73_124 (d : Nat) (a0 a1 a2 a3 a4 a5 a6 : Option Value) (s0 : Int32) (h : MH)  : rn d 73 124 [a0, a1, a2, a3, a4, a5, a6] [.int s0] h = rn d 73 126 [a0, a1, a2, a3, a4, a5, a6] [.int 6, .int s0] h := rP (i := (.bipush 6)) rfl rfl
theorem e73_126 (d : Nat) (a0 a1 a2 a3 a4 a5 a6 : Option Value) (s0 s1 : Int32) (h : MH)  : rn d 73 126 [a0, a1, a2, a3, a4, a5, a6] [.int s0, .int s1] h = if s1 = s0 then rn d 73 129 [a0, a1, a2, a3, a4, a5, a6] [] h else rn d 73 131 [a0, a1, a2, a3, a4, a5, a6] [] h := rNe2 (off := 5) 131 rfl rfl
theorem e73_129 (d : Nat) (a0 a1 a2 a3 a4 a5 a6 : Option Value) (h : MH)  : rn d 73 129 [a0, a1, a2, a3, a4, a5, a6] [] h = rn d 73 130 [a0, a1, a2, a3, a4, a5, a6] [.int 0] h := rP (i := (.iconst 0)) rfl rfl
theorem e73_130 (d : Nat) (a0 a1 a2 a3 a4 a5 a6 : Option Value) (s0 : Int32) (h : MH) (hz : s0 &&& 1 = s0) : rn d 73 130 [a0, a1, a2, a3, a4, a5, a6] [.int s0] h = some (some (.int s0), h) := rIretZ hz rfl rfl
theorem e73_130q0 (d : Nat) (a0 a1 a2 a3 a4 a5 a6 : Option Value)  (h : MH) : rn d 73 130 [a0, a1, a2, a3, a4, a5, a6] [.int 0] h = some (some (.int 0), h) := rIretZ rfl rfl rfl
theorem e73_130q1 (d : Nat) (a0 a1 a2 a3 a4 a5 a6 : Option Value)  (h : MH) : rn d 73 130 [a0, a1, a2, a3, a4, a5, a6] [.int 1] h = some (some (.int 1), h) := rIretZ rfl rfl rfl
theorem e73_131 (d : Nat) (a0 a1 a2 a4 a5 a6 : Option Value) (h : MH) (x : Int32) : rn d 73 131 [a0, a1, a2, some (.int x), a4, a5, a6] [] h = rn d 73 132 [a0, a1, a2, some (.int x), a4, a5, a6] [.int x] h := rP (i := (.iload_n 3)) rfl rfl
theorem e73_132 (d : Nat) (a0 a1 a2 a3 a4 a5 a6 : Option Value) (s0 : Int32) (h : MH)  : rn d 73 132 [a0, a1, a2, a3, a4, a5, a6] [.int s0] h = rn d 73 134 [a0, a1, a2, a3, a4, a5, a6] [.int 63, .int s0] h := rP (i := (.bipush 63)) rfl rfl
theorem e73_134 (d : Nat) (a0 a1 a2 a3 a4 a5 a6 : Option Value) (s0 s1 : Int32) (h : MH)  : rn d 73 134 [a0, a1, a2, a3, a4, a5, a6] [.int s0, .int s1] h = if s1 = s0 then rn d 73 137 [a0, a1, a2, a3, a4, a5, a6] [] h else rn d 73 141 [a0, a1, a2, a3, a4, a5, a6] [] h := rNe2 (off := 7) 141 rfl rfl
theorem e73_137 (d : Nat) (a0 a1 a2 a3 a4 a5 a6 : Option Value) (h : MH)  : rn d 73 137 [a0, a1, a2, a3, a4, a5, a6] [] h = rn d 73 138 [a0, a1, a2, a3, a4, a5, a6] [.int 3] h := rP (i := (.iconst 3)) rfl rfl
theorem e73_138 (d : Nat) (a0 a1 a2 a3 a4 a5 a6 : Option Value) (s0 : Int32) (h : MH)  : rn d 73 138 [a0, a1, a2, a3, a4, a5, a6] [.int s0] h = rn d 73 159 [a0, a1, a2, a3, a4, a5, a6] [.int s0] h := rP (i := (.goto 21)) rfl rfl
theorem e73_141 (d : Nat) (a0 a1 a2 a4 a5 a6 : Option Value) (h : MH) (x : Int32) : rn d 73 141 [a0, a1, a2, some (.int x), a4, a5, a6] [] h = rn d 73 142 [a0, a1, a2, some (.int x), a4, a5, a6] [.int x] h := rP (i := (.iload_n 3)) rfl rfl
theorem e73_142 (d : Nat) (a0 a1 a2 a3 a4 a5 a6 : Option Value) (s0 : Int32) (h : MH)  : rn (d + 1) 73 142 [a0, a1, a2, a3, a4, a5, a6] [.int s0] h = (rn d 70 0 [some (.int s0)] [] h).bind (fun R => rn (d + 1) 73 145 [a0, a1, a2, a3, a4, a5, a6] (R.1.toList ++ []) R.2) := rInv (i := (.invokestatic 82)) (n := 1) (tl := [463, 464, 58]) rfl rfl rfl rfl (by decide) (Nat.le_of_ble_eq_true rfl) (Nat.le_of_ble_eq_true rfl) (Nat.le_of_ble_eq_true rfl) rfl
theorem e73_145 (d : Nat) (a0 a1 a2 a3 a4 a5 a6 : Option Value) (s0 : Int32) (h : MH)  : rn d 73 145 [a0, a1, a2, a3, a4, a5, a6] [.int s0] h = if s0 = 0 then rn d 73 148 [a0, a1, a2, a3, a4, a5, a6] [] h else rn d 73 154 [a0, a1, a2, a3, a4, a5, a6] [] h := rNe1 (off := 9) 154 rfl rfl
theorem e73_148 (d : Nat) (a0 a1 a2 a4 a5 a6 : Option Value) (h : MH) (x : Int32) : rn d 73 148 [a0, a1, a2, some (.int x), a4, a5, a6] [] h = rn d 73 149 [a0, a1, a2, some (.int x), a4, a5, a6] [.int x] h := rP (i := (.iload_n 3)) rfl rfl
theorem e73_149 (d : Nat) (a0 a1 a2 a3 a4 a5 a6 : Option Value) (s0 : Int32) (h : MH)  : rn d 73 149 [a0, a1, a2, a3, a4, a5, a6] [.int s0] h = rn d 73 151 [a0, a1, a2, a3, a4, a5, a6] [.int 70, .int s0] h := rP (i := (.bipush 70)) rfl rfl
theorem e73_151 (d : Nat) (a0 a1 a2 a3 a4 a5 a6 : Option Value) (s0 s1 : Int32) (h : MH)  : rn d 73 151 [a0, a1, a2, a3, a4, a5, a6] [.int s0, .int s1] h = if s1 = s0 then rn d 73 154 [a0, a1, a2, a3, a4, a5, a6] [] h else rn d 73 158 [a0, a1, a2, a3, a4, a5, a6] [] h := rNe2 (off := 7) 158 rfl rfl
theorem e73_154 (d : Nat) (a0 a1 a2 a3 a4 a5 a6 : Option Value) (h : MH)  : rn d 73 154 [a0, a1, a2, a3, a4, a5, a6] [] h = rn d 73 155 [a0, a1, a2, a3, a4, a5, a6] [.int 2] h := rP (i := (.iconst 2)) rfl rfl
theorem e73_155 (d : Nat) (a0 a1 a2 a3 a4 a5 a6 : Option Value) (s0 : Int32) (h : MH)  : rn d 73 155 [a0, a1, a2, a3, a4, a5, a6] [.int s0] h = rn d 73 159 [a0, a1, a2, a3, a4, a5, a6] [.int s0] h := rP (i := (.goto 4)) rfl rfl
theorem e73_158 (d : Nat) (a0 a1 a2 a3 a4 a5 a6 : Option Value) (h : MH)  : rn d 73 158 [a0, a1, a2, a3, a4, a5, a6] [] h = rn d 73 159 [a0, a1, a2, a3, a4, a5, a6] [.int 1] h := rP (i := (.iconst 1)) rfl rfl
theorem e73_159 (d : Nat) (a0 a1 a2 a3 a4 a5 a6 : Option Value) (s0 : Int32) (h : MH)  : rn d 73 159 [a0, a1, a2, a3, a4, a5, a6] [.int s0] h = rn d 73 161 [a0, a1, a2, a3, a4, some (.int s0), a6] [] h := rP (i := (.istore 5)) rfl rfl
theorem e73_161 (d : Nat) (a0 a1 a2 a4 a5 a6 : Option Value) (h : MH) (x : Int32) : rn d 73 161 [a0, a1, a2, some (.int x), a4, a5, a6] [] h = rn d 73 162 [a0, a1, a2, some (.int x), a4, a5, a6] [.int x] h := rP (i := (.iload_n 3)) rfl rfl
theorem e73_162 (d : Nat) (a0 a1 a2 a3 a4 a5 a6 : Option Value) (s0 : Int32) (h : MH)  : rn d 73 162 [a0, a1, a2, a3, a4, a5, a6] [.int s0] h = rn d 73 164 [a0, a1, a2, a3, a4, a5, a6] [.int 87, .int s0] h := rP (i := (.bipush 87)) rfl rfl
theorem e73_164 (d : Nat) (a0 a1 a2 a3 a4 a5 a6 : Option Value) (s0 s1 : Int32) (h : MH)  : rn d 73 164 [a0, a1, a2, a3, a4, a5, a6] [.int s0, .int s1] h = if s1 = s0 then rn d 73 167 [a0, a1, a2, a3, a4, a5, a6] [] h else rn d 73 174 [a0, a1, a2, a3, a4, a5, a6] [] h := rNe2 (off := 10) 174 rfl rfl
theorem e73_167 (d : Nat) (a1 a2 a3 a4 a5 a6 : Option Value) (h : MH) (x : Nat) : rn d 73 167 [some (.ref x), a1, a2, a3, a4, a5, a6] [] h = rn d 73 168 [some (.ref x), a1, a2, a3, a4, a5, a6] [.ref x] h := rP (i := (.aload_n 0)) rfl rfl
theorem e73_168 (d : Nat) (a0 a1 a2 a3 a4 a5 a6 : Option Value) (s0 : Nat) (h : MH)  : rn d 73 168 [a0, a1, a2, a3, a4, a5, a6] [.ref s0] h = (fgetv h s0 5 23).bind (fun v => rn d 73 171 [a0, a1, a2, a3, a4, a5, a6] [v] h) := rGet (idx := 69) rfl rfl
theorem e73_171 (d : Nat) (a0 a2 a3 a4 a5 a6 : Option Value) (s0 : Nat) (h : MH) (x : Int32) : rn d 73 171 [a0, some (.int x), a2, a3, a4, a5, a6] [.ref s0] h = rn d 73 172 [a0, some (.int x), a2, a3, a4, a5, a6] [.int x, .ref s0] h := rP (i := (.iload_n 1)) rfl rfl
theorem e73_172 (d : Nat) (a0 a1 a2 a3 a4 a5 a6 : Option Value) (s0 : Int32) (s1 : Nat) (h : MH)  : rn d 73 172 [a0, a1, a2, a3, a4, a5, a6] [.int s0, .ref s1] h = rn d 73 173 [a0, a1, a2, a3, a4, a5, a6] [.int 0, .int s0, .ref s1] h := rP (i := (.iconst 0)) rfl rfl
theorem e73_173 (d : Nat) (a0 a1 a2 a3 a4 a5 a6 : Option Value) (s0 s1 : Int32) (s2 : Nat) (h : MH)  : rn d 73 173 [a0, a1, a2, a3, a4, a5, a6] [.int s0, .int s1, .ref s2] h = (aputi h 0 s2 s1 s0).bind (fun h => rn d 73 174 [a0, a1, a2, a3, a4, a5, a6] [] h) := rIast rfl
theorem e73_174 (d : Nat) (a0 a1 a2 a4 a5 a6 : Option Value) (h : MH) (x : Int32) : rn d 73 174 [a0, a1, a2, some (.int x), a4, a5, a6] [] h = rn d 73 175 [a0, a1, a2, some (.int x), a4, a5, a6] [.int x] h := rP (i := (.iload_n 3)) rfl rfl
theorem e73_175 (d : Nat) (a0 a1 a2 a3 a4 a5 a6 : Option Value) (s0 : Int32) (h : MH)  : rn d 73 175 [a0, a1, a2, a3, a4, a5, a6] [.int s0] h = rn d 73 177 [a0, a1, a2, a3, a4, a5, a6] [.int 87, .int s0] h := rP (i := (.bipush 87)) rfl rfl
theorem e73_177 (d : Nat) (a0 a1 a2 a3 a4 a5 a6 : Option Value) (s0 s1 : Int32) (h : MH)  : rn d 73 177 [a0, a1, a2, a3, a4, a5, a6] [.int s0, .int s1] h = if s1 = s0 then rn d 73 180 [a0, a1, a2, a3, a4, a5, a6] [] h else rn d 73 183 [a0, a1, a2, a3, a4, a5, a6] [] h := rNe2 (off := 6) 183 rfl rfl
theorem e73_180 (d : Nat) (a0 a2 a3 a4 a5 a6 : Option Value) (h : MH) (x : Int32) : rn d 73 180 [a0, some (.int x), a2, a3, a4, a5, a6] [] h = rn d 73 183 [a0, some (.int (x + 1)), a2, a3, a4, a5, a6] [] h := rP (i := (.iinc 1 1)) rfl rfl
theorem e73_183 (d : Nat) (a0 a1 a2 a3 a4 a5 a6 : Option Value) (h : MH)  : rn d 73 183 [a0, a1, a2, a3, a4, a5, a6] [] h = rn d 73 184 [a0, a1, a2, a3, a4, a5, a6] [.int 0] h := rP (i := (.iconst 0)) rfl rfl
theorem e73_184 (d : Nat) (a0 a1 a2 a3 a4 a5 a6 : Option Value) (s0 : Int32) (h : MH)  : rn d 73 184 [a0, a1, a2, a3, a4, a5, a6] [.int s0] h = rn d 73 186 [a0, a1, a2, a3, a4, a5, some (.int s0)] [] h := rP (i := (.istore 6)) rfl rfl
theorem e73_186 (d : Nat) (a0 a1 a2 a3 a4 a5 : Option Value) (h : MH) (x : Int32) : rn d 73 186 [a0, a1, a2, a3, a4, a5, some (.int x)] [] h = rn d 73 188 [a0, a1, a2, a3, a4, a5, some (.int x)] [.int x] h := rP (i := (.iload 6)) rfl rfl
theorem e73_188 (d : Nat) (a0 a1 a2 a3 a4 a6 : Option Value) (s0 : Int32) (h : MH) (x : Int32) : rn d 73 188 [a0, a1, a2, a3, a4, some (.int x), a6] [.int s0] h = rn d 73 190 [a0, a1, a2, a3, a4, some (.int x), a6] [.int x, .int s0] h := rP (i := (.iload 5)) rfl rfl
theorem e73_190 (d : Nat) (a0 a1 a2 a3 a4 a5 a6 : Option Value) (s0 s1 : Int32) (h : MH)  : rn d 73 190 [a0, a1, a2, a3, a4, a5, a6] [.int s0, .int s1] h = if s1 < s0 then rn d 73 193 [a0, a1, a2, a3, a4, a5, a6] [] h else rn d 73 212 [a0, a1, a2, a3, a4, a5, a6] [] h := rGe2 (off := 22) 212 rfl rfl
theorem e73_193 (d : Nat) (a1 a2 a3 a4 a5 a6 : Option Value) (h : MH) (x : Nat) : rn d 73 193 [some (.ref x), a1, a2, a3, a4, a5, a6] [] h = rn d 73 194 [some (.ref x), a1, a2, a3, a4, a5, a6] [.ref x] h := rP (i := (.aload_n 0)) rfl rfl
theorem e73_194 (d : Nat) (a0 a1 a2 a3 a4 a5 a6 : Option Value) (s0 : Nat) (h : MH)  : rn d 73 194 [a0, a1, a2, a3, a4, a5, a6] [.ref s0] h = (fgetv h s0 5 23).bind (fun v => rn d 73 197 [a0, a1, a2, a3, a4, a5, a6] [v] h) := rGet (idx := 69) rfl rfl
theorem e73_197 (d : Nat) (a0 a2 a3 a4 a5 a6 : Option Value) (s0 : Nat) (h : MH) (x : Int32) : rn d 73 197 [a0, some (.int x), a2, a3, a4, a5, a6] [.ref s0] h = rn d 73 198 [a0, some (.int x), a2, a3, a4, a5, a6] [.int x, .ref s0] h := rP (i := (.iload_n 1)) rfl rfl
theorem e73_198 (d : Nat) (a0 a1 a2 a3 a4 a5 : Option Value) (s0 : Int32) (s1 : Nat) (h : MH) (x : Int32) : rn d 73 198 [a0, a1, a2, a3, a4, a5, some (.int x)] [.int s0, .ref s1] h = rn d 73 200 [a0, a1, a2, a3, a4, a5, some (.int x)] [.int x, .int s0, .ref s1] h := rP (i := (.iload 6)) rfl rfl
theorem e73_200 (d : Nat) (a0 a1 a2 a3 a4 a5 a6 : Option Value) (s0 s1 : Int32) (s2 : Nat) (h : MH)  : rn d 73 200 [a0, a1, a2, a3, a4, a5, a6] [.int s0, .int s1, .ref s2] h = rn d 73 201 [a0, a1, a2, a3, a4, a5, a6] [.int (s1 + s0), .ref s2] h := rP (i := (.iadd)) rfl rfl
theorem e73_201 (d : Nat) (a0 a1 a2 a3 a5 a6 : Option Value) (s0 : Int32) (s1 : Nat) (h : MH) (x : Int32) : rn d 73 201 [a0, a1, a2, a3, some (.int x), a5, a6] [.int s0, .ref s1] h = rn d 73 203 [a0, a1, a2, a3, some (.int x), a5, a6] [.int x, .int s0, .ref s1] h := rP (i := (.iload 4)) rfl rfl
theorem e73_203 (d : Nat) (a0 a1 a2 a3 a4 a5 a6 : Option Value) (s0 s1 : Int32) (s2 : Nat) (h : MH)  : rn d 73 203 [a0, a1, a2, a3, a4, a5, a6] [.int s0, .int s1, .ref s2] h = rn d 73 204 [a0, a1, a2, a3, a4, a5, a6] [.int 1, .int s0, .int s1, .ref s2] h := rP (i := (.iconst 1)) rfl rfl
theorem e73_204 (d : Nat) (a0 a1 a2 a3 a4 a5 a6 : Option Value) (s0 s1 s2 : Int32) (s3 : Nat) (h : MH)  : rn d 73 204 [a0, a1, a2, a3, a4, a5, a6] [.int s0, .int s1, .int s2, .ref s3] h = rn d 73 205 [a0, a1, a2, a3, a4, a5, a6] [.int (s1 + s0), .int s2, .ref s3] h := rP (i := (.iadd)) rfl rfl
theorem e73_205 (d : Nat) (a0 a1 a2 a3 a4 a5 a6 : Option Value) (s0 s1 : Int32) (s2 : Nat) (h : MH)  : rn d 73 205 [a0, a1, a2, a3, a4, a5, a6] [.int s0, .int s1, .ref s2] h = (aputi h 0 s2 s1 s0).bind (fun h => rn d 73 206 [a0, a1, a2, a3, a4, a5, a6] [] h) := rIast rfl
theorem e73_206 (d : Nat) (a0 a1 a2 a3 a4 a5 : Option Value) (h : MH) (x : Int32) : rn d 73 206 [a0, a1, a2, a3, a4, a5, some (.int x)] [] h = rn d 73 209 [a0, a1, a2, a3, a4, a5, some (.int (x + 1))] [] h := rP (i := (.iinc 6 1)) rfl rfl
theorem e73_209 (d : Nat) (a0 a1 a2 a3 a4 a5 a6 : Option Value) (h : MH)  : rn d 73 209 [a0, a1, a2, a3, a4, a5, a6] [] h = rn d 73 186 [a0, a1, a2, a3, a4, a5, a6] [] h := rP (i := (.goto (-23))) rfl rfl
theorem e73_212 (d : Nat) (a0 a2 a3 a4 a5 a6 : Option Value) (h : MH) (x : Int32) : rn d 73 212 [a0, some (.int x), a2, a3, a4, a5, a6] [] h = rn d 73 213 [a0, some (.int x), a2, a3, a4, a5, a6] [.int x] h := rP (i := (.iload_n 1)) rfl rfl
theorem e73_213 (d : Nat) (a0 a1 a2 a3 a4 a6 : Option Value) (s0 : Int32) (h : MH) (x : Int32) : rn d 73 213 [a0, a1, a2, a3, a4, some (.int x), a6] [.int s0] h = rn d 73 215 [a0, a1, a2, a3, a4, some (.int x), a6] [.int x, .int s0] h := rP (i := (.iload 5)) rfl rfl
theorem e73_215 (d : Nat) (a0 a1 a2 a3 a4 a5 a6 : Option Value) (s0 s1 : Int32) (h : MH)  : rn d 73 215 [a0, a1, a2, a3, a4, a5, a6] [.int s0, .int s1] h = rn d 73 216 [a0, a1, a2, a3, a4, a5, a6] [.int (s1 + s0)] h := rP (i := (.iadd)) rfl rfl
theorem e73_216 (d : Nat) (a0 a1 a2 a3 a4 a5 a6 : Option Value) (s0 : Int32) (h : MH)  : rn d 73 216 [a0, a1, a2, a3, a4, a5, a6] [.int s0] h = rn d 73 217 [a0, some (.int s0), a2, a3, a4, a5, a6] [] h := rP (i := (.istore_n 1)) rfl rfl
theorem e73_217 (d : Nat) (a0 a1 a2 a4 a5 a6 : Option Value) (h : MH) (x : Int32) : rn d 73 217 [a0, a1, a2, some (.int x), a4, a5, a6] [] h = rn d 73 218 [a0, a1, a2, some (.int x), a4, a5, a6] [.int x] h := rP (i := (.iload_n 3)) rfl rfl
theorem e73_218 (d : Nat) (a0 a1 a2 a3 a4 a5 a6 : Option Value) (s0 : Int32) (h : MH)  : rn d 73 218 [a0, a1, a2, a3, a4, a5, a6] [.int s0] h = rn d 73 220 [a0, a1, a2, a3, a4, a5, a6] [.int 67, .int s0] h := rP (i := (.bipush 67)) rfl rfl
theorem e73_220 (d : Nat) (a0 a1 a2 a3 a4 a5 a6 : Option Value) (s0 s1 : Int32) (h : MH)  : rn d 73 220 [a0, a1, a2, a3, a4, a5, a6] [.int s0, .int s1] h = if s1 = s0 then rn d 73 223 [a0, a1, a2, a3, a4, a5, a6] [] h else rn d 73 230 [a0, a1, a2, a3, a4, a5, a6] [] h := rNe2 (off := 10) 230 rfl rfl
theorem e73_223 (d : Nat) (a1 a2 a3 a4 a5 a6 : Option Value) (h : MH) (x : Nat) : rn d 73 223 [some (.ref x), a1, a2, a3, a4, a5, a6] [] h = rn d 73 224 [some (.ref x), a1, a2, a3, a4, a5, a6] [.ref x] h := rP (i := (.aload_n 0)) rfl rfl
theorem e73_224 (d : Nat) (a0 a1 a2 a3 a4 a5 a6 : Option Value) (s0 : Nat) (h : MH)  : rn d 73 224 [a0, a1, a2, a3, a4, a5, a6] [.ref s0] h = (fgetv h s0 5 23).bind (fun v => rn d 73 227 [a0, a1, a2, a3, a4, a5, a6] [v] h) := rGet (idx := 69) rfl rfl
theorem e73_227 (d : Nat) (a0 a2 a3 a4 a5 a6 : Option Value) (s0 : Nat) (h : MH) (x : Int32) : rn d 73 227 [a0, some (.int x), a2, a3, a4, a5, a6] [.ref s0] h = rn d 73 228 [a0, some (.int x), a2, a3, a4, a5, a6] [.int x, .ref s0] h := rP (i := (.iload_n 1)) rfl rfl
theorem e73_228 (d : Nat) (a0 a1 a2 a3 a4 a5 a6 : Option Value) (s0 : Int32) (s1 : Nat) (h : MH)  : rn d 73 228 [a0, a1, a2, a3, a4, a5, a6] [.int s0, .ref s1] h = rn d 73 229 [a0, a1, a2, a3, a4, a5, a6] [.int 0, .int s0, .ref s1] h := rP (i := (.iconst 0)) rfl rfl
theorem e73_229 (d : Nat) (a0 a1 a2 a3 a4 a5 a6 : Option Value) (s0 s1 : Int32) (s2 : Nat) (h : MH)  : rn d 73 229 [a0, a1, a2, a3, a4, a5, a6] [.int s0, .int s1, .ref s2] h = (aputi h 0 s2 s1 s0).bind (fun h => rn d 73 230 [a0, a1, a2, a3, a4, a5, a6] [] h) := rIast rfl
theorem e73_230 (d : Nat) (a0 a1 a2 a4 a5 a6 : Option Value) (h : MH) (x : Int32) : rn d 73 230 [a0, a1, a2, some (.int x), a4, a5, a6] [] h = rn d 73 231 [a0, a1, a2, some (.int x), a4, a5, a6] [.int x] h := rP (i := (.iload_n 3)) rfl rfl
theorem e73_231 (d : Nat) (a0 a1 a2 a3 a4 a5 a6 : Option Value) (s0 : Int32) (h : MH)  : rn d 73 231 [a0, a1, a2, a3, a4, a5, a6] [.int s0] h = rn d 73 233 [a0, a1, a2, a3, a4, a5, a6] [.int 67, .int s0] h := rP (i := (.bipush 67)) rfl rfl
theorem e73_233 (d : Nat) (a0 a1 a2 a3 a4 a5 a6 : Option Value) (s0 s1 : Int32) (h : MH)  : rn d 73 233 [a0, a1, a2, a3, a4, a5, a6] [.int s0, .int s1] h = if s1 = s0 then rn d 73 236 [a0, a1, a2, a3, a4, a5, a6] [] h else rn d 73 239 [a0, a1, a2, a3, a4, a5, a6] [] h := rNe2 (off := 6) 239 rfl rfl
theorem e73_236 (d : Nat) (a0 a2 a3 a4 a5 a6 : Option Value) (h : MH) (x : Int32) : rn d 73 236 [a0, some (.int x), a2, a3, a4, a5, a6] [] h = rn d 73 239 [a0, some (.int (x + 1)), a2, a3, a4, a5, a6] [] h := rP (i := (.iinc 1 1)) rfl rfl
theorem e73_239 (d : Nat) (a0 a1 a3 a4 a5 a6 : Option Value) (h : MH) (x : Int32) : rn d 73 239 [a0, a1, some (.int x), a3, a4, a5, a6] [] h = rn d 73 242 [a0, a1, some (.int (x + 1)), a3, a4, a5, a6] [] h := rP (i := (.iinc 2 1)) rfl rfl
theorem e73_242 (d : Nat) (a0 a1 a2 a3 a4 a5 a6 : Option Value) (h : MH)  : rn d 73 242 [a0, a1, a2, a3, a4, a5, a6] [] h = rn d 73 16 [a0, a1, a2, a3, a4, a5, a6] [] h := rP (i := (.goto (-226))) rfl rfl
theorem e73_245 (d : Nat) (a1 a2 a3 a4 a5 a6 : Option Value) (h : MH) (x : Nat) : rn d 73 245 [some (.ref x), a1, a2, a3, a4, a5, a6] [] h = rn d 73 246 [some (.ref x), a1, a2, a3, a4, a5, a6] [.ref x] h := rP (i := (.aload_n 0)) rfl rfl
theorem e73_246 (d : Nat) (a1 a2 a3 a4 a5 a6 : Option Value) (s0 : Nat) (h : MH) (x : Nat) : rn d 73 246 [some (.ref x), a1, a2, a3, a4, a5, a6] [.ref s0] h = rn d 73 247 [some (.ref x), a1, a2, a3, a4, a5, a6] [.ref x, .ref s0] h := rP (i := (.aload_n 0)) rfl rfl
theorem e73_247 (d : Nat) (a0 a1 a2 a3 a4 a5 a6 : Option Value) (s0 s1 : Nat) (h : MH)  : rn d 73 247 [a0, a1, a2, a3, a4, a5, a6] [.ref s0, .ref s1] h = (fgetv h s0 5 1).bind (fun v => rn d 73 250 [a0, a1, a2, a3, a4, a5, a6] [v, .ref s1] h) := rGet (idx := 85) rfl rfl
theorem e73_250 (d : Nat) (a0 a1 a2 a3 a4 a5 a6 : Option Value) (s0 : Int32) (s1 : Nat) (h : MH)  : rn d 73 250 [a0, a1, a2, a3, a4, a5, a6] [.int s0, .ref s1] h = (fputh h s1 5 2 .int (.int s0)).bind (fun h => rn d 73 253 [a0, a1, a2, a3, a4, a5, a6] [] h) := rPut (idx := 13) rfl rfl
theorem e73_253 (d : Nat) (a0 a2 a3 a4 a5 a6 : Option Value) (h : MH) (x : Int32) : rn d 73 253 [a0, some (.int x), a2, a3, a4, a5, a6] [] h = rn d 73 254 [a0, some (.int x), a2, a3, a4, a5, a6] [.int x] h := rP (i := (.iload_n 1)) rfl rfl
theorem e73_254 (d : Nat) (a0 a1 a2 a3 a4 a5 a6 : Option Value) (s0 : Int32) (h : MH)  : rn d 73 254 [a0, a1, a2, a3, a4, a5, a6] [.int s0] h = if s0 = 0 then rn d 73 257 [a0, a1, a2, a3, a4, a5, a6] [] h else rn d 73 261 [a0, a1, a2, a3, a4, a5, a6] [] h := rNe1 (off := 7) 261 rfl rfl
theorem e73_257 (d : Nat) (a0 a1 a2 a3 a4 a5 a6 : Option Value) (h : MH)  : rn d 73 257 [a0, a1, a2, a3, a4, a5, a6] [] h = rn d 73 258 [a0, a1, a2, a3, a4, a5, a6] [.int 1] h := rP (i := (.iconst 1)) rfl rfl
theorem e73_258 (d : Nat) (a0 a1 a2 a3 a4 a5 a6 : Option Value) (s0 : Int32) (h : MH)  : rn d 73 258 [a0, a1, a2, a3, a4, a5, a6] [.int s0] h = rn d 73 262 [a0, a1, a2, a3, a4, a5, a6] [.int s0] h := rP (i := (.goto 4)) rfl rfl
theorem e73_261 (d : Nat) (a0 a1 a2 a3 a4 a5 a6 : Option Value) (h : MH)  : rn d 73 261 [a0, a1, a2, a3, a4, a5, a6] [] h = rn d 73 262 [a0, a1, a2, a3, a4, a5, a6] [.int 0] h := rP (i := (.iconst 0)) rfl rfl
theorem e73_262 (d : Nat) (a0 a1 a2 a3 a4 a5 a6 : Option Value) (s0 : Int32) (h : MH) (hz : s0 &&& 1 = s0) : rn d 73 262 [a0, a1, a2, a3, a4, a5, a6] [.int s0] h = some (some (.int s0), h) := rIretZ hz rfl rfl
theorem e73_262q0 (d : Nat) (a0 a1 a2 a3 a4 a5 a6 : Option Value)  (h : MH) : rn d 73 262 [a0, a1, a2, a3, a4, a5, a6] [.int 0] h = some (some (.int 0), h) := rIretZ rfl rfl rfl
theorem e73_262q1 (d : Nat) (a0 a1 a2 a3 a4 a5 a6 : Option Value)  (h : MH) : rn d 73 262 [a0, a1, a2, a3, a4, a5, a6] [.int 1] h = some (some (.int 1), h) := rIretZ rfl rfl rfl
-- 74: FlowEquationsModel.findEnds(I)V
theorem e74_0 (d : Nat) (a1 a2 a3 a4 a5 a6 a7 : Option Value) (h : MH) (x : Nat) : rn d 74 0 [some (.ref x), a1, a2, a3, a4, a5, a6, a7] [] h = rn d 74 1 [some (.ref x), a1, a2, a3, a4, a5, a6, a7] [.ref x] h := rP (i := (.aload_n 0)) rfl rfl
theorem e74_1 (d : Nat) (a0 a1 a2 a3 a4 a5 a6 a7 : Option Value) (s0 : Nat) (h : MH)  : rn d 74 1 [a0, a1, a2, a3, a4, a5, a6, a7] [.ref s0] h = (fgetv h s0 5 5).bind (fun v => rn d 74 4 [a0, a1, a2, a3, a4, a5, a6, a7] [v] h) := rGet (idx := 20) rfl rfl
theorem e74_4 (d : Nat) (a0 a2 a3 a4 a5 a6 a7 : Option Value) (s0 : Nat) (h : MH) (x : Int32) : rn d 74 4 [a0, some (.int x), a2, a3, a4, a5, a6, a7] [.ref s0] h = rn d 74 5 [a0, some (.int x), a2, a3, a4, a5, a6, a7] [.int x, .ref s0] h := rP (i := (.iload_n 1)) rfl rfl
theorem e74_5 (d : Nat) (a0 a1 a2 a3 a4 a5 a6 a7 : Option Value) (s0 : Int32) (s1 : Nat) (h : MH)  : rn d 74 5 [a0, a1, a2, a3, a4, a5, a6, a7] [.int s0, .ref s1] h = (ageti h 0 s1 s0).bind (fun v => rn d 74 6 [a0, a1, a2, a3, a4, a5, a6, a7] [.int v] h) := rIald rfl
theorem e74_6 (d : Nat) (a0 a1 a2 a3 a4 a5 a6 a7 : Option Value) (s0 : Int32) (h : MH)  : rn d 74 6 [a0, a1, a2, a3, a4, a5, a6, a7] [.int s0] h = rn d 74 7 [a0, a1, a2, a3, a4, a5, a6, a7] [.int 1, .int s0] h := rP (i := (.iconst 1)) rfl rfl
theorem e74_7 (d : Nat) (a0 a1 a2 a3 a4 a5 a6 a7 : Option Value) (s0 s1 : Int32) (h : MH)  : rn d 74 7 [a0, a1, a2, a3, a4, a5, a6, a7] [.int s0, .int s1] h = rn d 74 8 [a0, a1, a2, a3, a4, a5, a6, a7] [.int (s1 - s0)] h := rP (i := (.isub)) rfl rfl
theorem e74_8 (d : Nat) (a0 a1 a2 a3 a4 a5 a6 a7 : Option Value) (s0 : Int32) (h : MH)  : rn d 74 8 [a0, a1, a2, a3, a4, a5, a6, a7] [.int s0] h = rn d 74 9 [a0, a1, some (.int s0), a3, a4, a5, a6, a7] [] h := rP (i := (.istore_n 2)) rfl rfl
theorem e74_9 (d : Nat) (a0 a1 a3 a4 a5 a6 a7 : Option Value) (h : MH) (x : Int32) : rn d 74 9 [a0, a1, some (.int x), a3, a4, a5, a6, a7] [] h = rn d 74 10 [a0, a1, some (.int x), a3, a4, a5, a6, a7] [.int x] h := rP (i := (.iload_n 2)) rfl rfl
theorem e74_10 (d : Nat) (a0 a1 a2 a3 a4 a5 a6 a7 : Option Value) (s0 : Int32) (h : MH)  : rn d 74 10 [a0, a1, a2, a3, a4, a5, a6, a7] [.int s0] h = if s0 < 0 then rn d 74 162 [a0, a1, a2, a3, a4, a5, a6, a7] [] h else rn d 74 13 [a0, a1, a2, a3, a4, a5, a6, a7] [] h := rLt1 (off := 152) 162 rfl rfl
theorem e74_13 (d : Nat) (a0 a2 a3 a4 a5 a6 a7 : Option Value) (h : MH) (x : Int32) : rn d 74 13 [a0, some (.int x), a2, a3, a4, a5, a6, a7] [] h = rn d 74 14 [a0, some (.int x), a2, a3, a4, a5, a6, a7] [.int x] h := rP (i := (.iload_n 1)) rfl rfl
theorem e74_14 (d : Nat) (a0 a1 a2 a3 a4 a5 a6 a7 : Option Value) (s0 : Int32) (h : MH)  : rn d 74 14 [a0, a1, a2, a3, a4, a5, a6, a7] [.int s0] h = rn d 74 16 [a0, a1, a2, a3, a4, a5, a6, a7] [.int 24, .int s0] h := rP (i := (.bipush 24)) rfl rfl
theorem e74_16 (d : Nat) (a0 a1 a2 a3 a4 a5 a6 a7 : Option Value) (s0 s1 : Int32) (h : MH)  : rn d 74 16 [a0, a1, a2, a3, a4, a5, a6, a7] [.int s0, .int s1] h = rn d 74 17 [a0, a1, a2, a3, a4, a5, a6, a7] [.int (s1 * s0)] h := rP (i := (.imul)) rfl rfl
theorem e74_17 (d : Nat) (a0 a1 a3 a4 a5 a6 a7 : Option Value) (s0 : Int32) (h : MH) (x : Int32) : rn d 74 17 [a0, a1, some (.int x), a3, a4, a5, a6, a7] [.int s0] h = rn d 74 18 [a0, a1, some (.int x), a3, a4, a5, a6, a7] [.int x, .int s0] h := rP (i := (.iload_n 2)) rfl rfl
theorem e74_18 (d : Nat) (a0 a1 a2 a3 a4 a5 a6 a7 : Option Value) (s0 s1 : Int32) (h : MH)  : rn d 74 18 [a0, a1, a2, a3, a4, a5, a6, a7] [.int s0, .int s1] h = rn d 74 19 [a0, a1, a2, a3, a4, a5, a6, a7] [.int (s1 + s0)] h := rP (i := (.iadd)) rfl rfl
theorem e74_19 (d : Nat) (a0 a1 a2 a3 a4 a5 a6 a7 : Option Value) (s0 : Int32) (h : MH)  : rn d 74 19 [a0, a1, a2, a3, a4, a5, a6, a7] [.int s0] h = rn d 74 20 [a0, a1, a2, some (.int s0), a4, a5, a6, a7] [] h := rP (i := (.istore_n 3)) rfl rfl
theorem e74_20 (d : Nat) (a1 a2 a3 a4 a5 a6 a7 : Option Value) (h : MH) (x : Nat) : rn d 74 20 [some (.ref x), a1, a2, a3, a4, a5, a6, a7] [] h = rn d 74 21 [some (.ref x), a1, a2, a3, a4, a5, a6, a7] [.ref x] h := rP (i := (.aload_n 0)) rfl rfl
theorem e74_21 (d : Nat) (a0 a1 a2 a3 a4 a5 a6 a7 : Option Value) (s0 : Nat) (h : MH)  : rn d 74 21 [a0, a1, a2, a3, a4, a5, a6, a7] [.ref s0] h = (fgetv h s0 5 4).bind (fun v => rn d 74 24 [a0, a1, a2, a3, a4, a5, a6, a7] [v] h) := rGet (idx := 17) rfl rfl
theorem e74_24 (d : Nat) (a0 a1 a2 a4 a5 a6 a7 : Option Value) (s0 : Nat) (h : MH) (x : Int32) : rn d 74 24 [a0, a1, a2, some (.int x), a4, a5, a6, a7] [.ref s0] h = rn d 74 25 [a0, a1, a2, some (.int x), a4, a5, a6, a7] [.int x, .ref s0] h := rP (i := (.iload_n 3)) rfl rfl
theorem e74_25 (d : Nat) (a0 a1 a2 a3 a4 a5 a6 a7 : Option Value) (s0 : Int32) (s1 : Nat) (h : MH)  : rn d 74 25 [a0, a1, a2, a3, a4, a5, a6, a7] [.int s0, .ref s1] h = (ageti h 0 s1 s0).bind (fun v => rn d 74 26 [a0, a1, a2, a3, a4, a5, a6, a7] [.int v] h) := rIald rfl
theorem e74_26 (d : Nat) (a0 a1 a2 a3 a4 a5 a6 a7 : Option Value) (s0 : Int32) (h : MH)  : rn d 74 26 [a0, a1, a2, a3, a4, a5, a6, a7] [.int s0] h = rn d 74 28 [a0, a1, a2, a3, some (.int s0), a5, a6, a7] [] h := rP (i := (.istore 4)) rfl rfl
theorem e74_28 (d : Nat) (a0 a1 a3 a4 a5 a6 a7 : Option Value) (h : MH) (x : Int32) : rn d 74 28 [a0, a1, some (.int x), a3, a4, a5, a6, a7] [] h = rn d 74 29 [a0, a1, some (.int x), a3, a4, a5, a6, a7] [.int x] h := rP (i := (.iload_n 2)) rfl rfl
theorem e74_29 (d : Nat) (a0 a1 a2 a3 a4 a5 a6 a7 : Option Value) (s0 : Int32) (h : MH)  : rn d 74 29 [a0, a1, a2, a3, a4, a5, a6, a7] [.int s0] h = rn d 74 30 [a0, a1, a2, a3, a4, a5, a6, a7] [.int 1, .int s0] h := rP (i := (.iconst 1)) rfl rfl
theorem e74_30 (d : Nat) (a0 a1 a2 a3 a4 a5 a6 a7 : Option Value) (s0 s1 : Int32) (h : MH)  : rn d 74 30 [a0, a1, a2, a3, a4, a5, a6, a7] [.int s0, .int s1] h = rn d 74 31 [a0, a1, a2, a3, a4, a5, a6, a7] [.int (s1 + s0)] h := rP (i := (.iadd)) rfl rfl
theorem e74_31 (d : Nat) (a0 a1 a2 a3 a4 a5 a6 a7 : Option Value) (s0 : Int32) (h : MH)  : rn d 74 31 [a0, a1, a2, a3, a4, a5, a6, a7] [.int s0] h = rn d 74 33 [a0, a1, a2, a3, a4, some (.int s0), a6, a7] [] h := rP (i := (.istore 5)) rfl rfl
theorem e74_33 (d : Nat) (a0 a1 a2 a3 a5 a6 a7 : Option Value) (h : MH) (x : Int32) : rn d 74 33 [a0, a1, a2, a3, some (.int x), a5, a6, a7] [] h = rn d 74 35 [a0, a1, a2, a3, some (.int x), a5, a6, a7] [.int x] h := rP (i := (.iload 4)) rfl rfl
theorem e74_35 (d : Nat) (a0 a1 a2 a3 a4 a5 a6 a7 : Option Value) (s0 : Int32) (h : MH)  : rn (d + 1) 74 35 [a0, a1, a2, a3, a4, a5, a6, a7] [.int s0] h = (rn d 70 0 [some (.int s0)] [] h).bind (fun R => rn (d + 1) 74 38 [a0, a1, a2, a3, a4, a5, a6, a7] (R.1.toList ++ []) R.2) := rInv (i := (.invokestatic 82)) (n := 1) (tl := [463, 464, 58]) rfl rfl rfl rfl (by decide) (Nat.le_of_ble_eq_true rfl) (Nat.le_of_ble_eq_true rfl) (Nat.le_of_ble_eq_true rfl) rfl
theorem e74_38 (d : Nat) (a0 a1 a2 a3 a4 a5 a6 a7 : Option Value) (s0 : Int32) (h : MH)  : rn d 74 38 [a0, a1, a2, a3, a4, a5, a6, a7] [.int s0] h = if s0 = 0 then rn d 74 41 [a0, a1, a2, a3, a4, a5, a6, a7] [] h else rn d 74 48 [a0, a1, a2, a3, a4, a5, a6, a7] [] h := rNe1 (off := 10) 48 rfl rfl
theorem e74_41 (d : Nat) (a0 a1 a2 a3 a5 a6 a7 : Option Value) (h : MH) (x : Int32) : rn d 74 41 [a0, a1, a2, a3, some (.int x), a5, a6, a7] [] h = rn d 74 43 [a0, a1, a2, a3, some (.int x), a5, a6, a7] [.int x] h := rP (i := (.iload 4)) rfl rfl
theorem e74_43 (d : Nat) (a0 a1 a2 a3 a4 a5 a6 a7 : Option Value) (s0 : Int32) (h : MH)  : rn d 74 43 [a0, a1, a2, a3, a4, a5, a6, a7] [.int s0] h = rn d 74 45 [a0, a1, a2, a3, a4, a5, a6, a7] [.int 70, .int s0] h := rP (i := (.bipush 70)) rfl rfl
theorem e74_45 (d : Nat) (a0 a1 a2 a3 a4 a5 a6 a7 : Option Value) (s0 s1 : Int32) (h : MH)  : rn d 74 45 [a0, a1, a2, a3, a4, a5, a6, a7] [.int s0, .int s1] h = if s1 = s0 then rn d 74 48 [a0, a1, a2, a3, a4, a5, a6, a7] [] h else rn d 74 52 [a0, a1, a2, a3, a4, a5, a6, a7] [] h := rNe2 (off := 7) 52 rfl rfl
theorem e74_48 (d : Nat) (a0 a1 a2 a3 a4 a5 a6 a7 : Option Value) (h : MH)  : rn d 74 48 [a0, a1, a2, a3, a4, a5, a6, a7] [] h = rn d 74 49 [a0, a1, a2, a3, a4, a5, a6, a7] [.int 2] h := rP (i := (.iconst 2)) rfl rfl
theorem e74_49 (d : Nat) (a0 a1 a2 a3 a4 a5 a6 a7 : Option Value) (s0 : Int32) (h : MH)  : rn d 74 49 [a0, a1, a2, a3, a4, a5, a6, a7] [.int s0] h = rn d 74 96 [a0, a1, a2, a3, a4, a5, a6, a7] [.int s0] h := rP (i := (.goto 47)) rfl rfl
theorem e74_52 (d : Nat) (a0 a1 a2 a3 a5 a6 a7 : Option Value) (h : MH) (x : Int32) : rn d 74 52 [a0, a1, a2, a3, some (.int x), a5, a6, a7] [] h = rn d 74 54 [a0, a1, a2, a3, some (.int x), a5, a6, a7] [.int x] h := rP (i := (.iload 4)) rfl rfl
theorem e74_54 (d : Nat) (a0 a1 a2 a3 a4 a5 a6 a7 : Option Value) (s0 : Int32) (h : MH)  : rn d 74 54 [a0, a1, a2, a3, a4, a5, a6, a7] [.int s0] h = rn d 74 56 [a0, a1, a2, a3, a4, a5, a6, a7] [.int 63, .int s0] h := rP (i := (.bipush 63)) rfl rfl
theorem e74_56 (d : Nat) (a0 a1 a2 a3 a4 a5 a6 a7 : Option Value) (s0 s1 : Int32) (h : MH)  : rn d 74 56 [a0, a1, a2, a3, a4, a5, a6, a7] [.int s0, .int s1] h = if s1 = s0 then rn d 74 59 [a0, a1, a2, a3, a4, a5, a6, a7] [] h else rn d 74 63 [a0, a1, a2, a3, a4, a5, a6, a7] [] h := rNe2 (off := 7) 63 rfl rfl
theorem e74_59 (d : Nat) (a0 a1 a2 a3 a4 a5 a6 a7 : Option Value) (h : MH)  : rn d 74 59 [a0, a1, a2, a3, a4, a5, a6, a7] [] h = rn d 74 60 [a0, a1, a2, a3, a4, a5, a6, a7] [.int 3] h := rP (i := (.iconst 3)) rfl rfl
theorem e74_60 (d : Nat) (a0 a1 a2 a3 a4 a5 a6 a7 : Option Value) (s0 : Int32) (h : MH)  : rn d 74 60 [a0, a1, a2, a3, a4, a5, a6, a7] [.int s0] h = rn d 74 96 [a0, a1, a2, a3, a4, a5, a6, a7] [.int s0] h := rP (i := (.goto 36)) rfl rfl
theorem e74_63 (d : Nat) (a0 a1 a2 a3 a5 a6 a7 : Option Value) (h : MH) (x : Int32) : rn d 74 63 [a0, a1, a2, a3, some (.int x), a5, a6, a7] [] h = rn d 74 65 [a0, a1, a2, a3, some (.int x), a5, a6, a7] [.int x] h := rP (i := (.iload 4)) rfl rfl
theorem e74_65 (d : Nat) (a0 a1 a2 a3 a4 a5 a6 a7 : Option Value) (s0 : Int32) (h : MH)  : rn d 74 65 [a0, a1, a2, a3, a4, a5, a6, a7] [.int s0] h = rn d 74 67 [a0, a1, a2, a3, a4, a5, a6, a7] [.int 33, .int s0] h := rP (i := (.bipush 33)) rfl rfl
theorem e74_67 (d : Nat) (a0 a1 a2 a3 a4 a5 a6 a7 : Option Value) (s0 s1 : Int32) (h : MH)  : rn d 74 67 [a0, a1, a2, a3, a4, a5, a6, a7] [.int s0, .int s1] h = if s1 = s0 then rn d 74 91 [a0, a1, a2, a3, a4, a5, a6, a7] [] h else rn d 74 70 [a0, a1, a2, a3, a4, a5, a6, a7] [] h := rEq2 (off := 24) 91 rfl rfl
theorem e74_70 (d : Nat) (a0 a1 a2 a3 a5 a6 a7 : Option Value) (h : MH) (x : Int32) : rn d 74 70 [a0, a1, a2, a3, some (.int x), a5, a6, a7] [] h = rn d 74 72 [a0, a1, a2, a3, some (.int x), a5, a6, a7] [.int x] h := rP (i := (.iload 4)) rfl rfl
theorem e74_72 (d : Nat) (a0 a1 a2 a3 a4 a5 a6 a7 : Option Value) (s0 : Int32) (h : MH)  : rn d 74 72 [a0, a1, a2, a3, a4, a5, a6, a7] [.int s0] h = rn d 74 74 [a0, a1, a2, a3, a4, a5, a6, a7] [.int 80, .int s0] h := rP (i := (.bipush 80)) rfl rfl
theorem e74_74 (d : Nat) (a0 a1 a2 a3 a4 a5 a6 a7 : Option Value) (s0 s1 : Int32) (h : MH)  : rn d 74 74 [a0, a1, a2, a3, a4, a5, a6, a7] [.int s0, .int s1] h = if s1 = s0 then rn d 74 91 [a0, a1, a2, a3, a4, a5, a6, a7] [] h else rn d 74 77 [a0, a1, a2, a3, a4, a5, a6, a7] [] h := rEq2 (off := 17) 91 rfl rfl
theorem e74_77 (d : Nat) (a0 a1 a2 a3 a5 a6 a7 : Option Value) (h : MH) (x : Int32) : rn d 74 77 [a0, a1, a2, a3, some (.int x), a5, a6, a7] [] h = rn d 74 79 [a0, a1, a2, a3, some (.int x), a5, a6, a7] [.int x] h := rP (i := (.iload 4)) rfl rfl
theorem e74_79 (d : Nat) (a0 a1 a2 a3 a4 a5 a6 a7 : Option Value) (s0 : Int32) (h : MH)  : rn d 74 79 [a0, a1, a2, a3, a4, a5, a6, a7] [.int s0] h = rn d 74 81 [a0, a1, a2, a3, a4, a5, a6, a7] [.int 87, .int s0] h := rP (i := (.bipush 87)) rfl rfl
theorem e74_81 (d : Nat) (a0 a1 a2 a3 a4 a5 a6 a7 : Option Value) (s0 s1 : Int32) (h : MH)  : rn d 74 81 [a0, a1, a2, a3, a4, a5, a6, a7] [.int s0, .int s1] h = if s1 = s0 then rn d 74 91 [a0, a1, a2, a3, a4, a5, a6, a7] [] h else rn d 74 84 [a0, a1, a2, a3, a4, a5, a6, a7] [] h := rEq2 (off := 10) 91 rfl rfl
theorem e74_84 (d : Nat) (a0 a1 a2 a3 a5 a6 a7 : Option Value) (h : MH) (x : Int32) : rn d 74 84 [a0, a1, a2, a3, some (.int x), a5, a6, a7] [] h = rn d 74 86 [a0, a1, a2, a3, some (.int x), a5, a6, a7] [.int x] h := rP (i := (.iload 4)) rfl rfl
theorem e74_86 (d : Nat) (a0 a1 a2 a3 a4 a5 a6 a7 : Option Value) (s0 : Int32) (h : MH)  : rn d 74 86 [a0, a1, a2, a3, a4, a5, a6, a7] [.int s0] h = rn d 74 88 [a0, a1, a2, a3, a4, a5, a6, a7] [.int 67, .int s0] h := rP (i := (.bipush 67)) rfl rfl
theorem e74_88 (d : Nat) (a0 a1 a2 a3 a4 a5 a6 a7 : Option Value) (s0 s1 : Int32) (h : MH)  : rn d 74 88 [a0, a1, a2, a3, a4, a5, a6, a7] [.int s0, .int s1] h = if s1 = s0 then rn d 74 91 [a0, a1, a2, a3, a4, a5, a6, a7] [] h else rn d 74 95 [a0, a1, a2, a3, a4, a5, a6, a7] [] h := rNe2 (off := 7) 95 rfl rfl
theorem e74_91 (d : Nat) (a0 a1 a2 a3 a4 a5 a6 a7 : Option Value) (h : MH)  : rn d 74 91 [a0, a1, a2, a3, a4, a5, a6, a7] [] h = rn d 74 92 [a0, a1, a2, a3, a4, a5, a6, a7] [.int 1] h := rP (i := (.iconst 1)) rfl rfl
theorem e74_92 (d : Nat) (a0 a1 a2 a3 a4 a5 a6 a7 : Option Value) (s0 : Int32) (h : MH)  : rn d 74 92 [a0, a1, a2, a3, a4, a5, a6, a7] [.int s0] h = rn d 74 96 [a0, a1, a2, a3, a4, a5, a6, a7] [.int s0] h := rP (i := (.goto 4)) rfl rfl
theorem e74_95 (d : Nat) (a0 a1 a2 a3 a4 a5 a6 a7 : Option Value) (h : MH)  : rn d 74 95 [a0, a1, a2, a3, a4, a5, a6, a7] [] h = rn d 74 96 [a0, a1, a2, a3, a4, a5, a6, a7] [.int 0] h := rP (i := (.iconst 0)) rfl rfl
theorem e74_96 (d : Nat) (a0 a1 a2 a3 a4 a5 a6 a7 : Option Value) (s0 : Int32) (h : MH)  : rn d 74 96 [a0, a1, a2, a3, a4, a5, a6, a7] [.int s0] h = rn d 74 98 [a0, a1, a2, a3, a4, a5, some (.int s0), a7] [] h := rP (i := (.istore 6)) rfl rfl
theorem e74_98 (d : Nat) (a0 a1 a2 a3 a5 a6 a7 : Option Value) (h : MH) (x : Int32) : rn d 74 98 [a0, a1, a2, a3, some (.int x), a5, a6, a7] [] h = rn d 74 100 [a0, a1, a2, a3, some (.int x), a5, a6, a7] [.int x] h := rP (i := (.iload 4)) rfl rfl
theorem e74_100 (d : Nat) (a0 a1 a2 a3 a4 a5 a6 a7 : Option Value) (s0 : Int32) (h : MH)  : rn d 74 100 [a0, a1, a2, a3, a4, a5, a6, a7] [.int s0] h = rn d 74 102 [a0, a1, a2, a3, a4, a5, a6, a7] [.int 67, .int s0] h := rP (i := (.bipush 67)) rfl rfl
theorem e74_102 (d : Nat) (a0 a1 a2 a3 a4 a5 a6 a7 : Option Value) (s0 s1 : Int32) (h : MH)  : rn d 74 102 [a0, a1, a2, a3, a4, a5, a6, a7] [.int s0, .int s1] h = if s1 = s0 then rn d 74 105 [a0, a1, a2, a3, a4, a5, a6, a7] [] h else rn d 74 108 [a0, a1, a2, a3, a4, a5, a6, a7] [] h := rNe2 (off := 6) 108 rfl rfl
theorem e74_105 (d : Nat) (a0 a1 a2 a3 a4 a6 a7 : Option Value) (h : MH) (x : Int32) : rn d 74 105 [a0, a1, a2, a3, a4, some (.int x), a6, a7] [] h = rn d 74 108 [a0, a1, a2, a3, a4, some (.int (x + 1)), a6, a7] [] h := rP (i := (.iinc 5 1)) rfl rfl
theorem e74_108 (d : Nat) (a0 a1 a2 a3 a4 a5 a6 a7 : Option Value) (h : MH)  : rn d 74 108 [a0, a1, a2, a3, a4, a5, a6, a7] [] h = rn d 74 109 [a0, a1, a2, a3, a4, a5, a6, a7] [.int 0] h := rP (i := (.iconst 0)) rfl rfl
theorem e74_109 (d : Nat) (a0 a1 a2 a3 a4 a5 a6 a7 : Option Value) (s0 : Int32) (h : MH)  : rn d 74 109 [a0, a1, a2, a3, a4, a5, a6, a7] [.int s0] h = rn d 74 111 [a0, a1, a2, a3, a4, a5, a6, some (.int s0)] [] h := rP (i := (.istore 7)) rfl rfl
theorem e74_111 (d : Nat) (a0 a1 a2 a3 a4 a5 a6 : Option Value) (h : MH) (x : Int32) : rn d 74 111 [a0, a1, a2, a3, a4, a5, a6, some (.int x)] [] h = rn d 74 113 [a0, a1, a2, a3, a4, a5, a6, some (.int x)] [.int x] h := rP (i := (.iload 7)) rfl rfl
theorem e74_113 (d : Nat) (a0 a1 a2 a3 a4 a5 a7 : Option Value) (s0 : Int32) (h : MH) (x : Int32) : rn d 74 113 [a0, a1, a2, a3, a4, a5, some (.int x), a7] [.int s0] h = rn d 74 115 [a0, a1, a2, a3, a4, a5, some (.int x), a7] [.int x, .int s0] h := rP (i := (.iload 6)) rfl rfl
theorem e74_115 (d : Nat) (a0 a1 a2 a3 a4 a5 a6 a7 : Option Value) (s0 s1 : Int32) (h : MH)  : rn d 74 115 [a0, a1, a2, a3, a4, a5, a6, a7] [.int s0, .int s1] h = if s1 < s0 then rn d 74 118 [a0, a1, a2, a3, a4, a5, a6, a7] [] h else rn d 74 138 [a0, a1, a2, a3, a4, a5, a6, a7] [] h := rGe2 (off := 23) 138 rfl rfl
theorem e74_118 (d : Nat) (a1 a2 a3 a4 a5 a6 a7 : Option Value) (h : MH) (x : Nat) : rn d 74 118 [some (.ref x), a1, a2, a3, a4, a5, a6, a7] [] h = rn d 74 119 [some (.ref x), a1, a2, a3, a4, a5, a6, a7] [.ref x] h := rP (i := (.aload_n 0)) rfl rfl
theorem e74_119 (d : Nat) (a0 a1 a2 a3 a4 a5 a6 a7 : Option Value) (s0 : Nat) (h : MH)  : rn d 74 119 [a0, a1, a2, a3, a4, a5, a6, a7] [.ref s0] h = (fgetv h s0 5 6).bind (fun v => rn d 74 122 [a0, a1, a2, a3, a4, a5, a6, a7] [v] h) := rGet (idx := 23) rfl rfl
theorem e74_122 (d : Nat) (a0 a2 a3 a4 a5 a6 a7 : Option Value) (s0 : Nat) (h : MH) (x : Int32) : rn d 74 122 [a0, some (.int x), a2, a3, a4, a5, a6, a7] [.ref s0] h = rn d 74 123 [a0, some (.int x), a2, a3, a4, a5, a6, a7] [.int x, .ref s0] h := rP (i := (.iload_n 1)) rfl rfl
theorem e74_123 (d : Nat) (a0 a1 a2 a3 a4 a5 a6 a7 : Option Value) (s0 : Int32) (s1 : Nat) (h : MH)  : rn d 74 123 [a0, a1, a2, a3, a4, a5, a6, a7] [.int s0, .ref s1] h = rn d 74 125 [a0, a1, a2, a3, a4, a5, a6, a7] [.int 24, .int s0, .ref s1] h := rP (i := (.bipush 24)) rfl rfl
theorem e74_125 (d : Nat) (a0 a1 a2 a3 a4 a5 a6 a7 : Option Value) (s0 s1 : Int32) (s2 : Nat) (h : MH)  : rn d 74 125 [a0, a1, a2, a3, a4, a5, a6, a7] [.int s0, .int s1, .ref s2] h = rn d 74 126 [a0, a1, a2, a3, a4, a5, a6, a7] [.int (s1 * s0), .ref s2] h := rP (i := (.imul)) rfl rfl
theorem e74_126 (d : Nat) (a0 a1 a2 a3 a4 a6 a7 : Option Value) (s0 : Int32) (s1 : Nat) (h : MH) (x : Int32) : rn d 74 126 [a0, a1, a2, a3, a4, some (.int x), a6, a7] [.int s0, .ref s1] h = rn d 74 128 [a0, a1, a2, a3, a4, some (.int x), a6, a7] [.int x, .int s0, .ref s1] h := rP (i := (.iload 5)) rfl rfl
theorem e74_128 (d : Nat) (a0 a1 a2 a3 a4 a5 a6 a7 : Option Value) (s0 s1 : Int32) (s2 : Nat) (h : MH)  : rn d 74 128 [a0, a1, a2, a3, a4, a5, a6, a7] [.int s0, .int s1, .ref s2] h = rn d 74 129 [a0, a1, a2, a3, a4, a5, a6, a7] [.int (s1 + s0), .ref s2] h := rP (i := (.iadd)) rfl rfl
theorem e74_129 (d : Nat) (a0 a1 a2 a3 a4 a5 a6 a7 : Option Value) (s0 : Int32) (s1 : Nat) (h : MH)  : rn d 74 129 [a0, a1, a2, a3, a4, a5, a6, a7] [.int s0, .ref s1] h = (ageti h 0 s1 s0).bind (fun v => rn d 74 130 [a0, a1, a2, a3, a4, a5, a6, a7] [.int v] h) := rIald rfl
theorem e74_130 (d : Nat) (a0 a1 a2 a3 a4 a5 a6 a7 : Option Value) (s0 : Int32) (h : MH)  : rn d 74 130 [a0, a1, a2, a3, a4, a5, a6, a7] [.int s0] h = rn d 74 132 [a0, a1, a2, a3, a4, some (.int s0), a6, a7] [] h := rP (i := (.istore 5)) rfl rfl
theorem e74_132 (d : Nat) (a0 a1 a2 a3 a4 a5 a6 : Option Value) (h : MH) (x : Int32) : rn d 74 132 [a0, a1, a2, a3, a4, a5, a6, some (.int x)] [] h = rn d 74 135 [a0, a1, a2, a3, a4, a5, a6, some (.int (x + 1))] [] h := rP (i := (.iinc 7 1)) rfl rfl
theorem e74_135 (d : Nat) (a0 a1 a2 a3 a4 a5 a6 a7 : Option Value) (h : MH)  : rn d 74 135 [a0, a1, a2, a3, a4, a5, a6, a7] [] h = rn d 74 111 [a0, a1, a2, a3, a4, a5, a6, a7] [] h := rP (i := (.goto (-24))) rfl rfl
theorem e74_138 (d : Nat) (a0 a1 a2 a3 a5 a6 a7 : Option Value) (h : MH) (x : Int32) : rn d 74 138 [a0, a1, a2, a3, some (.int x), a5, a6, a7] [] h = rn d 74 140 [a0, a1, a2, a3, some (.int x), a5, a6, a7] [.int x] h := rP (i := (.iload 4)) rfl rfl
theorem e74_140 (d : Nat) (a0 a1 a2 a3 a4 a5 a6 a7 : Option Value) (s0 : Int32) (h : MH)  : rn d 74 140 [a0, a1, a2, a3, a4, a5, a6, a7] [.int s0] h = rn d 74 142 [a0, a1, a2, a3, a4, a5, a6, a7] [.int 87, .int s0] h := rP (i := (.bipush 87)) rfl rfl
theorem e74_142 (d : Nat) (a0 a1 a2 a3 a4 a5 a6 a7 : Option Value) (s0 s1 : Int32) (h : MH)  : rn d 74 142 [a0, a1, a2, a3, a4, a5, a6, a7] [.int s0, .int s1] h = if s1 = s0 then rn d 74 145 [a0, a1, a2, a3, a4, a5, a6, a7] [] h else rn d 74 148 [a0, a1, a2, a3, a4, a5, a6, a7] [] h := rNe2 (off := 6) 148 rfl rfl
theorem e74_145 (d : Nat) (a0 a1 a2 a3 a4 a6 a7 : Option Value) (h : MH) (x : Int32) : rn d 74 145 [a0, a1, a2, a3, a4, some (.int x), a6, a7] [] h = rn d 74 148 [a0, a1, a2, a3, a4, some (.int (x + 1)), a6, a7] [] h := rP (i := (.iinc 5 1)) rfl rfl
theorem e74_148 (d : Nat) (a1 a2 a3 a4 a5 a6 a7 : Option Value) (h : MH) (x : Nat) : rn d 74 148 [some (.ref x), a1, a2, a3, a4, a5, a6, a7] [] h = rn d 74 149 [some (.ref x), a1, a2, a3, a4, a5, a6, a7] [.ref x] h := rP (i := (.aload_n 0)) rfl rfl
theorem e74_149 (d : Nat) (a0 a1 a2 a3 a4 a5 a6 a7 : Option Value) (s0 : Nat) (h : MH)  : rn d 74 149 [a0, a1, a2, a3, a4, a5, a6, a7] [.ref s0] h = (fgetv h s0 5 6).bind (fun v => rn d 74 152 [a0, a1, a2, a3, a4, a5, a6, a7] [v] h) := rGet (idx := 23) rfl rfl
theorem e74_152 (d : Nat) (a0 a1 a2 a4 a5 a6 a7 : Option Value) (s0 : Nat) (h : MH) (x : Int32) : rn d 74 152 [a0, a1, a2, some (.int x), a4, a5, a6, a7] [.ref s0] h = rn d 74 153 [a0, a1, a2, some (.int x), a4, a5, a6, a7] [.int x, .ref s0] h := rP (i := (.iload_n 3)) rfl rfl
theorem e74_153 (d : Nat) (a0 a1 a2 a3 a4 a6 a7 : Option Value) (s0 : Int32) (s1 : Nat) (h : MH) (x : Int32) : rn d 74 153 [a0, a1, a2, a3, a4, some (.int x), a6, a7] [.int s0, .ref s1] h = rn d 74 155 [a0, a1, a2, a3, a4, some (.int x), a6, a7] [.int x, .int s0, .ref s1] h := rP (i := (.iload 5)) rfl rfl
theorem e74_155 (d : Nat) (a0 a1 a2 a3 a4 a5 a6 a7 : Option Value) (s0 s1 : Int32) (s2 : Nat) (h : MH)  : rn d 74 155 [a0, a1, a2, a3, a4, a5, a6, a7] [.int s0, .int s1, .ref s2] h = (aputi h 0 s2 s1 s0).bind (fun h => rn d 74 156 [a0, a1, a2, a3, a4, a5, a6, a7] [] h) := rIast rfl
theorem e74_156 (d : Nat) (a0 a1 a3 a4 a5 a6 a7 : Option Value) (h : MH) (x : Int32) : rn d 74 156 [a0, a1, some (.int x), a3, a4, a5, a6, a7] [] h = rn d 74 159 [a0, a1, some (.int (x + (-1))), a3, a4, a5, a6, a7] [] h := rP (i := (.iinc 2 (-1))) rfl rfl
theorem e74_159 (d : Nat) (a0 a1 a2 a3 a4 a5 a6 a7 : Option Value) (h : MH)  : rn d 74 159 [a0, a1, a2, a3, a4, a5, a6, a7] [] h = rn d 74 9 [a0, a1, a2, a3, a4, a5, a6, a7] [] h := rP (i := (.goto (-150))) rfl rfl
theorem e74_162 (d : Nat) (a0 a1 a2 a3 a4 a5 a6 a7 : Option Value) (h : MH)  : rn d 74 162 [a0, a1, a2, a3, a4, a5, a6, a7] [] h = some (none, h) := rVret rfl rfl
-- 75: FlowEquationsModel.drop(I)I
theorem e75_0 (d : Nat) (a0 : Option Value) (h : MH) (x : Int32) : rn d 75 0 [a0, some (.int x)] [] h = rn d 75 1 [a0, some (.int x)] [.int x] h := rP (i := (.iload_n 1)) rfl rfl
theorem e75_1 (d : Nat) (a0 a1 : Option Value) (s0 : Int32) (h : MH)  : rn d 75 1 [a0, a1] [.int s0] h = if s0 < 0 then rn d 75 19 [a0, a1] [] h else rn d 75 4 [a0, a1] [] h := rLt1 (off := 18) 19 rfl rfl
theorem e75_4 (d : Nat) (a0 : Option Value) (h : MH) (x : Int32) : rn d 75 4 [a0, some (.int x)] [] h = rn d 75 5 [a0, some (.int x)] [.int x] h := rP (i := (.iload_n 1)) rfl rfl
theorem e75_5 (d : Nat) (a0 a1 : Option Value) (s0 : Int32) (h : MH)  : rn d 75 5 [a0, a1] [.int s0] h = rn d 75 7 [a0, a1] [.int 7, .int s0] h := rP (i := (.bipush 7)) rfl rfl
theorem e75_7 (d : Nat) (a0 a1 : Option Value) (s0 s1 : Int32) (h : MH)  : rn d 75 7 [a0, a1] [.int s0, .int s1] h = if s0 < s1 then rn d 75 19 [a0, a1] [] h else rn d 75 10 [a0, a1] [] h := rGt2 (off := 12) 19 rfl rfl
theorem e75_10 (d : Nat) (a1 : Option Value) (h : MH) (x : Nat) : rn d 75 10 [some (.ref x), a1] [] h = rn d 75 11 [some (.ref x), a1] [.ref x] h := rP (i := (.aload_n 0)) rfl rfl
theorem e75_11 (d : Nat) (a0 a1 : Option Value) (s0 : Nat) (h : MH)  : rn d 75 11 [a0, a1] [.ref s0] h = (fgetv h s0 5 5).bind (fun v => rn d 75 14 [a0, a1] [v] h) := rGet (idx := 20) rfl rfl
theorem e75_14 (d : Nat) (a0 : Option Value) (s0 : Nat) (h : MH) (x : Int32) : rn d 75 14 [a0, some (.int x)] [.ref s0] h = rn d 75 15 [a0, some (.int x)] [.int x, .ref s0] h := rP (i := (.iload_n 1)) rfl rfl
theorem e75_15 (d : Nat) (a0 a1 : Option Value) (s0 : Int32) (s1 : Nat) (h : MH)  : rn d 75 15 [a0, a1] [.int s0, .ref s1] h = (ageti h 0 s1 s0).bind (fun v => rn d 75 16 [a0, a1] [.int v] h) := rIald rfl
theorem e75_16 (d : Nat) (a0 a1 : Option Value) (s0 : Int32) (h : MH)  : rn d 75 16 [a0, a1] [.int s0] h = if s0 = 0 then rn d 75 19 [a0, a1] [] h else rn d 75 21 [a0, a1] [] h := rNe1 (off := 5) 21 rfl rfl
theorem e75_19 (d : Nat) (a0 a1 : Option Value) (h : MH)  : rn d 75 19 [a0, a1] [] h = rn d 75 20 [a0, a1] [.int (-1)] h := rP (i := (.iconst (-1))) rfl rfl
theorem e75_20 (d : Nat) (a0 a1 : Option Value) (s0 : Int32) (h : MH)  : rn d 75 20 [a0, a1] [.int s0] h = some (some (.int s0), h) := rIret rfl rfl
theorem e75_21 (d : Nat) (a1 : Option Value) (h : MH) (x : Nat) : rn d 75 21 [some (.ref x), a1] [] h = rn d 75 22 [some (.ref x), a1] [.ref x] h := rP (i := (.aload_n 0)) rfl rfl
theorem e75_22 (d : Nat) (a0 a1 : Option Value) (s0 : Nat) (h : MH)  : rn d 75 22 [a0, a1] [.ref s0] h = (fgetv h s0 5 5).bind (fun v => rn d 75 25 [a0, a1] [v] h) := rGet (idx := 20) rfl rfl
theorem e75_25 (d : Nat) (a0 : Option Value) (s0 : Nat) (h : MH) (x : Int32) : rn d 75 25 [a0, some (.int x)] [.ref s0] h = rn d 75 26 [a0, some (.int x)] [.int x, .ref s0] h := rP (i := (.iload_n 1)) rfl rfl
theorem e75_26 (d : Nat) (a0 a1 : Option Value) (s0 : Int32) (s1 : Nat) (h : MH)  : rn d 75 26 [a0, a1] [.int s0, .ref s1] h = rn d 75 27 [a0, a1] [.int 0, .int s0, .ref s1] h := rP (i := (.iconst 0)) rfl rfl
theorem e75_27 (d : Nat) (a0 a1 : Option Value) (s0 s1 : Int32) (s2 : Nat) (h : MH)  : rn d 75 27 [a0, a1] [.int s0, .int s1, .ref s2] h = (aputi h 0 s2 s1 s0).bind (fun h => rn d 75 28 [a0, a1] [] h) := rIast rfl
theorem e75_28 (d : Nat) (a1 : Option Value) (h : MH) (x : Nat) : rn d 75 28 [some (.ref x), a1] [] h = rn d 75 29 [some (.ref x), a1] [.ref x] h := rP (i := (.aload_n 0)) rfl rfl
theorem e75_29 (d : Nat) (a0 a1 : Option Value) (s0 : Nat) (h : MH)  : rn d 75 29 [a0, a1] [.ref s0] h = rn d 75 30 [a0, a1] [.int 0, .ref s0] h := rP (i := (.iconst 0)) rfl rfl
theorem e75_30 (d : Nat) (a0 a1 : Option Value) (s0 : Int32) (s1 : Nat) (h : MH)  : rn d 75 30 [a0, a1] [.int s0, .ref s1] h = (fputh h s1 5 15 .boolean (.int s0)).bind (fun h => rn d 75 33 [a0, a1] [] h) := rPut (idx := 103) rfl rfl
theorem e75_33 (d : Nat) (a0 a1 : Option Value) (h : MH)  : rn d 75 33 [a0, a1] [] h = rn d 75 34 [a0, a1] [.int 0] h := rP (i := (.iconst 0)) rfl rfl
theorem e75_34 (d : Nat) (a0 a1 : Option Value) (s0 : Int32) (h : MH)  : rn d 75 34 [a0, a1] [.int s0] h = some (some (.int s0), h) := rIret rfl rfl
-- 76: FlowEquationsModel.clock(II)I
theorem e76_0 (d : Nat) (a0 a2 : Option Value) (h : MH) (x : Int32) : rn d 76 0 [a0, some (.int x), a2] [] h = rn d 76 1 [a0, some (.int x), a2] [.int x] h := rP (i := (.iload_n 1)) rfl rfl
theorem e76_1 (d : Nat) (a0 a1 a2 : Option Value) (s0 : Int32) (h : MH)  : rn d 76 1 [a0, a1, a2] [.int s0] h = if s0 < 0 then rn d 76 21 [a0, a1, a2] [] h else rn d 76 4 [a0, a1, a2] [] h := rLt1 (off := 20) 21 rfl rfl
theorem e76_4 (d : Nat) (a0 a2 : Option Value) (h : MH) (x : Int32) : rn d 76 4 [a0, some (.int x), a2] [] h = rn d 76 5 [a0, some (.int x), a2] [.int x] h := rP (i := (.iload_n 1)) rfl rfl
theorem e76_5 (d : Nat) (a0 a1 a2 : Option Value) (s0 : Int32) (h : MH)  : rn d 76 5 [a0, a1, a2] [.int s0] h = rn d 76 7 [a0, a1, a2] [.int 7, .int s0] h := rP (i := (.bipush 7)) rfl rfl
theorem e76_7 (d : Nat) (a0 a1 a2 : Option Value) (s0 s1 : Int32) (h : MH)  : rn d 76 7 [a0, a1, a2] [.int s0, .int s1] h = if s0 < s1 then rn d 76 21 [a0, a1, a2] [] h else rn d 76 10 [a0, a1, a2] [] h := rGt2 (off := 14) 21 rfl rfl
theorem e76_10 (d : Nat) (a0 a1 : Option Value) (h : MH) (x : Int32) : rn d 76 10 [a0, a1, some (.int x)] [] h = rn d 76 11 [a0, a1, some (.int x)] [.int x] h := rP (i := (.iload_n 2)) rfl rfl
theorem e76_11 (d : Nat) (a0 a1 a2 : Option Value) (s0 : Int32) (h : MH)  : rn d 76 11 [a0, a1, a2] [.int s0] h = rn d 76 12 [a0, a1, a2] [.int (-1), .int s0] h := rP (i := (.iconst (-1))) rfl rfl
theorem e76_12 (d : Nat) (a0 a1 a2 : Option Value) (s0 s1 : Int32) (h : MH)  : rn d 76 12 [a0, a1, a2] [.int s0, .int s1] h = if s1 < s0 then rn d 76 21 [a0, a1, a2] [] h else rn d 76 15 [a0, a1, a2] [] h := rLt2 (off := 9) 21 rfl rfl
theorem e76_15 (d : Nat) (a0 a1 : Option Value) (h : MH) (x : Int32) : rn d 76 15 [a0, a1, some (.int x)] [] h = rn d 76 16 [a0, a1, some (.int x)] [.int x] h := rP (i := (.iload_n 2)) rfl rfl
theorem e76_16 (d : Nat) (a0 a1 a2 : Option Value) (s0 : Int32) (h : MH)  : rn d 76 16 [a0, a1, a2] [.int s0] h = rn d 76 18 [a0, a1, a2] [.int 7, .int s0] h := rP (i := (.bipush 7)) rfl rfl
theorem e76_18 (d : Nat) (a0 a1 a2 : Option Value) (s0 s1 : Int32) (h : MH)  : rn d 76 18 [a0, a1, a2] [.int s0, .int s1] h = if s0 < s1 then rn d 76 21 [a0, a1, a2] [] h else rn d 76 23 [a0, a1, a2] [] h := rLe2 (off := 5) 23 rfl rfl
theorem e76_21 (d : Nat) (a0 a1 a2 : Option Value) (h : MH)  : rn d 76 21 [a0, a1, a2] [] h = rn d 76 22 [a0, a1, a2] [.int (-1)] h := rP (i := (.iconst (-1))) rfl rfl
theorem e76_22 (d : Nat) (a0 a1 a2 : Option Value) (s0 : Int32) (h : MH)  : rn d 76 22 [a0, a1, a2] [.int s0] h = some (some (.int s0), h) := rIret rfl rfl
theorem e76_23 (d : Nat) (a1 a2 : Option Value) (h : MH) (x : Nat) : rn d 76 23 [some (.ref x), a1, a2] [] h = rn d 76 24 [some (.ref x), a1, a2] [.ref x] h := rP (i := (.aload_n 0)) rfl rfl
theorem e76_24 (d : Nat) (a0 a1 a2 : Option Value) (s0 : Nat) (h : MH)  : rn d 76 24 [a0, a1, a2] [.ref s0] h = (fgetv h s0 5 13).bind (fun v => rn d 76 27 [a0, a1, a2] [v] h) := rGet (idx := 45) rfl rfl
theorem e76_27 (d : Nat) (a0 a2 : Option Value) (s0 : Nat) (h : MH) (x : Int32) : rn d 76 27 [a0, some (.int x), a2] [.ref s0] h = rn d 76 28 [a0, some (.int x), a2] [.int x, .ref s0] h := rP (i := (.iload_n 1)) rfl rfl
theorem e76_28 (d : Nat) (a0 a1 : Option Value) (s0 : Int32) (s1 : Nat) (h : MH) (x : Int32) : rn d 76 28 [a0, a1, some (.int x)] [.int s0, .ref s1] h = rn d 76 29 [a0, a1, some (.int x)] [.int x, .int s0, .ref s1] h := rP (i := (.iload_n 2)) rfl rfl
theorem e76_29 (d : Nat) (a0 a1 a2 : Option Value) (s0 s1 : Int32) (s2 : Nat) (h : MH)  : rn d 76 29 [a0, a1, a2] [.int s0, .int s1, .ref s2] h = (aputi h 0 s2 s1 s0).bind (fun h => rn d 76 30 [a0, a1, a2] [] h) := rIast rfl
theorem e76_30 (d : Nat) (a1 a2 : Option Value) (h : MH) (x : Nat) : rn d 76 30 [some (.ref x), a1, a2] [] h = rn d 76 31 [some (.ref x), a1, a2] [.ref x] h := rP (i := (.aload_n 0)) rfl rfl
theorem e76_31 (d : Nat) (a0 a1 a2 : Option Value) (s0 : Nat) (h : MH)  : rn d 76 31 [a0, a1, a2] [.ref s0] h = rn d 76 32 [a0, a1, a2] [.int 0, .ref s0] h := rP (i := (.iconst 0)) rfl rfl
theorem e76_32 (d : Nat) (a0 a1 a2 : Option Value) (s0 : Int32) (s1 : Nat) (h : MH)  : rn d 76 32 [a0, a1, a2] [.int s0, .ref s1] h = (fputh h s1 5 15 .boolean (.int s0)).bind (fun h => rn d 76 35 [a0, a1, a2] [] h) := rPut (idx := 103) rfl rfl
theorem e76_35 (d : Nat) (a0 a1 a2 : Option Value) (h : MH)  : rn d 76 35 [a0, a1, a2] [] h = rn d 76 36 [a0, a1, a2] [.int 0] h := rP (i := (.iconst 0)) rfl rfl
theorem e76_36 (d : Nat) (a0 a1 a2 : Option Value) (s0 : Int32) (h : MH)  : rn d 76 36 [a0, a1, a2] [.int s0] h = some (some (.int s0), h) := rIret rfl rfl
-- 77: FlowEquationsModel.input(II)I
theorem e77_0 (d : Nat) (a0 a2 : Option Value) (h : MH) (x : Int32) : rn d 77 0 [a0, some (.int x), a2] [] h = rn d 77 1 [a0, some (.int x), a2] [.int x] h := rP (i := (.iload_n 1)) rfl rfl
theorem e77_1 (d : Nat) (a0 a1 a2 : Option Value) (s0 : Int32) (h : MH)  : rn d 77 1 [a0, a1, a2] [.int s0] h = if s0 < 0 then rn d 77 9 [a0, a1, a2] [] h else rn d 77 4 [a0, a1, a2] [] h := rLt1 (off := 8) 9 rfl rfl
theorem e77_4 (d : Nat) (a0 a2 : Option Value) (h : MH) (x : Int32) : rn d 77 4 [a0, some (.int x), a2] [] h = rn d 77 5 [a0, some (.int x), a2] [.int x] h := rP (i := (.iload_n 1)) rfl rfl
theorem e77_5 (d : Nat) (a0 a1 a2 : Option Value) (s0 : Int32) (h : MH)  : rn d 77 5 [a0, a1, a2] [.int s0] h = rn d 77 6 [a0, a1, a2] [.int 3, .int s0] h := rP (i := (.iconst 3)) rfl rfl
theorem e77_6 (d : Nat) (a0 a1 a2 : Option Value) (s0 s1 : Int32) (h : MH)  : rn d 77 6 [a0, a1, a2] [.int s0, .int s1] h = if s0 < s1 then rn d 77 9 [a0, a1, a2] [] h else rn d 77 11 [a0, a1, a2] [] h := rLe2 (off := 5) 11 rfl rfl
theorem e77_9 (d : Nat) (a0 a1 a2 : Option Value) (h : MH)  : rn d 77 9 [a0, a1, a2] [] h = rn d 77 10 [a0, a1, a2] [.int (-1)] h := rP (i := (.iconst (-1))) rfl rfl
theorem e77_10 (d : Nat) (a0 a1 a2 : Option Value) (s0 : Int32) (h : MH)  : rn d 77 10 [a0, a1, a2] [.int s0] h = some (some (.int s0), h) := rIret rfl rfl
theorem e77_11 (d : Nat) (a1 a2 : Option Value) (h : MH) (x : Nat) : rn d 77 11 [some (.ref x), a1, a2] [] h = rn d 77 12 [some (.ref x), a1, a2] [.ref x] h := rP (i := (.aload_n 0)) rfl rfl
theorem e77_12 (d : Nat) (a0 a1 a2 : Option Value) (s0 : Nat) (h : MH)  : rn d 77 12 [a0, a1, a2] [.ref s0] h = (fgetv h s0 5 14).bind (fun v => rn d 77 15 [a0, a1, a2] [v] h) := rGet (idx := 48) rfl rfl
theorem e77_15 (d : Nat) (a0 a2 : Option Value) (s0 : Nat) (h : MH) (x : Int32) : rn d 77 15 [a0, some (.int x), a2] [.ref s0] h = rn d 77 16 [a0, some (.int x), a2] [.int x, .ref s0] h := rP (i := (.iload_n 1)) rfl rfl
theorem e77_16 (d : Nat) (a0 a1 : Option Value) (s0 : Int32) (s1 : Nat) (h : MH) (x : Int32) : rn d 77 16 [a0, a1, some (.int x)] [.int s0, .ref s1] h = rn d 77 17 [a0, a1, some (.int x)] [.int x, .int s0, .ref s1] h := rP (i := (.iload_n 2)) rfl rfl
theorem e77_17 (d : Nat) (a0 a1 a2 : Option Value) (s0 s1 : Int32) (s2 : Nat) (h : MH)  : rn d 77 17 [a0, a1, a2] [.int s0, .int s1, .ref s2] h = (aputi h 0 s2 s1 s0).bind (fun h => rn d 77 18 [a0, a1, a2] [] h) := rIast rfl
theorem e77_18 (d : Nat) (a0 a1 a2 : Option Value) (h : MH)  : rn d 77 18 [a0, a1, a2] [] h = rn d 77 19 [a0, a1, a2] [.int 0] h := rP (i := (.iconst 0)) rfl rfl
theorem e77_19 (d : Nat) (a0 a1 a2 : Option Value) (s0 : Int32) (h : MH)  : rn d 77 19 [a0, a1, a2] [.int s0] h = some (some (.int s0), h) := rIret rfl rfl
-- 78: FlowEquationsModel.check()I
theorem e78_0 (d : Nat) (a1 a2 a3 : Option Value) (h : MH) (x : Nat) : rn d 78 0 [some (.ref x), a1, a2, a3] [] h = rn d 78 1 [some (.ref x), a1, a2, a3] [.ref x] h := rP (i := (.aload_n 0)) rfl rfl
theorem e78_1 (d : Nat) (a0 a1 a2 a3 : Option Value) (s0 : Nat) (h : MH)  : rn d 78 1 [a0, a1, a2, a3] [.ref s0] h = rn d 78 2 [a0, a1, a2, a3] [.int 0, .ref s0] h := rP (i := (.iconst 0)) rfl rfl
theorem e78_2 (d : Nat) (a0 a1 a2 a3 : Option Value) (s0 : Int32) (s1 : Nat) (h : MH)  : rn d 78 2 [a0, a1, a2, a3] [.int s0, .ref s1] h = (fputh h s1 5 15 .boolean (.int s0)).bind (fun h => rn d 78 5 [a0, a1, a2, a3] [] h) := rPut (idx := 103) rfl rfl
theorem e78_5 (d : Nat) (a0 a1 a2 a3 : Option Value) (h : MH)  : rn d 78 5 [a0, a1, a2, a3] [] h = rn d 78 6 [a0, a1, a2, a3] [.int 0] h := rP (i := (.iconst 0)) rfl rfl
theorem e78_6 (d : Nat) (a0 a1 a2 a3 : Option Value) (s0 : Int32) (h : MH)  : rn d 78 6 [a0, a1, a2, a3] [.int s0] h = rn d 78 7 [a0, some (.int s0), a2, a3] [] h := rP (i := (.istore_n 1)) rfl rfl
theorem e78_7 (d : Nat) (a0 a2 a3 : Option Value) (h : MH) (x : Int32) : rn d 78 7 [a0, some (.int x), a2, a3] [] h = rn d 78 8 [a0, some (.int x), a2, a3] [.int x] h := rP (i := (.iload_n 1)) rfl rfl
theorem e78_8 (d : Nat) (a0 a1 a2 a3 : Option Value) (s0 : Int32) (h : MH)  : rn d 78 8 [a0, a1, a2, a3] [.int s0] h = rn d 78 10 [a0, a1, a2, a3] [.int 8, .int s0] h := rP (i := (.bipush 8)) rfl rfl
theorem e78_10 (d : Nat) (a0 a1 a2 a3 : Option Value) (s0 s1 : Int32) (h : MH)  : rn d 78 10 [a0, a1, a2, a3] [.int s0, .int s1] h = if s1 < s0 then rn d 78 13 [a0, a1, a2, a3] [] h else rn d 78 32 [a0, a1, a2, a3] [] h := rGe2 (off := 22) 32 rfl rfl
theorem e78_13 (d : Nat) (a1 a2 a3 : Option Value) (h : MH) (x : Nat) : rn d 78 13 [some (.ref x), a1, a2, a3] [] h = rn d 78 14 [some (.ref x), a1, a2, a3] [.ref x] h := rP (i := (.aload_n 0)) rfl rfl
theorem e78_14 (d : Nat) (a0 a2 a3 : Option Value) (s0 : Nat) (h : MH) (x : Int32) : rn d 78 14 [a0, some (.int x), a2, a3] [.ref s0] h = rn d 78 15 [a0, some (.int x), a2, a3] [.int x, .ref s0] h := rP (i := (.iload_n 1)) rfl rfl
theorem e78_15 (d : Nat) (a0 a1 a2 a3 : Option Value) (s0 : Int32) (s1 : Nat) (h : MH) (hz : clsOf h s1 = some 5) : rn (d + 1) 78 15 [a0, a1, a2, a3] [.int s0, .ref s1] h = (rn d 79 0 [some (.ref s1), some (.int s0), none, none] [] h).bind (fun R => rn (d + 1) 78 18 [a0, a1, a2, a3] (R.1.toList ++ []) R.2) := rInv (i := (.invokevirtual 115)) (n := 2) (tl := [497, 498, 39, 58]) rfl rfl rfl rfl (by decide) (Nat.le_of_ble_eq_true rfl) (Nat.le_of_ble_eq_true rfl) (Nat.le_of_ble_eq_true rfl) (rcv_V hz)
theorem e78_18 (d : Nat) (a0 a1 a2 a3 : Option Value) (s0 : Int32) (h : MH)  : rn d 78 18 [a0, a1, a2, a3] [.int s0] h = if s0 = 0 then rn d 78 26 [a0, a1, a2, a3] [] h else rn d 78 21 [a0, a1, a2, a3] [] h := rEq1 (off := 8) 26 rfl rfl
theorem e78_21 (d : Nat) (a0 a1 a2 a3 : Option Value) (h : MH)  : rn d 78 21 [a0, a1, a2, a3] [] h = rn d 78 23 [a0, a1, a2, a3] [.int (-100)] h := rP (i := (.bipush (-100))) rfl rfl
theorem e78_23 (d : Nat) (a0 a2 a3 : Option Value) (s0 : Int32) (h : MH) (x : Int32) : rn d 78 23 [a0, some (.int x), a2, a3] [.int s0] h = rn d 78 24 [a0, some (.int x), a2, a3] [.int x, .int s0] h := rP (i := (.iload_n 1)) rfl rfl
theorem e78_24 (d : Nat) (a0 a1 a2 a3 : Option Value) (s0 s1 : Int32) (h : MH)  : rn d 78 24 [a0, a1, a2, a3] [.int s0, .int s1] h = rn d 78 25 [a0, a1, a2, a3] [.int (s1 - s0)] h := rP (i := (.isub)) rfl rfl
theorem e78_25 (d : Nat) (a0 a1 a2 a3 : Option Value) (s0 : Int32) (h : MH)  : rn d 78 25 [a0, a1, a2, a3] [.int s0] h = some (some (.int s0), h) := rIret rfl rfl
theorem e78_26 (d : Nat) (a0 a2 a3 : Option Value) (h : MH) (x : Int32) : rn d 78 26 [a0, some (.int x), a2, a3] [] h = rn d 78 29 [a0, some (.int (x + 1)), a2, a3] [] h := rP (i := (.iinc 1 1)) rfl rfl
theorem e78_29 (d : Nat) (a0 a1 a2 a3 : Option Value) (h : MH)  : rn d 78 29 [a0, a1, a2, a3] [] h = rn d 78 7 [a0, a1, a2, a3] [] h := rP (i := (.goto (-22))) rfl rfl
theorem e78_32 (d : Nat) (a0 a1 a2 a3 : Option Value) (h : MH)  : rn d 78 32 [a0, a1, a2, a3] [] h = rn d 78 33 [a0, a1, a2, a3] [.int 0] h := rP (i := (.iconst 0)) rfl rfl
theorem e78_33 (d : Nat) (a0 a1 a2 a3 : Option Value) (s0 : Int32) (h : MH)  : rn d 78 33 [a0, a1, a2, a3] [.int s0] h = rn d 78 34 [a0, some (.int s0), a2, a3] [] h := rP (i := (.istore_n 1)) rfl rfl
theorem e78_34 (d : Nat) (a0 a2 a3 : Option Value) (h : MH) (x : Int32) : rn d 78 34 [a0, some (.int x), a2, a3] [] h = rn d 78 35 [a0, some (.int x), a2, a3] [.int x] h := rP (i := (.iload_n 1)) rfl rfl
theorem e78_35 (d : Nat) (a0 a1 a2 a3 : Option Value) (s0 : Int32) (h : MH)  : rn d 78 35 [a0, a1, a2, a3] [.int s0] h = rn d 78 37 [a0, a1, a2, a3] [.int 8, .int s0] h := rP (i := (.bipush 8)) rfl rfl
theorem e78_37 (d : Nat) (a0 a1 a2 a3 : Option Value) (s0 s1 : Int32) (h : MH)  : rn d 78 37 [a0, a1, a2, a3] [.int s0, .int s1] h = if s1 < s0 then rn d 78 40 [a0, a1, a2, a3] [] h else rn d 78 69 [a0, a1, a2, a3] [] h := rGe2 (off := 32) 69 rfl rfl
theorem e78_40 (d : Nat) (a1 a2 a3 : Option Value) (h : MH) (x : Nat) : rn d 78 40 [some (.ref x), a1, a2, a3] [] h = rn d 78 41 [some (.ref x), a1, a2, a3] [.ref x] h := rP (i := (.aload_n 0)) rfl rfl
theorem e78_41 (d : Nat) (a0 a1 a2 a3 : Option Value) (s0 : Nat) (h : MH)  : rn d 78 41 [a0, a1, a2, a3] [.ref s0] h = (fgetv h s0 5 5).bind (fun v => rn d 78 44 [a0, a1, a2, a3] [v] h) := rGet (idx := 20) rfl rfl
theorem e78_44 (d : Nat) (a0 a2 a3 : Option Value) (s0 : Nat) (h : MH) (x : Int32) : rn d 78 44 [a0, some (.int x), a2, a3] [.ref s0] h = rn d 78 45 [a0, some (.int x), a2, a3] [.int x, .ref s0] h := rP (i := (.iload_n 1)) rfl rfl
theorem e78_45 (d : Nat) (a0 a1 a2 a3 : Option Value) (s0 : Int32) (s1 : Nat) (h : MH)  : rn d 78 45 [a0, a1, a2, a3] [.int s0, .ref s1] h = (ageti h 0 s1 s0).bind (fun v => rn d 78 46 [a0, a1, a2, a3] [.int v] h) := rIald rfl
theorem e78_46 (d : Nat) (a0 a1 a2 a3 : Option Value) (s0 : Int32) (h : MH)  : rn d 78 46 [a0, a1, a2, a3] [.int s0] h = if 0 < s0 then rn d 78 49 [a0, a1, a2, a3] [] h else rn d 78 63 [a0, a1, a2, a3] [] h := rLe1 (off := 17) 63 rfl rfl
theorem e78_49 (d : Nat) (a1 a2 a3 : Option Value) (h : MH) (x : Nat) : rn d 78 49 [some (.ref x), a1, a2, a3] [] h = rn d 78 50 [some (.ref x), a1, a2, a3] [.ref x] h := rP (i := (.aload_n 0)) rfl rfl
theorem e78_50 (d : Nat) (a0 a2 a3 : Option Value) (s0 : Nat) (h : MH) (x : Int32) : rn d 78 50 [a0, some (.int x), a2, a3] [.ref s0] h = rn d 78 51 [a0, some (.int x), a2, a3] [.int x, .ref s0] h := rP (i := (.iload_n 1)) rfl rfl
theorem e78_51 (d : Nat) (a0 a1 a2 a3 : Option Value) (s0 : Int32) (s1 : Nat) (h : MH) (hz : clsOf h s1 = some 5) : rn (d + 1) 78 51 [a0, a1, a2, a3] [.int s0, .ref s1] h = (rn d 80 0 [some (.ref s1), some (.int s0), none, none] [] h).bind (fun R => rn (d + 1) 78 54 [a0, a1, a2, a3] (R.1.toList ++ []) R.2) := rInv (i := (.invokevirtual 118)) (n := 2) (tl := [500, 501, 40, 58]) rfl rfl rfl rfl (by decide) (Nat.le_of_ble_eq_true rfl) (Nat.le_of_ble_eq_true rfl) (Nat.le_of_ble_eq_true rfl) (rcv_V hz)
theorem e78_54 (d : Nat) (a0 a1 a2 a3 : Option Value) (s0 : Int32) (h : MH)  : rn d 78 54 [a0, a1, a2, a3] [.int s0] h = if s0 = 0 then rn d 78 63 [a0, a1, a2, a3] [] h else rn d 78 57 [a0, a1, a2, a3] [] h := rEq1 (off := 9) 63 rfl rfl
theorem e78_57 (d : Nat) (a0 a1 a2 a3 : Option Value) (h : MH)  : rn d 78 57 [a0, a1, a2, a3] [] h = rn d 78 60 [a0, a1, a2, a3] [.int (-200)] h := rP (i := (.sipush (-200))) rfl rfl
theorem e78_60 (d : Nat) (a0 a2 a3 : Option Value) (s0 : Int32) (h : MH) (x : Int32) : rn d 78 60 [a0, some (.int x), a2, a3] [.int s0] h = rn d 78 61 [a0, some (.int x), a2, a3] [.int x, .int s0] h := rP (i := (.iload_n 1)) rfl rfl
theorem e78_61 (d : Nat) (a0 a1 a2 a3 : Option Value) (s0 s1 : Int32) (h : MH)  : rn d 78 61 [a0, a1, a2, a3] [.int s0, .int s1] h = rn d 78 62 [a0, a1, a2, a3] [.int (s1 - s0)] h := rP (i := (.isub)) rfl rfl
theorem e78_62 (d : Nat) (a0 a1 a2 a3 : Option Value) (s0 : Int32) (h : MH)  : rn d 78 62 [a0, a1, a2, a3] [.int s0] h = some (some (.int s0), h) := rIret rfl rfl
theorem e78_63 (d : Nat) (a0 a2 a3 : Option Value) (h : MH) (x : Int32) : rn d 78 63 [a0, some (.int x), a2, a3] [] h = rn d 78 66 [a0, some (.int (x + 1)), a2, a3] [] h := rP (i := (.iinc 1 1)) rfl rfl
theorem e78_66 (d : Nat) (a0 a1 a2 a3 : Option Value) (h : MH)  : rn d 78 66 [a0, a1, a2, a3] [] h = rn d 78 34 [a0, a1, a2, a3] [] h := rP (i := (.goto (-32))) rfl rfl
theorem e78_69 (d : Nat) (a0 a1 a2 a3 : Option Value) (h : MH)  : rn d 78 69 [a0, a1, a2, a3] [] h = rn d 78 70 [a0, a1, a2, a3] [.int (-1)] h := rP (i := (.iconst (-1))) rfl rfl
theorem e78_70 (d : Nat) (a0 a1 a2 a3 : Option Value) (s0 : Int32) (h : MH)  : rn d 78 70 [a0, a1, a2, a3] [.int s0] h = rn d 78 71 [a0, some (.int s0), a2, a3] [] h := rP (i := (.istore_n 1)) rfl rfl
theorem e78_71 (d : Nat) (a0 a1 a2 a3 : Option Value) (h : MH)  : rn d 78 71 [a0, a1, a2, a3] [] h = rn d 78 73 [a0, a1, a2, a3] [.int 7] h := rP (i := (.bipush 7)) rfl rfl
theorem e78_73 (d : Nat) (a0 a1 a2 a3 : Option Value) (s0 : Int32) (h : MH)  : rn d 78 73 [a0, a1, a2, a3] [.int s0] h = rn d 78 74 [a0, a1, some (.int s0), a3] [] h := rP (i := (.istore_n 2)) rfl rfl
theorem e78_74 (d : Nat) (a0 a1 a3 : Option Value) (h : MH) (x : Int32) : rn d 78 74 [a0, a1, some (.int x), a3] [] h = rn d 78 75 [a0, a1, some (.int x), a3] [.int x] h := rP (i := (.iload_n 2)) rfl rfl
theorem e78_75 (d : Nat) (a0 a1 a2 a3 : Option Value) (s0 : Int32) (h : MH)  : rn d 78 75 [a0, a1, a2, a3] [.int s0] h = if s0 < 0 then rn d 78 103 [a0, a1, a2, a3] [] h else rn d 78 78 [a0, a1, a2, a3] [] h := rLt1 (off := 28) 103 rfl rfl
theorem e78_78 (d : Nat) (a1 a2 a3 : Option Value) (h : MH) (x : Nat) : rn d 78 78 [some (.ref x), a1, a2, a3] [] h = rn d 78 79 [some (.ref x), a1, a2, a3] [.ref x] h := rP (i := (.aload_n 0)) rfl rfl
theorem e78_79 (d : Nat) (a0 a1 a2 a3 : Option Value) (s0 : Nat) (h : MH)  : rn d 78 79 [a0, a1, a2, a3] [.ref s0] h = (fgetv h s0 5 5).bind (fun v => rn d 78 82 [a0, a1, a2, a3] [v] h) := rGet (idx := 20) rfl rfl
theorem e78_82 (d : Nat) (a0 a1 a3 : Option Value) (s0 : Nat) (h : MH) (x : Int32) : rn d 78 82 [a0, a1, some (.int x), a3] [.ref s0] h = rn d 78 83 [a0, a1, some (.int x), a3] [.int x, .ref s0] h := rP (i := (.iload_n 2)) rfl rfl
theorem e78_83 (d : Nat) (a0 a1 a2 a3 : Option Value) (s0 : Int32) (s1 : Nat) (h : MH)  : rn d 78 83 [a0, a1, a2, a3] [.int s0, .ref s1] h = (ageti h 0 s1 s0).bind (fun v => rn d 78 84 [a0, a1, a2, a3] [.int v] h) := rIald rfl
theorem e78_84 (d : Nat) (a0 a1 a2 a3 : Option Value) (s0 : Int32) (h : MH)  : rn d 78 84 [a0, a1, a2, a3] [.int s0] h = if 0 < s0 then rn d 78 87 [a0, a1, a2, a3] [] h else rn d 78 97 [a0, a1, a2, a3] [] h := rLe1 (off := 13) 97 rfl rfl
theorem e78_87 (d : Nat) (a1 a2 a3 : Option Value) (h : MH) (x : Nat) : rn d 78 87 [some (.ref x), a1, a2, a3] [] h = rn d 78 88 [some (.ref x), a1, a2, a3] [.ref x] h := rP (i := (.aload_n 0)) rfl rfl
theorem e78_88 (d : Nat) (a0 a1 a3 : Option Value) (s0 : Nat) (h : MH) (x : Int32) : rn d 78 88 [a0, a1, some (.int x), a3] [.ref s0] h = rn d 78 89 [a0, a1, some (.int x), a3] [.int x, .ref s0] h := rP (i := (.iload_n 2)) rfl rfl
theorem e78_89 (d : Nat) (a0 a1 a2 a3 : Option Value) (s0 : Int32) (s1 : Nat) (h : MH) (hz : clsOf h s1 = some 5) : rn (d + 1) 78 89 [a0, a1, a2, a3] [.int s0, .ref s1] h = (rn d 81 0 [some (.ref s1), some (.int s0), none, none, none, none, none, none, none, none, none] [] h).bind (fun R => rn (d + 1) 78 92 [a0, a1, a2, a3] (R.1.toList ++ []) R.2) := rInv (i := (.invokevirtual 121)) (n := 2) (tl := [503, 504, 41, 58]) rfl rfl rfl rfl (by decide) (Nat.le_of_ble_eq_true rfl) (Nat.le_of_ble_eq_true rfl) (Nat.le_of_ble_eq_true rfl) (rcv_V hz)
theorem e78_92 (d : Nat) (a0 a1 a2 a3 : Option Value) (s0 : Int32) (h : MH)  : rn d 78 92 [a0, a1, a2, a3] [.int s0] h = if s0 = 0 then rn d 78 95 [a0, a1, a2, a3] [] h else rn d 78 97 [a0, a1, a2, a3] [] h := rNe1 (off := 5) 97 rfl rfl
theorem e78_95 (d : Nat) (a0 a1 a3 : Option Value) (h : MH) (x : Int32) : rn d 78 95 [a0, a1, some (.int x), a3] [] h = rn d 78 96 [a0, a1, some (.int x), a3] [.int x] h := rP (i := (.iload_n 2)) rfl rfl
theorem e78_96 (d : Nat) (a0 a1 a2 a3 : Option Value) (s0 : Int32) (h : MH)  : rn d 78 96 [a0, a1, a2, a3] [.int s0] h = rn d 78 97 [a0, some (.int s0), a2, a3] [] h := rP (i := (.istore_n 1)) rfl rfl
theorem e78_97 (d : Nat) (a0 a1 a3 : Option Value) (h : MH) (x : Int32) : rn d 78 97 [a0, a1, some (.int x), a3] [] h = rn d 78 100 [a0, a1, some (.int (x + (-1))), a3] [] h := rP (i := (.iinc 2 (-1))) rfl rfl
theorem e78_100 (d : Nat) (a0 a1 a2 a3 : Option Value) (h : MH)  : rn d 78 100 [a0, a1, a2, a3] [] h = rn d 78 74 [a0, a1, a2, a3] [] h := rP (i := (.goto (-26))) rfl rfl
theorem e78_103 (d : Nat) (a0 a2 a3 : Option Value) (h : MH) (x : Int32) : rn d 78 103 [a0, some (.int x), a2, a3] [] h = rn d 78 104 [a0, some (.int x), a2, a3] [.int x] h := rP (i := (.iload_n 1)) rfl rfl
theorem e78_104 (d : Nat) (a0 a1 a2 a3 : Option Value) (s0 : Int32) (h : MH)  : rn d 78 104 [a0, a1, a2, a3] [.int s0] h = if s0 < 0 then rn d 78 113 [a0, a1, a2, a3] [] h else rn d 78 107 [a0, a1, a2, a3] [] h := rLt1 (off := 9) 113 rfl rfl
theorem e78_107 (d : Nat) (a0 a1 a2 a3 : Option Value) (h : MH)  : rn d 78 107 [a0, a1, a2, a3] [] h = rn d 78 110 [a0, a1, a2, a3] [.int (-300)] h := rP (i := (.sipush (-300))) rfl rfl
theorem e78_110 (d : Nat) (a0 a2 a3 : Option Value) (s0 : Int32) (h : MH) (x : Int32) : rn d 78 110 [a0, some (.int x), a2, a3] [.int s0] h = rn d 78 111 [a0, some (.int x), a2, a3] [.int x, .int s0] h := rP (i := (.iload_n 1)) rfl rfl
theorem e78_111 (d : Nat) (a0 a1 a2 a3 : Option Value) (s0 s1 : Int32) (h : MH)  : rn d 78 111 [a0, a1, a2, a3] [.int s0, .int s1] h = rn d 78 112 [a0, a1, a2, a3] [.int (s1 - s0)] h := rP (i := (.isub)) rfl rfl
theorem e78_112 (d : Nat) (a0 a1 a2 a3 : Option Value) (s0 : Int32) (h : MH)  : rn d 78 112 [a0, a1, a2, a3] [.int s0] h = some (some (.int s0), h) := rIret rfl rfl
theorem e78_113 (d : Nat) (a1 a2 a3 : Option Value) (h : MH) (x : Nat) : rn d 78 113 [some (.ref x), a1, a2, a3] [] h = rn d 78 114 [some (.ref x), a1, a2, a3] [.ref x] h := rP (i := (.aload_n 0)) rfl rfl
theorem e78_114 (d : Nat) (a0 a1 a2 a3 : Option Value) (s0 : Nat) (h : MH) (hz : clsOf h s0 = some 5) : rn (d + 1) 78 114 [a0, a1, a2, a3] [.ref s0] h = (rn d 84 0 [some (.ref s0), none, none, none] [] h).bind (fun R => rn (d + 1) 78 117 [a0, a1, a2, a3] (R.1.toList ++ []) R.2) := rInv (i := (.invokevirtual 124)) (n := 1) (tl := [512, 513, 44, 58]) rfl rfl rfl rfl (by decide) (Nat.le_of_ble_eq_true rfl) (Nat.le_of_ble_eq_true rfl) (Nat.le_of_ble_eq_true rfl) (rcv_V hz)
theorem e78_117 (d : Nat) (a0 a1 a2 a3 : Option Value) (h : MH)  : rn d 78 117 [a0, a1, a2, a3] [] h = rn d 78 118 [a0, a1, a2, a3] [.int 0] h := rP (i := (.iconst 0)) rfl rfl
theorem e78_118 (d : Nat) (a0 a1 a2 a3 : Option Value) (s0 : Int32) (h : MH)  : rn d 78 118 [a0, a1, a2, a3] [.int s0] h = rn d 78 119 [a0, a1, some (.int s0), a3] [] h := rP (i := (.istore_n 2)) rfl rfl
theorem e78_119 (d : Nat) (a0 a1 a3 : Option Value) (h : MH) (x : Int32) : rn d 78 119 [a0, a1, some (.int x), a3] [] h = rn d 78 120 [a0, a1, some (.int x), a3] [.int x] h := rP (i := (.iload_n 2)) rfl rfl
theorem e78_120 (d : Nat) (a0 a1 a2 a3 : Option Value) (s0 : Int32) (h : MH)  : rn d 78 120 [a0, a1, a2, a3] [.int s0] h = rn d 78 122 [a0, a1, a2, a3] [.int 8, .int s0] h := rP (i := (.bipush 8)) rfl rfl
theorem e78_122 (d : Nat) (a0 a1 a2 a3 : Option Value) (s0 s1 : Int32) (h : MH)  : rn d 78 122 [a0, a1, a2, a3] [.int s0, .int s1] h = if s1 < s0 then rn d 78 125 [a0, a1, a2, a3] [] h else rn d 78 154 [a0, a1, a2, a3] [] h := rGe2 (off := 32) 154 rfl rfl
theorem e78_125 (d : Nat) (a1 a2 a3 : Option Value) (h : MH) (x : Nat) : rn d 78 125 [some (.ref x), a1, a2, a3] [] h = rn d 78 126 [some (.ref x), a1, a2, a3] [.ref x] h := rP (i := (.aload_n 0)) rfl rfl
theorem e78_126 (d : Nat) (a0 a1 a2 a3 : Option Value) (s0 : Nat) (h : MH)  : rn d 78 126 [a0, a1, a2, a3] [.ref s0] h = (fgetv h s0 5 5).bind (fun v => rn d 78 129 [a0, a1, a2, a3] [v] h) := rGet (idx := 20) rfl rfl
theorem e78_129 (d : Nat) (a0 a1 a3 : Option Value) (s0 : Nat) (h : MH) (x : Int32) : rn d 78 129 [a0, a1, some (.int x), a3] [.ref s0] h = rn d 78 130 [a0, a1, some (.int x), a3] [.int x, .ref s0] h := rP (i := (.iload_n 2)) rfl rfl
theorem e78_130 (d : Nat) (a0 a1 a2 a3 : Option Value) (s0 : Int32) (s1 : Nat) (h : MH)  : rn d 78 130 [a0, a1, a2, a3] [.int s0, .ref s1] h = (ageti h 0 s1 s0).bind (fun v => rn d 78 131 [a0, a1, a2, a3] [.int v] h) := rIald rfl
theorem e78_131 (d : Nat) (a0 a1 a2 a3 : Option Value) (s0 : Int32) (h : MH)  : rn d 78 131 [a0, a1, a2, a3] [.int s0] h = if 0 < s0 then rn d 78 134 [a0, a1, a2, a3] [] h else rn d 78 148 [a0, a1, a2, a3] [] h := rLe1 (off := 17) 148 rfl rfl
theorem e78_134 (d : Nat) (a1 a2 a3 : Option Value) (h : MH) (x : Nat) : rn d 78 134 [some (.ref x), a1, a2, a3] [] h = rn d 78 135 [some (.ref x), a1, a2, a3] [.ref x] h := rP (i := (.aload_n 0)) rfl rfl
theorem e78_135 (d : Nat) (a0 a1 a3 : Option Value) (s0 : Nat) (h : MH) (x : Int32) : rn d 78 135 [a0, a1, some (.int x), a3] [.ref s0] h = rn d 78 136 [a0, a1, some (.int x), a3] [.int x, .ref s0] h := rP (i := (.iload_n 2)) rfl rfl
theorem e78_136 (d : Nat) (a0 a1 a2 a3 : Option Value) (s0 : Int32) (s1 : Nat) (h : MH) (hz : clsOf h s1 = some 5) : rn (d + 1) 78 136 [a0, a1, a2, a3] [.int s0, .ref s1] h = (rn d 85 0 [some (.ref s1), some (.int s0), none, none, none] [] h).bind (fun R => rn (d + 1) 78 139 [a0, a1, a2, a3] (R.1.toList ++ []) R.2) := rInv (i := (.invokevirtual 127)) (n := 2) (tl := [515, 516, 45, 58]) rfl rfl rfl rfl (by decide) (Nat.le_of_ble_eq_true rfl) (Nat.le_of_ble_eq_true rfl) (Nat.le_of_ble_eq_true rfl) (rcv_V hz)
theorem e78_139 (d : Nat) (a0 a1 a2 a3 : Option Value) (s0 : Int32) (h : MH)  : rn d 78 139 [a0, a1, a2, a3] [.int s0] h = if s0 = 0 then rn d 78 148 [a0, a1, a2, a3] [] h else rn d 78 142 [a0, a1, a2, a3] [] h := rEq1 (off := 9) 148 rfl rfl
theorem e78_142 (d : Nat) (a0 a1 a2 a3 : Option Value) (h : MH)  : rn d 78 142 [a0, a1, a2, a3] [] h = rn d 78 145 [a0, a1, a2, a3] [.int (-400)] h := rP (i := (.sipush (-400))) rfl rfl
theorem e78_145 (d : Nat) (a0 a1 a3 : Option Value) (s0 : Int32) (h : MH) (x : Int32) : rn d 78 145 [a0, a1, some (.int x), a3] [.int s0] h = rn d 78 146 [a0, a1, some (.int x), a3] [.int x, .int s0] h := rP (i := (.iload_n 2)) rfl rfl
theorem e78_146 (d : Nat) (a0 a1 a2 a3 : Option Value) (s0 s1 : Int32) (h : MH)  : rn d 78 146 [a0, a1, a2, a3] [.int s0, .int s1] h = rn d 78 147 [a0, a1, a2, a3] [.int (s1 - s0)] h := rP (i := (.isub)) rfl rfl
theorem e78_147 (d : Nat) (a0 a1 a2 a3 : Option Value) (s0 : Int32) (h : MH)  : rn d 78 147 [a0, a1, a2, a3] [.int s0] h = some (some (.int s0), h) := rIret rfl rfl
theorem e78_148 (d : Nat) (a0 a1 a3 : Option Value) (h : MH) (x : Int32) : rn d 78 148 [a0, a1, some (.int x), a3] [] h = rn d 78 151 [a0, a1, some (.int (x + 1)), a3] [] h := rP (i := (.iinc 2 1)) rfl rfl
theorem e78_151 (d : Nat) (a0 a1 a2 a3 : Option Value) (h : MH)  : rn d 78 151 [a0, a1, a2, a3] [] h = rn d 78 119 [a0, a1, a2, a3] [] h := rP (i := (.goto (-32))) rfl rfl
theorem e78_154 (d : Nat) (a1 a2 a3 : Option Value) (h : MH) (x : Nat) : rn d 78 154 [some (.ref x), a1, a2, a3] [] h = rn d 78 155 [some (.ref x), a1, a2, a3] [.ref x] h := rP (i := (.aload_n 0)) rfl rfl
theorem e78_155 (d : Nat) (a0 a1 a2 a3 : Option Value) (s0 : Nat) (h : MH)  : rn d 78 155 [a0, a1, a2, a3] [.ref s0] h = rn d 78 156 [a0, a1, a2, a3] [.int 1, .ref s0] h := rP (i := (.iconst 1)) rfl rfl
theorem e78_156 (d : Nat) (a0 a1 a2 a3 : Option Value) (s0 : Int32) (s1 : Nat) (h : MH)  : rn d 78 156 [a0, a1, a2, a3] [.int s0, .ref s1] h = (fputh h s1 5 15 .boolean (.int s0)).bind (fun h => rn d 78 159 [a0, a1, a2, a3] [] h) := rPut (idx := 103) rfl rfl
theorem e78_159 (d : Nat) (a1 a2 a3 : Option Value) (h : MH) (x : Nat) : rn d 78 159 [some (.ref x), a1, a2, a3] [] h = rn d 78 160 [some (.ref x), a1, a2, a3] [.ref x] h := rP (i := (.aload_n 0)) rfl rfl
theorem e78_160 (d : Nat) (a0 a1 a2 a3 : Option Value) (s0 : Nat) (h : MH)  : rn d 78 160 [a0, a1, a2, a3] [.ref s0] h = rn d 78 161 [a0, a1, a2, a3] [.int 0, .ref s0] h := rP (i := (.iconst 0)) rfl rfl
theorem e78_161 (d : Nat) (a0 a1 a2 a3 : Option Value) (s0 : Int32) (s1 : Nat) (h : MH)  : rn d 78 161 [a0, a1, a2, a3] [.int s0, .ref s1] h = (fputh h s1 5 16 .int (.int s0)).bind (fun h => rn d 78 164 [a0, a1, a2, a3] [] h) := rPut (idx := 130) rfl rfl
theorem e78_164 (d : Nat) (a0 a1 a2 a3 : Option Value) (h : MH)  : rn d 78 164 [a0, a1, a2, a3] [] h = rn d 78 165 [a0, a1, a2, a3] [.int 0] h := rP (i := (.iconst 0)) rfl rfl
theorem e78_165 (d : Nat) (a0 a1 a2 a3 : Option Value) (s0 : Int32) (h : MH)  : rn d 78 165 [a0, a1, a2, a3] [.int s0] h = rn d 78 166 [a0, a1, some (.int s0), a3] [] h := rP (i := (.istore_n 2)) rfl rfl
theorem e78_166 (d : Nat) (a0 a1 a2 a3 : Option Value) (h : MH)  : rn d 78 166 [a0, a1, a2, a3] [] h = rn d 78 167 [a0, a1, a2, a3] [.int 0] h := rP (i := (.iconst 0)) rfl rfl
theorem e78_167 (d : Nat) (a0 a1 a2 a3 : Option Value) (s0 : Int32) (h : MH)  : rn d 78 167 [a0, a1, a2, a3] [.int s0] h = rn d 78 168 [a0, a1, a2, some (.int s0)] [] h := rP (i := (.istore_n 3)) rfl rfl
theorem e78_168 (d : Nat) (a0 a1 a2 : Option Value) (h : MH) (x : Int32) : rn d 78 168 [a0, a1, a2, some (.int x)] [] h = rn d 78 169 [a0, a1, a2, some (.int x)] [.int x] h := rP (i := (.iload_n 3)) rfl rfl
theorem e78_169 (d : Nat) (a0 a1 a2 a3 : Option Value) (s0 : Int32) (h : MH)  : rn d 78 169 [a0, a1, a2, a3] [.int s0] h = rn d 78 171 [a0, a1, a2, a3] [.int 8, .int s0] h := rP (i := (.bipush 8)) rfl rfl
theorem e78_171 (d : Nat) (a0 a1 a2 a3 : Option Value) (s0 s1 : Int32) (h : MH)  : rn d 78 171 [a0, a1, a2, a3] [.int s0, .int s1] h = if s1 < s0 then rn d 78 174 [a0, a1, a2, a3] [] h else rn d 78 208 [a0, a1, a2, a3] [] h := rGe2 (off := 37) 208 rfl rfl
theorem e78_174 (d : Nat) (a1 a2 a3 : Option Value) (h : MH) (x : Nat) : rn d 78 174 [some (.ref x), a1, a2, a3] [] h = rn d 78 175 [some (.ref x), a1, a2, a3] [.ref x] h := rP (i := (.aload_n 0)) rfl rfl
theorem e78_175 (d : Nat) (a0 a1 a2 a3 : Option Value) (s0 : Nat) (h : MH)  : rn d 78 175 [a0, a1, a2, a3] [.ref s0] h = (fgetv h s0 5 21).bind (fun v => rn d 78 178 [a0, a1, a2, a3] [v] h) := rGet (idx := 63) rfl rfl
theorem e78_178 (d : Nat) (a0 a1 a2 : Option Value) (s0 : Nat) (h : MH) (x : Int32) : rn d 78 178 [a0, a1, a2, some (.int x)] [.ref s0] h = rn d 78 179 [a0, a1, a2, some (.int x)] [.int x, .ref s0] h := rP (i := (.iload_n 3)) rfl rfl
theorem e78_179 (d : Nat) (a0 a1 a2 a3 : Option Value) (s0 : Int32) (s1 : Nat) (h : MH)  : rn d 78 179 [a0, a1, a2, a3] [.int s0, .ref s1] h = rn d 78 180 [a0, a1, a2, a3] [.int 0, .int s0, .ref s1] h := rP (i := (.iconst 0)) rfl rfl
theorem e78_180 (d : Nat) (a0 a1 a2 a3 : Option Value) (s0 s1 : Int32) (s2 : Nat) (h : MH)  : rn d 78 180 [a0, a1, a2, a3] [.int s0, .int s1, .ref s2] h = (aputi h 0 s2 s1 s0).bind (fun h => rn d 78 181 [a0, a1, a2, a3] [] h) := rIast rfl
theorem e78_181 (d : Nat) (a1 a2 a3 : Option Value) (h : MH) (x : Nat) : rn d 78 181 [some (.ref x), a1, a2, a3] [] h = rn d 78 182 [some (.ref x), a1, a2, a3] [.ref x] h := rP (i := (.aload_n 0)) rfl rfl
theorem e78_182 (d : Nat) (a0 a1 a2 a3 : Option Value) (s0 : Nat) (h : MH)  : rn d 78 182 [a0, a1, a2, a3] [.ref s0] h = (fgetv h s0 5 22).bind (fun v => rn d 78 185 [a0, a1, a2, a3] [v] h) := rGet (idx := 66) rfl rfl
theorem e78_185 (d : Nat) (a0 a1 a2 : Option Value) (s0 : Nat) (h : MH) (x : Int32) : rn d 78 185 [a0, a1, a2, some (.int x)] [.ref s0] h = rn d 78 186 [a0, a1, a2, some (.int x)] [.int x, .ref s0] h := rP (i := (.iload_n 3)) rfl rfl
theorem e78_186 (d : Nat) (a0 a1 a2 a3 : Option Value) (s0 : Int32) (s1 : Nat) (h : MH)  : rn d 78 186 [a0, a1, a2, a3] [.int s0, .ref s1] h = rn d 78 187 [a0, a1, a2, a3] [.int 1, .int s0, .ref s1] h := rP (i := (.iconst 1)) rfl rfl
theorem e78_187 (d : Nat) (a0 a1 a2 a3 : Option Value) (s0 s1 : Int32) (s2 : Nat) (h : MH)  : rn d 78 187 [a0, a1, a2, a3] [.int s0, .int s1, .ref s2] h = rn d 78 188 [a0, a1, a2, a3] [.int (s1 + s0), .ref s2] h := rP (i := (.iadd)) rfl rfl
theorem e78_188 (d : Nat) (a0 a1 a2 a3 : Option Value) (s0 : Int32) (s1 : Nat) (h : MH)  : rn d 78 188 [a0, a1, a2, a3] [.int s0, .ref s1] h = rn d 78 189 [a0, a1, a2, a3] [.int 0, .int s0, .ref s1] h := rP (i := (.iconst 0)) rfl rfl
theorem e78_189 (d : Nat) (a0 a1 a2 a3 : Option Value) (s0 s1 : Int32) (s2 : Nat) (h : MH)  : rn d 78 189 [a0, a1, a2, a3] [.int s0, .int s1, .ref s2] h = (aputi h 0 s2 s1 s0).bind (fun h => rn d 78 190 [a0, a1, a2, a3] [] h) := rIast rfl
theorem e78_190 (d : Nat) (a1 a2 a3 : Option Value) (h : MH) (x : Nat) : rn d 78 190 [some (.ref x), a1, a2, a3] [] h = rn d 78 191 [some (.ref x), a1, a2, a3] [.ref x] h := rP (i := (.aload_n 0)) rfl rfl
theorem e78_191 (d : Nat) (a0 a1 a2 a3 : Option Value) (s0 : Nat) (h : MH)  : rn d 78 191 [a0, a1, a2, a3] [.ref s0] h = (fgetv h s0 5 5).bind (fun v => rn d 78 194 [a0, a1, a2, a3] [v] h) := rGet (idx := 20) rfl rfl
theorem e78_194 (d : Nat) (a0 a1 a2 : Option Value) (s0 : Nat) (h : MH) (x : Int32) : rn d 78 194 [a0, a1, a2, some (.int x)] [.ref s0] h = rn d 78 195 [a0, a1, a2, some (.int x)] [.int x, .ref s0] h := rP (i := (.iload_n 3)) rfl rfl
theorem e78_195 (d : Nat) (a0 a1 a2 a3 : Option Value) (s0 : Int32) (s1 : Nat) (h : MH)  : rn d 78 195 [a0, a1, a2, a3] [.int s0, .ref s1] h = (ageti h 0 s1 s0).bind (fun v => rn d 78 196 [a0, a1, a2, a3] [.int v] h) := rIald rfl
theorem e78_196 (d : Nat) (a0 a1 a2 a3 : Option Value) (s0 : Int32) (h : MH)  : rn d 78 196 [a0, a1, a2, a3] [.int s0] h = if 0 < s0 then rn d 78 199 [a0, a1, a2, a3] [] h else rn d 78 202 [a0, a1, a2, a3] [] h := rLe1 (off := 6) 202 rfl rfl
theorem e78_199 (d : Nat) (a0 a1 a3 : Option Value) (h : MH) (x : Int32) : rn d 78 199 [a0, a1, some (.int x), a3] [] h = rn d 78 202 [a0, a1, some (.int (x + 1)), a3] [] h := rP (i := (.iinc 2 1)) rfl rfl
theorem e78_202 (d : Nat) (a0 a1 a2 : Option Value) (h : MH) (x : Int32) : rn d 78 202 [a0, a1, a2, some (.int x)] [] h = rn d 78 205 [a0, a1, a2, some (.int (x + 1))] [] h := rP (i := (.iinc 3 1)) rfl rfl
theorem e78_205 (d : Nat) (a0 a1 a2 a3 : Option Value) (h : MH)  : rn d 78 205 [a0, a1, a2, a3] [] h = rn d 78 168 [a0, a1, a2, a3] [] h := rP (i := (.goto (-37))) rfl rfl
theorem e78_208 (d : Nat) (a1 a2 a3 : Option Value) (h : MH) (x : Nat) : rn d 78 208 [some (.ref x), a1, a2, a3] [] h = rn d 78 209 [some (.ref x), a1, a2, a3] [.ref x] h := rP (i := (.aload_n 0)) rfl rfl
theorem e78_209 (d : Nat) (a0 a1 a2 a3 : Option Value) (s0 : Nat) (h : MH)  : rn d 78 209 [a0, a1, a2, a3] [.ref s0] h = (fgetv h s0 5 22).bind (fun v => rn d 78 212 [a0, a1, a2, a3] [v] h) := rGet (idx := 66) rfl rfl
theorem e78_212 (d : Nat) (a0 a1 a2 a3 : Option Value) (s0 : Nat) (h : MH)  : rn d 78 212 [a0, a1, a2, a3] [.ref s0] h = rn d 78 213 [a0, a1, a2, a3] [.int 0, .ref s0] h := rP (i := (.iconst 0)) rfl rfl
theorem e78_213 (d : Nat) (a0 a1 a2 a3 : Option Value) (s0 : Int32) (s1 : Nat) (h : MH)  : rn d 78 213 [a0, a1, a2, a3] [.int s0, .ref s1] h = rn d 78 214 [a0, a1, a2, a3] [.int 0, .int s0, .ref s1] h := rP (i := (.iconst 0)) rfl rfl
theorem e78_214 (d : Nat) (a0 a1 a2 a3 : Option Value) (s0 s1 : Int32) (s2 : Nat) (h : MH)  : rn d 78 214 [a0, a1, a2, a3] [.int s0, .int s1, .ref s2] h = (aputi h 0 s2 s1 s0).bind (fun h => rn d 78 215 [a0, a1, a2, a3] [] h) := rIast rfl
theorem e78_215 (d : Nat) (a0 a1 a2 a3 : Option Value) (h : MH)  : rn d 78 215 [a0, a1, a2, a3] [] h = rn d 78 216 [a0, a1, a2, a3] [.int 0] h := rP (i := (.iconst 0)) rfl rfl
theorem e78_216 (d : Nat) (a0 a1 a2 a3 : Option Value) (s0 : Int32) (h : MH)  : rn d 78 216 [a0, a1, a2, a3] [.int s0] h = rn d 78 217 [a0, a1, a2, some (.int s0)] [] h := rP (i := (.istore_n 3)) rfl rfl
theorem e78_217 (d : Nat) (a0 a1 a2 : Option Value) (h : MH) (x : Int32) : rn d 78 217 [a0, a1, a2, some (.int x)] [] h = rn d 78 218 [a0, a1, a2, some (.int x)] [.int x] h := rP (i := (.iload_n 3)) rfl rfl
theorem e78_218 (d : Nat) (a0 a1 a2 a3 : Option Value) (s0 : Int32) (h : MH)  : rn d 78 218 [a0, a1, a2, a3] [.int s0] h = rn d 78 221 [a0, a1, a2, a3] [.int 192, .int s0] h := rP (i := (.sipush 192)) rfl rfl
theorem e78_221 (d : Nat) (a0 a1 a2 a3 : Option Value) (s0 s1 : Int32) (h : MH)  : rn d 78 221 [a0, a1, a2, a3] [.int s0, .int s1] h = if s1 < s0 then rn d 78 224 [a0, a1, a2, a3] [] h else rn d 78 237 [a0, a1, a2, a3] [] h := rGe2 (off := 16) 237 rfl rfl
theorem e78_224 (d : Nat) (a1 a2 a3 : Option Value) (h : MH) (x : Nat) : rn d 78 224 [some (.ref x), a1, a2, a3] [] h = rn d 78 225 [some (.ref x), a1, a2, a3] [.ref x] h := rP (i := (.aload_n 0)) rfl rfl
theorem e78_225 (d : Nat) (a0 a1 a2 a3 : Option Value) (s0 : Nat) (h : MH)  : rn d 78 225 [a0, a1, a2, a3] [.ref s0] h = (fgetv h s0 5 10).bind (fun v => rn d 78 228 [a0, a1, a2, a3] [v] h) := rGet (idx := 35) rfl rfl
theorem e78_228 (d : Nat) (a0 a1 a2 : Option Value) (s0 : Nat) (h : MH) (x : Int32) : rn d 78 228 [a0, a1, a2, some (.int x)] [.ref s0] h = rn d 78 229 [a0, a1, a2, some (.int x)] [.int x, .ref s0] h := rP (i := (.iload_n 3)) rfl rfl
theorem e78_229 (d : Nat) (a0 a1 a2 a3 : Option Value) (s0 : Int32) (s1 : Nat) (h : MH)  : rn d 78 229 [a0, a1, a2, a3] [.int s0, .ref s1] h = rn d 78 230 [a0, a1, a2, a3] [.int 0, .int s0, .ref s1] h := rP (i := (.iconst 0)) rfl rfl
theorem e78_230 (d : Nat) (a0 a1 a2 a3 : Option Value) (s0 s1 : Int32) (s2 : Nat) (h : MH)  : rn d 78 230 [a0, a1, a2, a3] [.int s0, .int s1, .ref s2] h = (aputi h 0 s2 s1 s0).bind (fun h => rn d 78 231 [a0, a1, a2, a3] [] h) := rIast rfl
theorem e78_231 (d : Nat) (a0 a1 a2 : Option Value) (h : MH) (x : Int32) : rn d 78 231 [a0, a1, a2, some (.int x)] [] h = rn d 78 234 [a0, a1, a2, some (.int (x + 1))] [] h := rP (i := (.iinc 3 1)) rfl rfl
theorem e78_234 (d : Nat) (a0 a1 a2 a3 : Option Value) (h : MH)  : rn d 78 234 [a0, a1, a2, a3] [] h = rn d 78 217 [a0, a1, a2, a3] [] h := rP (i := (.goto (-17))) rfl rfl
theorem e78_237 (d : Nat) (a0 a1 a3 : Option Value) (h : MH) (x : Int32) : rn d 78 237 [a0, a1, some (.int x), a3] [] h = rn d 78 238 [a0, a1, some (.int x), a3] [.int x] h := rP (i := (.iload_n 2)) rfl rfl
theorem e78_238 (d : Nat) (a0 a1 a2 a3 : Option Value) (s0 : Int32) (h : MH)  : rn d 78 238 [a0, a1, a2, a3] [.int s0] h = some (some (.int s0), h) := rIret rfl rfl
-- 79: FlowEquationsModel.missing(I)Z
theorem e79_0 (d : Nat) (a1 a2 a3 : Option Value) (h : MH) (x : Nat) : rn d 79 0 [some (.ref x), a1, a2, a3] [] h = rn d 79 1 [some (.ref x), a1, a2, a3] [.ref x] h := rP (i := (.aload_n 0)) rfl rfl
theorem e79_1 (d : Nat) (a0 a1 a2 a3 : Option Value) (s0 : Nat) (h : MH)  : rn d 79 1 [a0, a1, a2, a3] [.ref s0] h = (fgetv h s0 5 5).bind (fun v => rn d 79 4 [a0, a1, a2, a3] [v] h) := rGet (idx := 20) rfl rfl
theorem e79_4 (d : Nat) (a0 a2 a3 : Option Value) (s0 : Nat) (h : MH) (x : Int32) : rn d 79 4 [a0, some (.int x), a2, a3] [.ref s0] h = rn d 79 5 [a0, some (.int x), a2, a3] [.int x, .ref s0] h := rP (i := (.iload_n 1)) rfl rfl
theorem e79_5 (d : Nat) (a0 a1 a2 a3 : Option Value) (s0 : Int32) (s1 : Nat) (h : MH)  : rn d 79 5 [a0, a1, a2, a3] [.int s0, .ref s1] h = (ageti h 0 s1 s0).bind (fun v => rn d 79 6 [a0, a1, a2, a3] [.int v] h) := rIald rfl
theorem e79_6 (d : Nat) (a0 a1 a2 a3 : Option Value) (s0 : Int32) (h : MH)  : rn d 79 6 [a0, a1, a2, a3] [.int s0] h = if 0 < s0 then rn d 79 9 [a0, a1, a2, a3] [] h else rn d 79 11 [a0, a1, a2, a3] [] h := rLe1 (off := 5) 11 rfl rfl
theorem e79_9 (d : Nat) (a0 a1 a2 a3 : Option Value) (h : MH)  : rn d 79 9 [a0, a1, a2, a3] [] h = rn d 79 10 [a0, a1, a2, a3] [.int 0] h := rP (i := (.iconst 0)) rfl rfl
theorem e79_10 (d : Nat) (a0 a1 a2 a3 : Option Value) (s0 : Int32) (h : MH) (hz : s0 &&& 1 = s0) : rn d 79 10 [a0, a1, a2, a3] [.int s0] h = some (some (.int s0), h) := rIretZ hz rfl rfl
theorem e79_10q0 (d : Nat) (a0 a1 a2 a3 : Option Value)  (h : MH) : rn d 79 10 [a0, a1, a2, a3] [.int 0] h = some (some (.int 0), h) := rIretZ rfl rfl rfl
theorem e79_10q1 (d : Nat) (a0 a1 a2 a3 : Option Value)  (h : MH) : rn d 79 10 [a0, a1, a2, a3] [.int 1] h = some (some (.int 1), h) := rIretZ rfl rfl rfl
theorem e79_11 (d : Nat) (a0 a1 a2 a3 : Option Value) (h : MH)  : rn d 79 11 [a0, a1, a2, a3] [] h = rn d 79 12 [a0, a1, a2, a3] [.int 0] h := rP (i := (.iconst 0)) rfl rfl
theorem e79_12 (d : Nat) (a0 a1 a2 a3 : Option Value) (s0 : Int32) (h : MH)  : rn d 79 12 [a0, a1, a2, a3] [.int s0] h = rn d 79 13 [a0, a1, some (.int s0), a3] [] h := rP (i := (.istore_n 2)) rfl rfl
theorem e79_13 (d : Nat) (a0 a1 a3 : Option Value) (h : MH) (x : Int32) : rn d 79 13 [a0, a1, some (.int x), a3] [] h = rn d 79 14 [a0, a1, some (.int x), a3] [.int x] h := rP (i := (.iload_n 2)) rfl rfl
theorem e79_14 (d : Nat) (a0 a1 a2 a3 : Option Value) (s0 : Int32) (h : MH)  : rn d 79 14 [a0, a1, a2, a3] [.int s0] h = rn d 79 16 [a0, a1, a2, a3] [.int 8, .int s0] h := rP (i := (.bipush 8)) rfl rfl
theorem e79_16 (d : Nat) (a0 a1 a2 a3 : Option Value) (s0 s1 : Int32) (h : MH)  : rn d 79 16 [a0, a1, a2, a3] [.int s0, .int s1] h = if s1 < s0 then rn d 79 19 [a0, a1, a2, a3] [] h else rn d 79 87 [a0, a1, a2, a3] [] h := rGe2 (off := 71) 87 rfl rfl
theorem e79_19 (d : Nat) (a1 a2 a3 : Option Value) (h : MH) (x : Nat) : rn d 79 19 [some (.ref x), a1, a2, a3] [] h = rn d 79 20 [some (.ref x), a1, a2, a3] [.ref x] h := rP (i := (.aload_n 0)) rfl rfl
theorem e79_20 (d : Nat) (a0 a1 a2 a3 : Option Value) (s0 : Nat) (h : MH)  : rn d 79 20 [a0, a1, a2, a3] [.ref s0] h = (fgetv h s0 5 5).bind (fun v => rn d 79 23 [a0, a1, a2, a3] [v] h) := rGet (idx := 20) rfl rfl
theorem e79_23 (d : Nat) (a0 a1 a3 : Option Value) (s0 : Nat) (h : MH) (x : Int32) : rn d 79 23 [a0, a1, some (.int x), a3] [.ref s0] h = rn d 79 24 [a0, a1, some (.int x), a3] [.int x, .ref s0] h := rP (i := (.iload_n 2)) rfl rfl
theorem e79_24 (d : Nat) (a0 a1 a2 a3 : Option Value) (s0 : Int32) (s1 : Nat) (h : MH)  : rn d 79 24 [a0, a1, a2, a3] [.int s0, .ref s1] h = (ageti h 0 s1 s0).bind (fun v => rn d 79 25 [a0, a1, a2, a3] [.int v] h) := rIald rfl
theorem e79_25 (d : Nat) (a0 a1 a2 a3 : Option Value) (s0 : Int32) (h : MH)  : rn d 79 25 [a0, a1, a2, a3] [.int s0] h = if s0 = 0 then rn d 79 28 [a0, a1, a2, a3] [] h else rn d 79 31 [a0, a1, a2, a3] [] h := rNe1 (off := 6) 31 rfl rfl
theorem e79_28 (d : Nat) (a0 a1 a2 a3 : Option Value) (h : MH)  : rn d 79 28 [a0, a1, a2, a3] [] h = rn d 79 81 [a0, a1, a2, a3] [] h := rP (i := (.goto 53)) rfl rfl
theorem e79_31 (d : Nat) (a1 a2 a3 : Option Value) (h : MH) (x : Nat) : rn d 79 31 [some (.ref x), a1, a2, a3] [] h = rn d 79 32 [some (.ref x), a1, a2, a3] [.ref x] h := rP (i := (.aload_n 0)) rfl rfl
theorem e79_32 (d : Nat) (a0 a1 a2 a3 : Option Value) (s0 : Nat) (h : MH)  : rn d 79 32 [a0, a1, a2, a3] [.ref s0] h = (fgetv h s0 5 13).bind (fun v => rn d 79 35 [a0, a1, a2, a3] [v] h) := rGet (idx := 45) rfl rfl
theorem e79_35 (d : Nat) (a0 a1 a3 : Option Value) (s0 : Nat) (h : MH) (x : Int32) : rn d 79 35 [a0, a1, some (.int x), a3] [.ref s0] h = rn d 79 36 [a0, a1, some (.int x), a3] [.int x, .ref s0] h := rP (i := (.iload_n 2)) rfl rfl
theorem e79_36 (d : Nat) (a0 a1 a2 a3 : Option Value) (s0 : Int32) (s1 : Nat) (h : MH)  : rn d 79 36 [a0, a1, a2, a3] [.int s0, .ref s1] h = (ageti h 0 s1 s0).bind (fun v => rn d 79 37 [a0, a1, a2, a3] [.int v] h) := rIald rfl
theorem e79_37 (d : Nat) (a0 a2 a3 : Option Value) (s0 : Int32) (h : MH) (x : Int32) : rn d 79 37 [a0, some (.int x), a2, a3] [.int s0] h = rn d 79 38 [a0, some (.int x), a2, a3] [.int x, .int s0] h := rP (i := (.iload_n 1)) rfl rfl
theorem e79_38 (d : Nat) (a0 a1 a2 a3 : Option Value) (s0 s1 : Int32) (h : MH)  : rn d 79 38 [a0, a1, a2, a3] [.int s0, .int s1] h = if s1 = s0 then rn d 79 41 [a0, a1, a2, a3] [] h else rn d 79 43 [a0, a1, a2, a3] [] h := rNe2 (off := 5) 43 rfl rfl
theorem e79_41 (d : Nat) (a0 a1 a2 a3 : Option Value) (h : MH)  : rn d 79 41 [a0, a1, a2, a3] [] h = rn d 79 42 [a0, a1, a2, a3] [.int 1] h := rP (i := (.iconst 1)) rfl rfl
theorem e79_42 (d : Nat) (a0 a1 a2 a3 : Option Value) (s0 : Int32) (h : MH) (hz : s0 &&& 1 = s0) : rn d 79 42 [a0, a1, a2, a3] [.int s0] h = some (some (.int s0), h) := rIretZ hz rfl rfl
theorem e79_42q0 (d : Nat) (a0 a1 a2 a3 : Option Value)  (h : MH) : rn d 79 42 [a0, a1, a2, a3] [.int 0] h = some (some (.int 0), h) := rIretZ rfl rfl rfl
theorem e79_42q1 (d : Nat) (a0 a1 a2 a3 : Option Value)  (h : MH) : rn d 79 42 [a0, a1, a2, a3] [.int 1] h = some (some (.int 1), h) := rIretZ rfl rfl rfl
theorem e79_43 (d : Nat) (a0 a1 a2 a3 : Option Value) (h : MH)  : rn d 79 43 [a0, a1, a2, a3] [] h = rn d 79 44 [a0, a1, a2, a3] [.int 0] h := rP (i := (.iconst 0)) rfl rfl
theorem e79_44 (d : Nat) (a0 a1 a2 a3 : Option Value) (s0 : Int32) (h : MH)  : rn d 79 44 [a0, a1, a2, a3] [.int s0] h = rn d 79 45 [a0, a1, a2, some (.int s0)] [] h := rP (i := (.istore_n 3)) rfl rfl
theorem e79_45 (d : Nat) (a0 a1 a2 : Option Value) (h : MH) (x : Int32) : rn d 79 45 [a0, a1, a2, some (.int x)] [] h = rn d 79 46 [a0, a1, a2, some (.int x)] [.int x] h := rP (i := (.iload_n 3)) rfl rfl
theorem e79_46 (d : Nat) (a1 a2 a3 : Option Value) (s0 : Int32) (h : MH) (x : Nat) : rn d 79 46 [some (.ref x), a1, a2, a3] [.int s0] h = rn d 79 47 [some (.ref x), a1, a2, a3] [.ref x, .int s0] h := rP (i := (.aload_n 0)) rfl rfl
theorem e79_47 (d : Nat) (a0 a1 a2 a3 : Option Value) (s1 : Int32) (s0 : Nat) (h : MH)  : rn d 79 47 [a0, a1, a2, a3] [.ref s0, .int s1] h = (fgetv h s0 5 5).bind (fun v => rn d 79 50 [a0, a1, a2, a3] [v, .int s1] h) := rGet (idx := 20) rfl rfl
theorem e79_50 (d : Nat) (a0 a1 a3 : Option Value) (s1 : Int32) (s0 : Nat) (h : MH) (x : Int32) : rn d 79 50 [a0, a1, some (.int x), a3] [.ref s0, .int s1] h = rn d 79 51 [a0, a1, some (.int x), a3] [.int x, .ref s0, .int s1] h := rP (i := (.iload_n 2)) rfl rfl
theorem e79_51 (d : Nat) (a0 a1 a2 a3 : Option Value) (s0 s2 : Int32) (s1 : Nat) (h : MH)  : rn d 79 51 [a0, a1, a2, a3] [.int s0, .ref s1, .int s2] h = (ageti h 0 s1 s0).bind (fun v => rn d 79 52 [a0, a1, a2, a3] [.int v, .int s2] h) := rIald rfl
theorem e79_52 (d : Nat) (a0 a1 a2 a3 : Option Value) (s0 s1 : Int32) (h : MH)  : rn d 79 52 [a0, a1, a2, a3] [.int s0, .int s1] h = if s1 < s0 then rn d 79 55 [a0, a1, a2, a3] [] h else rn d 79 81 [a0, a1, a2, a3] [] h := rGe2 (off := 29) 81 rfl rfl
theorem e79_55 (d : Nat) (a1 a2 a3 : Option Value) (h : MH) (x : Nat) : rn d 79 55 [some (.ref x), a1, a2, a3] [] h = rn d 79 56 [some (.ref x), a1, a2, a3] [.ref x] h := rP (i := (.aload_n 0)) rfl rfl
theorem e79_56 (d : Nat) (a0 a1 a2 a3 : Option Value) (s0 : Nat) (h : MH)  : rn d 79 56 [a0, a1, a2, a3] [.ref s0] h = (fgetv h s0 5 4).bind (fun v => rn d 79 59 [a0, a1, a2, a3] [v] h) := rGet (idx := 17) rfl rfl
theorem e79_59 (d : Nat) (a0 a1 a3 : Option Value) (s0 : Nat) (h : MH) (x : Int32) : rn d 79 59 [a0, a1, some (.int x), a3] [.ref s0] h = rn d 79 60 [a0, a1, some (.int x), a3] [.int x, .ref s0] h := rP (i := (.iload_n 2)) rfl rfl
theorem e79_60 (d : Nat) (a0 a1 a2 a3 : Option Value) (s0 : Int32) (s1 : Nat) (h : MH)  : rn d 79 60 [a0, a1, a2, a3] [.int s0, .ref s1] h = rn d 79 62 [a0, a1, a2, a3] [.int 24, .int s0, .ref s1] h := rP (i := (.bipush 24)) rfl rfl
theorem e79_62 (d : Nat) (a0 a1 a2 a3 : Option Value) (s0 s1 : Int32) (s2 : Nat) (h : MH)  : rn d 79 62 [a0, a1, a2, a3] [.int s0, .int s1, .ref s2] h = rn d 79 63 [a0, a1, a2, a3] [.int (s1 * s0), .ref s2] h := rP (i := (.imul)) rfl rfl
theorem e79_63 (d : Nat) (a0 a1 a2 : Option Value) (s0 : Int32) (s1 : Nat) (h : MH) (x : Int32) : rn d 79 63 [a0, a1, a2, some (.int x)] [.int s0, .ref s1] h = rn d 79 64 [a0, a1, a2, some (.int x)] [.int x, .int s0, .ref s1] h := rP (i := (.iload_n 3)) rfl rfl
theorem e79_64 (d : Nat) (a0 a1 a2 a3 : Option Value) (s0 s1 : Int32) (s2 : Nat) (h : MH)  : rn d 79 64 [a0, a1, a2, a3] [.int s0, .int s1, .ref s2] h = rn d 79 65 [a0, a1, a2, a3] [.int (s1 + s0), .ref s2] h := rP (i := (.iadd)) rfl rfl
theorem e79_65 (d : Nat) (a0 a1 a2 a3 : Option Value) (s0 : Int32) (s1 : Nat) (h : MH)  : rn d 79 65 [a0, a1, a2, a3] [.int s0, .ref s1] h = (ageti h 0 s1 s0).bind (fun v => rn d 79 66 [a0, a1, a2, a3] [.int v] h) := rIald rfl
theorem e79_66 (d : Nat) (a0 a1 a2 a3 : Option Value) (s0 : Int32) (h : MH)  : rn d 79 66 [a0, a1, a2, a3] [.int s0] h = rn d 79 68 [a0, a1, a2, a3] [.int 97, .int s0] h := rP (i := (.bipush 97)) rfl rfl
theorem e79_68 (d : Nat) (a0 a2 a3 : Option Value) (s0 s1 : Int32) (h : MH) (x : Int32) : rn d 79 68 [a0, some (.int x), a2, a3] [.int s0, .int s1] h = rn d 79 69 [a0, some (.int x), a2, a3] [.int x, .int s0, .int s1] h := rP (i := (.iload_n 1)) rfl rfl
theorem e79_69 (d : Nat) (a0 a1 a2 a3 : Option Value) (s0 s1 s2 : Int32) (h : MH)  : rn d 79 69 [a0, a1, a2, a3] [.int s0, .int s1, .int s2] h = rn d 79 70 [a0, a1, a2, a3] [.int (s1 + s0), .int s2] h := rP (i := (.iadd)) rfl rfl
theorem e79_70 (d : Nat) (a0 a1 a2 a3 : Option Value) (s0 s1 : Int32) (h : MH)  : rn d 79 70 [a0, a1, a2, a3] [.int s0, .int s1] h = if s1 = s0 then rn d 79 73 [a0, a1, a2, a3] [] h else rn d 79 75 [a0, a1, a2, a3] [] h := rNe2 (off := 5) 75 rfl rfl
theorem e79_73 (d : Nat) (a0 a1 a2 a3 : Option Value) (h : MH)  : rn d 79 73 [a0, a1, a2, a3] [] h = rn d 79 74 [a0, a1, a2, a3] [.int 1] h := rP (i := (.iconst 1)) rfl rfl
theorem e79_74 (d : Nat) (a0 a1 a2 a3 : Option Value) (s0 : Int32) (h : MH) (hz : s0 &&& 1 = s0) : rn d 79 74 [a0, a1, a2, a3] [.int s0] h = some (some (.int s0), h) := rIretZ hz rfl rfl
theorem e79_74q0 (d : Nat) (a0 a1 a2 a3 : Option Value)  (h : MH) : rn d 79 74 [a0, a1, a2, a3] [.int 0] h = some (some (.int 0), h) := rIretZ rfl rfl rfl
theorem e79_74q1 (d : Nat) (a0 a1 a2 a3 : Option Value)  (h : MH) : rn d 79 74 [a0, a1, a2, a3] [.int 1] h = some (some (.int 1), h) := rIretZ rfl rfl rfl
theorem e79_75 (d : Nat) (a0 a1 a2 : Option Value) (h : MH) (x : Int32) : rn d 79 75 [a0, a1, a2, some (.int x)] [] h = rn d 79 78 [a0, a1, a2, some (.int (x + 1))] [] h := rP (i := (.iinc 3 1)) rfl rfl
theorem e79_78 (d : Nat) (a0 a1 a2 a3 : Option Value) (h : MH)  : rn d 79 78 [a0, a1, a2, a3] [] h = rn d 79 45 [a0, a1, a2, a3] [] h := rP (i := (.goto (-33))) rfl rfl
theorem e79_81 (d : Nat) (a0 a1 a3 : Option Value) (h : MH) (x : Int32) : rn d 79 81 [a0, a1, some (.int x), a3] [] h = rn d 79 84 [a0, a1, some (.int (x + 1)), a3] [] h := rP (i := (.iinc 2 1)) rfl rfl
theorem e79_84 (d : Nat) (a0 a1 a2 a3 : Option Value) (h : MH)  : rn d 79 84 [a0, a1, a2, a3] [] h = rn d 79 13 [a0, a1, a2, a3] [] h := rP (i := (.goto (-71))) rfl rfl
theorem e79_87 (d : Nat) (a0 a1 a2 a3 : Option Value) (h : MH)  : rn d 79 87 [a0, a1, a2, a3] [] h = rn d 79 88 [a0, a1, a2, a3] [.int 0] h := rP (i := (.iconst 0)) rfl rfl
theorem e79_88 (d : Nat) (a0 a1 a2 a3 : Option Value) (s0 : Int32) (h : MH) (hz : s0 &&& 1 = s0) : rn d 79 88 [a0, a1, a2, a3] [.int s0] h = some (some (.int s0), h) := rIretZ hz rfl rfl
theorem e79_88q0 (d : Nat) (a0 a1 a2 a3 : Option Value)  (h : MH) : rn d 79 88 [a0, a1, a2, a3] [.int 0] h = some (some (.int 0), h) := rIretZ rfl rfl rfl
theorem e79_88q1 (d : Nat) (a0 a1 a2 a3 : Option Value)  (h : MH) : rn d 79 88 [a0, a1, a2, a3] [.int 1] h = some (some (.int 1), h) := rIretZ rfl rfl rfl
-- 80: FlowEquationsModel.circles(I)Z
theorem e80_0 (d : Nat) (a1 a2 a3 : Option Value) (h : MH) (x : Nat) : rn d 80 0 [some (.ref x), a1, a2, a3] [] h = rn d 80 1 [some (.ref x), a1, a2, a3] [.ref x] h := rP (i := (.aload_n 0)) rfl rfl
theorem e80_1 (d : Nat) (a0 a1 a2 a3 : Option Value) (s0 : Nat) (h : MH)  : rn d 80 1 [a0, a1, a2, a3] [.ref s0] h = (fgetv h s0 5 13).bind (fun v => rn d 80 4 [a0, a1, a2, a3] [v] h) := rGet (idx := 45) rfl rfl
theorem e80_4 (d : Nat) (a0 a2 a3 : Option Value) (s0 : Nat) (h : MH) (x : Int32) : rn d 80 4 [a0, some (.int x), a2, a3] [.ref s0] h = rn d 80 5 [a0, some (.int x), a2, a3] [.int x, .ref s0] h := rP (i := (.iload_n 1)) rfl rfl
theorem e80_5 (d : Nat) (a0 a1 a2 a3 : Option Value) (s0 : Int32) (s1 : Nat) (h : MH)  : rn d 80 5 [a0, a1, a2, a3] [.int s0, .ref s1] h = (ageti h 0 s1 s0).bind (fun v => rn d 80 6 [a0, a1, a2, a3] [.int v] h) := rIald rfl
theorem e80_6 (d : Nat) (a0 a1 a2 a3 : Option Value) (s0 : Int32) (h : MH)  : rn d 80 6 [a0, a1, a2, a3] [.int s0] h = rn d 80 7 [a0, a1, some (.int s0), a3] [] h := rP (i := (.istore_n 2)) rfl rfl
theorem e80_7 (d : Nat) (a0 a1 a2 a3 : Option Value) (h : MH)  : rn d 80 7 [a0, a1, a2, a3] [] h = rn d 80 8 [a0, a1, a2, a3] [.int 0] h := rP (i := (.iconst 0)) rfl rfl
theorem e80_8 (d : Nat) (a0 a1 a2 a3 : Option Value) (s0 : Int32) (h : MH)  : rn d 80 8 [a0, a1, a2, a3] [.int s0] h = rn d 80 9 [a0, a1, a2, some (.int s0)] [] h := rP (i := (.istore_n 3)) rfl rfl
theorem e80_9 (d : Nat) (a0 a1 a2 : Option Value) (h : MH) (x : Int32) : rn d 80 9 [a0, a1, a2, some (.int x)] [] h = rn d 80 10 [a0, a1, a2, some (.int x)] [.int x] h := rP (i := (.iload_n 3)) rfl rfl
theorem e80_10 (d : Nat) (a0 a1 a2 a3 : Option Value) (s0 : Int32) (h : MH)  : rn d 80 10 [a0, a1, a2, a3] [.int s0] h = rn d 80 12 [a0, a1, a2, a3] [.int 8, .int s0] h := rP (i := (.bipush 8)) rfl rfl
theorem e80_12 (d : Nat) (a0 a1 a2 a3 : Option Value) (s0 s1 : Int32) (h : MH)  : rn d 80 12 [a0, a1, a2, a3] [.int s0, .int s1] h = if s1 < s0 then rn d 80 15 [a0, a1, a2, a3] [] h else rn d 80 39 [a0, a1, a2, a3] [] h := rGe2 (off := 27) 39 rfl rfl
theorem e80_15 (d : Nat) (a0 a1 a3 : Option Value) (h : MH) (x : Int32) : rn d 80 15 [a0, a1, some (.int x), a3] [] h = rn d 80 16 [a0, a1, some (.int x), a3] [.int x] h := rP (i := (.iload_n 2)) rfl rfl
theorem e80_16 (d : Nat) (a0 a1 a2 a3 : Option Value) (s0 : Int32) (h : MH)  : rn d 80 16 [a0, a1, a2, a3] [.int s0] h = if s0 < 0 then rn d 80 39 [a0, a1, a2, a3] [] h else rn d 80 19 [a0, a1, a2, a3] [] h := rLt1 (off := 23) 39 rfl rfl
theorem e80_19 (d : Nat) (a0 a1 a3 : Option Value) (h : MH) (x : Int32) : rn d 80 19 [a0, a1, some (.int x), a3] [] h = rn d 80 20 [a0, a1, some (.int x), a3] [.int x] h := rP (i := (.iload_n 2)) rfl rfl
theorem e80_20 (d : Nat) (a0 a2 a3 : Option Value) (s0 : Int32) (h : MH) (x : Int32) : rn d 80 20 [a0, some (.int x), a2, a3] [.int s0] h = rn d 80 21 [a0, some (.int x), a2, a3] [.int x, .int s0] h := rP (i := (.iload_n 1)) rfl rfl
theorem e80_21 (d : Nat) (a0 a1 a2 a3 : Option Value) (s0 s1 : Int32) (h : MH)  : rn d 80 21 [a0, a1, a2, a3] [.int s0, .int s1] h = if s1 = s0 then rn d 80 24 [a0, a1, a2, a3] [] h else rn d 80 26 [a0, a1, a2, a3] [] h := rNe2 (off := 5) 26 rfl rfl
theorem e80_24 (d : Nat) (a0 a1 a2 a3 : Option Value) (h : MH)  : rn d 80 24 [a0, a1, a2, a3] [] h = rn d 80 25 [a0, a1, a2, a3] [.int 1] h := rP (i := (.iconst 1)) rfl rfl
theorem e80_25 (d : Nat) (a0 a1 a2 a3 : Option Value) (s0 : Int32) (h : MH) (hz : s0 &&& 1 = s0) : rn d 80 25 [a0, a1, a2, a3] [.int s0] h = some (some (.int s0), h) := rIretZ hz rfl rfl
theorem e80_25q0 (d : Nat) (a0 a1 a2 a3 : Option Value)  (h : MH) : rn d 80 25 [a0, a1, a2, a3] [.int 0] h = some (some (.int 0), h) := rIretZ rfl rfl rfl
theorem e80_25q1 (d : Nat) (a0 a1 a2 a3 : Option Value)  (h : MH) : rn d 80 25 [a0, a1, a2, a3] [.int 1] h = some (some (.int 1), h) := rIretZ rfl rfl rfl
theorem e80_26 (d : Nat) (a1 a2 a3 : Option Value) (h : MH) (x : Nat) : rn d 80 26 [some (.ref x), a1, a2, a3] [] h = rn d 80 27 [some (.ref x), a1, a2, a3] [.ref x] h := rP (i := (.aload_n 0)) rfl rfl
theorem e80_27 (d : Nat) (a0 a1 a2 a3 : Option Value) (s0 : Nat) (h : MH)  : rn d 80 27 [a0, a1, a2, a3] [.ref s0] h = (fgetv h s0 5 13).bind (fun v => rn d 80 30 [a0, a1, a2, a3] [v] h) := rGet (idx := 45) rfl rfl
theorem e80_30 (d : Nat) (a0 a1 a3 : Option Value) (s0 : Nat) (h : MH) (x : Int32) : rn d 80 30 [a0, a1, some (.int x), a3] [.ref s0] h = rn d 80 31 [a0, a1, some (.int x), a3] [.int x, .ref s0] h := rP (i := (.iload_n 2)) rfl rfl
theorem e80_31 (d : Nat) (a0 a1 a2 a3 : Option Value) (s0 : Int32) (s1 : Nat) (h : MH)  : rn d 80 31 [a0, a1, a2, a3] [.int s0, .ref s1] h = (ageti h 0 s1 s0).bind (fun v => rn d 80 32 [a0, a1, a2, a3] [.int v] h) := rIald rfl
theorem e80_32 (d : Nat) (a0 a1 a2 a3 : Option Value) (s0 : Int32) (h : MH)  : rn d 80 32 [a0, a1, a2, a3] [.int s0] h = rn d 80 33 [a0, a1, some (.int s0), a3] [] h := rP (i := (.istore_n 2)) rfl rfl
theorem e80_33 (d : Nat) (a0 a1 a2 : Option Value) (h : MH) (x : Int32) : rn d 80 33 [a0, a1, a2, some (.int x)] [] h = rn d 80 36 [a0, a1, a2, some (.int (x + 1))] [] h := rP (i := (.iinc 3 1)) rfl rfl
theorem e80_36 (d : Nat) (a0 a1 a2 a3 : Option Value) (h : MH)  : rn d 80 36 [a0, a1, a2, a3] [] h = rn d 80 9 [a0, a1, a2, a3] [] h := rP (i := (.goto (-27))) rfl rfl
theorem e80_39 (d : Nat) (a0 a1 a2 a3 : Option Value) (h : MH)  : rn d 80 39 [a0, a1, a2, a3] [] h = rn d 80 40 [a0, a1, a2, a3] [.int 0] h := rP (i := (.iconst 0)) rfl rfl
theorem e80_40 (d : Nat) (a0 a1 a2 a3 : Option Value) (s0 : Int32) (h : MH) (hz : s0 &&& 1 = s0) : rn d 80 40 [a0, a1, a2, a3] [.int s0] h = some (some (.int s0), h) := rIretZ hz rfl rfl
theorem e80_40q0 (d : Nat) (a0 a1 a2 a3 : Option Value)  (h : MH) : rn d 80 40 [a0, a1, a2, a3] [.int 0] h = some (some (.int 0), h) := rIretZ rfl rfl rfl
theorem e80_40q1 (d : Nat) (a0 a1 a2 a3 : Option Value)  (h : MH) : rn d 80 40 [a0, a1, a2, a3] [.int 1] h = some (some (.int 1), h) := rIretZ rfl rfl rfl
-- 81: FlowEquationsModel.fit(I)Z
set_option maxRecDepth 8000 in
theorem e81_0 (d : Nat) (a0 a1 a2 a3 a4 a5 a6 a7 a8 a9 a10 : Option Value) (h : MH)  : rn d 81 0 [a0, a1, a2, a3, a4, a5, a6, a7, a8, a9, a10] [] h = rn d 81 1 [a0, a1, a2, a3, a4, a5, a6, a7, a8, a9, a10] [.int 1] h := rP (i := (.iconst 1)) rfl rfl
set_option maxRecDepth 8000 in
theorem e81_1 (d : Nat) (a0 a1 a2 a3 a4 a5 a6 a7 a8 a9 a10 : Option Value) (s0 : Int32) (h : MH)  : rn d 81 1 [a0, a1, a2, a3, a4, a5, a6, a7, a8, a9, a10] [.int s0] h = rn d 81 2 [a0, a1, some (.int s0), a3, a4, a5, a6, a7, a8, a9, a10] [] h := rP (i := (.istore_n 2)) rfl rfl
set_option maxRecDepth 8000 in
theorem e81_2 (d : Nat) (a1 a2 a3 a4 a5 a6 a7 a8 a9 a10 : Option Value) (h : MH) (x : Nat) : rn d 81 2 [some (.ref x), a1, a2, a3, a4, a5, a6, a7, a8, a9, a10] [] h = rn d 81 3 [some (.ref x), a1, a2, a3, a4, a5, a6, a7, a8, a9, a10] [.ref x] h := rP (i := (.aload_n 0)) rfl rfl
set_option maxRecDepth 8000 in
theorem e81_3 (d : Nat) (a0 a1 a2 a3 a4 a5 a6 a7 a8 a9 a10 : Option Value) (s0 : Nat) (h : MH)  : rn d 81 3 [a0, a1, a2, a3, a4, a5, a6, a7, a8, a9, a10] [.ref s0] h = (fgetv h s0 5 7).bind (fun v => rn d 81 6 [a0, a1, a2, a3, a4, a5, a6, a7, a8, a9, a10] [v] h) := rGet (idx := 26) rfl rfl
set_option maxRecDepth 8000 in
theorem e81_6 (d : Nat) (a0 a2 a3 a4 a5 a6 a7 a8 a9 a10 : Option Value) (s0 : Nat) (h : MH) (x : Int32) : rn d 81 6 [a0, some (.int x), a2, a3, a4, a5, a6, a7, a8, a9, a10] [.ref s0] h = rn d 81 7 [a0, some (.int x), a2, a3, a4, a5, a6, a7, a8, a9, a10] [.int x, .ref s0] h := rP (i := (.iload_n 1)) rfl rfl
set_option maxRecDepth 8000 in
theorem e81_7 (d : Nat) (a0 a1 a2 a3 a4 a5 a6 a7 a8 a9 a10 : Option Value) (s0 : Int32) (s1 : Nat) (h : MH)  : rn d 81 7 [a0, a1, a2, a3, a4, a5, a6, a7, a8, a9, a10] [.int s0, .ref s1] h = rn d 81 9 [a0, a1, a2, a3, a4, a5, a6, a7, a8, a9, a10] [.int 24, .int s0, .ref s1] h := rP (i := (.bipush 24)) rfl rfl
set_option maxRecDepth 8000 in
theorem e81_9 (d : Nat) (a0 a1 a2 a3 a4 a5 a6 a7 a8 a9 a10 : Option Value) (s0 s1 : Int32) (s2 : Nat) (h : MH)  : rn d 81 9 [a0, a1, a2, a3, a4, a5, a6, a7, a8, a9, a10] [.int s0, .int s1, .ref s2] h = rn d 81 10 [a0, a1, a2, a3, a4, a5, a6, a7, a8, a9, a10] [.int (s1 * s0), .ref s2] h := rP (i := (.imul)) rfl rfl
set_option maxRecDepth 8000 in
theorem e81_10 (d : Nat) (a1 a2 a3 a4 a5 a6 a7 a8 a9 a10 : Option Value) (s0 : Int32) (s1 : Nat) (h : MH) (x : Nat) : rn d 81 10 [some (.ref x), a1, a2, a3, a4, a5, a6, a7, a8, a9, a10] [.int s0, .ref s1] h = rn d 81 11 [some (.ref x), a1, a2, a3, a4, a5, a6, a7, a8, a9, a10] [.ref x, .int s0, .ref s1] h := rP (i := (.aload_n 0)) rfl rfl
set_option maxRecDepth 8000 in
theorem e81_11 (d : Nat) (a0 a1 a2 a3 a4 a5 a6 a7 a8 a9 a10 : Option Value) (s1 : Int32) (s0 s2 : Nat) (h : MH)  : rn d 81 11 [a0, a1, a2, a3, a4, a5, a6, a7, a8, a9, a10] [.ref s0, .int s1, .ref s2] h = (fgetv h s0 5 13).bind (fun v => rn d 81 14 [a0, a1, a2, a3, a4, a5, a6, a7, a8, a9, a10] [v, .int s1, .ref s2] h) := rGet (idx := 45) rfl rfl
set_option maxRecDepth 8000 in
theorem e81_14 (d : Nat) (a0 a2 a3 a4 a5 a6 a7 a8 a9 a10 : Option Value) (s1 : Int32) (s0 s2 : Nat) (h : MH) (x : Int32) : rn d 81 14 [a0, some (.int x), a2, a3, a4, a5, a6, a7, a8, a9, a10] [.ref s0, .int s1, .ref s2] h = rn d 81 15 [a0, some (.int x), a2, a3, a4, a5, a6, a7, a8, a9, a10] [.int x, .ref s0, .int s1, .ref s2] h := rP (i := (.iload_n 1)) rfl rfl
set_option maxRecDepth 8000 in
theorem e81_15 (d : Nat) (a0 a1 a2 a3 a4 a5 a6 a7 a8 a9 a10 : Option Value) (s0 s2 : Int32) (s1 s3 : Nat) (h : MH)  : rn d 81 15 [a0, a1, a2, a3, a4, a5, a6, a7, a8, a9, a10] [.int s0, .ref s1, .int s2, .ref s3] h = (ageti h 0 s1 s0).bind (fun v => rn d 81 16 [a0, a1, a2, a3, a4, a5, a6, a7, a8, a9, a10] [.int v, .int s2, .ref s3] h) := rIald rfl
set_option maxRecDepth 8000 in
theorem e81_16 (d : Nat) (a0 a1 a2 a3 a4 a5 a6 a7 a8 a9 a10 : Option Value) (s0 s1 : Int32) (s2 : Nat) (h : MH)  : rn d 81 16 [a0, a1, a2, a3, a4, a5, a6, a7, a8, a9, a10] [.int s0, .int s1, .ref s2] h = (aputi h 0 s2 s1 s0).bind (fun h => rn d 81 17 [a0, a1, a2, a3, a4, a5, a6, a7, a8, a9, a10] [] h) := rIast rfl
set_option maxRecDepth 8000 in
theorem e81_17 (d : Nat) (a1 a2 a3 a4 a5 a6 a7 a8 a9 a10 : Option Value) (h : MH) (x : Nat) : rn d 81 17 [some (.ref x), a1, a2, a3, a4, a5, a6, a7, a8, a9, a10] [] h = rn d 81 18 [some (.ref x), a1, a2, a3, a4, a5, a6, a7, a8, a9, a10] [.ref x] h := rP (i := (.aload_n 0)) rfl rfl
set_option maxRecDepth 8000 in
theorem e81_18 (d : Nat) (a0 a1 a2 a3 a4 a5 a6 a7 a8 a9 a10 : Option Value) (s0 : Nat) (h : MH)  : rn d 81 18 [a0, a1, a2, a3, a4, a5, a6, a7, a8, a9, a10] [.ref s0] h = (fgetv h s0 5 8).bind (fun v => rn d 81 21 [a0, a1, a2, a3, a4, a5, a6, a7, a8, a9, a10] [v] h) := rGet (idx := 29) rfl rfl
set_option maxRecDepth 8000 in
theorem e81_21 (d : Nat) (a0 a2 a3 a4 a5 a6 a7 a8 a9 a10 : Option Value) (s0 : Nat) (h : MH) (x : Int32) : rn d 81 21 [a0, some (.int x), a2, a3, a4, a5, a6, a7, a8, a9, a10] [.ref s0] h = rn d 81 22 [a0, some (.int x), a2, a3, a4, a5, a6, a7, a8, a9, a10] [.int x, .ref s0] h := rP (i := (.iload_n 1)) rfl rfl
set_option maxRecDepth 8000 in
theorem e81_22 (d : Nat) (a0 a1 a2 a3 a4 a5 a6 a7 a8 a9 a10 : Option Value) (s0 : Int32) (s1 : Nat) (h : MH)  : rn d 81 22 [a0, a1, a2, a3, a4, a5, a6, a7, a8, a9, a10] [.int s0, .ref s1] h = rn d 81 24 [a0, a1, a2, a3, a4, a5, a6, a7, a8, a9, a10] [.int 24, .int s0, .ref s1] h := rP (i := (.bipush 24)) rfl rfl
set_option maxRecDepth 8000 in
theorem e81_24 (d : Nat) (a0 a1 a2 a3 a4 a5 a6 a7 a8 a9 a10 : Option Value) (s0 s1 : Int32) (s2 : Nat) (h : MH)  : rn d 81 24 [a0, a1, a2, a3, a4, a5, a6, a7, a8, a9, a10] [.int s0, .int s1, .ref s2] h = rn d 81 25 [a0, a1, a2, a3, a4, a5, a6, a7, a8, a9, a10] [.int (s1 * s0), .ref s2] h := rP (i := (.imul)) rfl rfl
set_option maxRecDepth 8000 in
theorem e81_25 (d : Nat) (a0 a1 a2 a3 a4 a5 a6 a7 a8 a9 a10 : Option Value) (s0 : Int32) (s1 : Nat) (h : MH)  : rn d 81 25 [a0, a1, a2, a3, a4, a5, a6, a7, a8, a9, a10] [.int s0, .ref s1] h = rn d 81 26 [a0, a1, a2, a3, a4, a5, a6, a7, a8, a9, a10] [.int 0, .int s0, .ref s1] h := rP (i := (.iconst 0)) rfl rfl
set_option maxRecDepth 8000 in
theorem e81_26 (d : Nat) (a0 a1 a2 a3 a4 a5 a6 a7 a8 a9 a10 : Option Value) (s0 s1 : Int32) (s2 : Nat) (h : MH)  : rn d 81 26 [a0, a1, a2, a3, a4, a5, a6, a7, a8, a9, a10] [.int s0, .int s1, .ref s2] h = (aputi h 0 s2 s1 s0).bind (fun h => rn d 81 27 [a0, a1, a2, a3, a4, a5, a6, a7, a8, a9, a10] [] h) := rIast rfl
set_option maxRecDepth 8000 in
theorem e81_27 (d : Nat) (a0 a1 a2 a3 a4 a5 a6 a7 a8 a9 a10 : Option Value) (h : MH)  : rn d 81 27 [a0, a1, a2, a3, a4, a5, a6, a7, a8, a9, a10] [] h = rn d 81 28 [a0, a1, a2, a3, a4, a5, a6, a7, a8, a9, a10] [.int 0] h := rP (i := (.iconst 0)) rfl rfl
set_option maxRecDepth 8000 in
theorem e81_28 (d : Nat) (a0 a1 a2 a3 a4 a5 a6 a7 a8 a9 a10 : Option Value) (s0 : Int32) (h : MH)  : rn d 81 28 [a0, a1, a2, a3, a4, a5, a6, a7, a8, a9, a10] [.int s0] h = rn d 81 29 [a0, a1, a2, some (.int s0), a4, a5, a6, a7, a8, a9, a10] [] h := rP (i := (.istore_n 3)) rfl rfl
set_option maxRecDepth 8000 in
theorem e81_29 (d : Nat) (a0 a1 a2 a4 a5 a6 a7 a8 a9 a10 : Option Value) (h : MH) (x : Int32) : rn d 81 29 [a0, a1, a2, some (.int x), a4, a5, a6, a7, a8, a9, a10] [] h = rn d 81 30 [a0, a1, a2, some (.int x), a4, a5, a6, a7, a8, a9, a10] [.int x] h := rP (i := (.iload_n 3)) rfl rfl
set_option maxRecDepth 8000 in
theorem e81_30 (d : Nat) (a1 a2 a3 a4 a5 a6 a7 a8 a9 a10 : Option Value) (s0 : Int32) (h : MH) (x : Nat) : rn d 81 30 [some (.ref x), a1, a2, a3, a4, a5, a6, a7, a8, a9, a10] [.int s0] h = rn d 81 31 [some (.ref x), a1, a2, a3, a4, a5, a6, a7, a8, a9, a10] [.ref x, .int s0] h := rP (i := (.aload_n 0)) rfl rfl
set_option maxRecDepth 8000 in
theorem e81_31 (d : Nat) (a0 a1 a2 a3 a4 a5 a6 a7 a8 a9 a10 : Option Value) (s1 : Int32) (s0 : Nat) (h : MH)  : rn d 81 31 [a0, a1, a2, a3, a4, a5, a6, a7, a8, a9, a10] [.ref s0, .int s1] h = (fgetv h s0 5 5).bind (fun v => rn d 81 34 [a0, a1, a2, a3, a4, a5, a6, a7, a8, a9, a10] [v, .int s1] h) := rGet (idx := 20) rfl rfl
set_option maxRecDepth 8000 in
theorem e81_34 (d : Nat) (a0 a2 a3 a4 a5 a6 a7 a8 a9 a10 : Option Value) (s1 : Int32) (s0 : Nat) (h : MH) (x : Int32) : rn d 81 34 [a0, some (.int x), a2, a3, a4, a5, a6, a7, a8, a9, a10] [.ref s0, .int s1] h = rn d 81 35 [a0, some (.int x), a2, a3, a4, a5, a6, a7, a8, a9, a10] [.int x, .ref s0, .int s1] h := rP (i := (.iload_n 1)) rfl rfl
set_option maxRecDepth 8000 in
theorem e81_35 (d : Nat) (a0 a1 a2 a3 a4 a5 a6 a7 a8 a9 a10 : Option Value) (s0 s2 : Int32) (s1 : Nat) (h : MH)  : rn d 81 35 [a0, a1, a2, a3, a4, a5, a6, a7, a8, a9, a10] [.int s0, .ref s1, .int s2] h = (ageti h 0 s1 s0).bind (fun v => rn d 81 36 [a0, a1, a2, a3, a4, a5, a6, a7, a8, a9, a10] [.int v, .int s2] h) := rIald rfl
set_option maxRecDepth 8000 in
theorem e81_36 (d : Nat) (a0 a1 a2 a3 a4 a5 a6 a7 a8 a9 a10 : Option Value) (s0 s1 : Int32) (h : MH)  : rn d 81 36 [a0, a1, a2, a3, a4, a5, a6, a7, a8, a9, a10] [.int s0, .int s1] h = if s1 < s0 then rn d 81 39 [a0, a1, a2, a3, a4, a5, a6, a7, a8, a9, a10] [] h else rn d 81 381 [a0, a1, a2, a3, a4, a5, a6, a7, a8, a9, a10] [] h := rGe2 (off := 345) 381 rfl rfl
set_option maxRecDepth 8000 in
theorem e81_39 (d : Nat) (a0 a2 a3 a4 a5 a6 a7 a8 a9 a10 : Option Value) (h : MH) (x : Int32) : rn d 81 39 [a0, some (.int x), a2, a3, a4, a5, a6, a7, a8, a9, a10] [] h = rn d 81 40 [a0, some (.int x), a2, a3, a4, a5, a6, a7, a8, a9, a10] [.int x] h := rP (i := (.iload_n 1)) rfl rfl
set_option maxRecDepth 8000 in
theorem e81_40 (d : Nat) (a0 a1 a2 a3 a4 a5 a6 a7 a8 a9 a10 : Option Value) (s0 : Int32) (h : MH)  : rn d 81 40 [a0, a1, a2, a3, a4, a5, a6, a7, a8, a9, a10] [.int s0] h = rn d 81 42 [a0, a1, a2, a3, a4, a5, a6, a7, a8, a9, a10] [.int 24, .int s0] h := rP (i := (.bipush 24)) rfl rfl
set_option maxRecDepth 8000 in
theorem e81_42 (d : Nat) (a0 a1 a2 a3 a4 a5 a6 a7 a8 a9 a10 : Option Value) (s0 s1 : Int32) (h : MH)  : rn d 81 42 [a0, a1, a2, a3, a4, a5, a6, a7, a8, a9, a10] [.int s0, .int s1] h = rn d 81 43 [a0, a1, a2, a3, a4, a5, a6, a7, a8, a9, a10] [.int (s1 * s0)] h := rP (i := (.imul)) rfl rfl
set_option maxRecDepth 8000 in
theorem e81_43 (d : Nat) (a0 a1 a2 a4 a5 a6 a7 a8 a9 a10 : Option Value) (s0 : Int32) (h : MH) (x : Int32) : rn d 81 43 [a0, a1, a2, some (.int x), a4, a5, a6, a7, a8, a9, a10] [.int s0] h = rn d 81 44 [a0, a1, a2, some (.int x), a4, a5, a6, a7, a8, a9, a10] [.int x, .int s0] h := rP (i := (.iload_n 3)) rfl rfl
set_option maxRecDepth 8000 in
theorem e81_44 (d : Nat) (a0 a1 a2 a3 a4 a5 a6 a7 a8 a9 a10 : Option Value) (s0 s1 : Int32) (h : MH)  : rn d 81 44 [a0, a1, a2, a3, a4, a5, a6, a7, a8, a9, a10] [.int s0, .int s1] h = rn d 81 45 [a0, a1, a2, a3, a4, a5, a6, a7, a8, a9, a10] [.int (s1 + s0)] h := rP (i := (.iadd)) rfl rfl
set_option maxRecDepth 8000 in
theorem e81_45 (d : Nat) (a0 a1 a2 a3 a4 a5 a6 a7 a8 a9 a10 : Option Value) (s0 : Int32) (h : MH)  : rn d 81 45 [a0, a1, a2, a3, a4, a5, a6, a7, a8, a9, a10] [.int s0] h = rn d 81 47 [a0, a1, a2, a3, some (.int s0), a5, a6, a7, a8, a9, a10] [] h := rP (i := (.istore 4)) rfl rfl
set_option maxRecDepth 8000 in
theorem e81_47 (d : Nat) (a1 a2 a3 a4 a5 a6 a7 a8 a9 a10 : Option Value) (h : MH) (x : Nat) : rn d 81 47 [some (.ref x), a1, a2, a3, a4, a5, a6, a7, a8, a9, a10] [] h = rn d 81 48 [some (.ref x), a1, a2, a3, a4, a5, a6, a7, a8, a9, a10] [.ref x] h := rP (i := (.aload_n 0)) rfl rfl
set_option maxRecDepth 8000 in
theorem e81_48 (d : Nat) (a0 a1 a2 a3 a4 a5 a6 a7 a8 a9 a10 : Option Value) (s0 : Nat) (h : MH)  : rn d 81 48 [a0, a1, a2, a3, a4, a5, a6, a7, a8, a9, a10] [.ref s0] h = (fgetv h s0 5 4).bind (fun v => rn d 81 51 [a0, a1, a2, a3, a4, a5, a6, a7, a8, a9, a10] [v] h) := rGet (idx := 17) rfl rfl
set_option maxRecDepth 8000 in
theorem e81_51 (d : Nat) (a0 a1 a2 a3 a5 a6 a7 a8 a9 a10 : Option Value) (s0 : Nat) (h : MH) (x : Int32) : rn d 81 51 [a0, a1, a2, a3, some (.int x), a5, a6, a7, a8, a9, a10] [.ref s0] h = rn d 81 53 [a0, a1, a2, a3, some (.int x), a5, a6, a7, a8, a9, a10] [.int x, .ref s0] h := rP (i := (.iload 4)) rfl rfl
set_option maxRecDepth 8000 in
theorem e81_53 (d : Nat) (a0 a1 a2 a3 a4 a5 a6 a7 a8 a9 a10 : Option Value) (s0 : Int32) (s1 : Nat) (h : MH)  : rn d 81 53 [a0, a1, a2, a3, a4, a5, a6, a7, a8, a9, a10] [.int s0, .ref s1] h = (ageti h 0 s1 s0).bind (fun v => rn d 81 54 [a0, a1, a2, a3, a4, a5, a6, a7, a8, a9, a10] [.int v] h) := rIald rfl
set_option maxRecDepth 8000 in
theorem e81_54 (d : Nat) (a0 a1 a2 a3 a4 a5 a6 a7 a8 a9 a10 : Option Value) (s0 : Int32) (h : MH)  : rn d 81 54 [a0, a1, a2, a3, a4, a5, a6, a7, a8, a9, a10] [.int s0] h = rn d 81 56 [a0, a1, a2, a3, a4, some (.int s0), a6, a7, a8, a9, a10] [] h := rP (i := (.istore 5)) rfl rfl
set_option maxRecDepth 8000 in
theorem e81_56 (d : Nat) (a1 a2 a3 a4 a5 a6 a7 a8 a9 a10 : Option Value) (h : MH) (x : Nat) : rn d 81 56 [some (.ref x), a1, a2, a3, a4, a5, a6, a7, a8, a9, a10] [] h = rn d 81 57 [some (.ref x), a1, a2, a3, a4, a5, a6, a7, a8, a9, a10] [.ref x] h := rP (i := (.aload_n 0)) rfl rfl
set_option maxRecDepth 8000 in
theorem e81_57 (d : Nat) (a0 a1 a2 a3 a4 a5 a6 a7 a8 a9 a10 : Option Value) (s0 : Nat) (h : MH)  : rn d 81 57 [a0, a1, a2, a3, a4, a5, a6, a7, a8, a9, a10] [.ref s0] h = (fgetv h s0 5 7).bind (fun v => rn d 81 60 [a0, a1, a2, a3, a4, a5, a6, a7, a8, a9, a10] [v] h) := rGet (idx := 26) rfl rfl
set_option maxRecDepth 8000 in
theorem e81_60 (d : Nat) (a0 a1 a2 a3 a5 a6 a7 a8 a9 a10 : Option Value) (s0 : Nat) (h : MH) (x : Int32) : rn d 81 60 [a0, a1, a2, a3, some (.int x), a5, a6, a7, a8, a9, a10] [.ref s0] h = rn d 81 62 [a0, a1, a2, a3, some (.int x), a5, a6, a7, a8, a9, a10] [.int x, .ref s0] h := rP (i := (.iload 4)) rfl rfl
set_option maxRecDepth 8000 in
theorem e81_62 (d : Nat) (a0 a1 a2 a3 a4 a5 a6 a7 a8 a9 a10 : Option Value) (s0 : Int32) (s1 : Nat) (h : MH)  : rn d 81 62 [a0, a1, a2, a3, a4, a5, a6, a7, a8, a9, a10] [.int s0, .ref s1] h = (ageti h 0 s1 s0).bind (fun v => rn d 81 63 [a0, a1, a2, a3, a4, a5, a6, a7, a8, a9, a10] [.int v] h) := rIald rfl
set_option maxRecDepth 8000 in
theorem e81_63 (d : Nat) (a0 a1 a2 a3 a4 a5 a6 a7 a8 a9 a10 : Option Value) (s0 : Int32) (h : MH)  : rn d 81 63 [a0, a1, a2, a3, a4, a5, a6, a7, a8, a9, a10] [.int s0] h = rn d 81 65 [a0, a1, a2, a3, a4, a5, some (.int s0), a7, a8, a9, a10] [] h := rP (i := (.istore 6)) rfl rfl
set_option maxRecDepth 8000 in
theorem e81_65 (d : Nat) (a1 a2 a3 a4 a5 a6 a7 a8 a9 a10 : Option Value) (h : MH) (x : Nat) : rn d 81 65 [some (.ref x), a1, a2, a3, a4, a5, a6, a7, a8, a9, a10] [] h = rn d 81 66 [some (.ref x), a1, a2, a3, a4, a5, a6, a7, a8, a9, a10] [.ref x] h := rP (i := (.aload_n 0)) rfl rfl
set_option maxRecDepth 8000 in
theorem e81_66 (d : Nat) (a0 a1 a2 a3 a4 a5 a6 a7 a8 a9 a10 : Option Value) (s0 : Nat) (h : MH)  : rn d 81 66 [a0, a1, a2, a3, a4, a5, a6, a7, a8, a9, a10] [.ref s0] h = (fgetv h s0 5 11).bind (fun v => rn d 81 69 [a0, a1, a2, a3, a4, a5, a6, a7, a8, a9, a10] [v] h) := rGet (idx := 38) rfl rfl
set_option maxRecDepth 8000 in
theorem e81_69 (d : Nat) (a0 a1 a2 a3 a5 a6 a7 a8 a9 a10 : Option Value) (s0 : Nat) (h : MH) (x : Int32) : rn d 81 69 [a0, a1, a2, a3, some (.int x), a5, a6, a7, a8, a9, a10] [.ref s0] h = rn d 81 71 [a0, a1, a2, a3, some (.int x), a5, a6, a7, a8, a9, a10] [.int x, .ref s0] h := rP (i := (.iload 4)) rfl rfl
set_option maxRecDepth 8000 in
theorem e81_71 (d : Nat) (a0 a1 a2 a3 a4 a5 a6 a7 a8 a9 a10 : Option Value) (s0 : Int32) (s1 : Nat) (h : MH)  : rn d 81 71 [a0, a1, a2, a3, a4, a5, a6, a7, a8, a9, a10] [.int s0, .ref s1] h = (ageti h 1 s1 s0).bind (fun v => rn d 81 72 [a0, a1, a2, a3, a4, a5, a6, a7, a8, a9, a10] [.int v] h) := rBald rfl
set_option maxRecDepth 8000 in
theorem e81_72 (d : Nat) (a0 a1 a2 a3 a4 a5 a6 a7 a8 a9 a10 : Option Value) (s0 : Int32) (h : MH)  : rn d 81 72 [a0, a1, a2, a3, a4, a5, a6, a7, a8, a9, a10] [.int s0] h = if s0 = 0 then rn d 81 75 [a0, a1, a2, a3, a4, a5, a6, a7, a8, a9, a10] [] h else rn d 81 78 [a0, a1, a2, a3, a4, a5, a6, a7, a8, a9, a10] [] h := rNe1 (off := 6) 78 rfl rfl
set_option maxRecDepth 8000 in
theorem e81_75 (d : Nat) (a0 a1 a2 a3 a4 a5 a6 a7 a8 a9 a10 : Option Value) (h : MH)  : rn d 81 75 [a0, a1, a2, a3, a4, a5, a6, a7, a8, a9, a10] [] h = rn d 81 375 [a0, a1, a2, a3, a4, a5, a6, a7, a8, a9, a10] [] h := rP (i := (.goto 300)) rfl rfl
set_option maxRecDepth 8000 in
theorem e81_78 (d : Nat) (a0 a1 a2 a3 a4 a6 a7 a8 a9 a10 : Option Value) (h : MH) (x : Int32) : rn d 81 78 [a0, a1, a2, a3, a4, some (.int x), a6, a7, a8, a9, a10] [] h = rn d 81 80 [a0, a1, a2, a3, a4, some (.int x), a6, a7, a8, a9, a10] [.int x] h := rP (i := (.iload 5)) rfl rfl
set_option maxRecDepth 8000 in
theorem e81_80 (d : Nat) (a0 a1 a2 a3 a4 a5 a6 a7 a8 a9 a10 : Option Value) (s0 : Int32) (h : MH)  : rn (d + 1) 81 80 [a0, a1, a2, a3, a4, a5, a6, a7, a8, a9, a10] [.int s0] h = (rn d 68 0 [some (.int s0)] [] h).bind (fun R => rn (d + 1) 81 83 [a0, a1, a2, a3, a4, a5, a6, a7, a8, a9, a10] (R.1.toList ++ []) R.2) := rInv (i := (.invokestatic 76)) (n := 1) (tl := [457, 458, 58]) rfl rfl rfl rfl (by decide) (Nat.le_of_ble_eq_true rfl) (Nat.le_of_ble_eq_true rfl) (Nat.le_of_ble_eq_true rfl) rfl
set_option maxRecDepth 8000 in
theorem e81_83 (d : Nat) (a0 a1 a2 a3 a4 a5 a6 a7 a8 a9 a10 : Option Value) (s0 : Int32) (h : MH)  : rn d 81 83 [a0, a1, a2, a3, a4, a5, a6, a7, a8, a9, a10] [.int s0] h = if s0 = 0 then rn d 81 101 [a0, a1, a2, a3, a4, a5, a6, a7, a8, a9, a10] [] h else rn d 81 86 [a0, a1, a2, a3, a4, a5, a6, a7, a8, a9, a10] [] h := rEq1 (off := 18) 101 rfl rfl
set_option maxRecDepth 8000 in
theorem e81_86 (d : Nat) (a1 a2 a3 a4 a5 a6 a7 a8 a9 a10 : Option Value) (h : MH) (x : Nat) : rn d 81 86 [some (.ref x), a1, a2, a3, a4, a5, a6, a7, a8, a9, a10] [] h = rn d 81 87 [some (.ref x), a1, a2, a3, a4, a5, a6, a7, a8, a9, a10] [.ref x] h := rP (i := (.aload_n 0)) rfl rfl
set_option maxRecDepth 8000 in
theorem e81_87 (d : Nat) (a0 a1 a2 a3 a4 a5 a6 a7 a8 a9 a10 : Option Value) (s0 : Nat) (h : MH)  : rn d 81 87 [a0, a1, a2, a3, a4, a5, a6, a7, a8, a9, a10] [.ref s0] h = (fgetv h s0 5 13).bind (fun v => rn d 81 90 [a0, a1, a2, a3, a4, a5, a6, a7, a8, a9, a10] [v] h) := rGet (idx := 45) rfl rfl
set_option maxRecDepth 8000 in
theorem e81_90 (d : Nat) (a0 a1 a2 a3 a4 a6 a7 a8 a9 a10 : Option Value) (s0 : Nat) (h : MH) (x : Int32) : rn d 81 90 [a0, a1, a2, a3, a4, some (.int x), a6, a7, a8, a9, a10] [.ref s0] h = rn d 81 92 [a0, a1, a2, a3, a4, some (.int x), a6, a7, a8, a9, a10] [.int x, .ref s0] h := rP (i := (.iload 5)) rfl rfl
set_option maxRecDepth 8000 in
theorem e81_92 (d : Nat) (a0 a1 a2 a3 a4 a5 a6 a7 a8 a9 a10 : Option Value) (s0 : Int32) (s1 : Nat) (h : MH)  : rn d 81 92 [a0, a1, a2, a3, a4, a5, a6, a7, a8, a9, a10] [.int s0, .ref s1] h = rn d 81 94 [a0, a1, a2, a3, a4, a5, a6, a7, a8, a9, a10] [.int 97, .int s0, .ref s1] h := rP (i := (.bipush 97)) rfl rfl
set_option maxRecDepth 8000 in
theorem e81_94 (d : Nat) (a0 a1 a2 a3 a4 a5 a6 a7 a8 a9 a10 : Option Value) (s0 s1 : Int32) (s2 : Nat) (h : MH)  : rn d 81 94 [a0, a1, a2, a3, a4, a5, a6, a7, a8, a9, a10] [.int s0, .int s1, .ref s2] h = rn d 81 95 [a0, a1, a2, a3, a4, a5, a6, a7, a8, a9, a10] [.int (s1 - s0), .ref s2] h := rP (i := (.isub)) rfl rfl
set_option maxRecDepth 8000 in
theorem e81_95 (d : Nat) (a0 a1 a2 a3 a4 a5 a6 a7 a8 a9 a10 : Option Value) (s0 : Int32) (s1 : Nat) (h : MH)  : rn d 81 95 [a0, a1, a2, a3, a4, a5, a6, a7, a8, a9, a10] [.int s0, .ref s1] h = (ageti h 0 s1 s0).bind (fun v => rn d 81 96 [a0, a1, a2, a3, a4, a5, a6, a7, a8, a9, a10] [.int v] h) := rIald rfl
set_option maxRecDepth 8000 in
theorem e81_96 (d : Nat) (a0 a1 a2 a3 a4 a5 a7 a8 a9 a10 : Option Value) (s0 : Int32) (h : MH) (x : Int32) : rn d 81 96 [a0, a1, a2, a3, a4, a5, some (.int x), a7, a8, a9, a10] [.int s0] h = rn d 81 98 [a0, a1, a2, a3, a4, a5, some (.int x), a7, a8, a9, a10] [.int x, .int s0] h := rP (i := (.iload 6)) rfl rfl
set_option maxRecDepth 8000 in
theorem e81_98 (d : Nat) (a0 a1 a2 a3 a4 a5 a6 a7 a8 a9 a10 : Option Value) (s0 s1 : Int32) (h : MH)  : rn d 81 98 [a0, a1, a2, a3, a4, a5, a6, a7, a8, a9, a10] [.int s0, .int s1] h = if s1 = s0 then rn d 81 101 [a0, a1, a2, a3, a4, a5, a6, a7, a8, a9, a10] [] h else rn d 81 115 [a0, a1, a2, a3, a4, a5, a6, a7, a8, a9, a10] [] h := rNe2 (off := 17) 115 rfl rfl
set_option maxRecDepth 8000 in
theorem e81_101 (d : Nat) (a0 a1 a2 a3 a4 a6 a7 a8 a9 a10 : Option Value) (h : MH) (x : Int32) : rn d 81 101 [a0, a1, a2, a3, a4, some (.int x), a6, a7, a8, a9, a10] [] h = rn d 81 103 [a0, a1, a2, a3, a4, some (.int x), a6, a7, a8, a9, a10] [.int x] h := rP (i := (.iload 5)) rfl rfl
set_option maxRecDepth 8000 in
theorem e81_103 (d : Nat) (a0 a1 a2 a3 a4 a5 a6 a7 a8 a9 a10 : Option Value) (s0 : Int32) (h : MH)  : rn (d + 1) 81 103 [a0, a1, a2, a3, a4, a5, a6, a7, a8, a9, a10] [.int s0] h = (rn d 69 0 [some (.int s0)] [] h).bind (fun R => rn (d + 1) 81 106 [a0, a1, a2, a3, a4, a5, a6, a7, a8, a9, a10] (R.1.toList ++ []) R.2) := rInv (i := (.invokestatic 79)) (n := 1) (tl := [460, 461, 58]) rfl rfl rfl rfl (by decide) (Nat.le_of_ble_eq_true rfl) (Nat.le_of_ble_eq_true rfl) (Nat.le_of_ble_eq_true rfl) rfl
set_option maxRecDepth 8000 in
theorem e81_106 (d : Nat) (a0 a1 a2 a3 a4 a5 a6 a7 a8 a9 a10 : Option Value) (s0 : Int32) (h : MH)  : rn d 81 106 [a0, a1, a2, a3, a4, a5, a6, a7, a8, a9, a10] [.int s0] h = if s0 = 0 then rn d 81 117 [a0, a1, a2, a3, a4, a5, a6, a7, a8, a9, a10] [] h else rn d 81 109 [a0, a1, a2, a3, a4, a5, a6, a7, a8, a9, a10] [] h := rEq1 (off := 11) 117 rfl rfl
set_option maxRecDepth 8000 in
theorem e81_109 (d : Nat) (a0 a1 a2 a3 a4 a5 a7 a8 a9 a10 : Option Value) (h : MH) (x : Int32) : rn d 81 109 [a0, a1, a2, a3, a4, a5, some (.int x), a7, a8, a9, a10] [] h = rn d 81 111 [a0, a1, a2, a3, a4, a5, some (.int x), a7, a8, a9, a10] [.int x] h := rP (i := (.iload 6)) rfl rfl
set_option maxRecDepth 8000 in
theorem e81_111 (d : Nat) (a0 a1 a2 a3 a4 a5 a6 a7 a8 a9 a10 : Option Value) (s0 : Int32) (h : MH)  : rn d 81 111 [a0, a1, a2, a3, a4, a5, a6, a7, a8, a9, a10] [.int s0] h = rn d 81 112 [a0, a1, a2, a3, a4, a5, a6, a7, a8, a9, a10] [.int (-1), .int s0] h := rP (i := (.iconst (-1))) rfl rfl
set_option maxRecDepth 8000 in
theorem e81_112 (d : Nat) (a0 a1 a2 a3 a4 a5 a6 a7 a8 a9 a10 : Option Value) (s0 s1 : Int32) (h : MH)  : rn d 81 112 [a0, a1, a2, a3, a4, a5, a6, a7, a8, a9, a10] [.int s0, .int s1] h = if s1 = s0 then rn d 81 117 [a0, a1, a2, a3, a4, a5, a6, a7, a8, a9, a10] [] h else rn d 81 115 [a0, a1, a2, a3, a4, a5, a6, a7, a8, a9, a10] [] h := rEq2 (off := 5) 117 rfl rfl
set_option maxRecDepth 8000 in
theorem e81_115 (d : Nat) (a0 a1 a2 a3 a4 a5 a6 a7 a8 a9 a10 : Option Value) (h : MH)  : rn d 81 115 [a0, a1, a2, a3, a4, a5, a6, a7, a8, a9, a10] [] h = rn d 81 116 [a0, a1, a2, a3, a4, a5, a6, a7, a8, a9, a10] [.int 0] h := rP (i := (.iconst 0)) rfl rfl
set_option maxRecDepth 8000 in
theorem e81_116 (d : Nat) (a0 a1 a2 a3 a4 a5 a6 a7 a8 a9 a10 : Option Value) (s0 : Int32) (h : MH)  : rn d 81 116 [a0, a1, a2, a3, a4, a5, a6, a7, a8, a9, a10] [.int s0] h = rn d 81 117 [a0, a1, some (.int s0), a3, a4, a5, a6, a7, a8, a9, a10] [] h := rP (i := (.istore_n 2)) rfl rfl
set_option maxRecDepth 8000 in
theorem e81_117 (d : Nat) (a0 a1 a2 a3 a4 a6 a7 a8 a9 a10 : Option Value) (h : MH) (x : Int32) : rn d 81 117 [a0, a1, a2, a3, a4, some (.int x), a6, a7, a8, a9, a10] [] h = rn d 81 119 [a0, a1, a2, a3, a4, some (.int x), a6, a7, a8, a9, a10] [.int x] h := rP (i := (.iload 5)) rfl rfl
set_option maxRecDepth 8000 in
theorem e81_119 (d : Nat) (a0 a1 a2 a3 a4 a5 a6 a7 a8 a9 a10 : Option Value) (s0 : Int32) (h : MH)  : rn (d + 1) 81 119 [a0, a1, a2, a3, a4, a5, a6, a7, a8, a9, a10] [.int s0] h = (rn d 70 0 [some (.int s0)] [] h).bind (fun R => rn (d + 1) 81 122 [a0, a1, a2, a3, a4, a5, a6, a7, a8, a9, a10] (R.1.toList ++ []) R.2) := rInv (i := (.invokestatic 82)) (n := 1) (tl := [463, 464, 58]) rfl rfl rfl rfl (by decide) (Nat.le_of_ble_eq_true rfl) (Nat.le_of_ble_eq_true rfl) (Nat.le_of_ble_eq_true rfl) rfl
set_option maxRecDepth 8000 in
theorem e81_122 (d : Nat) (a0 a1 a2 a3 a4 a5 a6 a7 a8 a9 a10 : Option Value) (s0 : Int32) (h : MH)  : rn d 81 122 [a0, a1, a2, a3, a4, a5, a6, a7, a8, a9, a10] [.int s0] h = if s0 = 0 then rn d 81 125 [a0, a1, a2, a3, a4, a5, a6, a7, a8, a9, a10] [] h else rn d 81 132 [a0, a1, a2, a3, a4, a5, a6, a7, a8, a9, a10] [] h := rNe1 (off := 10) 132 rfl rfl
set_option maxRecDepth 8000 in
theorem e81_125 (d : Nat) (a0 a1 a2 a3 a4 a6 a7 a8 a9 a10 : Option Value) (h : MH) (x : Int32) : rn d 81 125 [a0, a1, a2, a3, a4, some (.int x), a6, a7, a8, a9, a10] [] h = rn d 81 127 [a0, a1, a2, a3, a4, some (.int x), a6, a7, a8, a9, a10] [.int x] h := rP (i := (.iload 5)) rfl rfl
set_option maxRecDepth 8000 in
theorem e81_127 (d : Nat) (a0 a1 a2 a3 a4 a5 a6 a7 a8 a9 a10 : Option Value) (s0 : Int32) (h : MH)  : rn d 81 127 [a0, a1, a2, a3, a4, a5, a6, a7, a8, a9, a10] [.int s0] h = rn d 81 129 [a0, a1, a2, a3, a4, a5, a6, a7, a8, a9, a10] [.int 70, .int s0] h := rP (i := (.bipush 70)) rfl rfl
set_option maxRecDepth 8000 in
theorem e81_129 (d : Nat) (a0 a1 a2 a3 a4 a5 a6 a7 a8 a9 a10 : Option Value) (s0 s1 : Int32) (h : MH)  : rn d 81 129 [a0, a1, a2, a3, a4, a5, a6, a7, a8, a9, a10] [.int s0, .int s1] h = if s1 = s0 then rn d 81 132 [a0, a1, a2, a3, a4, a5, a6, a7, a8, a9, a10] [] h else rn d 81 136 [a0, a1, a2, a3, a4, a5, a6, a7, a8, a9, a10] [] h := rNe2 (off := 7) 136 rfl rfl
set_option maxRecDepth 8000 in
theorem e81_132 (d : Nat) (a0 a1 a2 a3 a4 a5 a6 a7 a8 a9 a10 : Option Value) (h : MH)  : rn d 81 132 [a0, a1, a2, a3, a4, a5, a6, a7, a8, a9, a10] [] h = rn d 81 133 [a0, a1, a2, a3, a4, a5, a6, a7, a8, a9, a10] [.int 2] h := rP (i := (.iconst 2)) rfl rfl
set_option maxRecDepth 8000 in
theorem e81_133 (d : Nat) (a0 a1 a2 a3 a4 a5 a6 a7 a8 a9 a10 : Option Value) (s0 : Int32) (h : MH)  : rn d 81 133 [a0, a1, a2, a3, a4, a5, a6, a7, a8, a9, a10] [.int s0] h = rn d 81 180 [a0, a1, a2, a3, a4, a5, a6, a7, a8, a9, a10] [.int s0] h := rP (i := (.goto 47)) rfl rfl
set_option maxRecDepth 8000 in
theorem e81_136 (d : Nat) (a0 a1 a2 a3 a4 a6 a7 a8 a9 a10 : Option Value) (h : MH) (x : Int32) : rn d 81 136 [a0, a1, a2, a3, a4, some (.int x), a6, a7, a8, a9, a10] [] h = rn d 81 138 [a0, a1, a2, a3, a4, some (.int x), a6, a7, a8, a9, a10] [.int x] h := rP (i := (.iload 5)) rfl rfl
set_option maxRecDepth 8000 in
theorem e81_138 (d : Nat) (a0 a1 a2 a3 a4 a5 a6 a7 a8 a9 a10 : Option Value) (s0 : Int32) (h : MH)  : rn d 81 138 [a0, a1, a2, a3, a4, a5, a6, a7, a8, a9, a10] [.int s0] h = rn d 81 140 [a0, a1, a2, a3, a4, a5, a6, a7, a8, a9, a10] [.int 63, .int s0] h := rP (i := (.bipush 63)) rfl rfl
set_option maxRecDepth 8000 in
theorem e81_140 (d : Nat) (a0 a1 a2 a3 a4 a5 a6 a7 a8 a9 a10 : Option Value) (s0 s1 : Int32) (h : MH)  : rn d 81 140 [a0, a1, a2, a3, a4, a5, a6, a7, a8, a9, a10] [.int s0, .int s1] h = if s1 = s0 then rn d 81 143 [a0, a1, a2, a3, a4, a5, a6, a7, a8, a9, a10] [] h else rn d 81 147 [a0, a1, a2, a3, a4, a5, a6, a7, a8, a9, a10] [] h := rNe2 (off := 7) 147 rfl rfl
set_option maxRecDepth 8000 in
theorem e81_143 (d : Nat) (a0 a1 a2 a3 a4 a5 a6 a7 a8 a9 a10 : Option Value) (h : MH)  : rn d 81 143 [a0, a1, a2, a3, a4, a5, a6, a7, a8, a9, a10] [] h = rn d 81 144 [a0, a1, a2, a3, a4, a5, a6, a7, a8, a9, a10] [.int 3] h := rP (i := (.iconst 3)) rfl rfl
set_option maxRecDepth 8000 in
theorem e81_144 (d : Nat) (a0 a1 a2 a3 a4 a5 a6 a7 a8 a9 a10 : Option Value) (s0 : Int32) (h : MH)  : rn d 81 144 [a0, a1, a2, a3, a4, a5, a6, a7, a8, a9, a10] [.int s0] h = rn d 81 180 [a0, a1, a2, a3, a4, a5, a6, a7, a8, a9, a10] [.int s0] h := rP (i := (.goto 36)) rfl rfl
set_option maxRecDepth 8000 in
theorem e81_147 (d : Nat) (a0 a1 a2 a3 a4 a6 a7 a8 a9 a10 : Option Value) (h : MH) (x : Int32) : rn d 81 147 [a0, a1, a2, a3, a4, some (.int x), a6, a7, a8, a9, a10] [] h = rn d 81 149 [a0, a1, a2, a3, a4, some (.int x), a6, a7, a8, a9, a10] [.int x] h := rP (i := (.iload 5)) rfl rfl
set_option maxRecDepth 8000 in
theorem e81_149 (d : Nat) (a0 a1 a2 a3 a4 a5 a6 a7 a8 a9 a10 : Option Value) (s0 : Int32) (h : MH)  : rn d 81 149 [a0, a1, a2, a3, a4, a5, a6, a7, a8, a9, a10] [.int s0] h = rn d 81 151 [a0, a1, a2, a3, a4, a5, a6, a7, a8, a9, a10] [.int 33, .int s0] h := rP (i := (.bipush 33)) rfl rfl
set_option maxRecDepth 8000 in
theorem e81_151 (d : Nat) (a0 a1 a2 a3 a4 a5 a6 a7 a8 a9 a10 : Option Value) (s0 s1 : Int32) (h : MH)  : rn d 81 151 [a0, a1, a2, a3, a4, a5, a6, a7, a8, a9, a10] [.int s0, .int s1] h = if s1 = s0 then rn d 81 175 [a0, a1, a2, a3, a4, a5, a6, a7, a8, a9, a10] [] h else rn d 81 154 [a0, a1, a2, a3, a4, a5, a6, a7, a8, a9, a10] [] h := rEq2 (off := 24) 175 rfl rfl
set_option maxRecDepth 8000 in
theorem e81_154 (d : Nat) (a0 a1 a2 a3 a4 a6 a7 a8 a9 a10 : Option Value) (h : MH) (x : Int32) : rn d 81 154 [a0, a1, a2, a3, a4, some (.int x), a6, a7, a8, a9, a10] [] h = rn d 81 156 [a0, a1, a2, a3, a4, some (.int x), a6, a7, a8, a9, a10] [.int x] h := rP (i := (.iload 5)) rfl rfl
set_option maxRecDepth 8000 in
theorem e81_156 (d : Nat) (a0 a1 a2 a3 a4 a5 a6 a7 a8 a9 a10 : Option Value) (s0 : Int32) (h : MH)  : rn d 81 156 [a0, a1, a2, a3, a4, a5, a6, a7, a8, a9, a10] [.int s0] h = rn d 81 158 [a0, a1, a2, a3, a4, a5, a6, a7, a8, a9, a10] [.int 80, .int s0] h := rP (i := (.bipush 80)) rfl rfl
set_option maxRecDepth 8000 in
theorem e81_158 (d : Nat) (a0 a1 a2 a3 a4 a5 a6 a7 a8 a9 a10 : Option Value) (s0 s1 : Int32) (h : MH)  : rn d 81 158 [a0, a1, a2, a3, a4, a5, a6, a7, a8, a9, a10] [.int s0, .int s1] h = if s1 = s0 then rn d 81 175 [a0, a1, a2, a3, a4, a5, a6, a7, a8, a9, a10] [] h else rn d 81 161 [a0, a1, a2, a3, a4, a5, a6, a7, a8, a9, a10] [] h := rEq2 (off := 17) 175 rfl rfl
set_option maxRecDepth 8000 in
theorem e81_161 (d : Nat) (a0 a1 a2 a3 a4 a6 a7 a8 a9 a10 : Option Value) (h : MH) (x : Int32) : rn d 81 161 [a0, a1, a2, a3, a4, some (.int x), a6, a7, a8, a9, a10] [] h = rn d 81 163 [a0, a1, a2, a3, a4, some (.int x), a6, a7, a8, a9, a10] [.int x] h := rP (i := (.iload 5)) rfl rfl
set_option maxRecDepth 8000 in
theorem e81_163 (d : Nat) (a0 a1 a2 a3 a4 a5 a6 a7 a8 a9 a10 : Option Value) (s0 : Int32) (h : MH)  : rn d 81 163 [a0, a1, a2, a3, a4, a5, a6, a7, a8, a9, a10] [.int s0] h = rn d 81 165 [a0, a1, a2, a3, a4, a5, a6, a7, a8, a9, a10] [.int 87, .int s0] h := rP (i := (.bipush 87)) rfl rfl
set_option maxRecDepth 8000 in
theorem e81_165 (d : Nat) (a0 a1 a2 a3 a4 a5 a6 a7 a8 a9 a10 : Option Value) (s0 s1 : Int32) (h : MH)  : rn d 81 165 [a0, a1, a2, a3, a4, a5, a6, a7, a8, a9, a10] [.int s0, .int s1] h = if s1 = s0 then rn d 81 175 [a0, a1, a2, a3, a4, a5, a6, a7, a8, a9, a10] [] h else rn d 81 168 [a0, a1, a2, a3, a4, a5, a6, a7, a8, a9, a10] [] h := rEq2 (off := 10) 175 rfl rfl
set_option maxRecDepth 8000 in
theorem e81_168 (d : Nat) (a0 a1 a2 a3 a4 a6 a7 a8 a9 a10 : Option Value) (h : MH) (x : Int32) : rn d 81 168 [a0, a1, a2, a3, a4, some (.int x), a6, a7, a8, a9, a10] [] h = rn d 81 170 [a0, a1, a2, a3, a4, some (.int x), a6, a7, a8, a9, a10] [.int x] h := rP (i := (.iload 5)) rfl rfl
set_option maxRecDepth 8000 in
theorem e81_170 (d : Nat) (a0 a1 a2 a3 a4 a5 a6 a7 a8 a9 a10 : Option Value) (s0 : Int32) (h : MH)  : rn d 81 170 [a0, a1, a2, a3, a4, a5, a6, a7, a8, a9, a10] [.int s0] h = rn d 81 172 [a0, a1, a2, a3, a4, a5, a6, a7, a8, a9, a10] [.int 67, .int s0] h := rP (i := (.bipush 67)) rfl rfl
set_option maxRecDepth 8000 in
theorem e81_172 (d : Nat) (a0 a1 a2 a3 a4 a5 a6 a7 a8 a9 a10 : Option Value) (s0 s1 : Int32) (h : MH)  : rn d 81 172 [a0, a1, a2, a3, a4, a5, a6, a7, a8, a9, a10] [.int s0, .int s1] h = if s1 = s0 then rn d 81 175 [a0, a1, a2, a3, a4, a5, a6, a7, a8, a9, a10] [] h else rn d 81 179 [a0, a1, a2, a3, a4, a5, a6, a7, a8, a9, a10] [] h := rNe2 (off := 7) 179 rfl rfl
set_option maxRecDepth 8000 in
theorem e81_175 (d : Nat) (a0 a1 a2 a3 a4 a5 a6 a7 a8 a9 a10 : Option Value) (h : MH)  : rn d 81 175 [a0, a1, a2, a3, a4, a5, a6, a7, a8, a9, a10] [] h = rn d 81 176 [a0, a1, a2, a3, a4, a5, a6, a7, a8, a9, a10] [.int 1] h := rP (i := (.iconst 1)) rfl rfl
set_option maxRecDepth 8000 in
theorem e81_176 (d : Nat) (a0 a1 a2 a3 a4 a5 a6 a7 a8 a9 a10 : Option Value) (s0 : Int32) (h : MH)  : rn d 81 176 [a0, a1, a2, a3, a4, a5, a6, a7, a8, a9, a10] [.int s0] h = rn d 81 180 [a0, a1, a2, a3, a4, a5, a6, a7, a8, a9, a10] [.int s0] h := rP (i := (.goto 4)) rfl rfl
set_option maxRecDepth 8000 in
theorem e81_179 (d : Nat) (a0 a1 a2 a3 a4 a5 a6 a7 a8 a9 a10 : Option Value) (h : MH)  : rn d 81 179 [a0, a1, a2, a3, a4, a5, a6, a7, a8, a9, a10] [] h = rn d 81 180 [a0, a1, a2, a3, a4, a5, a6, a7, a8, a9, a10] [.int 0] h := rP (i := (.iconst 0)) rfl rfl
set_option maxRecDepth 8000 in
theorem e81_180 (d : Nat) (a0 a1 a2 a3 a4 a5 a6 a7 a8 a9 a10 : Option Value) (s0 : Int32) (h : MH)  : rn d 81 180 [a0, a1, a2, a3, a4, a5, a6, a7, a8, a9, a10] [.int s0] h = rn d 81 182 [a0, a1, a2, a3, a4, a5, a6, some (.int s0), a8, a9, a10] [] h := rP (i := (.istore 7)) rfl rfl
set_option maxRecDepth 8000 in
theorem e81_182 (d : Nat) (a0 a1 a2 a3 a4 a5 a7 a8 a9 a10 : Option Value) (h : MH) (x : Int32) : rn d 81 182 [a0, a1, a2, a3, a4, a5, some (.int x), a7, a8, a9, a10] [] h = rn d 81 184 [a0, a1, a2, a3, a4, a5, some (.int x), a7, a8, a9, a10] [.int x] h := rP (i := (.iload 6)) rfl rfl
set_option maxRecDepth 8000 in
theorem e81_184 (d : Nat) (a0 a1 a2 a3 a4 a5 a6 a7 a8 a9 a10 : Option Value) (s0 : Int32) (h : MH)  : rn d 81 184 [a0, a1, a2, a3, a4, a5, a6, a7, a8, a9, a10] [.int s0] h = rn d 81 186 [a0, a1, a2, a3, a4, a5, a6, a7, some (.int s0), a9, a10] [] h := rP (i := (.istore 8)) rfl rfl
set_option maxRecDepth 8000 in
theorem e81_186 (d : Nat) (a0 a1 a2 a3 a4 a6 a7 a8 a9 a10 : Option Value) (h : MH) (x : Int32) : rn d 81 186 [a0, a1, a2, a3, a4, some (.int x), a6, a7, a8, a9, a10] [] h = rn d 81 188 [a0, a1, a2, a3, a4, some (.int x), a6, a7, a8, a9, a10] [.int x] h := rP (i := (.iload 5)) rfl rfl
set_option maxRecDepth 8000 in
theorem e81_188 (d : Nat) (a0 a1 a2 a3 a4 a5 a6 a7 a8 a9 a10 : Option Value) (s0 : Int32) (h : MH)  : rn d 81 188 [a0, a1, a2, a3, a4, a5, a6, a7, a8, a9, a10] [.int s0] h = rn d 81 190 [a0, a1, a2, a3, a4, a5, a6, a7, a8, a9, a10] [.int 87, .int s0] h := rP (i := (.bipush 87)) rfl rfl
set_option maxRecDepth 8000 in
theorem e81_190 (d : Nat) (a0 a1 a2 a3 a4 a5 a6 a7 a8 a9 a10 : Option Value) (s0 s1 : Int32) (h : MH)  : rn d 81 190 [a0, a1, a2, a3, a4, a5, a6, a7, a8, a9, a10] [.int s0, .int s1] h = if s1 = s0 then rn d 81 193 [a0, a1, a2, a3, a4, a5, a6, a7, a8, a9, a10] [] h else rn d 81 219 [a0, a1, a2, a3, a4, a5, a6, a7, a8, a9, a10] [] h := rNe2 (off := 29) 219 rfl rfl
set_option maxRecDepth 8000 in
theorem e81_193 (d : Nat) (a0 a1 a2 a3 a4 a5 a7 a8 a9 a10 : Option Value) (h : MH) (x : Int32) : rn d 81 193 [a0, a1, a2, a3, a4, a5, some (.int x), a7, a8, a9, a10] [] h = rn d 81 195 [a0, a1, a2, a3, a4, a5, some (.int x), a7, a8, a9, a10] [.int x] h := rP (i := (.iload 6)) rfl rfl
set_option maxRecDepth 8000 in
theorem e81_195 (d : Nat) (a1 a2 a3 a4 a5 a6 a7 a8 a9 a10 : Option Value) (s0 : Int32) (h : MH) (x : Nat) : rn d 81 195 [some (.ref x), a1, a2, a3, a4, a5, a6, a7, a8, a9, a10] [.int s0] h = rn d 81 196 [some (.ref x), a1, a2, a3, a4, a5, a6, a7, a8, a9, a10] [.ref x, .int s0] h := rP (i := (.aload_n 0)) rfl rfl
set_option maxRecDepth 8000 in
theorem e81_196 (d : Nat) (a0 a2 a3 a4 a5 a6 a7 a8 a9 a10 : Option Value) (s1 : Int32) (s0 : Nat) (h : MH) (x : Int32) : rn d 81 196 [a0, some (.int x), a2, a3, a4, a5, a6, a7, a8, a9, a10] [.ref s0, .int s1] h = rn d 81 197 [a0, some (.int x), a2, a3, a4, a5, a6, a7, a8, a9, a10] [.int x, .ref s0, .int s1] h := rP (i := (.iload_n 1)) rfl rfl
set_option maxRecDepth 8000 in
theorem e81_197 (d : Nat) (a0 a1 a2 a4 a5 a6 a7 a8 a9 a10 : Option Value) (s0 s2 : Int32) (s1 : Nat) (h : MH) (x : Int32) : rn d 81 197 [a0, a1, a2, some (.int x), a4, a5, a6, a7, a8, a9, a10] [.int s0, .ref s1, .int s2] h = rn d 81 198 [a0, a1, a2, some (.int x), a4, a5, a6, a7, a8, a9, a10] [.int x, .int s0, .ref s1, .int s2] h := rP (i := (.iload_n 3)) rfl rfl
set_option maxRecDepth 8000 in
theorem e81_198 (d : Nat) (a0 a1 a2 a3 a4 a5 a6 a7 a8 a9 a10 : Option Value) (s0 s1 s3 : Int32) (s2 : Nat) (h : MH) (hz : clsOf h s2 = some 5) : rn (d + 1) 81 198 [a0, a1, a2, a3, a4, a5, a6, a7, a8, a9, a10] [.int s0, .int s1, .ref s2, .int s3] h = (rn d 82 0 [some (.ref s2), some (.int s1), some (.int s0), none] [] h).bind (fun R => rn (d + 1) 81 201 [a0, a1, a2, a3, a4, a5, a6, a7, a8, a9, a10] (R.1.toList ++ [.int s3]) R.2) := rInv (i := (.invokevirtual 107)) (n := 3) (tl := [506, 507, 42, 58]) rfl rfl rfl rfl (by decide) (Nat.le_of_ble_eq_true rfl) (Nat.le_of_ble_eq_true rfl) (Nat.le_of_ble_eq_true rfl) (rcv_V hz)
set_option maxRecDepth 8000 in
theorem e81_201 (d : Nat) (a0 a1 a2 a3 a4 a5 a6 a7 a8 a9 a10 : Option Value) (s0 s1 : Int32) (h : MH)  : rn d 81 201 [a0, a1, a2, a3, a4, a5, a6, a7, a8, a9, a10] [.int s0, .int s1] h = if s1 = s0 then rn d 81 206 [a0, a1, a2, a3, a4, a5, a6, a7, a8, a9, a10] [] h else rn d 81 204 [a0, a1, a2, a3, a4, a5, a6, a7, a8, a9, a10] [] h := rEq2 (off := 5) 206 rfl rfl
set_option maxRecDepth 8000 in
theorem e81_204 (d : Nat) (a0 a1 a2 a3 a4 a5 a6 a7 a8 a9 a10 : Option Value) (h : MH)  : rn d 81 204 [a0, a1, a2, a3, a4, a5, a6, a7, a8, a9, a10] [] h = rn d 81 205 [a0, a1, a2, a3, a4, a5, a6, a7, a8, a9, a10] [.int 0] h := rP (i := (.iconst 0)) rfl rfl
set_option maxRecDepth 8000 in
theorem e81_205 (d : Nat) (a0 a1 a2 a3 a4 a5 a6 a7 a8 a9 a10 : Option Value) (s0 : Int32) (h : MH)  : rn d 81 205 [a0, a1, a2, a3, a4, a5, a6, a7, a8, a9, a10] [.int s0] h = rn d 81 206 [a0, a1, some (.int s0), a3, a4, a5, a6, a7, a8, a9, a10] [] h := rP (i := (.istore_n 2)) rfl rfl
set_option maxRecDepth 8000 in
theorem e81_206 (d : Nat) (a1 a2 a3 a4 a5 a6 a7 a8 a9 a10 : Option Value) (h : MH) (x : Nat) : rn d 81 206 [some (.ref x), a1, a2, a3, a4, a5, a6, a7, a8, a9, a10] [] h = rn d 81 207 [some (.ref x), a1, a2, a3, a4, a5, a6, a7, a8, a9, a10] [.ref x] h := rP (i := (.aload_n 0)) rfl rfl
set_option maxRecDepth 8000 in
theorem e81_207 (d : Nat) (a0 a1 a2 a3 a4 a5 a6 a7 a8 a9 a10 : Option Value) (s0 : Nat) (h : MH)  : rn d 81 207 [a0, a1, a2, a3, a4, a5, a6, a7, a8, a9, a10] [.ref s0] h = (fgetv h s0 5 13).bind (fun v => rn d 81 210 [a0, a1, a2, a3, a4, a5, a6, a7, a8, a9, a10] [v] h) := rGet (idx := 45) rfl rfl
set_option maxRecDepth 8000 in
theorem e81_210 (d : Nat) (a1 a2 a3 a4 a5 a6 a7 a8 a9 a10 : Option Value) (s0 : Nat) (h : MH) (x : Nat) : rn d 81 210 [some (.ref x), a1, a2, a3, a4, a5, a6, a7, a8, a9, a10] [.ref s0] h = rn d 81 211 [some (.ref x), a1, a2, a3, a4, a5, a6, a7, a8, a9, a10] [.ref x, .ref s0] h := rP (i := (.aload_n 0)) rfl rfl
set_option maxRecDepth 8000 in
theorem e81_211 (d : Nat) (a0 a2 a3 a4 a5 a6 a7 a8 a9 a10 : Option Value) (s0 s1 : Nat) (h : MH) (x : Int32) : rn d 81 211 [a0, some (.int x), a2, a3, a4, a5, a6, a7, a8, a9, a10] [.ref s0, .ref s1] h = rn d 81 212 [a0, some (.int x), a2, a3, a4, a5, a6, a7, a8, a9, a10] [.int x, .ref s0, .ref s1] h := rP (i := (.iload_n 1)) rfl rfl
set_option maxRecDepth 8000 in
theorem e81_212 (d : Nat) (a0 a1 a2 a4 a5 a6 a7 a8 a9 a10 : Option Value) (s0 : Int32) (s1 s2 : Nat) (h : MH) (x : Int32) : rn d 81 212 [a0, a1, a2, some (.int x), a4, a5, a6, a7, a8, a9, a10] [.int s0, .ref s1, .ref s2] h = rn d 81 213 [a0, a1, a2, some (.int x), a4, a5, a6, a7, a8, a9, a10] [.int x, .int s0, .ref s1, .ref s2] h := rP (i := (.iload_n 3)) rfl rfl
set_option maxRecDepth 8000 in
theorem e81_213 (d : Nat) (a0 a1 a2 a3 a4 a5 a6 a7 a8 a9 a10 : Option Value) (s0 s1 : Int32) (s2 s3 : Nat) (h : MH) (hz : clsOf h s2 = some 5) : rn (d + 1) 81 213 [a0, a1, a2, a3, a4, a5, a6, a7, a8, a9, a10] [.int s0, .int s1, .ref s2, .ref s3] h = (rn d 82 0 [some (.ref s2), some (.int s1), some (.int s0), none] [] h).bind (fun R => rn (d + 1) 81 216 [a0, a1, a2, a3, a4, a5, a6, a7, a8, a9, a10] (R.1.toList ++ [.ref s3]) R.2) := rInv (i := (.invokevirtual 107)) (n := 3) (tl := [506, 507, 42, 58]) rfl rfl rfl rfl (by decide) (Nat.le_of_ble_eq_true rfl) (Nat.le_of_ble_eq_true rfl) (Nat.le_of_ble_eq_true rfl) (rcv_V hz)
set_option maxRecDepth 8000 in
theorem e81_216 (d : Nat) (a0 a1 a2 a3 a4 a5 a6 a7 a8 a9 a10 : Option Value) (s0 : Int32) (s1 : Nat) (h : MH)  : rn d 81 216 [a0, a1, a2, a3, a4, a5, a6, a7, a8, a9, a10] [.int s0, .ref s1] h = (ageti h 0 s1 s0).bind (fun v => rn d 81 217 [a0, a1, a2, a3, a4, a5, a6, a7, a8, a9, a10] [.int v] h) := rIald rfl
set_option maxRecDepth 8000 in
theorem e81_217 (d : Nat) (a0 a1 a2 a3 a4 a5 a6 a7 a8 a9 a10 : Option Value) (s0 : Int32) (h : MH)  : rn d 81 217 [a0, a1, a2, a3, a4, a5, a6, a7, a8, a9, a10] [.int s0] h = rn d 81 219 [a0, a1, a2, a3, a4, a5, a6, a7, some (.int s0), a9, a10] [] h := rP (i := (.istore 8)) rfl rfl
set_option maxRecDepth 8000 in
theorem e81_219 (d : Nat) (a0 a1 a2 a3 a4 a6 a7 a8 a9 a10 : Option Value) (h : MH) (x : Int32) : rn d 81 219 [a0, a1, a2, a3, a4, some (.int x), a6, a7, a8, a9, a10] [] h = rn d 81 221 [a0, a1, a2, a3, a4, some (.int x), a6, a7, a8, a9, a10] [.int x] h := rP (i := (.iload 5)) rfl rfl
set_option maxRecDepth 8000 in
theorem e81_221 (d : Nat) (a0 a1 a2 a3 a4 a5 a6 a7 a8 a9 a10 : Option Value) (s0 : Int32) (h : MH)  : rn d 81 221 [a0, a1, a2, a3, a4, a5, a6, a7, a8, a9, a10] [.int s0] h = rn d 81 223 [a0, a1, a2, a3, a4, a5, a6, a7, a8, a9, a10] [.int 67, .int s0] h := rP (i := (.bipush 67)) rfl rfl
set_option maxRecDepth 8000 in
theorem e81_223 (d : Nat) (a0 a1 a2 a3 a4 a5 a6 a7 a8 a9 a10 : Option Value) (s0 s1 : Int32) (h : MH)  : rn d 81 223 [a0, a1, a2, a3, a4, a5, a6, a7, a8, a9, a10] [.int s0, .int s1] h = if s1 = s0 then rn d 81 226 [a0, a1, a2, a3, a4, a5, a6, a7, a8, a9, a10] [] h else rn d 81 252 [a0, a1, a2, a3, a4, a5, a6, a7, a8, a9, a10] [] h := rNe2 (off := 29) 252 rfl rfl
set_option maxRecDepth 8000 in
theorem e81_226 (d : Nat) (a0 a1 a2 a3 a4 a5 a7 a8 a9 a10 : Option Value) (h : MH) (x : Int32) : rn d 81 226 [a0, a1, a2, a3, a4, a5, some (.int x), a7, a8, a9, a10] [] h = rn d 81 228 [a0, a1, a2, a3, a4, a5, some (.int x), a7, a8, a9, a10] [.int x] h := rP (i := (.iload 6)) rfl rfl
set_option maxRecDepth 8000 in
theorem e81_228 (d : Nat) (a1 a2 a3 a4 a5 a6 a7 a8 a9 a10 : Option Value) (s0 : Int32) (h : MH) (x : Nat) : rn d 81 228 [some (.ref x), a1, a2, a3, a4, a5, a6, a7, a8, a9, a10] [.int s0] h = rn d 81 229 [some (.ref x), a1, a2, a3, a4, a5, a6, a7, a8, a9, a10] [.ref x, .int s0] h := rP (i := (.aload_n 0)) rfl rfl
set_option maxRecDepth 8000 in
theorem e81_229 (d : Nat) (a0 a1 a2 a3 a4 a5 a6 a7 a8 a9 a10 : Option Value) (s1 : Int32) (s0 : Nat) (h : MH)  : rn d 81 229 [a0, a1, a2, a3, a4, a5, a6, a7, a8, a9, a10] [.ref s0, .int s1] h = (fgetv h s0 5 13).bind (fun v => rn d 81 232 [a0, a1, a2, a3, a4, a5, a6, a7, a8, a9, a10] [v, .int s1] h) := rGet (idx := 45) rfl rfl
set_option maxRecDepth 8000 in
theorem e81_232 (d : Nat) (a1 a2 a3 a4 a5 a6 a7 a8 a9 a10 : Option Value) (s1 : Int32) (s0 : Nat) (h : MH) (x : Nat) : rn d 81 232 [some (.ref x), a1, a2, a3, a4, a5, a6, a7, a8, a9, a10] [.ref s0, .int s1] h = rn d 81 233 [some (.ref x), a1, a2, a3, a4, a5, a6, a7, a8, a9, a10] [.ref x, .ref s0, .int s1] h := rP (i := (.aload_n 0)) rfl rfl
set_option maxRecDepth 8000 in
theorem e81_233 (d : Nat) (a0 a2 a3 a4 a5 a6 a7 a8 a9 a10 : Option Value) (s2 : Int32) (s0 s1 : Nat) (h : MH) (x : Int32) : rn d 81 233 [a0, some (.int x), a2, a3, a4, a5, a6, a7, a8, a9, a10] [.ref s0, .ref s1, .int s2] h = rn d 81 234 [a0, some (.int x), a2, a3, a4, a5, a6, a7, a8, a9, a10] [.int x, .ref s0, .ref s1, .int s2] h := rP (i := (.iload_n 1)) rfl rfl
set_option maxRecDepth 8000 in
theorem e81_234 (d : Nat) (a0 a1 a2 a4 a5 a6 a7 a8 a9 a10 : Option Value) (s0 s3 : Int32) (s1 s2 : Nat) (h : MH) (x : Int32) : rn d 81 234 [a0, a1, a2, some (.int x), a4, a5, a6, a7, a8, a9, a10] [.int s0, .ref s1, .ref s2, .int s3] h = rn d 81 235 [a0, a1, a2, some (.int x), a4, a5, a6, a7, a8, a9, a10] [.int x, .int s0, .ref s1, .ref s2, .int s3] h := rP (i := (.iload_n 3)) rfl rfl
set_option maxRecDepth 8000 in
theorem e81_235 (d : Nat) (a0 a1 a2 a3 a4 a5 a6 a7 a8 a9 a10 : Option Value) (s0 s1 s4 : Int32) (s2 s3 : Nat) (h : MH) (hz : clsOf h s2 = some 5) : rn (d + 1) 81 235 [a0, a1, a2, a3, a4, a5, a6, a7, a8, a9, a10] [.int s0, .int s1, .ref s2, .ref s3, .int s4] h = (rn d 82 0 [some (.ref s2), some (.int s1), some (.int s0), none] [] h).bind (fun R => rn (d + 1) 81 238 [a0, a1, a2, a3, a4, a5, a6, a7, a8, a9, a10] (R.1.toList ++ [.ref s3, .int s4]) R.2) := rInv (i := (.invokevirtual 107)) (n := 3) (tl := [506, 507, 42, 58]) rfl rfl rfl rfl (by decide) (Nat.le_of_ble_eq_true rfl) (Nat.le_of_ble_eq_true rfl) (Nat.le_of_ble_eq_true rfl) (rcv_V hz)
set_option maxRecDepth 8000 in
theorem e81_238 (d : Nat) (a0 a1 a2 a3 a4 a5 a6 a7 a8 a9 a10 : Option Value) (s0 s2 : Int32) (s1 : Nat) (h : MH)  : rn d 81 238 [a0, a1, a2, a3, a4, a5, a6, a7, a8, a9, a10] [.int s0, .ref s1, .int s2] h = (ageti h 0 s1 s0).bind (fun v => rn d 81 239 [a0, a1, a2, a3, a4, a5, a6, a7, a8, a9, a10] [.int v, .int s2] h) := rIald rfl
set_option maxRecDepth 8000 in
theorem e81_239 (d : Nat) (a0 a1 a2 a3 a4 a5 a6 a7 a8 a9 a10 : Option Value) (s0 s1 : Int32) (h : MH)  : rn d 81 239 [a0, a1, a2, a3, a4, a5, a6, a7, a8, a9, a10] [.int s0, .int s1] h = if s1 = s0 then rn d 81 244 [a0, a1, a2, a3, a4, a5, a6, a7, a8, a9, a10] [] h else rn d 81 242 [a0, a1, a2, a3, a4, a5, a6, a7, a8, a9, a10] [] h := rEq2 (off := 5) 244 rfl rfl
set_option maxRecDepth 8000 in
theorem e81_242 (d : Nat) (a0 a1 a2 a3 a4 a5 a6 a7 a8 a9 a10 : Option Value) (h : MH)  : rn d 81 242 [a0, a1, a2, a3, a4, a5, a6, a7, a8, a9, a10] [] h = rn d 81 243 [a0, a1, a2, a3, a4, a5, a6, a7, a8, a9, a10] [.int 0] h := rP (i := (.iconst 0)) rfl rfl
set_option maxRecDepth 8000 in
theorem e81_243 (d : Nat) (a0 a1 a2 a3 a4 a5 a6 a7 a8 a9 a10 : Option Value) (s0 : Int32) (h : MH)  : rn d 81 243 [a0, a1, a2, a3, a4, a5, a6, a7, a8, a9, a10] [.int s0] h = rn d 81 244 [a0, a1, some (.int s0), a3, a4, a5, a6, a7, a8, a9, a10] [] h := rP (i := (.istore_n 2)) rfl rfl
set_option maxRecDepth 8000 in
theorem e81_244 (d : Nat) (a1 a2 a3 a4 a5 a6 a7 a8 a9 a10 : Option Value) (h : MH) (x : Nat) : rn d 81 244 [some (.ref x), a1, a2, a3, a4, a5, a6, a7, a8, a9, a10] [] h = rn d 81 245 [some (.ref x), a1, a2, a3, a4, a5, a6, a7, a8, a9, a10] [.ref x] h := rP (i := (.aload_n 0)) rfl rfl
set_option maxRecDepth 8000 in
theorem e81_245 (d : Nat) (a0 a2 a3 a4 a5 a6 a7 a8 a9 a10 : Option Value) (s0 : Nat) (h : MH) (x : Int32) : rn d 81 245 [a0, some (.int x), a2, a3, a4, a5, a6, a7, a8, a9, a10] [.ref s0] h = rn d 81 246 [a0, some (.int x), a2, a3, a4, a5, a6, a7, a8, a9, a10] [.int x, .ref s0] h := rP (i := (.iload_n 1)) rfl rfl
set_option maxRecDepth 8000 in
theorem e81_246 (d : Nat) (a0 a1 a2 a4 a5 a6 a7 a8 a9 a10 : Option Value) (s0 : Int32) (s1 : Nat) (h : MH) (x : Int32) : rn d 81 246 [a0, a1, a2, some (.int x), a4, a5, a6, a7, a8, a9, a10] [.int s0, .ref s1] h = rn d 81 247 [a0, a1, a2, some (.int x), a4, a5, a6, a7, a8, a9, a10] [.int x, .int s0, .ref s1] h := rP (i := (.iload_n 3)) rfl rfl
set_option maxRecDepth 8000 in
theorem e81_247 (d : Nat) (a0 a1 a2 a3 a4 a5 a6 a7 a8 a9 a10 : Option Value) (s0 s1 : Int32) (s2 : Nat) (h : MH) (hz : clsOf h s2 = some 5) : rn (d + 1) 81 247 [a0, a1, a2, a3, a4, a5, a6, a7, a8, a9, a10] [.int s0, .int s1, .ref s2] h = (rn d 82 0 [some (.ref s2), some (.int s1), some (.int s0), none] [] h).bind (fun R => rn (d + 1) 81 250 [a0, a1, a2, a3, a4, a5, a6, a7, a8, a9, a10] (R.1.toList ++ []) R.2) := rInv (i := (.invokevirtual 107)) (n := 3) (tl := [506, 507, 42, 58]) rfl rfl rfl rfl (by decide) (Nat.le_of_ble_eq_true rfl) (Nat.le_of_ble_eq_true rfl) (Nat.le_of_ble_eq_true rfl) (rcv_V hz)
set_option maxRecDepth 8000 in
theorem e81_250 (d : Nat) (a0 a1 a2 a3 a4 a5 a6 a7 a8 a9 a10 : Option Value) (s0 : Int32) (h : MH)  : rn d 81 250 [a0, a1, a2, a3, a4, a5, a6, a7, a8, a9, a10] [.int s0] h = rn d 81 252 [a0, a1, a2, a3, a4, a5, a6, a7, some (.int s0), a9, a10] [] h := rP (i := (.istore 8)) rfl rfl
set_option maxRecDepth 8000 in
theorem e81_252 (d : Nat) (a0 a1 a2 a3 a4 a5 a6 a7 a8 a9 a10 : Option Value) (h : MH)  : rn d 81 252 [a0, a1, a2, a3, a4, a5, a6, a7, a8, a9, a10] [] h = rn d 81 253 [a0, a1, a2, a3, a4, a5, a6, a7, a8, a9, a10] [.int 0] h := rP (i := (.iconst 0)) rfl rfl
set_option maxRecDepth 8000 in
theorem e81_253 (d : Nat) (a0 a1 a2 a3 a4 a5 a6 a7 a8 a9 a10 : Option Value) (s0 : Int32) (h : MH)  : rn d 81 253 [a0, a1, a2, a3, a4, a5, a6, a7, a8, a9, a10] [.int s0] h = rn d 81 255 [a0, a1, a2, a3, a4, a5, a6, a7, a8, some (.int s0), a10] [] h := rP (i := (.istore 9)) rfl rfl
set_option maxRecDepth 8000 in
theorem e81_255 (d : Nat) (a0 a1 a2 a3 a4 a5 a6 a7 a8 a10 : Option Value) (h : MH) (x : Int32) : rn d 81 255 [a0, a1, a2, a3, a4, a5, a6, a7, a8, some (.int x), a10] [] h = rn d 81 257 [a0, a1, a2, a3, a4, a5, a6, a7, a8, some (.int x), a10] [.int x] h := rP (i := (.iload 9)) rfl rfl
set_option maxRecDepth 8000 in
theorem e81_257 (d : Nat) (a0 a1 a2 a3 a4 a5 a6 a8 a9 a10 : Option Value) (s0 : Int32) (h : MH) (x : Int32) : rn d 81 257 [a0, a1, a2, a3, a4, a5, a6, some (.int x), a8, a9, a10] [.int s0] h = rn d 81 259 [a0, a1, a2, a3, a4, a5, a6, some (.int x), a8, a9, a10] [.int x, .int s0] h := rP (i := (.iload 7)) rfl rfl
set_option maxRecDepth 8000 in
theorem e81_259 (d : Nat) (a0 a1 a2 a3 a4 a5 a6 a7 a8 a9 a10 : Option Value) (s0 s1 : Int32) (h : MH)  : rn d 81 259 [a0, a1, a2, a3, a4, a5, a6, a7, a8, a9, a10] [.int s0, .int s1] h = if s1 < s0 then rn d 81 262 [a0, a1, a2, a3, a4, a5, a6, a7, a8, a9, a10] [] h else rn d 81 319 [a0, a1, a2, a3, a4, a5, a6, a7, a8, a9, a10] [] h := rGe2 (off := 60) 319 rfl rfl
set_option maxRecDepth 8000 in
theorem e81_262 (d : Nat) (a0 a2 a3 a4 a5 a6 a7 a8 a9 a10 : Option Value) (h : MH) (x : Int32) : rn d 81 262 [a0, some (.int x), a2, a3, a4, a5, a6, a7, a8, a9, a10] [] h = rn d 81 263 [a0, some (.int x), a2, a3, a4, a5, a6, a7, a8, a9, a10] [.int x] h := rP (i := (.iload_n 1)) rfl rfl
set_option maxRecDepth 8000 in
theorem e81_263 (d : Nat) (a0 a1 a2 a3 a4 a5 a6 a7 a8 a9 a10 : Option Value) (s0 : Int32) (h : MH)  : rn d 81 263 [a0, a1, a2, a3, a4, a5, a6, a7, a8, a9, a10] [.int s0] h = rn d 81 265 [a0, a1, a2, a3, a4, a5, a6, a7, a8, a9, a10] [.int 24, .int s0] h := rP (i := (.bipush 24)) rfl rfl
set_option maxRecDepth 8000 in
theorem e81_265 (d : Nat) (a0 a1 a2 a3 a4 a5 a6 a7 a8 a9 a10 : Option Value) (s0 s1 : Int32) (h : MH)  : rn d 81 265 [a0, a1, a2, a3, a4, a5, a6, a7, a8, a9, a10] [.int s0, .int s1] h = rn d 81 266 [a0, a1, a2, a3, a4, a5, a6, a7, a8, a9, a10] [.int (s1 * s0)] h := rP (i := (.imul)) rfl rfl
set_option maxRecDepth 8000 in
theorem e81_266 (d : Nat) (a1 a2 a3 a4 a5 a6 a7 a8 a9 a10 : Option Value) (s0 : Int32) (h : MH) (x : Nat) : rn d 81 266 [some (.ref x), a1, a2, a3, a4, a5, a6, a7, a8, a9, a10] [.int s0] h = rn d 81 267 [some (.ref x), a1, a2, a3, a4, a5, a6, a7, a8, a9, a10] [.ref x, .int s0] h := rP (i := (.aload_n 0)) rfl rfl
set_option maxRecDepth 8000 in
theorem e81_267 (d : Nat) (a0 a2 a3 a4 a5 a6 a7 a8 a9 a10 : Option Value) (s1 : Int32) (s0 : Nat) (h : MH) (x : Int32) : rn d 81 267 [a0, some (.int x), a2, a3, a4, a5, a6, a7, a8, a9, a10] [.ref s0, .int s1] h = rn d 81 268 [a0, some (.int x), a2, a3, a4, a5, a6, a7, a8, a9, a10] [.int x, .ref s0, .int s1] h := rP (i := (.iload_n 1)) rfl rfl
set_option maxRecDepth 8000 in
theorem e81_268 (d : Nat) (a0 a1 a2 a4 a5 a6 a7 a8 a9 a10 : Option Value) (s0 s2 : Int32) (s1 : Nat) (h : MH) (x : Int32) : rn d 81 268 [a0, a1, a2, some (.int x), a4, a5, a6, a7, a8, a9, a10] [.int s0, .ref s1, .int s2] h = rn d 81 269 [a0, a1, a2, some (.int x), a4, a5, a6, a7, a8, a9, a10] [.int x, .int s0, .ref s1, .int s2] h := rP (i := (.iload_n 3)) rfl rfl
set_option maxRecDepth 8000 in
theorem e81_269 (d : Nat) (a0 a1 a2 a3 a4 a5 a6 a7 a8 a10 : Option Value) (s0 s1 s3 : Int32) (s2 : Nat) (h : MH) (x : Int32) : rn d 81 269 [a0, a1, a2, a3, a4, a5, a6, a7, a8, some (.int x), a10] [.int s0, .int s1, .ref s2, .int s3] h = rn d 81 271 [a0, a1, a2, a3, a4, a5, a6, a7, a8, some (.int x), a10] [.int x, .int s0, .int s1, .ref s2, .int s3] h := rP (i := (.iload 9)) rfl rfl
set_option maxRecDepth 8000 in
theorem e81_271 (d : Nat) (a0 a1 a2 a3 a4 a5 a6 a7 a8 a9 a10 : Option Value) (s0 s1 s2 s4 : Int32) (s3 : Nat) (h : MH) (hz : clsOf h s3 = some 5) : rn (d + 1) 81 271 [a0, a1, a2, a3, a4, a5, a6, a7, a8, a9, a10] [.int s0, .int s1, .int s2, .ref s3, .int s4] h = (rn d 83 0 [some (.ref s3), some (.int s2), some (.int s1), some (.int s0), none, none] [] h).bind (fun R => rn (d + 1) 81 274 [a0, a1, a2, a3, a4, a5, a6, a7, a8, a9, a10] (R.1.toList ++ [.int s4]) R.2) := rInv (i := (.invokevirtual 111)) (n := 4) (tl := [509, 510, 43, 58]) rfl rfl rfl rfl (by decide) (Nat.le_of_ble_eq_true rfl) (Nat.le_of_ble_eq_true rfl) (Nat.le_of_ble_eq_true rfl) (rcv_V hz)
set_option maxRecDepth 8000 in
theorem e81_274 (d : Nat) (a0 a1 a2 a3 a4 a5 a6 a7 a8 a9 a10 : Option Value) (s0 s1 : Int32) (h : MH)  : rn d 81 274 [a0, a1, a2, a3, a4, a5, a6, a7, a8, a9, a10] [.int s0, .int s1] h = rn d 81 275 [a0, a1, a2, a3, a4, a5, a6, a7, a8, a9, a10] [.int (s1 + s0)] h := rP (i := (.iadd)) rfl rfl
set_option maxRecDepth 8000 in
theorem e81_275 (d : Nat) (a0 a1 a2 a3 a4 a5 a6 a7 a8 a9 a10 : Option Value) (s0 : Int32) (h : MH)  : rn d 81 275 [a0, a1, a2, a3, a4, a5, a6, a7, a8, a9, a10] [.int s0] h = rn d 81 277 [a0, a1, a2, a3, a4, a5, a6, a7, a8, a9, some (.int s0)] [] h := rP (i := (.istore 10)) rfl rfl
set_option maxRecDepth 8000 in
theorem e81_277 (d : Nat) (a1 a2 a3 a4 a5 a6 a7 a8 a9 a10 : Option Value) (h : MH) (x : Nat) : rn d 81 277 [some (.ref x), a1, a2, a3, a4, a5, a6, a7, a8, a9, a10] [] h = rn d 81 278 [some (.ref x), a1, a2, a3, a4, a5, a6, a7, a8, a9, a10] [.ref x] h := rP (i := (.aload_n 0)) rfl rfl
set_option maxRecDepth 8000 in
theorem e81_278 (d : Nat) (a0 a1 a2 a3 a4 a5 a6 a7 a8 a9 a10 : Option Value) (s0 : Nat) (h : MH)  : rn d 81 278 [a0, a1, a2, a3, a4, a5, a6, a7, a8, a9, a10] [.ref s0] h = (fgetv h s0 5 7).bind (fun v => rn d 81 281 [a0, a1, a2, a3, a4, a5, a6, a7, a8, a9, a10] [v] h) := rGet (idx := 26) rfl rfl
set_option maxRecDepth 8000 in
theorem e81_281 (d : Nat) (a0 a1 a2 a3 a4 a5 a6 a7 a8 a9 : Option Value) (s0 : Nat) (h : MH) (x : Int32) : rn d 81 281 [a0, a1, a2, a3, a4, a5, a6, a7, a8, a9, some (.int x)] [.ref s0] h = rn d 81 283 [a0, a1, a2, a3, a4, a5, a6, a7, a8, a9, some (.int x)] [.int x, .ref s0] h := rP (i := (.iload 10)) rfl rfl
set_option maxRecDepth 8000 in
theorem e81_283 (d : Nat) (a0 a1 a2 a3 a4 a5 a6 a7 a9 a10 : Option Value) (s0 : Int32) (s1 : Nat) (h : MH) (x : Int32) : rn d 81 283 [a0, a1, a2, a3, a4, a5, a6, a7, some (.int x), a9, a10] [.int s0, .ref s1] h = rn d 81 285 [a0, a1, a2, a3, a4, a5, a6, a7, some (.int x), a9, a10] [.int x, .int s0, .ref s1] h := rP (i := (.iload 8)) rfl rfl
set_option maxRecDepth 8000 in
theorem e81_285 (d : Nat) (a0 a1 a2 a3 a4 a5 a6 a7 a8 a9 a10 : Option Value) (s0 s1 : Int32) (s2 : Nat) (h : MH)  : rn d 81 285 [a0, a1, a2, a3, a4, a5, a6, a7, a8, a9, a10] [.int s0, .int s1, .ref s2] h = (aputi h 0 s2 s1 s0).bind (fun h => rn d 81 286 [a0, a1, a2, a3, a4, a5, a6, a7, a8, a9, a10] [] h) := rIast rfl
set_option maxRecDepth 8000 in
theorem e81_286 (d : Nat) (a1 a2 a3 a4 a5 a6 a7 a8 a9 a10 : Option Value) (h : MH) (x : Nat) : rn d 81 286 [some (.ref x), a1, a2, a3, a4, a5, a6, a7, a8, a9, a10] [] h = rn d 81 287 [some (.ref x), a1, a2, a3, a4, a5, a6, a7, a8, a9, a10] [.ref x] h := rP (i := (.aload_n 0)) rfl rfl
set_option maxRecDepth 8000 in
theorem e81_287 (d : Nat) (a0 a1 a2 a3 a4 a5 a6 a7 a8 a9 a10 : Option Value) (s0 : Nat) (h : MH)  : rn d 81 287 [a0, a1, a2, a3, a4, a5, a6, a7, a8, a9, a10] [.ref s0] h = (fgetv h s0 5 8).bind (fun v => rn d 81 290 [a0, a1, a2, a3, a4, a5, a6, a7, a8, a9, a10] [v] h) := rGet (idx := 29) rfl rfl
set_option maxRecDepth 8000 in
theorem e81_290 (d : Nat) (a0 a1 a2 a3 a4 a5 a6 a7 a8 a9 : Option Value) (s0 : Nat) (h : MH) (x : Int32) : rn d 81 290 [a0, a1, a2, a3, a4, a5, a6, a7, a8, a9, some (.int x)] [.ref s0] h = rn d 81 292 [a0, a1, a2, a3, a4, a5, a6, a7, a8, a9, some (.int x)] [.int x, .ref s0] h := rP (i := (.iload 10)) rfl rfl
set_option maxRecDepth 8000 in
theorem e81_292 (d : Nat) (a1 a2 a3 a4 a5 a6 a7 a8 a9 a10 : Option Value) (s0 : Int32) (s1 : Nat) (h : MH) (x : Nat) : rn d 81 292 [some (.ref x), a1, a2, a3, a4, a5, a6, a7, a8, a9, a10] [.int s0, .ref s1] h = rn d 81 293 [some (.ref x), a1, a2, a3, a4, a5, a6, a7, a8, a9, a10] [.ref x, .int s0, .ref s1] h := rP (i := (.aload_n 0)) rfl rfl
set_option maxRecDepth 8000 in
theorem e81_293 (d : Nat) (a0 a1 a2 a3 a4 a5 a6 a7 a8 a9 a10 : Option Value) (s1 : Int32) (s0 s2 : Nat) (h : MH)  : rn d 81 293 [a0, a1, a2, a3, a4, a5, a6, a7, a8, a9, a10] [.ref s0, .int s1, .ref s2] h = (fgetv h s0 5 8).bind (fun v => rn d 81 296 [a0, a1, a2, a3, a4, a5, a6, a7, a8, a9, a10] [v, .int s1, .ref s2] h) := rGet (idx := 29) rfl rfl
set_option maxRecDepth 8000 in
theorem e81_296 (d : Nat) (a0 a1 a2 a3 a5 a6 a7 a8 a9 a10 : Option Value) (s1 : Int32) (s0 s2 : Nat) (h : MH) (x : Int32) : rn d 81 296 [a0, a1, a2, a3, some (.int x), a5, a6, a7, a8, a9, a10] [.ref s0, .int s1, .ref s2] h = rn d 81 298 [a0, a1, a2, a3, some (.int x), a5, a6, a7, a8, a9, a10] [.int x, .ref s0, .int s1, .ref s2] h := rP (i := (.iload 4)) rfl rfl
set_option maxRecDepth 8000 in
theorem e81_298 (d : Nat) (a0 a1 a2 a3 a4 a5 a6 a7 a8 a9 a10 : Option Value) (s0 s2 : Int32) (s1 s3 : Nat) (h : MH)  : rn d 81 298 [a0, a1, a2, a3, a4, a5, a6, a7, a8, a9, a10] [.int s0, .ref s1, .int s2, .ref s3] h = (ageti h 0 s1 s0).bind (fun v => rn d 81 299 [a0, a1, a2, a3, a4, a5, a6, a7, a8, a9, a10] [.int v, .int s2, .ref s3] h) := rIald rfl
set_option maxRecDepth 8000 in
theorem e81_299 (d : Nat) (a0 a1 a2 a3 a4 a6 a7 a8 a9 a10 : Option Value) (s0 s1 : Int32) (s2 : Nat) (h : MH) (x : Int32) : rn d 81 299 [a0, a1, a2, a3, a4, some (.int x), a6, a7, a8, a9, a10] [.int s0, .int s1, .ref s2] h = rn d 81 301 [a0, a1, a2, a3, a4, some (.int x), a6, a7, a8, a9, a10] [.int x, .int s0, .int s1, .ref s2] h := rP (i := (.iload 5)) rfl rfl
set_option maxRecDepth 8000 in
theorem e81_301 (d : Nat) (a0 a1 a2 a3 a4 a5 a6 a7 a8 a9 a10 : Option Value) (s0 s1 s2 : Int32) (s3 : Nat) (h : MH)  : rn d 81 301 [a0, a1, a2, a3, a4, a5, a6, a7, a8, a9, a10] [.int s0, .int s1, .int s2, .ref s3] h = rn d 81 303 [a0, a1, a2, a3, a4, a5, a6, a7, a8, a9, a10] [.int 80, .int s0, .int s1, .int s2, .ref s3] h := rP (i := (.bipush 80)) rfl rfl
set_option maxRecDepth 8000 in
theorem e81_303 (d : Nat) (a0 a1 a2 a3 a4 a5 a6 a7 a8 a9 a10 : Option Value) (s0 s1 s2 s3 : Int32) (s4 : Nat) (h : MH)  : rn d 81 303 [a0, a1, a2, a3, a4, a5, a6, a7, a8, a9, a10] [.int s0, .int s1, .int s2, .int s3, .ref s4] h = if s1 = s0 then rn d 81 306 [a0, a1, a2, a3, a4, a5, a6, a7, a8, a9, a10] [.int s2, .int s3, .ref s4] h else rn d 81 310 [a0, a1, a2, a3, a4, a5, a6, a7, a8, a9, a10] [.int s2, .int s3, .ref s4] h := rNe2 (off := 7) 310 rfl rfl
set_option maxRecDepth 8000 in
theorem e81_306 (d : Nat) (a0 a1 a2 a3 a4 a5 a6 a7 a8 a9 a10 : Option Value) (s0 s1 : Int32) (s2 : Nat) (h : MH)  : rn d 81 306 [a0, a1, a2, a3, a4, a5, a6, a7, a8, a9, a10] [.int s0, .int s1, .ref s2] h = rn d 81 307 [a0, a1, a2, a3, a4, a5, a6, a7, a8, a9, a10] [.int 1, .int s0, .int s1, .ref s2] h := rP (i := (.iconst 1)) rfl rfl
set_option maxRecDepth 8000 in
theorem e81_307 (d : Nat) (a0 a1 a2 a3 a4 a5 a6 a7 a8 a9 a10 : Option Value) (s0 s1 s2 : Int32) (s3 : Nat) (h : MH)  : rn d 81 307 [a0, a1, a2, a3, a4, a5, a6, a7, a8, a9, a10] [.int s0, .int s1, .int s2, .ref s3] h = rn d 81 311 [a0, a1, a2, a3, a4, a5, a6, a7, a8, a9, a10] [.int s0, .int s1, .int s2, .ref s3] h := rP (i := (.goto 4)) rfl rfl
set_option maxRecDepth 8000 in
theorem e81_310 (d : Nat) (a0 a1 a2 a3 a4 a5 a6 a7 a8 a9 a10 : Option Value) (s0 s1 : Int32) (s2 : Nat) (h : MH)  : rn d 81 310 [a0, a1, a2, a3, a4, a5, a6, a7, a8, a9, a10] [.int s0, .int s1, .ref s2] h = rn d 81 311 [a0, a1, a2, a3, a4, a5, a6, a7, a8, a9, a10] [.int 0, .int s0, .int s1, .ref s2] h := rP (i := (.iconst 0)) rfl rfl
set_option maxRecDepth 8000 in
theorem e81_311 (d : Nat) (a0 a1 a2 a3 a4 a5 a6 a7 a8 a9 a10 : Option Value) (s0 s1 s2 : Int32) (s3 : Nat) (h : MH)  : rn d 81 311 [a0, a1, a2, a3, a4, a5, a6, a7, a8, a9, a10] [.int s0, .int s1, .int s2, .ref s3] h = rn d 81 312 [a0, a1, a2, a3, a4, a5, a6, a7, a8, a9, a10] [.int (s1 + s0), .int s2, .ref s3] h := rP (i := (.iadd)) rfl rfl
set_option maxRecDepth 8000 in
theorem e81_312 (d : Nat) (a0 a1 a2 a3 a4 a5 a6 a7 a8 a9 a10 : Option Value) (s0 s1 : Int32) (s2 : Nat) (h : MH)  : rn d 81 312 [a0, a1, a2, a3, a4, a5, a6, a7, a8, a9, a10] [.int s0, .int s1, .ref s2] h = (aputi h 0 s2 s1 s0).bind (fun h => rn d 81 313 [a0, a1, a2, a3, a4, a5, a6, a7, a8, a9, a10] [] h) := rIast rfl
set_option maxRecDepth 8000 in
theorem e81_313 (d : Nat) (a0 a1 a2 a3 a4 a5 a6 a7 a8 a10 : Option Value) (h : MH) (x : Int32) : rn d 81 313 [a0, a1, a2, a3, a4, a5, a6, a7, a8, some (.int x), a10] [] h = rn d 81 316 [a0, a1, a2, a3, a4, a5, a6, a7, a8, some (.int (x + 1)), a10] [] h := rP (i := (.iinc 9 1)) rfl rfl
set_option maxRecDepth 8000 in
theorem e81_316 (d : Nat) (a0 a1 a2 a3 a4 a5 a6 a7 a8 a9 a10 : Option Value) (h : MH)  : rn d 81 316 [a0, a1, a2, a3, a4, a5, a6, a7, a8, a9, a10] [] h = rn d 81 255 [a0, a1, a2, a3, a4, a5, a6, a7, a8, a9, a10] [] h := rP (i := (.goto (-61))) rfl rfl
set_option maxRecDepth 8000 in
theorem e81_319 (d : Nat) (a0 a1 a2 a3 a4 a6 a7 a8 a9 a10 : Option Value) (h : MH) (x : Int32) : rn d 81 319 [a0, a1, a2, a3, a4, some (.int x), a6, a7, a8, a9, a10] [] h = rn d 81 321 [a0, a1, a2, a3, a4, some (.int x), a6, a7, a8, a9, a10] [.int x] h := rP (i := (.iload 5)) rfl rfl
set_option maxRecDepth 8000 in
theorem e81_321 (d : Nat) (a0 a1 a2 a3 a4 a5 a6 a7 a8 a9 a10 : Option Value) (s0 : Int32) (h : MH)  : rn d 81 321 [a0, a1, a2, a3, a4, a5, a6, a7, a8, a9, a10] [.int s0] h = rn d 81 323 [a0, a1, a2, a3, a4, a5, a6, a7, a8, a9, a10] [.int 87, .int s0] h := rP (i := (.bipush 87)) rfl rfl
set_option maxRecDepth 8000 in
theorem e81_323 (d : Nat) (a0 a1 a2 a3 a4 a5 a6 a7 a8 a9 a10 : Option Value) (s0 s1 : Int32) (h : MH)  : rn d 81 323 [a0, a1, a2, a3, a4, a5, a6, a7, a8, a9, a10] [.int s0, .int s1] h = if s1 = s0 then rn d 81 326 [a0, a1, a2, a3, a4, a5, a6, a7, a8, a9, a10] [] h else rn d 81 352 [a0, a1, a2, a3, a4, a5, a6, a7, a8, a9, a10] [] h := rNe2 (off := 29) 352 rfl rfl
set_option maxRecDepth 8000 in
theorem e81_326 (d : Nat) (a1 a2 a3 a4 a5 a6 a7 a8 a9 a10 : Option Value) (h : MH) (x : Nat) : rn d 81 326 [some (.ref x), a1, a2, a3, a4, a5, a6, a7, a8, a9, a10] [] h = rn d 81 327 [some (.ref x), a1, a2, a3, a4, a5, a6, a7, a8, a9, a10] [.ref x] h := rP (i := (.aload_n 0)) rfl rfl
set_option maxRecDepth 8000 in
theorem e81_327 (d : Nat) (a0 a1 a2 a3 a4 a5 a6 a7 a8 a9 a10 : Option Value) (s0 : Nat) (h : MH)  : rn d 81 327 [a0, a1, a2, a3, a4, a5, a6, a7, a8, a9, a10] [.ref s0] h = (fgetv h s0 5 8).bind (fun v => rn d 81 330 [a0, a1, a2, a3, a4, a5, a6, a7, a8, a9, a10] [v] h) := rGet (idx := 29) rfl rfl
set_option maxRecDepth 8000 in
theorem e81_330 (d : Nat) (a0 a2 a3 a4 a5 a6 a7 a8 a9 a10 : Option Value) (s0 : Nat) (h : MH) (x : Int32) : rn d 81 330 [a0, some (.int x), a2, a3, a4, a5, a6, a7, a8, a9, a10] [.ref s0] h = rn d 81 331 [a0, some (.int x), a2, a3, a4, a5, a6, a7, a8, a9, a10] [.int x, .ref s0] h := rP (i := (.iload_n 1)) rfl rfl
set_option maxRecDepth 8000 in
theorem e81_331 (d : Nat) (a0 a1 a2 a3 a4 a5 a6 a7 a8 a9 a10 : Option Value) (s0 : Int32) (s1 : Nat) (h : MH)  : rn d 81 331 [a0, a1, a2, a3, a4, a5, a6, a7, a8, a9, a10] [.int s0, .ref s1] h = rn d 81 333 [a0, a1, a2, a3, a4, a5, a6, a7, a8, a9, a10] [.int 24, .int s0, .ref s1] h := rP (i := (.bipush 24)) rfl rfl
set_option maxRecDepth 8000 in
theorem e81_333 (d : Nat) (a0 a1 a2 a3 a4 a5 a6 a7 a8 a9 a10 : Option Value) (s0 s1 : Int32) (s2 : Nat) (h : MH)  : rn d 81 333 [a0, a1, a2, a3, a4, a5, a6, a7, a8, a9, a10] [.int s0, .int s1, .ref s2] h = rn d 81 334 [a0, a1, a2, a3, a4, a5, a6, a7, a8, a9, a10] [.int (s1 * s0), .ref s2] h := rP (i := (.imul)) rfl rfl
set_option maxRecDepth 8000 in
theorem e81_334 (d : Nat) (a1 a2 a3 a4 a5 a6 a7 a8 a9 a10 : Option Value) (s0 : Int32) (s1 : Nat) (h : MH) (x : Nat) : rn d 81 334 [some (.ref x), a1, a2, a3, a4, a5, a6, a7, a8, a9, a10] [.int s0, .ref s1] h = rn d 81 335 [some (.ref x), a1, a2, a3, a4, a5, a6, a7, a8, a9, a10] [.ref x, .int s0, .ref s1] h := rP (i := (.aload_n 0)) rfl rfl
set_option maxRecDepth 8000 in
theorem e81_335 (d : Nat) (a0 a1 a2 a3 a4 a5 a6 a7 a8 a9 a10 : Option Value) (s1 : Int32) (s0 s2 : Nat) (h : MH)  : rn d 81 335 [a0, a1, a2, a3, a4, a5, a6, a7, a8, a9, a10] [.ref s0, .int s1, .ref s2] h = (fgetv h s0 5 6).bind (fun v => rn d 81 338 [a0, a1, a2, a3, a4, a5, a6, a7, a8, a9, a10] [v, .int s1, .ref s2] h) := rGet (idx := 23) rfl rfl
set_option maxRecDepth 8000 in
theorem e81_338 (d : Nat) (a0 a1 a2 a3 a5 a6 a7 a8 a9 a10 : Option Value) (s1 : Int32) (s0 s2 : Nat) (h : MH) (x : Int32) : rn d 81 338 [a0, a1, a2, a3, some (.int x), a5, a6, a7, a8, a9, a10] [.ref s0, .int s1, .ref s2] h = rn d 81 340 [a0, a1, a2, a3, some (.int x), a5, a6, a7, a8, a9, a10] [.int x, .ref s0, .int s1, .ref s2] h := rP (i := (.iload 4)) rfl rfl
set_option maxRecDepth 8000 in
theorem e81_340 (d : Nat) (a0 a1 a2 a3 a4 a5 a6 a7 a8 a9 a10 : Option Value) (s0 s2 : Int32) (s1 s3 : Nat) (h : MH)  : rn d 81 340 [a0, a1, a2, a3, a4, a5, a6, a7, a8, a9, a10] [.int s0, .ref s1, .int s2, .ref s3] h = (ageti h 0 s1 s0).bind (fun v => rn d 81 341 [a0, a1, a2, a3, a4, a5, a6, a7, a8, a9, a10] [.int v, .int s2, .ref s3] h) := rIald rfl
set_option maxRecDepth 8000 in
theorem e81_341 (d : Nat) (a0 a1 a2 a3 a4 a5 a6 a7 a8 a9 a10 : Option Value) (s0 s1 : Int32) (s2 : Nat) (h : MH)  : rn d 81 341 [a0, a1, a2, a3, a4, a5, a6, a7, a8, a9, a10] [.int s0, .int s1, .ref s2] h = rn d 81 342 [a0, a1, a2, a3, a4, a5, a6, a7, a8, a9, a10] [.int (s1 + s0), .ref s2] h := rP (i := (.iadd)) rfl rfl
set_option maxRecDepth 8000 in
theorem e81_342 (d : Nat) (a0 a1 a2 a3 a4 a5 a6 a7 a8 a9 a10 : Option Value) (s0 : Int32) (s1 : Nat) (h : MH)  : rn d 81 342 [a0, a1, a2, a3, a4, a5, a6, a7, a8, a9, a10] [.int s0, .ref s1] h = rn d 81 343 [a0, a1, a2, a3, a4, a5, a6, a7, a8, a9, a10] [.int 1, .int s0, .ref s1] h := rP (i := (.iconst 1)) rfl rfl
set_option maxRecDepth 8000 in
theorem e81_343 (d : Nat) (a0 a1 a2 a3 a4 a5 a6 a7 a8 a9 a10 : Option Value) (s0 s1 : Int32) (s2 : Nat) (h : MH)  : rn d 81 343 [a0, a1, a2, a3, a4, a5, a6, a7, a8, a9, a10] [.int s0, .int s1, .ref s2] h = rn d 81 344 [a0, a1, a2, a3, a4, a5, a6, a7, a8, a9, a10] [.int (s1 - s0), .ref s2] h := rP (i := (.isub)) rfl rfl
set_option maxRecDepth 8000 in
theorem e81_344 (d : Nat) (a1 a2 a3 a4 a5 a6 a7 a8 a9 a10 : Option Value) (s0 : Int32) (s1 : Nat) (h : MH) (x : Nat) : rn d 81 344 [some (.ref x), a1, a2, a3, a4, a5, a6, a7, a8, a9, a10] [.int s0, .ref s1] h = rn d 81 345 [some (.ref x), a1, a2, a3, a4, a5, a6, a7, a8, a9, a10] [.ref x, .int s0, .ref s1] h := rP (i := (.aload_n 0)) rfl rfl
set_option maxRecDepth 8000 in
theorem e81_345 (d : Nat) (a0 a1 a2 a3 a4 a5 a6 a7 a8 a9 a10 : Option Value) (s1 : Int32) (s0 s2 : Nat) (h : MH)  : rn d 81 345 [a0, a1, a2, a3, a4, a5, a6, a7, a8, a9, a10] [.ref s0, .int s1, .ref s2] h = (fgetv h s0 5 8).bind (fun v => rn d 81 348 [a0, a1, a2, a3, a4, a5, a6, a7, a8, a9, a10] [v, .int s1, .ref s2] h) := rGet (idx := 29) rfl rfl
set_option maxRecDepth 8000 in
theorem e81_348 (d : Nat) (a0 a1 a2 a3 a5 a6 a7 a8 a9 a10 : Option Value) (s1 : Int32) (s0 s2 : Nat) (h : MH) (x : Int32) : rn d 81 348 [a0, a1, a2, a3, some (.int x), a5, a6, a7, a8, a9, a10] [.ref s0, .int s1, .ref s2] h = rn d 81 350 [a0, a1, a2, a3, some (.int x), a5, a6, a7, a8, a9, a10] [.int x, .ref s0, .int s1, .ref s2] h := rP (i := (.iload 4)) rfl rfl
set_option maxRecDepth 8000 in
theorem e81_350 (d : Nat) (a0 a1 a2 a3 a4 a5 a6 a7 a8 a9 a10 : Option Value) (s0 s2 : Int32) (s1 s3 : Nat) (h : MH)  : rn d 81 350 [a0, a1, a2, a3, a4, a5, a6, a7, a8, a9, a10] [.int s0, .ref s1, .int s2, .ref s3] h = (ageti h 0 s1 s0).bind (fun v => rn d 81 351 [a0, a1, a2, a3, a4, a5, a6, a7, a8, a9, a10] [.int v, .int s2, .ref s3] h) := rIald rfl
set_option maxRecDepth 8000 in
theorem e81_351 (d : Nat) (a0 a1 a2 a3 a4 a5 a6 a7 a8 a9 a10 : Option Value) (s0 s1 : Int32) (s2 : Nat) (h : MH)  : rn d 81 351 [a0, a1, a2, a3, a4, a5, a6, a7, a8, a9, a10] [.int s0, .int s1, .ref s2] h = (aputi h 0 s2 s1 s0).bind (fun h => rn d 81 352 [a0, a1, a2, a3, a4, a5, a6, a7, a8, a9, a10] [] h) := rIast rfl
set_option maxRecDepth 8000 in
theorem e81_352 (d : Nat) (a0 a1 a2 a3 a4 a6 a7 a8 a9 a10 : Option Value) (h : MH) (x : Int32) : rn d 81 352 [a0, a1, a2, a3, a4, some (.int x), a6, a7, a8, a9, a10] [] h = rn d 81 354 [a0, a1, a2, a3, a4, some (.int x), a6, a7, a8, a9, a10] [.int x] h := rP (i := (.iload 5)) rfl rfl
set_option maxRecDepth 8000 in
theorem e81_354 (d : Nat) (a0 a1 a2 a3 a4 a5 a6 a7 a8 a9 a10 : Option Value) (s0 : Int32) (h : MH)  : rn d 81 354 [a0, a1, a2, a3, a4, a5, a6, a7, a8, a9, a10] [.int s0] h = rn d 81 356 [a0, a1, a2, a3, a4, a5, a6, a7, a8, a9, a10] [.int 67, .int s0] h := rP (i := (.bipush 67)) rfl rfl
set_option maxRecDepth 8000 in
theorem e81_356 (d : Nat) (a0 a1 a2 a3 a4 a5 a6 a7 a8 a9 a10 : Option Value) (s0 s1 : Int32) (h : MH)  : rn d 81 356 [a0, a1, a2, a3, a4, a5, a6, a7, a8, a9, a10] [.int s0, .int s1] h = if s1 = s0 then rn d 81 359 [a0, a1, a2, a3, a4, a5, a6, a7, a8, a9, a10] [] h else rn d 81 375 [a0, a1, a2, a3, a4, a5, a6, a7, a8, a9, a10] [] h := rNe2 (off := 19) 375 rfl rfl
set_option maxRecDepth 8000 in
theorem e81_359 (d : Nat) (a1 a2 a3 a4 a5 a6 a7 a8 a9 a10 : Option Value) (h : MH) (x : Nat) : rn d 81 359 [some (.ref x), a1, a2, a3, a4, a5, a6, a7, a8, a9, a10] [] h = rn d 81 360 [some (.ref x), a1, a2, a3, a4, a5, a6, a7, a8, a9, a10] [.ref x] h := rP (i := (.aload_n 0)) rfl rfl
set_option maxRecDepth 8000 in
theorem e81_360 (d : Nat) (a0 a1 a2 a3 a4 a5 a6 a7 a8 a9 a10 : Option Value) (s0 : Nat) (h : MH)  : rn d 81 360 [a0, a1, a2, a3, a4, a5, a6, a7, a8, a9, a10] [.ref s0] h = (fgetv h s0 5 8).bind (fun v => rn d 81 363 [a0, a1, a2, a3, a4, a5, a6, a7, a8, a9, a10] [v] h) := rGet (idx := 29) rfl rfl
set_option maxRecDepth 8000 in
theorem e81_363 (d : Nat) (a0 a1 a2 a3 a5 a6 a7 a8 a9 a10 : Option Value) (s0 : Nat) (h : MH) (x : Int32) : rn d 81 363 [a0, a1, a2, a3, some (.int x), a5, a6, a7, a8, a9, a10] [.ref s0] h = rn d 81 365 [a0, a1, a2, a3, some (.int x), a5, a6, a7, a8, a9, a10] [.int x, .ref s0] h := rP (i := (.iload 4)) rfl rfl
set_option maxRecDepth 8000 in
theorem e81_365 (d : Nat) (a0 a1 a2 a3 a4 a5 a6 a7 a8 a9 a10 : Option Value) (s0 : Int32) (s1 : Nat) (h : MH)  : rn d 81 365 [a0, a1, a2, a3, a4, a5, a6, a7, a8, a9, a10] [.int s0, .ref s1] h = rn d 81 366 [a0, a1, a2, a3, a4, a5, a6, a7, a8, a9, a10] [.int 1, .int s0, .ref s1] h := rP (i := (.iconst 1)) rfl rfl
set_option maxRecDepth 8000 in
theorem e81_366 (d : Nat) (a0 a1 a2 a3 a4 a5 a6 a7 a8 a9 a10 : Option Value) (s0 s1 : Int32) (s2 : Nat) (h : MH)  : rn d 81 366 [a0, a1, a2, a3, a4, a5, a6, a7, a8, a9, a10] [.int s0, .int s1, .ref s2] h = rn d 81 367 [a0, a1, a2, a3, a4, a5, a6, a7, a8, a9, a10] [.int (s1 + s0), .ref s2] h := rP (i := (.iadd)) rfl rfl
set_option maxRecDepth 8000 in
theorem e81_367 (d : Nat) (a1 a2 a3 a4 a5 a6 a7 a8 a9 a10 : Option Value) (s0 : Int32) (s1 : Nat) (h : MH) (x : Nat) : rn d 81 367 [some (.ref x), a1, a2, a3, a4, a5, a6, a7, a8, a9, a10] [.int s0, .ref s1] h = rn d 81 368 [some (.ref x), a1, a2, a3, a4, a5, a6, a7, a8, a9, a10] [.ref x, .int s0, .ref s1] h := rP (i := (.aload_n 0)) rfl rfl
set_option maxRecDepth 8000 in
theorem e81_368 (d : Nat) (a0 a1 a2 a3 a4 a5 a6 a7 a8 a9 a10 : Option Value) (s1 : Int32) (s0 s2 : Nat) (h : MH)  : rn d 81 368 [a0, a1, a2, a3, a4, a5, a6, a7, a8, a9, a10] [.ref s0, .int s1, .ref s2] h = (fgetv h s0 5 8).bind (fun v => rn d 81 371 [a0, a1, a2, a3, a4, a5, a6, a7, a8, a9, a10] [v, .int s1, .ref s2] h) := rGet (idx := 29) rfl rfl
set_option maxRecDepth 8000 in
theorem e81_371 (d : Nat) (a0 a1 a2 a3 a5 a6 a7 a8 a9 a10 : Option Value) (s1 : Int32) (s0 s2 : Nat) (h : MH) (x : Int32) : rn d 81 371 [a0, a1, a2, a3, some (.int x), a5, a6, a7, a8, a9, a10] [.ref s0, .int s1, .ref s2] h = rn d 81 373 [a0, a1, a2, a3, some (.int x), a5, a6, a7, a8, a9, a10] [.int x, .ref s0, .int s1, .ref s2] h := rP (i := (.iload 4)) rfl rfl
set_option maxRecDepth 8000 in
theorem e81_373 (d : Nat) (a0 a1 a2 a3 a4 a5 a6 a7 a8 a9 a10 : Option Value) (s0 s2 : Int32) (s1 s3 : Nat) (h : MH)  : rn d 81 373 [a0, a1, a2, a3, a4, a5, a6, a7, a8, a9, a10] [.int s0, .ref s1, .int s2, .ref s3] h = (ageti h 0 s1 s0).bind (fun v => rn d 81 374 [a0, a1, a2, a3, a4, a5, a6, a7, a8, a9, a10] [.int v, .int s2, .ref s3] h) := rIald rfl
set_option maxRecDepth 8000 in
theorem e81_374 (d : Nat) (a0 a1 a2 a3 a4 a5 a6 a7 a8 a9 a10 : Option Value) (s0 s1 : Int32) (s2 : Nat) (h : MH)  : rn d 81 374 [a0, a1, a2, a3, a4, a5, a6, a7, a8, a9, a10] [.int s0, .int s1, .ref s2] h = (aputi h 0 s2 s1 s0).bind (fun h => rn d 81 375 [a0, a1, a2, a3, a4, a5, a6, a7, a8, a9, a10] [] h) := rIast rfl
set_option maxRecDepth 8000 in
theorem e81_375 (d : Nat) (a0 a1 a2 a4 a5 a6 a7 a8 a9 a10 : Option Value) (h : MH) (x : Int32) : rn d 81 375 [a0, a1, a2, some (.int x), a4, a5, a6, a7, a8, a9, a10] [] h = rn d 81 378 [a0, a1, a2, some (.int (x + 1)), a4, a5, a6, a7, a8, a9, a10] [] h := rP (i := (.iinc 3 1)) rfl rfl
set_option maxRecDepth 8000 in
theorem e81_378 (d : Nat) (a0 a1 a2 a3 a4 a5 a6 a7 a8 a9 a10 : Option Value) (h : MH)  : rn d 81 378 [a0, a1, a2, a3, a4, a5, a6, a7, a8, a9, a10] [] h = rn d 81 29 [a0, a1, a2, a3, a4, a5, a6, a7, a8, a9, a10] [] h := rP (i := (.goto (-349))) rfl rfl
set_option maxRecDepth 8000 in
theorem e81_381 (d : Nat) (a0 a1 a3 a4 a5 a6 a7 a8 a9 a10 : Option Value) (h : MH) (x : Int32) : rn d 81 381 [a0, a1, some (.int x), a3, a4, a5, a6, a7, a8, a9, a10] [] h = rn d 81 382 [a0, a1, some (.int x), a3, a4, a5, a6, a7, a8, a9, a10] [.int x] h := rP (i := (.iload_n 2)) rfl rfl
set_option maxRecDepth 8000 in
theorem e81_382 (d : Nat) (a0 a1 a2 a3 a4 a5 a6 a7 a8 a9 a10 : Option Value) (s0 : Int32) (h : MH) (hz : s0 &&& 1 = s0) : rn d 81 382 [a0, a1, a2, a3, a4, a5, a6, a7, a8, a9, a10] [.int s0] h = some (some (.int s0), h) := rIretZ hz rfl rfl
set_option maxRecDepth 8000 in
theorem e81_382q0 (d : Nat) (a0 a1 a2 a3 a4 a5 a6 a7 a8 a9 a10 : Option Value)  (h : MH) : rn d 81 382 [a0, a1, a2, a3, a4, a5, a6, a7, a8, a9, a10] [.int 0] h = some (some (.int 0), h) := rIretZ rfl rfl rfl
set_option maxRecDepth 8000 in
theorem e81_382q1 (d : Nat) (a0 a1 a2 a3 a4 a5 a6 a7 a8 a9 a10 : Option Value)  (h : MH) : rn d 81 382 [a0, a1, a2, a3, a4, a5, a6, a7, a8, a9, a10] [.int 1] h = some (some (.int 1), h) := rIretZ rfl rfl rfl
-- 82: FlowEquationsModel.about(II)I
theorem e82_0 (d : Nat) (a1 a2 a3 : Option Value) (h : MH) (x : Nat) : rn d 82 0 [some (.ref x), a1, a2, a3] [] h = rn d 82 1 [some (.ref x), a1, a2, a3] [.ref x] h := rP (i := (.aload_n 0)) rfl rfl
theorem e82_1 (d : Nat) (a0 a1 a2 a3 : Option Value) (s0 : Nat) (h : MH)  : rn d 82 1 [a0, a1, a2, a3] [.ref s0] h = (fgetv h s0 5 4).bind (fun v => rn d 82 4 [a0, a1, a2, a3] [v] h) := rGet (idx := 17) rfl rfl
theorem e82_4 (d : Nat) (a0 a2 a3 : Option Value) (s0 : Nat) (h : MH) (x : Int32) : rn d 82 4 [a0, some (.int x), a2, a3] [.ref s0] h = rn d 82 5 [a0, some (.int x), a2, a3] [.int x, .ref s0] h := rP (i := (.iload_n 1)) rfl rfl
theorem e82_5 (d : Nat) (a0 a1 a2 a3 : Option Value) (s0 : Int32) (s1 : Nat) (h : MH)  : rn d 82 5 [a0, a1, a2, a3] [.int s0, .ref s1] h = rn d 82 7 [a0, a1, a2, a3] [.int 24, .int s0, .ref s1] h := rP (i := (.bipush 24)) rfl rfl
theorem e82_7 (d : Nat) (a0 a1 a2 a3 : Option Value) (s0 s1 : Int32) (s2 : Nat) (h : MH)  : rn d 82 7 [a0, a1, a2, a3] [.int s0, .int s1, .ref s2] h = rn d 82 8 [a0, a1, a2, a3] [.int (s1 * s0), .ref s2] h := rP (i := (.imul)) rfl rfl
theorem e82_8 (d : Nat) (a0 a1 a3 : Option Value) (s0 : Int32) (s1 : Nat) (h : MH) (x : Int32) : rn d 82 8 [a0, a1, some (.int x), a3] [.int s0, .ref s1] h = rn d 82 9 [a0, a1, some (.int x), a3] [.int x, .int s0, .ref s1] h := rP (i := (.iload_n 2)) rfl rfl
theorem e82_9 (d : Nat) (a0 a1 a2 a3 : Option Value) (s0 s1 : Int32) (s2 : Nat) (h : MH)  : rn d 82 9 [a0, a1, a2, a3] [.int s0, .int s1, .ref s2] h = rn d 82 10 [a0, a1, a2, a3] [.int (s1 + s0), .ref s2] h := rP (i := (.iadd)) rfl rfl
theorem e82_10 (d : Nat) (a0 a1 a2 a3 : Option Value) (s0 : Int32) (s1 : Nat) (h : MH)  : rn d 82 10 [a0, a1, a2, a3] [.int s0, .ref s1] h = (ageti h 0 s1 s0).bind (fun v => rn d 82 11 [a0, a1, a2, a3] [.int v] h) := rIald rfl
theorem e82_11 (d : Nat) (a0 a1 a2 a3 : Option Value) (s0 : Int32) (h : MH)  : rn d 82 11 [a0, a1, a2, a3] [.int s0] h = rn d 82 13 [a0, a1, a2, a3] [.int 87, .int s0] h := rP (i := (.bipush 87)) rfl rfl
theorem e82_13 (d : Nat) (a0 a1 a2 a3 : Option Value) (s0 s1 : Int32) (h : MH)  : rn d 82 13 [a0, a1, a2, a3] [.int s0, .int s1] h = if s1 = s0 then rn d 82 16 [a0, a1, a2, a3] [] h else rn d 82 32 [a0, a1, a2, a3] [] h := rNe2 (off := 19) 32 rfl rfl
theorem e82_16 (d : Nat) (a1 a2 a3 : Option Value) (h : MH) (x : Nat) : rn d 82 16 [some (.ref x), a1, a2, a3] [] h = rn d 82 17 [some (.ref x), a1, a2, a3] [.ref x] h := rP (i := (.aload_n 0)) rfl rfl
theorem e82_17 (d : Nat) (a0 a1 a2 a3 : Option Value) (s0 : Nat) (h : MH)  : rn d 82 17 [a0, a1, a2, a3] [.ref s0] h = (fgetv h s0 5 6).bind (fun v => rn d 82 20 [a0, a1, a2, a3] [v] h) := rGet (idx := 23) rfl rfl
theorem e82_20 (d : Nat) (a0 a2 a3 : Option Value) (s0 : Nat) (h : MH) (x : Int32) : rn d 82 20 [a0, some (.int x), a2, a3] [.ref s0] h = rn d 82 21 [a0, some (.int x), a2, a3] [.int x, .ref s0] h := rP (i := (.iload_n 1)) rfl rfl
theorem e82_21 (d : Nat) (a0 a1 a2 a3 : Option Value) (s0 : Int32) (s1 : Nat) (h : MH)  : rn d 82 21 [a0, a1, a2, a3] [.int s0, .ref s1] h = rn d 82 23 [a0, a1, a2, a3] [.int 24, .int s0, .ref s1] h := rP (i := (.bipush 24)) rfl rfl
theorem e82_23 (d : Nat) (a0 a1 a2 a3 : Option Value) (s0 s1 : Int32) (s2 : Nat) (h : MH)  : rn d 82 23 [a0, a1, a2, a3] [.int s0, .int s1, .ref s2] h = rn d 82 24 [a0, a1, a2, a3] [.int (s1 * s0), .ref s2] h := rP (i := (.imul)) rfl rfl
theorem e82_24 (d : Nat) (a0 a1 a3 : Option Value) (s0 : Int32) (s1 : Nat) (h : MH) (x : Int32) : rn d 82 24 [a0, a1, some (.int x), a3] [.int s0, .ref s1] h = rn d 82 25 [a0, a1, some (.int x), a3] [.int x, .int s0, .ref s1] h := rP (i := (.iload_n 2)) rfl rfl
theorem e82_25 (d : Nat) (a0 a1 a2 a3 : Option Value) (s0 s1 : Int32) (s2 : Nat) (h : MH)  : rn d 82 25 [a0, a1, a2, a3] [.int s0, .int s1, .ref s2] h = rn d 82 26 [a0, a1, a2, a3] [.int (s1 + s0), .ref s2] h := rP (i := (.iadd)) rfl rfl
theorem e82_26 (d : Nat) (a0 a1 a2 a3 : Option Value) (s0 : Int32) (s1 : Nat) (h : MH)  : rn d 82 26 [a0, a1, a2, a3] [.int s0, .ref s1] h = (ageti h 0 s1 s0).bind (fun v => rn d 82 27 [a0, a1, a2, a3] [.int v] h) := rIald rfl
theorem e82_27 (d : Nat) (a0 a1 a2 a3 : Option Value) (s0 : Int32) (h : MH)  : rn d 82 27 [a0, a1, a2, a3] [.int s0] h = rn d 82 28 [a0, a1, a2, a3] [.int 1, .int s0] h := rP (i := (.iconst 1)) rfl rfl
theorem e82_28 (d : Nat) (a0 a1 a2 a3 : Option Value) (s0 s1 : Int32) (h : MH)  : rn d 82 28 [a0, a1, a2, a3] [.int s0, .int s1] h = rn d 82 29 [a0, a1, a2, a3] [.int (s1 - s0)] h := rP (i := (.isub)) rfl rfl
theorem e82_29 (d : Nat) (a0 a1 a2 a3 : Option Value) (s0 : Int32) (h : MH)  : rn d 82 29 [a0, a1, a2, a3] [.int s0] h = rn d 82 35 [a0, a1, a2, a3] [.int s0] h := rP (i := (.goto 6)) rfl rfl
theorem e82_32 (d : Nat) (a0 a1 a3 : Option Value) (h : MH) (x : Int32) : rn d 82 32 [a0, a1, some (.int x), a3] [] h = rn d 82 33 [a0, a1, some (.int x), a3] [.int x] h := rP (i := (.iload_n 2)) rfl rfl
theorem e82_33 (d : Nat) (a0 a1 a2 a3 : Option Value) (s0 : Int32) (h : MH)  : rn d 82 33 [a0, a1, a2, a3] [.int s0] h = rn d 82 34 [a0, a1, a2, a3] [.int 1, .int s0] h := rP (i := (.iconst 1)) rfl rfl
theorem e82_34 (d : Nat) (a0 a1 a2 a3 : Option Value) (s0 s1 : Int32) (h : MH)  : rn d 82 34 [a0, a1, a2, a3] [.int s0, .int s1] h = rn d 82 35 [a0, a1, a2, a3] [.int (s1 + s0)] h := rP (i := (.iadd)) rfl rfl
theorem e82_35 (d : Nat) (a0 a1 a2 a3 : Option Value) (s0 : Int32) (h : MH)  : rn d 82 35 [a0, a1, a2, a3] [.int s0] h = rn d 82 36 [a0, a1, a2, some (.int s0)] [] h := rP (i := (.istore_n 3)) rfl rfl
theorem e82_36 (d : Nat) (a1 a2 a3 : Option Value) (h : MH) (x : Nat) : rn d 82 36 [some (.ref x), a1, a2, a3] [] h = rn d 82 37 [some (.ref x), a1, a2, a3] [.ref x] h := rP (i := (.aload_n 0)) rfl rfl
theorem e82_37 (d : Nat) (a0 a1 a2 a3 : Option Value) (s0 : Nat) (h : MH)  : rn d 82 37 [a0, a1, a2, a3] [.ref s0] h = (fgetv h s0 5 4).bind (fun v => rn d 82 40 [a0, a1, a2, a3] [v] h) := rGet (idx := 17) rfl rfl
theorem e82_40 (d : Nat) (a0 a2 a3 : Option Value) (s0 : Nat) (h : MH) (x : Int32) : rn d 82 40 [a0, some (.int x), a2, a3] [.ref s0] h = rn d 82 41 [a0, some (.int x), a2, a3] [.int x, .ref s0] h := rP (i := (.iload_n 1)) rfl rfl
theorem e82_41 (d : Nat) (a0 a1 a2 a3 : Option Value) (s0 : Int32) (s1 : Nat) (h : MH)  : rn d 82 41 [a0, a1, a2, a3] [.int s0, .ref s1] h = rn d 82 43 [a0, a1, a2, a3] [.int 24, .int s0, .ref s1] h := rP (i := (.bipush 24)) rfl rfl
theorem e82_43 (d : Nat) (a0 a1 a2 a3 : Option Value) (s0 s1 : Int32) (s2 : Nat) (h : MH)  : rn d 82 43 [a0, a1, a2, a3] [.int s0, .int s1, .ref s2] h = rn d 82 44 [a0, a1, a2, a3] [.int (s1 * s0), .ref s2] h := rP (i := (.imul)) rfl rfl
theorem e82_44 (d : Nat) (a0 a1 a2 : Option Value) (s0 : Int32) (s1 : Nat) (h : MH) (x : Int32) : rn d 82 44 [a0, a1, a2, some (.int x)] [.int s0, .ref s1] h = rn d 82 45 [a0, a1, a2, some (.int x)] [.int x, .int s0, .ref s1] h := rP (i := (.iload_n 3)) rfl rfl
theorem e82_45 (d : Nat) (a0 a1 a2 a3 : Option Value) (s0 s1 : Int32) (s2 : Nat) (h : MH)  : rn d 82 45 [a0, a1, a2, a3] [.int s0, .int s1, .ref s2] h = rn d 82 46 [a0, a1, a2, a3] [.int (s1 + s0), .ref s2] h := rP (i := (.iadd)) rfl rfl
theorem e82_46 (d : Nat) (a0 a1 a2 a3 : Option Value) (s0 : Int32) (s1 : Nat) (h : MH)  : rn d 82 46 [a0, a1, a2, a3] [.int s0, .ref s1] h = (ageti h 0 s1 s0).bind (fun v => rn d 82 47 [a0, a1, a2, a3] [.int v] h) := rIald rfl
theorem e82_47 (d : Nat) (a0 a1 a2 a3 : Option Value) (s0 : Int32) (h : MH)  : rn d 82 47 [a0, a1, a2, a3] [.int s0] h = rn d 82 49 [a0, a1, a2, a3] [.int 97, .int s0] h := rP (i := (.bipush 97)) rfl rfl
theorem e82_49 (d : Nat) (a0 a1 a2 a3 : Option Value) (s0 s1 : Int32) (h : MH)  : rn d 82 49 [a0, a1, a2, a3] [.int s0, .int s1] h = rn d 82 50 [a0, a1, a2, a3] [.int (s1 - s0)] h := rP (i := (.isub)) rfl rfl
theorem e82_50 (d : Nat) (a0 a1 a2 a3 : Option Value) (s0 : Int32) (h : MH)  : rn d 82 50 [a0, a1, a2, a3] [.int s0] h = some (some (.int s0), h) := rIret rfl rfl
-- 83: FlowEquationsModel.child(III)I
theorem e83_0 (d : Nat) (a1 a2 a3 a4 a5 : Option Value) (h : MH) (x : Nat) : rn d 83 0 [some (.ref x), a1, a2, a3, a4, a5] [] h = rn d 83 1 [some (.ref x), a1, a2, a3, a4, a5] [.ref x] h := rP (i := (.aload_n 0)) rfl rfl
theorem e83_1 (d : Nat) (a0 a1 a2 a3 a4 a5 : Option Value) (s0 : Nat) (h : MH)  : rn d 83 1 [a0, a1, a2, a3, a4, a5] [.ref s0] h = (fgetv h s0 5 4).bind (fun v => rn d 83 4 [a0, a1, a2, a3, a4, a5] [v] h) := rGet (idx := 17) rfl rfl
theorem e83_4 (d : Nat) (a0 a2 a3 a4 a5 : Option Value) (s0 : Nat) (h : MH) (x : Int32) : rn d 83 4 [a0, some (.int x), a2, a3, a4, a5] [.ref s0] h = rn d 83 5 [a0, some (.int x), a2, a3, a4, a5] [.int x, .ref s0] h := rP (i := (.iload_n 1)) rfl rfl
theorem e83_5 (d : Nat) (a0 a1 a2 a3 a4 a5 : Option Value) (s0 : Int32) (s1 : Nat) (h : MH)  : rn d 83 5 [a0, a1, a2, a3, a4, a5] [.int s0, .ref s1] h = rn d 83 7 [a0, a1, a2, a3, a4, a5] [.int 24, .int s0, .ref s1] h := rP (i := (.bipush 24)) rfl rfl
theorem e83_7 (d : Nat) (a0 a1 a2 a3 a4 a5 : Option Value) (s0 s1 : Int32) (s2 : Nat) (h : MH)  : rn d 83 7 [a0, a1, a2, a3, a4, a5] [.int s0, .int s1, .ref s2] h = rn d 83 8 [a0, a1, a2, a3, a4, a5] [.int (s1 * s0), .ref s2] h := rP (i := (.imul)) rfl rfl
theorem e83_8 (d : Nat) (a0 a1 a3 a4 a5 : Option Value) (s0 : Int32) (s1 : Nat) (h : MH) (x : Int32) : rn d 83 8 [a0, a1, some (.int x), a3, a4, a5] [.int s0, .ref s1] h = rn d 83 9 [a0, a1, some (.int x), a3, a4, a5] [.int x, .int s0, .ref s1] h := rP (i := (.iload_n 2)) rfl rfl
theorem e83_9 (d : Nat) (a0 a1 a2 a3 a4 a5 : Option Value) (s0 s1 : Int32) (s2 : Nat) (h : MH)  : rn d 83 9 [a0, a1, a2, a3, a4, a5] [.int s0, .int s1, .ref s2] h = rn d 83 10 [a0, a1, a2, a3, a4, a5] [.int (s1 + s0), .ref s2] h := rP (i := (.iadd)) rfl rfl
theorem e83_10 (d : Nat) (a0 a1 a2 a3 a4 a5 : Option Value) (s0 : Int32) (s1 : Nat) (h : MH)  : rn d 83 10 [a0, a1, a2, a3, a4, a5] [.int s0, .ref s1] h = (ageti h 0 s1 s0).bind (fun v => rn d 83 11 [a0, a1, a2, a3, a4, a5] [.int v] h) := rIald rfl
theorem e83_11 (d : Nat) (a0 a1 a2 a3 a4 a5 : Option Value) (s0 : Int32) (h : MH)  : rn d 83 11 [a0, a1, a2, a3, a4, a5] [.int s0] h = rn d 83 13 [a0, a1, a2, a3, a4, a5] [.int 67, .int s0] h := rP (i := (.bipush 67)) rfl rfl
theorem e83_13 (d : Nat) (a0 a1 a2 a3 a4 a5 : Option Value) (s0 s1 : Int32) (h : MH)  : rn d 83 13 [a0, a1, a2, a3, a4, a5] [.int s0, .int s1] h = if s1 = s0 then rn d 83 16 [a0, a1, a2, a3, a4, a5] [] h else rn d 83 22 [a0, a1, a2, a3, a4, a5] [] h := rNe2 (off := 9) 22 rfl rfl
theorem e83_16 (d : Nat) (a0 a1 a3 a4 a5 : Option Value) (h : MH) (x : Int32) : rn d 83 16 [a0, a1, some (.int x), a3, a4, a5] [] h = rn d 83 17 [a0, a1, some (.int x), a3, a4, a5] [.int x] h := rP (i := (.iload_n 2)) rfl rfl
theorem e83_17 (d : Nat) (a0 a1 a2 a3 a4 a5 : Option Value) (s0 : Int32) (h : MH)  : rn d 83 17 [a0, a1, a2, a3, a4, a5] [.int s0] h = rn d 83 18 [a0, a1, a2, a3, a4, a5] [.int 2, .int s0] h := rP (i := (.iconst 2)) rfl rfl
theorem e83_18 (d : Nat) (a0 a1 a2 a3 a4 a5 : Option Value) (s0 s1 : Int32) (h : MH)  : rn d 83 18 [a0, a1, a2, a3, a4, a5] [.int s0, .int s1] h = rn d 83 19 [a0, a1, a2, a3, a4, a5] [.int (s1 + s0)] h := rP (i := (.iadd)) rfl rfl
theorem e83_19 (d : Nat) (a0 a1 a2 a3 a4 a5 : Option Value) (s0 : Int32) (h : MH)  : rn d 83 19 [a0, a1, a2, a3, a4, a5] [.int s0] h = rn d 83 25 [a0, a1, a2, a3, a4, a5] [.int s0] h := rP (i := (.goto 6)) rfl rfl
theorem e83_22 (d : Nat) (a0 a1 a3 a4 a5 : Option Value) (h : MH) (x : Int32) : rn d 83 22 [a0, a1, some (.int x), a3, a4, a5] [] h = rn d 83 23 [a0, a1, some (.int x), a3, a4, a5] [.int x] h := rP (i := (.iload_n 2)) rfl rfl
theorem e83_23 (d : Nat) (a0 a1 a2 a3 a4 a5 : Option Value) (s0 : Int32) (h : MH)  : rn d 83 23 [a0, a1, a2, a3, a4, a5] [.int s0] h = rn d 83 24 [a0, a1, a2, a3, a4, a5] [.int 1, .int s0] h := rP (i := (.iconst 1)) rfl rfl
theorem e83_24 (d : Nat) (a0 a1 a2 a3 a4 a5 : Option Value) (s0 s1 : Int32) (h : MH)  : rn d 83 24 [a0, a1, a2, a3, a4, a5] [.int s0, .int s1] h = rn d 83 25 [a0, a1, a2, a3, a4, a5] [.int (s1 + s0)] h := rP (i := (.iadd)) rfl rfl
theorem e83_25 (d : Nat) (a0 a1 a2 a3 a4 a5 : Option Value) (s0 : Int32) (h : MH)  : rn d 83 25 [a0, a1, a2, a3, a4, a5] [.int s0] h = rn d 83 27 [a0, a1, a2, a3, some (.int s0), a5] [] h := rP (i := (.istore 4)) rfl rfl
theorem e83_27 (d : Nat) (a0 a1 a2 a3 a4 a5 : Option Value) (h : MH)  : rn d 83 27 [a0, a1, a2, a3, a4, a5] [] h = rn d 83 28 [a0, a1, a2, a3, a4, a5] [.int 0] h := rP (i := (.iconst 0)) rfl rfl
theorem e83_28 (d : Nat) (a0 a1 a2 a3 a4 a5 : Option Value) (s0 : Int32) (h : MH)  : rn d 83 28 [a0, a1, a2, a3, a4, a5] [.int s0] h = rn d 83 30 [a0, a1, a2, a3, a4, some (.int s0)] [] h := rP (i := (.istore 5)) rfl rfl
theorem e83_30 (d : Nat) (a0 a1 a2 a3 a4 : Option Value) (h : MH) (x : Int32) : rn d 83 30 [a0, a1, a2, a3, a4, some (.int x)] [] h = rn d 83 32 [a0, a1, a2, a3, a4, some (.int x)] [.int x] h := rP (i := (.iload 5)) rfl rfl
theorem e83_32 (d : Nat) (a0 a1 a2 a4 a5 : Option Value) (s0 : Int32) (h : MH) (x : Int32) : rn d 83 32 [a0, a1, a2, some (.int x), a4, a5] [.int s0] h = rn d 83 33 [a0, a1, a2, some (.int x), a4, a5] [.int x, .int s0] h := rP (i := (.iload_n 3)) rfl rfl
theorem e83_33 (d : Nat) (a0 a1 a2 a3 a4 a5 : Option Value) (s0 s1 : Int32) (h : MH)  : rn d 83 33 [a0, a1, a2, a3, a4, a5] [.int s0, .int s1] h = if s1 < s0 then rn d 83 36 [a0, a1, a2, a3, a4, a5] [] h else rn d 83 56 [a0, a1, a2, a3, a4, a5] [] h := rGe2 (off := 23) 56 rfl rfl
theorem e83_36 (d : Nat) (a1 a2 a3 a4 a5 : Option Value) (h : MH) (x : Nat) : rn d 83 36 [some (.ref x), a1, a2, a3, a4, a5] [] h = rn d 83 37 [some (.ref x), a1, a2, a3, a4, a5] [.ref x] h := rP (i := (.aload_n 0)) rfl rfl
theorem e83_37 (d : Nat) (a0 a1 a2 a3 a4 a5 : Option Value) (s0 : Nat) (h : MH)  : rn d 83 37 [a0, a1, a2, a3, a4, a5] [.ref s0] h = (fgetv h s0 5 6).bind (fun v => rn d 83 40 [a0, a1, a2, a3, a4, a5] [v] h) := rGet (idx := 23) rfl rfl
theorem e83_40 (d : Nat) (a0 a2 a3 a4 a5 : Option Value) (s0 : Nat) (h : MH) (x : Int32) : rn d 83 40 [a0, some (.int x), a2, a3, a4, a5] [.ref s0] h = rn d 83 41 [a0, some (.int x), a2, a3, a4, a5] [.int x, .ref s0] h := rP (i := (.iload_n 1)) rfl rfl
theorem e83_41 (d : Nat) (a0 a1 a2 a3 a4 a5 : Option Value) (s0 : Int32) (s1 : Nat) (h : MH)  : rn d 83 41 [a0, a1, a2, a3, a4, a5] [.int s0, .ref s1] h = rn d 83 43 [a0, a1, a2, a3, a4, a5] [.int 24, .int s0, .ref s1] h := rP (i := (.bipush 24)) rfl rfl
theorem e83_43 (d : Nat) (a0 a1 a2 a3 a4 a5 : Option Value) (s0 s1 : Int32) (s2 : Nat) (h : MH)  : rn d 83 43 [a0, a1, a2, a3, a4, a5] [.int s0, .int s1, .ref s2] h = rn d 83 44 [a0, a1, a2, a3, a4, a5] [.int (s1 * s0), .ref s2] h := rP (i := (.imul)) rfl rfl
theorem e83_44 (d : Nat) (a0 a1 a2 a3 a5 : Option Value) (s0 : Int32) (s1 : Nat) (h : MH) (x : Int32) : rn d 83 44 [a0, a1, a2, a3, some (.int x), a5] [.int s0, .ref s1] h = rn d 83 46 [a0, a1, a2, a3, some (.int x), a5] [.int x, .int s0, .ref s1] h := rP (i := (.iload 4)) rfl rfl
theorem e83_46 (d : Nat) (a0 a1 a2 a3 a4 a5 : Option Value) (s0 s1 : Int32) (s2 : Nat) (h : MH)  : rn d 83 46 [a0, a1, a2, a3, a4, a5] [.int s0, .int s1, .ref s2] h = rn d 83 47 [a0, a1, a2, a3, a4, a5] [.int (s1 + s0), .ref s2] h := rP (i := (.iadd)) rfl rfl
theorem e83_47 (d : Nat) (a0 a1 a2 a3 a4 a5 : Option Value) (s0 : Int32) (s1 : Nat) (h : MH)  : rn d 83 47 [a0, a1, a2, a3, a4, a5] [.int s0, .ref s1] h = (ageti h 0 s1 s0).bind (fun v => rn d 83 48 [a0, a1, a2, a3, a4, a5] [.int v] h) := rIald rfl
theorem e83_48 (d : Nat) (a0 a1 a2 a3 a4 a5 : Option Value) (s0 : Int32) (h : MH)  : rn d 83 48 [a0, a1, a2, a3, a4, a5] [.int s0] h = rn d 83 50 [a0, a1, a2, a3, some (.int s0), a5] [] h := rP (i := (.istore 4)) rfl rfl
theorem e83_50 (d : Nat) (a0 a1 a2 a3 a4 : Option Value) (h : MH) (x : Int32) : rn d 83 50 [a0, a1, a2, a3, a4, some (.int x)] [] h = rn d 83 53 [a0, a1, a2, a3, a4, some (.int (x + 1))] [] h := rP (i := (.iinc 5 1)) rfl rfl
theorem e83_53 (d : Nat) (a0 a1 a2 a3 a4 a5 : Option Value) (h : MH)  : rn d 83 53 [a0, a1, a2, a3, a4, a5] [] h = rn d 83 30 [a0, a1, a2, a3, a4, a5] [] h := rP (i := (.goto (-23))) rfl rfl
theorem e83_56 (d : Nat) (a0 a1 a2 a3 a5 : Option Value) (h : MH) (x : Int32) : rn d 83 56 [a0, a1, a2, a3, some (.int x), a5] [] h = rn d 83 58 [a0, a1, a2, a3, some (.int x), a5] [.int x] h := rP (i := (.iload 4)) rfl rfl
theorem e83_58 (d : Nat) (a0 a1 a2 a3 a4 a5 : Option Value) (s0 : Int32) (h : MH)  : rn d 83 58 [a0, a1, a2, a3, a4, a5] [.int s0] h = some (some (.int s0), h) := rIret rfl rfl
-- 84: FlowEquationsModel.findNeeds()V
theorem e84_0 (d : Nat) (a0 a1 a2 a3 : Option Value) (h : MH)  : rn d 84 0 [a0, a1, a2, a3] [] h = rn d 84 1 [a0, a1, a2, a3] [.int 0] h := rP (i := (.iconst 0)) rfl rfl
theorem e84_1 (d : Nat) (a0 a1 a2 a3 : Option Value) (s0 : Int32) (h : MH)  : rn d 84 1 [a0, a1, a2, a3] [.int s0] h = rn d 84 2 [a0, some (.int s0), a2, a3] [] h := rP (i := (.istore_n 1)) rfl rfl
theorem e84_2 (d : Nat) (a0 a2 a3 : Option Value) (h : MH) (x : Int32) : rn d 84 2 [a0, some (.int x), a2, a3] [] h = rn d 84 3 [a0, some (.int x), a2, a3] [.int x] h := rP (i := (.iload_n 1)) rfl rfl
theorem e84_3 (d : Nat) (a0 a1 a2 a3 : Option Value) (s0 : Int32) (h : MH)  : rn d 84 3 [a0, a1, a2, a3] [.int s0] h = rn d 84 5 [a0, a1, a2, a3] [.int 8, .int s0] h := rP (i := (.bipush 8)) rfl rfl
theorem e84_5 (d : Nat) (a0 a1 a2 a3 : Option Value) (s0 s1 : Int32) (h : MH)  : rn d 84 5 [a0, a1, a2, a3] [.int s0, .int s1] h = if s1 < s0 then rn d 84 8 [a0, a1, a2, a3] [] h else rn d 84 129 [a0, a1, a2, a3] [] h := rGe2 (off := 124) 129 rfl rfl
theorem e84_8 (d : Nat) (a0 a1 a2 a3 : Option Value) (h : MH)  : rn d 84 8 [a0, a1, a2, a3] [] h = rn d 84 9 [a0, a1, a2, a3] [.int 0] h := rP (i := (.iconst 0)) rfl rfl
theorem e84_9 (d : Nat) (a0 a1 a2 a3 : Option Value) (s0 : Int32) (h : MH)  : rn d 84 9 [a0, a1, a2, a3] [.int s0] h = rn d 84 10 [a0, a1, some (.int s0), a3] [] h := rP (i := (.istore_n 2)) rfl rfl
theorem e84_10 (d : Nat) (a0 a1 a3 : Option Value) (h : MH) (x : Int32) : rn d 84 10 [a0, a1, some (.int x), a3] [] h = rn d 84 11 [a0, a1, some (.int x), a3] [.int x] h := rP (i := (.iload_n 2)) rfl rfl
theorem e84_11 (d : Nat) (a0 a1 a2 a3 : Option Value) (s0 : Int32) (h : MH)  : rn d 84 11 [a0, a1, a2, a3] [.int s0] h = rn d 84 13 [a0, a1, a2, a3] [.int 8, .int s0] h := rP (i := (.bipush 8)) rfl rfl
theorem e84_13 (d : Nat) (a0 a1 a2 a3 : Option Value) (s0 s1 : Int32) (h : MH)  : rn d 84 13 [a0, a1, a2, a3] [.int s0, .int s1] h = if s1 < s0 then rn d 84 16 [a0, a1, a2, a3] [] h else rn d 84 57 [a0, a1, a2, a3] [] h := rGe2 (off := 44) 57 rfl rfl
theorem e84_16 (d : Nat) (a1 a2 a3 : Option Value) (h : MH) (x : Nat) : rn d 84 16 [some (.ref x), a1, a2, a3] [] h = rn d 84 17 [some (.ref x), a1, a2, a3] [.ref x] h := rP (i := (.aload_n 0)) rfl rfl
theorem e84_17 (d : Nat) (a0 a1 a2 a3 : Option Value) (s0 : Nat) (h : MH)  : rn d 84 17 [a0, a1, a2, a3] [.ref s0] h = (fgetv h s0 5 19).bind (fun v => rn d 84 20 [a0, a1, a2, a3] [v] h) := rGet (idx := 57) rfl rfl
theorem e84_20 (d : Nat) (a0 a2 a3 : Option Value) (s0 : Nat) (h : MH) (x : Int32) : rn d 84 20 [a0, some (.int x), a2, a3] [.ref s0] h = rn d 84 21 [a0, some (.int x), a2, a3] [.int x, .ref s0] h := rP (i := (.iload_n 1)) rfl rfl
theorem e84_21 (d : Nat) (a0 a1 a2 a3 : Option Value) (s0 : Int32) (s1 : Nat) (h : MH)  : rn d 84 21 [a0, a1, a2, a3] [.int s0, .ref s1] h = rn d 84 23 [a0, a1, a2, a3] [.int 8, .int s0, .ref s1] h := rP (i := (.bipush 8)) rfl rfl
theorem e84_23 (d : Nat) (a0 a1 a2 a3 : Option Value) (s0 s1 : Int32) (s2 : Nat) (h : MH)  : rn d 84 23 [a0, a1, a2, a3] [.int s0, .int s1, .ref s2] h = rn d 84 24 [a0, a1, a2, a3] [.int (s1 * s0), .ref s2] h := rP (i := (.imul)) rfl rfl
theorem e84_24 (d : Nat) (a0 a1 a3 : Option Value) (s0 : Int32) (s1 : Nat) (h : MH) (x : Int32) : rn d 84 24 [a0, a1, some (.int x), a3] [.int s0, .ref s1] h = rn d 84 25 [a0, a1, some (.int x), a3] [.int x, .int s0, .ref s1] h := rP (i := (.iload_n 2)) rfl rfl
theorem e84_25 (d : Nat) (a0 a1 a2 a3 : Option Value) (s0 s1 : Int32) (s2 : Nat) (h : MH)  : rn d 84 25 [a0, a1, a2, a3] [.int s0, .int s1, .ref s2] h = rn d 84 26 [a0, a1, a2, a3] [.int (s1 + s0), .ref s2] h := rP (i := (.iadd)) rfl rfl
theorem e84_26 (d : Nat) (a1 a2 a3 : Option Value) (s0 : Int32) (s1 : Nat) (h : MH) (x : Nat) : rn d 84 26 [some (.ref x), a1, a2, a3] [.int s0, .ref s1] h = rn d 84 27 [some (.ref x), a1, a2, a3] [.ref x, .int s0, .ref s1] h := rP (i := (.aload_n 0)) rfl rfl
theorem e84_27 (d : Nat) (a0 a1 a2 a3 : Option Value) (s1 : Int32) (s0 s2 : Nat) (h : MH)  : rn d 84 27 [a0, a1, a2, a3] [.ref s0, .int s1, .ref s2] h = (fgetv h s0 5 5).bind (fun v => rn d 84 30 [a0, a1, a2, a3] [v, .int s1, .ref s2] h) := rGet (idx := 20) rfl rfl
theorem e84_30 (d : Nat) (a0 a2 a3 : Option Value) (s1 : Int32) (s0 s2 : Nat) (h : MH) (x : Int32) : rn d 84 30 [a0, some (.int x), a2, a3] [.ref s0, .int s1, .ref s2] h = rn d 84 31 [a0, some (.int x), a2, a3] [.int x, .ref s0, .int s1, .ref s2] h := rP (i := (.iload_n 1)) rfl rfl
theorem e84_31 (d : Nat) (a0 a1 a2 a3 : Option Value) (s0 s2 : Int32) (s1 s3 : Nat) (h : MH)  : rn d 84 31 [a0, a1, a2, a3] [.int s0, .ref s1, .int s2, .ref s3] h = (ageti h 0 s1 s0).bind (fun v => rn d 84 32 [a0, a1, a2, a3] [.int v, .int s2, .ref s3] h) := rIald rfl
theorem e84_32 (d : Nat) (a0 a1 a2 a3 : Option Value) (s0 s1 : Int32) (s2 : Nat) (h : MH)  : rn d 84 32 [a0, a1, a2, a3] [.int s0, .int s1, .ref s2] h = if 0 < s0 then rn d 84 35 [a0, a1, a2, a3] [.int s1, .ref s2] h else rn d 84 49 [a0, a1, a2, a3] [.int s1, .ref s2] h := rLe1 (off := 17) 49 rfl rfl
theorem e84_35 (d : Nat) (a1 a2 a3 : Option Value) (s0 : Int32) (s1 : Nat) (h : MH) (x : Nat) : rn d 84 35 [some (.ref x), a1, a2, a3] [.int s0, .ref s1] h = rn d 84 36 [some (.ref x), a1, a2, a3] [.ref x, .int s0, .ref s1] h := rP (i := (.aload_n 0)) rfl rfl
theorem e84_36 (d : Nat) (a0 a1 a2 a3 : Option Value) (s1 : Int32) (s0 s2 : Nat) (h : MH)  : rn d 84 36 [a0, a1, a2, a3] [.ref s0, .int s1, .ref s2] h = (fgetv h s0 5 13).bind (fun v => rn d 84 39 [a0, a1, a2, a3] [v, .int s1, .ref s2] h) := rGet (idx := 45) rfl rfl
theorem e84_39 (d : Nat) (a0 a2 a3 : Option Value) (s1 : Int32) (s0 s2 : Nat) (h : MH) (x : Int32) : rn d 84 39 [a0, some (.int x), a2, a3] [.ref s0, .int s1, .ref s2] h = rn d 84 40 [a0, some (.int x), a2, a3] [.int x, .ref s0, .int s1, .ref s2] h := rP (i := (.iload_n 1)) rfl rfl
theorem e84_40 (d : Nat) (a0 a1 a2 a3 : Option Value) (s0 s2 : Int32) (s1 s3 : Nat) (h : MH)  : rn d 84 40 [a0, a1, a2, a3] [.int s0, .ref s1, .int s2, .ref s3] h = (ageti h 0 s1 s0).bind (fun v => rn d 84 41 [a0, a1, a2, a3] [.int v, .int s2, .ref s3] h) := rIald rfl
theorem e84_41 (d : Nat) (a0 a1 a3 : Option Value) (s0 s1 : Int32) (s2 : Nat) (h : MH) (x : Int32) : rn d 84 41 [a0, a1, some (.int x), a3] [.int s0, .int s1, .ref s2] h = rn d 84 42 [a0, a1, some (.int x), a3] [.int x, .int s0, .int s1, .ref s2] h := rP (i := (.iload_n 2)) rfl rfl
theorem e84_42 (d : Nat) (a0 a1 a2 a3 : Option Value) (s0 s1 s2 : Int32) (s3 : Nat) (h : MH)  : rn d 84 42 [a0, a1, a2, a3] [.int s0, .int s1, .int s2, .ref s3] h = if s1 = s0 then rn d 84 45 [a0, a1, a2, a3] [.int s2, .ref s3] h else rn d 84 49 [a0, a1, a2, a3] [.int s2, .ref s3] h := rNe2 (off := 7) 49 rfl rfl
theorem e84_45 (d : Nat) (a0 a1 a2 a3 : Option Value) (s0 : Int32) (s1 : Nat) (h : MH)  : rn d 84 45 [a0, a1, a2, a3] [.int s0, .ref s1] h = rn d 84 46 [a0, a1, a2, a3] [.int 1, .int s0, .ref s1] h := rP (i := (.iconst 1)) rfl rfl
theorem e84_46 (d : Nat) (a0 a1 a2 a3 : Option Value) (s0 s1 : Int32) (s2 : Nat) (h : MH)  : rn d 84 46 [a0, a1, a2, a3] [.int s0, .int s1, .ref s2] h = rn d 84 50 [a0, a1, a2, a3] [.int s0, .int s1, .ref s2] h := rP (i := (.goto 4)) rfl rfl
theorem e84_49 (d : Nat) (a0 a1 a2 a3 : Option Value) (s0 : Int32) (s1 : Nat) (h : MH)  : rn d 84 49 [a0, a1, a2, a3] [.int s0, .ref s1] h = rn d 84 50 [a0, a1, a2, a3] [.int 0, .int s0, .ref s1] h := rP (i := (.iconst 0)) rfl rfl
theorem e84_50 (d : Nat) (a0 a1 a2 a3 : Option Value) (s0 s1 : Int32) (s2 : Nat) (h : MH) (hz : s0 &&& 1 = s0) : rn d 84 50 [a0, a1, a2, a3] [.int s0, .int s1, .ref s2] h = (aputi h 1 s2 s1 s0).bind (fun h => rn d 84 51 [a0, a1, a2, a3] [] h) := rBast hz rfl
theorem e84_50q0 (d : Nat) (a0 a1 a2 a3 : Option Value) (s1 : Int32) (s2 : Nat) (h : MH) : rn d 84 50 [a0, a1, a2, a3] [.int 0, .int s1, .ref s2] h = (aputi h 1 s2 s1 0).bind (fun h => rn d 84 51 [a0, a1, a2, a3] [] h) := rBast rfl rfl
theorem e84_50q1 (d : Nat) (a0 a1 a2 a3 : Option Value) (s1 : Int32) (s2 : Nat) (h : MH) : rn d 84 50 [a0, a1, a2, a3] [.int 1, .int s1, .ref s2] h = (aputi h 1 s2 s1 1).bind (fun h => rn d 84 51 [a0, a1, a2, a3] [] h) := rBast rfl rfl
theorem e84_51 (d : Nat) (a0 a1 a3 : Option Value) (h : MH) (x : Int32) : rn d 84 51 [a0, a1, some (.int x), a3] [] h = rn d 84 54 [a0, a1, some (.int (x + 1)), a3] [] h := rP (i := (.iinc 2 1)) rfl rfl
theorem e84_54 (d : Nat) (a0 a1 a2 a3 : Option Value) (h : MH)  : rn d 84 54 [a0, a1, a2, a3] [] h = rn d 84 10 [a0, a1, a2, a3] [] h := rP (i := (.goto (-44))) rfl rfl
theorem e84_57 (d : Nat) (a0 a1 a2 a3 : Option Value) (h : MH)  : rn d 84 57 [a0, a1, a2, a3] [] h = rn d 84 58 [a0, a1, a2, a3] [.int 0] h := rP (i := (.iconst 0)) rfl rfl
theorem e84_58 (d : Nat) (a0 a1 a2 a3 : Option Value) (s0 : Int32) (h : MH)  : rn d 84 58 [a0, a1, a2, a3] [.int s0] h = rn d 84 59 [a0, a1, some (.int s0), a3] [] h := rP (i := (.istore_n 2)) rfl rfl
theorem e84_59 (d : Nat) (a0 a1 a3 : Option Value) (h : MH) (x : Int32) : rn d 84 59 [a0, a1, some (.int x), a3] [] h = rn d 84 60 [a0, a1, some (.int x), a3] [.int x] h := rP (i := (.iload_n 2)) rfl rfl
theorem e84_60 (d : Nat) (a1 a2 a3 : Option Value) (s0 : Int32) (h : MH) (x : Nat) : rn d 84 60 [some (.ref x), a1, a2, a3] [.int s0] h = rn d 84 61 [some (.ref x), a1, a2, a3] [.ref x, .int s0] h := rP (i := (.aload_n 0)) rfl rfl
theorem e84_61 (d : Nat) (a0 a1 a2 a3 : Option Value) (s1 : Int32) (s0 : Nat) (h : MH)  : rn d 84 61 [a0, a1, a2, a3] [.ref s0, .int s1] h = (fgetv h s0 5 5).bind (fun v => rn d 84 64 [a0, a1, a2, a3] [v, .int s1] h) := rGet (idx := 20) rfl rfl
theorem e84_64 (d : Nat) (a0 a2 a3 : Option Value) (s1 : Int32) (s0 : Nat) (h : MH) (x : Int32) : rn d 84 64 [a0, some (.int x), a2, a3] [.ref s0, .int s1] h = rn d 84 65 [a0, some (.int x), a2, a3] [.int x, .ref s0, .int s1] h := rP (i := (.iload_n 1)) rfl rfl
theorem e84_65 (d : Nat) (a0 a1 a2 a3 : Option Value) (s0 s2 : Int32) (s1 : Nat) (h : MH)  : rn d 84 65 [a0, a1, a2, a3] [.int s0, .ref s1, .int s2] h = (ageti h 0 s1 s0).bind (fun v => rn d 84 66 [a0, a1, a2, a3] [.int v, .int s2] h) := rIald rfl
theorem e84_66 (d : Nat) (a0 a1 a2 a3 : Option Value) (s0 s1 : Int32) (h : MH)  : rn d 84 66 [a0, a1, a2, a3] [.int s0, .int s1] h = if s1 < s0 then rn d 84 69 [a0, a1, a2, a3] [] h else rn d 84 123 [a0, a1, a2, a3] [] h := rGe2 (off := 57) 123 rfl rfl
theorem e84_69 (d : Nat) (a1 a2 a3 : Option Value) (h : MH) (x : Nat) : rn d 84 69 [some (.ref x), a1, a2, a3] [] h = rn d 84 70 [some (.ref x), a1, a2, a3] [.ref x] h := rP (i := (.aload_n 0)) rfl rfl
theorem e84_70 (d : Nat) (a0 a1 a2 a3 : Option Value) (s0 : Nat) (h : MH)  : rn d 84 70 [a0, a1, a2, a3] [.ref s0] h = (fgetv h s0 5 4).bind (fun v => rn d 84 73 [a0, a1, a2, a3] [v] h) := rGet (idx := 17) rfl rfl
theorem e84_73 (d : Nat) (a0 a2 a3 : Option Value) (s0 : Nat) (h : MH) (x : Int32) : rn d 84 73 [a0, some (.int x), a2, a3] [.ref s0] h = rn d 84 74 [a0, some (.int x), a2, a3] [.int x, .ref s0] h := rP (i := (.iload_n 1)) rfl rfl
theorem e84_74 (d : Nat) (a0 a1 a2 a3 : Option Value) (s0 : Int32) (s1 : Nat) (h : MH)  : rn d 84 74 [a0, a1, a2, a3] [.int s0, .ref s1] h = rn d 84 76 [a0, a1, a2, a3] [.int 24, .int s0, .ref s1] h := rP (i := (.bipush 24)) rfl rfl
theorem e84_76 (d : Nat) (a0 a1 a2 a3 : Option Value) (s0 s1 : Int32) (s2 : Nat) (h : MH)  : rn d 84 76 [a0, a1, a2, a3] [.int s0, .int s1, .ref s2] h = rn d 84 77 [a0, a1, a2, a3] [.int (s1 * s0), .ref s2] h := rP (i := (.imul)) rfl rfl
theorem e84_77 (d : Nat) (a0 a1 a3 : Option Value) (s0 : Int32) (s1 : Nat) (h : MH) (x : Int32) : rn d 84 77 [a0, a1, some (.int x), a3] [.int s0, .ref s1] h = rn d 84 78 [a0, a1, some (.int x), a3] [.int x, .int s0, .ref s1] h := rP (i := (.iload_n 2)) rfl rfl
theorem e84_78 (d : Nat) (a0 a1 a2 a3 : Option Value) (s0 s1 : Int32) (s2 : Nat) (h : MH)  : rn d 84 78 [a0, a1, a2, a3] [.int s0, .int s1, .ref s2] h = rn d 84 79 [a0, a1, a2, a3] [.int (s1 + s0), .ref s2] h := rP (i := (.iadd)) rfl rfl
theorem e84_79 (d : Nat) (a0 a1 a2 a3 : Option Value) (s0 : Int32) (s1 : Nat) (h : MH)  : rn d 84 79 [a0, a1, a2, a3] [.int s0, .ref s1] h = (ageti h 0 s1 s0).bind (fun v => rn d 84 80 [a0, a1, a2, a3] [.int v] h) := rIald rfl
theorem e84_80 (d : Nat) (a0 a1 a2 a3 : Option Value) (s0 : Int32) (h : MH)  : rn d 84 80 [a0, a1, a2, a3] [.int s0] h = rn d 84 81 [a0, a1, a2, some (.int s0)] [] h := rP (i := (.istore_n 3)) rfl rfl
theorem e84_81 (d : Nat) (a0 a1 a2 : Option Value) (h : MH) (x : Int32) : rn d 84 81 [a0, a1, a2, some (.int x)] [] h = rn d 84 82 [a0, a1, a2, some (.int x)] [.int x] h := rP (i := (.iload_n 3)) rfl rfl
theorem e84_82 (d : Nat) (a0 a1 a2 a3 : Option Value) (s0 : Int32) (h : MH)  : rn (d + 1) 84 82 [a0, a1, a2, a3] [.int s0] h = (rn d 68 0 [some (.int s0)] [] h).bind (fun R => rn (d + 1) 84 85 [a0, a1, a2, a3] (R.1.toList ++ []) R.2) := rInv (i := (.invokestatic 76)) (n := 1) (tl := [457, 458, 58]) rfl rfl rfl rfl (by decide) (Nat.le_of_ble_eq_true rfl) (Nat.le_of_ble_eq_true rfl) (Nat.le_of_ble_eq_true rfl) rfl
theorem e84_85 (d : Nat) (a0 a1 a2 a3 : Option Value) (s0 : Int32) (h : MH)  : rn d 84 85 [a0, a1, a2, a3] [.int s0] h = if s0 = 0 then rn d 84 117 [a0, a1, a2, a3] [] h else rn d 84 88 [a0, a1, a2, a3] [] h := rEq1 (off := 32) 117 rfl rfl
theorem e84_88 (d : Nat) (a1 a2 a3 : Option Value) (h : MH) (x : Nat) : rn d 84 88 [some (.ref x), a1, a2, a3] [] h = rn d 84 89 [some (.ref x), a1, a2, a3] [.ref x] h := rP (i := (.aload_n 0)) rfl rfl
theorem e84_89 (d : Nat) (a0 a1 a2 a3 : Option Value) (s0 : Nat) (h : MH)  : rn d 84 89 [a0, a1, a2, a3] [.ref s0] h = (fgetv h s0 5 8).bind (fun v => rn d 84 92 [a0, a1, a2, a3] [v] h) := rGet (idx := 29) rfl rfl
theorem e84_92 (d : Nat) (a0 a2 a3 : Option Value) (s0 : Nat) (h : MH) (x : Int32) : rn d 84 92 [a0, some (.int x), a2, a3] [.ref s0] h = rn d 84 93 [a0, some (.int x), a2, a3] [.int x, .ref s0] h := rP (i := (.iload_n 1)) rfl rfl
theorem e84_93 (d : Nat) (a0 a1 a2 a3 : Option Value) (s0 : Int32) (s1 : Nat) (h : MH)  : rn d 84 93 [a0, a1, a2, a3] [.int s0, .ref s1] h = rn d 84 95 [a0, a1, a2, a3] [.int 24, .int s0, .ref s1] h := rP (i := (.bipush 24)) rfl rfl
theorem e84_95 (d : Nat) (a0 a1 a2 a3 : Option Value) (s0 s1 : Int32) (s2 : Nat) (h : MH)  : rn d 84 95 [a0, a1, a2, a3] [.int s0, .int s1, .ref s2] h = rn d 84 96 [a0, a1, a2, a3] [.int (s1 * s0), .ref s2] h := rP (i := (.imul)) rfl rfl
theorem e84_96 (d : Nat) (a0 a1 a3 : Option Value) (s0 : Int32) (s1 : Nat) (h : MH) (x : Int32) : rn d 84 96 [a0, a1, some (.int x), a3] [.int s0, .ref s1] h = rn d 84 97 [a0, a1, some (.int x), a3] [.int x, .int s0, .ref s1] h := rP (i := (.iload_n 2)) rfl rfl
theorem e84_97 (d : Nat) (a0 a1 a2 a3 : Option Value) (s0 s1 : Int32) (s2 : Nat) (h : MH)  : rn d 84 97 [a0, a1, a2, a3] [.int s0, .int s1, .ref s2] h = rn d 84 98 [a0, a1, a2, a3] [.int (s1 + s0), .ref s2] h := rP (i := (.iadd)) rfl rfl
theorem e84_98 (d : Nat) (a0 a1 a2 a3 : Option Value) (s0 : Int32) (s1 : Nat) (h : MH)  : rn d 84 98 [a0, a1, a2, a3] [.int s0, .ref s1] h = (ageti h 0 s1 s0).bind (fun v => rn d 84 99 [a0, a1, a2, a3] [.int v] h) := rIald rfl
theorem e84_99 (d : Nat) (a0 a1 a2 a3 : Option Value) (s0 : Int32) (h : MH)  : rn d 84 99 [a0, a1, a2, a3] [.int s0] h = if s0 = 0 then rn d 84 102 [a0, a1, a2, a3] [] h else rn d 84 117 [a0, a1, a2, a3] [] h := rNe1 (off := 18) 117 rfl rfl
theorem e84_102 (d : Nat) (a1 a2 a3 : Option Value) (h : MH) (x : Nat) : rn d 84 102 [some (.ref x), a1, a2, a3] [] h = rn d 84 103 [some (.ref x), a1, a2, a3] [.ref x] h := rP (i := (.aload_n 0)) rfl rfl
theorem e84_103 (d : Nat) (a0 a1 a2 a3 : Option Value) (s0 : Nat) (h : MH)  : rn d 84 103 [a0, a1, a2, a3] [.ref s0] h = (fgetv h s0 5 19).bind (fun v => rn d 84 106 [a0, a1, a2, a3] [v] h) := rGet (idx := 57) rfl rfl
theorem e84_106 (d : Nat) (a0 a2 a3 : Option Value) (s0 : Nat) (h : MH) (x : Int32) : rn d 84 106 [a0, some (.int x), a2, a3] [.ref s0] h = rn d 84 107 [a0, some (.int x), a2, a3] [.int x, .ref s0] h := rP (i := (.iload_n 1)) rfl rfl
theorem e84_107 (d : Nat) (a0 a1 a2 a3 : Option Value) (s0 : Int32) (s1 : Nat) (h : MH)  : rn d 84 107 [a0, a1, a2, a3] [.int s0, .ref s1] h = rn d 84 109 [a0, a1, a2, a3] [.int 8, .int s0, .ref s1] h := rP (i := (.bipush 8)) rfl rfl
theorem e84_109 (d : Nat) (a0 a1 a2 a3 : Option Value) (s0 s1 : Int32) (s2 : Nat) (h : MH)  : rn d 84 109 [a0, a1, a2, a3] [.int s0, .int s1, .ref s2] h = rn d 84 110 [a0, a1, a2, a3] [.int (s1 * s0), .ref s2] h := rP (i := (.imul)) rfl rfl
theorem e84_110 (d : Nat) (a0 a1 a2 : Option Value) (s0 : Int32) (s1 : Nat) (h : MH) (x : Int32) : rn d 84 110 [a0, a1, a2, some (.int x)] [.int s0, .ref s1] h = rn d 84 111 [a0, a1, a2, some (.int x)] [.int x, .int s0, .ref s1] h := rP (i := (.iload_n 3)) rfl rfl
theorem e84_111 (d : Nat) (a0 a1 a2 a3 : Option Value) (s0 s1 : Int32) (s2 : Nat) (h : MH)  : rn d 84 111 [a0, a1, a2, a3] [.int s0, .int s1, .ref s2] h = rn d 84 112 [a0, a1, a2, a3] [.int (s1 + s0), .ref s2] h := rP (i := (.iadd)) rfl rfl
theorem e84_112 (d : Nat) (a0 a1 a2 a3 : Option Value) (s0 : Int32) (s1 : Nat) (h : MH)  : rn d 84 112 [a0, a1, a2, a3] [.int s0, .ref s1] h = rn d 84 114 [a0, a1, a2, a3] [.int 97, .int s0, .ref s1] h := rP (i := (.bipush 97)) rfl rfl
theorem e84_114 (d : Nat) (a0 a1 a2 a3 : Option Value) (s0 s1 : Int32) (s2 : Nat) (h : MH)  : rn d 84 114 [a0, a1, a2, a3] [.int s0, .int s1, .ref s2] h = rn d 84 115 [a0, a1, a2, a3] [.int (s1 - s0), .ref s2] h := rP (i := (.isub)) rfl rfl
theorem e84_115 (d : Nat) (a0 a1 a2 a3 : Option Value) (s0 : Int32) (s1 : Nat) (h : MH)  : rn d 84 115 [a0, a1, a2, a3] [.int s0, .ref s1] h = rn d 84 116 [a0, a1, a2, a3] [.int 1, .int s0, .ref s1] h := rP (i := (.iconst 1)) rfl rfl
theorem e84_116 (d : Nat) (a0 a1 a2 a3 : Option Value) (s0 s1 : Int32) (s2 : Nat) (h : MH) (hz : s0 &&& 1 = s0) : rn d 84 116 [a0, a1, a2, a3] [.int s0, .int s1, .ref s2] h = (aputi h 1 s2 s1 s0).bind (fun h => rn d 84 117 [a0, a1, a2, a3] [] h) := rBast hz rfl
theorem e84_116q0 (d : Nat) (a0 a1 a2 a3 : Option Value) (s1 : Int32) (s2 : Nat) (h : MH) : rn d 84 116 [a0, a1, a2, a3] [.int 0, .int s1, .ref s2] h = (aputi h 1 s2 s1 0).bind (fun h => rn d 84 117 [a0, a1, a2, a3] [] h) := rBast rfl rfl
theorem e84_116q1 (d : Nat) (a0 a1 a2 a3 : Option Value) (s1 : Int32) (s2 : Nat) (h : MH) : rn d 84 116 [a0, a1, a2, a3] [.int 1, .int s1, .ref s2] h = (aputi h 1 s2 s1 1).bind (fun h => rn d 84 117 [a0, a1, a2, a3] [] h) := rBast rfl rfl
theorem e84_117 (d : Nat) (a0 a1 a3 : Option Value) (h : MH) (x : Int32) : rn d 84 117 [a0, a1, some (.int x), a3] [] h = rn d 84 120 [a0, a1, some (.int (x + 1)), a3] [] h := rP (i := (.iinc 2 1)) rfl rfl
theorem e84_120 (d : Nat) (a0 a1 a2 a3 : Option Value) (h : MH)  : rn d 84 120 [a0, a1, a2, a3] [] h = rn d 84 59 [a0, a1, a2, a3] [] h := rP (i := (.goto (-61))) rfl rfl
theorem e84_123 (d : Nat) (a0 a2 a3 : Option Value) (h : MH) (x : Int32) : rn d 84 123 [a0, some (.int x), a2, a3] [] h = rn d 84 126 [a0, some (.int (x + 1)), a2, a3] [] h := rP (i := (.iinc 1 1)) rfl rfl
theorem e84_126 (d : Nat) (a0 a1 a2 a3 : Option Value) (h : MH)  : rn d 84 126 [a0, a1, a2, a3] [] h = rn d 84 2 [a0, a1, a2, a3] [] h := rP (i := (.goto (-124))) rfl rfl
theorem e84_129 (d : Nat) (a0 a1 a2 a3 : Option Value) (h : MH)  : rn d 84 129 [a0, a1, a2, a3] [] h = some (none, h) := rVret rfl rfl
-- 85: FlowEquationsModel.needsItself(I)Z
theorem e85_0 (d : Nat) (a0 a1 a2 a3 a4 : Option Value) (h : MH)  : rn d 85 0 [a0, a1, a2, a3, a4] [] h = rn d 85 1 [a0, a1, a2, a3, a4] [.int 0] h := rP (i := (.iconst 0)) rfl rfl
theorem e85_1 (d : Nat) (a0 a1 a2 a3 a4 : Option Value) (s0 : Int32) (h : MH)  : rn d 85 1 [a0, a1, a2, a3, a4] [.int s0] h = rn d 85 2 [a0, a1, some (.int s0), a3, a4] [] h := rP (i := (.istore_n 2)) rfl rfl
theorem e85_2 (d : Nat) (a0 a1 a2 a3 a4 : Option Value) (h : MH)  : rn d 85 2 [a0, a1, a2, a3, a4] [] h = rn d 85 3 [a0, a1, a2, a3, a4] [.int 0] h := rP (i := (.iconst 0)) rfl rfl
theorem e85_3 (d : Nat) (a0 a1 a2 a3 a4 : Option Value) (s0 : Int32) (h : MH)  : rn d 85 3 [a0, a1, a2, a3, a4] [.int s0] h = rn d 85 4 [a0, a1, a2, some (.int s0), a4] [] h := rP (i := (.istore_n 3)) rfl rfl
theorem e85_4 (d : Nat) (a0 a1 a2 a4 : Option Value) (h : MH) (x : Int32) : rn d 85 4 [a0, a1, a2, some (.int x), a4] [] h = rn d 85 5 [a0, a1, a2, some (.int x), a4] [.int x] h := rP (i := (.iload_n 3)) rfl rfl
theorem e85_5 (d : Nat) (a0 a1 a2 a3 a4 : Option Value) (s0 : Int32) (h : MH)  : rn d 85 5 [a0, a1, a2, a3, a4] [.int s0] h = rn d 85 7 [a0, a1, a2, a3, a4] [.int 8, .int s0] h := rP (i := (.bipush 8)) rfl rfl
theorem e85_7 (d : Nat) (a0 a1 a2 a3 a4 : Option Value) (s0 s1 : Int32) (h : MH)  : rn d 85 7 [a0, a1, a2, a3, a4] [.int s0, .int s1] h = if s1 < s0 then rn d 85 10 [a0, a1, a2, a3, a4] [] h else rn d 85 36 [a0, a1, a2, a3, a4] [] h := rGe2 (off := 29) 36 rfl rfl
theorem e85_10 (d : Nat) (a1 a2 a3 a4 : Option Value) (h : MH) (x : Nat) : rn d 85 10 [some (.ref x), a1, a2, a3, a4] [] h = rn d 85 11 [some (.ref x), a1, a2, a3, a4] [.ref x] h := rP (i := (.aload_n 0)) rfl rfl
theorem e85_11 (d : Nat) (a0 a1 a2 a3 a4 : Option Value) (s0 : Nat) (h : MH)  : rn d 85 11 [a0, a1, a2, a3, a4] [.ref s0] h = (fgetv h s0 5 19).bind (fun v => rn d 85 14 [a0, a1, a2, a3, a4] [v] h) := rGet (idx := 57) rfl rfl
theorem e85_14 (d : Nat) (a0 a2 a3 a4 : Option Value) (s0 : Nat) (h : MH) (x : Int32) : rn d 85 14 [a0, some (.int x), a2, a3, a4] [.ref s0] h = rn d 85 15 [a0, some (.int x), a2, a3, a4] [.int x, .ref s0] h := rP (i := (.iload_n 1)) rfl rfl
theorem e85_15 (d : Nat) (a0 a1 a2 a3 a4 : Option Value) (s0 : Int32) (s1 : Nat) (h : MH)  : rn d 85 15 [a0, a1, a2, a3, a4] [.int s0, .ref s1] h = rn d 85 17 [a0, a1, a2, a3, a4] [.int 8, .int s0, .ref s1] h := rP (i := (.bipush 8)) rfl rfl
theorem e85_17 (d : Nat) (a0 a1 a2 a3 a4 : Option Value) (s0 s1 : Int32) (s2 : Nat) (h : MH)  : rn d 85 17 [a0, a1, a2, a3, a4] [.int s0, .int s1, .ref s2] h = rn d 85 18 [a0, a1, a2, a3, a4] [.int (s1 * s0), .ref s2] h := rP (i := (.imul)) rfl rfl
theorem e85_18 (d : Nat) (a0 a1 a2 a4 : Option Value) (s0 : Int32) (s1 : Nat) (h : MH) (x : Int32) : rn d 85 18 [a0, a1, a2, some (.int x), a4] [.int s0, .ref s1] h = rn d 85 19 [a0, a1, a2, some (.int x), a4] [.int x, .int s0, .ref s1] h := rP (i := (.iload_n 3)) rfl rfl
theorem e85_19 (d : Nat) (a0 a1 a2 a3 a4 : Option Value) (s0 s1 : Int32) (s2 : Nat) (h : MH)  : rn d 85 19 [a0, a1, a2, a3, a4] [.int s0, .int s1, .ref s2] h = rn d 85 20 [a0, a1, a2, a3, a4] [.int (s1 + s0), .ref s2] h := rP (i := (.iadd)) rfl rfl
theorem e85_20 (d : Nat) (a0 a1 a2 a3 a4 : Option Value) (s0 : Int32) (s1 : Nat) (h : MH)  : rn d 85 20 [a0, a1, a2, a3, a4] [.int s0, .ref s1] h = (ageti h 1 s1 s0).bind (fun v => rn d 85 21 [a0, a1, a2, a3, a4] [.int v] h) := rBald rfl
theorem e85_21 (d : Nat) (a0 a1 a2 a3 a4 : Option Value) (s0 : Int32) (h : MH)  : rn d 85 21 [a0, a1, a2, a3, a4] [.int s0] h = if s0 = 0 then rn d 85 30 [a0, a1, a2, a3, a4] [] h else rn d 85 24 [a0, a1, a2, a3, a4] [] h := rEq1 (off := 9) 30 rfl rfl
theorem e85_24 (d : Nat) (a0 a1 a3 a4 : Option Value) (h : MH) (x : Int32) : rn d 85 24 [a0, a1, some (.int x), a3, a4] [] h = rn d 85 25 [a0, a1, some (.int x), a3, a4] [.int x] h := rP (i := (.iload_n 2)) rfl rfl
theorem e85_25 (d : Nat) (a0 a1 a2 a3 a4 : Option Value) (s0 : Int32) (h : MH)  : rn d 85 25 [a0, a1, a2, a3, a4] [.int s0] h = rn d 85 26 [a0, a1, a2, a3, a4] [.int 1, .int s0] h := rP (i := (.iconst 1)) rfl rfl
theorem e85_26 (d : Nat) (a0 a1 a2 a4 : Option Value) (s0 s1 : Int32) (h : MH) (x : Int32) : rn d 85 26 [a0, a1, a2, some (.int x), a4] [.int s0, .int s1] h = rn d 85 27 [a0, a1, a2, some (.int x), a4] [.int x, .int s0, .int s1] h := rP (i := (.iload_n 3)) rfl rfl
theorem e85_27 (d : Nat) (a0 a1 a2 a3 a4 : Option Value) (s0 s1 s2 : Int32) (h : MH)  : rn d 85 27 [a0, a1, a2, a3, a4] [.int s0, .int s1, .int s2] h = rn d 85 28 [a0, a1, a2, a3, a4] [.int (s1 <<< (s0 &&& 31)), .int s2] h := rP (i := (.ishl)) rfl rfl
theorem e85_28 (d : Nat) (a0 a1 a2 a3 a4 : Option Value) (s0 s1 : Int32) (h : MH)  : rn d 85 28 [a0, a1, a2, a3, a4] [.int s0, .int s1] h = rn d 85 29 [a0, a1, a2, a3, a4] [.int (s1 ||| s0)] h := rP (i := (.ior)) rfl rfl
theorem e85_29 (d : Nat) (a0 a1 a2 a3 a4 : Option Value) (s0 : Int32) (h : MH)  : rn d 85 29 [a0, a1, a2, a3, a4] [.int s0] h = rn d 85 30 [a0, a1, some (.int s0), a3, a4] [] h := rP (i := (.istore_n 2)) rfl rfl
theorem e85_30 (d : Nat) (a0 a1 a2 a4 : Option Value) (h : MH) (x : Int32) : rn d 85 30 [a0, a1, a2, some (.int x), a4] [] h = rn d 85 33 [a0, a1, a2, some (.int (x + 1)), a4] [] h := rP (i := (.iinc 3 1)) rfl rfl
theorem e85_33 (d : Nat) (a0 a1 a2 a3 a4 : Option Value) (h : MH)  : rn d 85 33 [a0, a1, a2, a3, a4] [] h = rn d 85 4 [a0, a1, a2, a3, a4] [] h := rP (i := (.goto (-29))) rfl rfl
theorem e85_36 (d : Nat) (a0 a1 a2 a3 a4 : Option Value) (h : MH)  : rn d 85 36 [a0, a1, a2, a3, a4] [] h = rn d 85 37 [a0, a1, a2, a3, a4] [.int 0] h := rP (i := (.iconst 0)) rfl rfl
theorem e85_37 (d : Nat) (a0 a1 a2 a3 a4 : Option Value) (s0 : Int32) (h : MH)  : rn d 85 37 [a0, a1, a2, a3, a4] [.int s0] h = rn d 85 38 [a0, a1, a2, some (.int s0), a4] [] h := rP (i := (.istore_n 3)) rfl rfl
theorem e85_38 (d : Nat) (a0 a1 a2 a4 : Option Value) (h : MH) (x : Int32) : rn d 85 38 [a0, a1, a2, some (.int x), a4] [] h = rn d 85 39 [a0, a1, a2, some (.int x), a4] [.int x] h := rP (i := (.iload_n 3)) rfl rfl
theorem e85_39 (d : Nat) (a0 a1 a2 a3 a4 : Option Value) (s0 : Int32) (h : MH)  : rn d 85 39 [a0, a1, a2, a3, a4] [.int s0] h = rn d 85 41 [a0, a1, a2, a3, a4] [.int 8, .int s0] h := rP (i := (.bipush 8)) rfl rfl
theorem e85_41 (d : Nat) (a0 a1 a2 a3 a4 : Option Value) (s0 s1 : Int32) (h : MH)  : rn d 85 41 [a0, a1, a2, a3, a4] [.int s0, .int s1] h = if s1 < s0 then rn d 85 44 [a0, a1, a2, a3, a4] [] h else rn d 85 98 [a0, a1, a2, a3, a4] [] h := rGe2 (off := 57) 98 rfl rfl
theorem e85_44 (d : Nat) (a0 a1 a2 a3 a4 : Option Value) (h : MH)  : rn d 85 44 [a0, a1, a2, a3, a4] [] h = rn d 85 45 [a0, a1, a2, a3, a4] [.int 0] h := rP (i := (.iconst 0)) rfl rfl
theorem e85_45 (d : Nat) (a0 a1 a2 a3 a4 : Option Value) (s0 : Int32) (h : MH)  : rn d 85 45 [a0, a1, a2, a3, a4] [.int s0] h = rn d 85 47 [a0, a1, a2, a3, some (.int s0)] [] h := rP (i := (.istore 4)) rfl rfl
theorem e85_47 (d : Nat) (a0 a1 a2 a3 : Option Value) (h : MH) (x : Int32) : rn d 85 47 [a0, a1, a2, a3, some (.int x)] [] h = rn d 85 49 [a0, a1, a2, a3, some (.int x)] [.int x] h := rP (i := (.iload 4)) rfl rfl
theorem e85_49 (d : Nat) (a0 a1 a2 a3 a4 : Option Value) (s0 : Int32) (h : MH)  : rn d 85 49 [a0, a1, a2, a3, a4] [.int s0] h = rn d 85 51 [a0, a1, a2, a3, a4] [.int 64, .int s0] h := rP (i := (.bipush 64)) rfl rfl
theorem e85_51 (d : Nat) (a0 a1 a2 a3 a4 : Option Value) (s0 s1 : Int32) (h : MH)  : rn d 85 51 [a0, a1, a2, a3, a4] [.int s0, .int s1] h = if s1 < s0 then rn d 85 54 [a0, a1, a2, a3, a4] [] h else rn d 85 92 [a0, a1, a2, a3, a4] [] h := rGe2 (off := 41) 92 rfl rfl
theorem e85_54 (d : Nat) (a1 a2 a3 a4 : Option Value) (h : MH) (x : Nat) : rn d 85 54 [some (.ref x), a1, a2, a3, a4] [] h = rn d 85 55 [some (.ref x), a1, a2, a3, a4] [.ref x] h := rP (i := (.aload_n 0)) rfl rfl
theorem e85_55 (d : Nat) (a0 a1 a2 a3 a4 : Option Value) (s0 : Nat) (h : MH)  : rn d 85 55 [a0, a1, a2, a3, a4] [.ref s0] h = (fgetv h s0 5 19).bind (fun v => rn d 85 58 [a0, a1, a2, a3, a4] [v] h) := rGet (idx := 57) rfl rfl
theorem e85_58 (d : Nat) (a0 a1 a2 a3 : Option Value) (s0 : Nat) (h : MH) (x : Int32) : rn d 85 58 [a0, a1, a2, a3, some (.int x)] [.ref s0] h = rn d 85 60 [a0, a1, a2, a3, some (.int x)] [.int x, .ref s0] h := rP (i := (.iload 4)) rfl rfl
theorem e85_60 (d : Nat) (a0 a1 a2 a3 a4 : Option Value) (s0 : Int32) (s1 : Nat) (h : MH)  : rn d 85 60 [a0, a1, a2, a3, a4] [.int s0, .ref s1] h = (ageti h 1 s1 s0).bind (fun v => rn d 85 61 [a0, a1, a2, a3, a4] [.int v] h) := rBald rfl
theorem e85_61 (d : Nat) (a0 a1 a2 a3 a4 : Option Value) (s0 : Int32) (h : MH)  : rn d 85 61 [a0, a1, a2, a3, a4] [.int s0] h = if s0 = 0 then rn d 85 86 [a0, a1, a2, a3, a4] [] h else rn d 85 64 [a0, a1, a2, a3, a4] [] h := rEq1 (off := 25) 86 rfl rfl
theorem e85_64 (d : Nat) (a0 a1 a3 a4 : Option Value) (h : MH) (x : Int32) : rn d 85 64 [a0, a1, some (.int x), a3, a4] [] h = rn d 85 65 [a0, a1, some (.int x), a3, a4] [.int x] h := rP (i := (.iload_n 2)) rfl rfl
theorem e85_65 (d : Nat) (a0 a1 a2 a3 : Option Value) (s0 : Int32) (h : MH) (x : Int32) : rn d 85 65 [a0, a1, a2, a3, some (.int x)] [.int s0] h = rn d 85 67 [a0, a1, a2, a3, some (.int x)] [.int x, .int s0] h := rP (i := (.iload 4)) rfl rfl
theorem e85_67 (d : Nat) (a0 a1 a2 a3 a4 : Option Value) (s0 s1 : Int32) (h : MH)  : rn d 85 67 [a0, a1, a2, a3, a4] [.int s0, .int s1] h = rn d 85 69 [a0, a1, a2, a3, a4] [.int 8, .int s0, .int s1] h := rP (i := (.bipush 8)) rfl rfl
theorem e85_69 (d : Nat) (a0 a1 a2 a3 a4 : Option Value) (s0 s1 s2 : Int32) (h : MH) (hz : ¬ s0 = 0) : rn d 85 69 [a0, a1, a2, a3, a4] [.int s0, .int s1, .int s2] h = rn d 85 70 [a0, a1, a2, a3, a4] [.int (s1 / s0), .int s2] h := rP (i := (.idiv)) rfl (if_neg hz)
theorem e85_70 (d : Nat) (a0 a1 a2 a3 a4 : Option Value) (s0 s1 : Int32) (h : MH)  : rn d 85 70 [a0, a1, a2, a3, a4] [.int s0, .int s1] h = rn d 85 71 [a0, a1, a2, a3, a4] [.int (s1 >>> (s0 &&& 31))] h := rP (i := (.ishr)) rfl rfl
theorem e85_71 (d : Nat) (a0 a1 a2 a3 a4 : Option Value) (s0 : Int32) (h : MH)  : rn d 85 71 [a0, a1, a2, a3, a4] [.int s0] h = rn d 85 72 [a0, a1, a2, a3, a4] [.int 1, .int s0] h := rP (i := (.iconst 1)) rfl rfl
theorem e85_72 (d : Nat) (a0 a1 a2 a3 a4 : Option Value) (s0 s1 : Int32) (h : MH)  : rn d 85 72 [a0, a1, a2, a3, a4] [.int s0, .int s1] h = rn d 85 73 [a0, a1, a2, a3, a4] [.int (s1 &&& s0)] h := rP (i := (.iand)) rfl rfl
theorem e85_73 (d : Nat) (a0 a1 a2 a3 a4 : Option Value) (s0 : Int32) (h : MH)  : rn d 85 73 [a0, a1, a2, a3, a4] [.int s0] h = if s0 = 0 then rn d 85 86 [a0, a1, a2, a3, a4] [] h else rn d 85 76 [a0, a1, a2, a3, a4] [] h := rEq1 (off := 13) 86 rfl rfl
theorem e85_76 (d : Nat) (a0 a1 a3 a4 : Option Value) (h : MH) (x : Int32) : rn d 85 76 [a0, a1, some (.int x), a3, a4] [] h = rn d 85 77 [a0, a1, some (.int x), a3, a4] [.int x] h := rP (i := (.iload_n 2)) rfl rfl
theorem e85_77 (d : Nat) (a0 a1 a2 a3 a4 : Option Value) (s0 : Int32) (h : MH)  : rn d 85 77 [a0, a1, a2, a3, a4] [.int s0] h = rn d 85 78 [a0, a1, a2, a3, a4] [.int 1, .int s0] h := rP (i := (.iconst 1)) rfl rfl
theorem e85_78 (d : Nat) (a0 a1 a2 a3 : Option Value) (s0 s1 : Int32) (h : MH) (x : Int32) : rn d 85 78 [a0, a1, a2, a3, some (.int x)] [.int s0, .int s1] h = rn d 85 80 [a0, a1, a2, a3, some (.int x)] [.int x, .int s0, .int s1] h := rP (i := (.iload 4)) rfl rfl
theorem e85_80 (d : Nat) (a0 a1 a2 a3 a4 : Option Value) (s0 s1 s2 : Int32) (h : MH)  : rn d 85 80 [a0, a1, a2, a3, a4] [.int s0, .int s1, .int s2] h = rn d 85 82 [a0, a1, a2, a3, a4] [.int 8, .int s0, .int s1, .int s2] h := rP (i := (.bipush 8)) rfl rfl
theorem e85_82 (d : Nat) (a0 a1 a2 a3 a4 : Option Value) (s0 s1 s2 s3 : Int32) (h : MH) (hz : ¬ s0 = 0) : rn d 85 82 [a0, a1, a2, a3, a4] [.int s0, .int s1, .int s2, .int s3] h = rn d 85 83 [a0, a1, a2, a3, a4] [.int (s1 - s1 / s0 * s0), .int s2, .int s3] h := rP (i := (.irem)) rfl (if_neg hz)
theorem e85_83 (d : Nat) (a0 a1 a2 a3 a4 : Option Value) (s0 s1 s2 : Int32) (h : MH)  : rn d 85 83 [a0, a1, a2, a3, a4] [.int s0, .int s1, .int s2] h = rn d 85 84 [a0, a1, a2, a3, a4] [.int (s1 <<< (s0 &&& 31)), .int s2] h := rP (i := (.ishl)) rfl rfl
theorem e85_84 (d : Nat) (a0 a1 a2 a3 a4 : Option Value) (s0 s1 : Int32) (h : MH)  : rn d 85 84 [a0, a1, a2, a3, a4] [.int s0, .int s1] h = rn d 85 85 [a0, a1, a2, a3, a4] [.int (s1 ||| s0)] h := rP (i := (.ior)) rfl rfl
theorem e85_85 (d : Nat) (a0 a1 a2 a3 a4 : Option Value) (s0 : Int32) (h : MH)  : rn d 85 85 [a0, a1, a2, a3, a4] [.int s0] h = rn d 85 86 [a0, a1, some (.int s0), a3, a4] [] h := rP (i := (.istore_n 2)) rfl rfl
theorem e85_86 (d : Nat) (a0 a1 a2 a3 : Option Value) (h : MH) (x : Int32) : rn d 85 86 [a0, a1, a2, a3, some (.int x)] [] h = rn d 85 89 [a0, a1, a2, a3, some (.int (x + 1))] [] h := rP (i := (.iinc 4 1)) rfl rfl
theorem e85_89 (d : Nat) (a0 a1 a2 a3 a4 : Option Value) (h : MH)  : rn d 85 89 [a0, a1, a2, a3, a4] [] h = rn d 85 47 [a0, a1, a2, a3, a4] [] h := rP (i := (.goto (-42))) rfl rfl
theorem e85_92 (d : Nat) (a0 a1 a2 a4 : Option Value) (h : MH) (x : Int32) : rn d 85 92 [a0, a1, a2, some (.int x), a4] [] h = rn d 85 95 [a0, a1, a2, some (.int (x + 1)), a4] [] h := rP (i := (.iinc 3 1)) rfl rfl
theorem e85_95 (d : Nat) (a0 a1 a2 a3 a4 : Option Value) (h : MH)  : rn d 85 95 [a0, a1, a2, a3, a4] [] h = rn d 85 38 [a0, a1, a2, a3, a4] [] h := rP (i := (.goto (-57))) rfl rfl
theorem e85_98 (d : Nat) (a0 a1 a3 a4 : Option Value) (h : MH) (x : Int32) : rn d 85 98 [a0, a1, some (.int x), a3, a4] [] h = rn d 85 99 [a0, a1, some (.int x), a3, a4] [.int x] h := rP (i := (.iload_n 2)) rfl rfl
theorem e85_99 (d : Nat) (a0 a2 a3 a4 : Option Value) (s0 : Int32) (h : MH) (x : Int32) : rn d 85 99 [a0, some (.int x), a2, a3, a4] [.int s0] h = rn d 85 100 [a0, some (.int x), a2, a3, a4] [.int x, .int s0] h := rP (i := (.iload_n 1)) rfl rfl
theorem e85_100 (d : Nat) (a0 a1 a2 a3 a4 : Option Value) (s0 s1 : Int32) (h : MH)  : rn d 85 100 [a0, a1, a2, a3, a4] [.int s0, .int s1] h = rn d 85 101 [a0, a1, a2, a3, a4] [.int (s1 >>> (s0 &&& 31))] h := rP (i := (.ishr)) rfl rfl
theorem e85_101 (d : Nat) (a0 a1 a2 a3 a4 : Option Value) (s0 : Int32) (h : MH)  : rn d 85 101 [a0, a1, a2, a3, a4] [.int s0] h = rn d 85 102 [a0, a1, a2, a3, a4] [.int 1, .int s0] h := rP (i := (.iconst 1)) rfl rfl
theorem e85_102 (d : Nat) (a0 a1 a2 a3 a4 : Option Value) (s0 s1 : Int32) (h : MH)  : rn d 85 102 [a0, a1, a2, a3, a4] [.int s0, .int s1] h = rn d 85 103 [a0, a1, a2, a3, a4] [.int (s1 &&& s0)] h := rP (i := (.iand)) rfl rfl
theorem e85_103 (d : Nat) (a0 a1 a2 a3 a4 : Option Value) (s0 : Int32) (h : MH)  : rn d 85 103 [a0, a1, a2, a3, a4] [.int s0] h = if s0 = 0 then rn d 85 110 [a0, a1, a2, a3, a4] [] h else rn d 85 106 [a0, a1, a2, a3, a4] [] h := rEq1 (off := 7) 110 rfl rfl
theorem e85_106 (d : Nat) (a0 a1 a2 a3 a4 : Option Value) (h : MH)  : rn d 85 106 [a0, a1, a2, a3, a4] [] h = rn d 85 107 [a0, a1, a2, a3, a4] [.int 1] h := rP (i := (.iconst 1)) rfl rfl
theorem e85_107 (d : Nat) (a0 a1 a2 a3 a4 : Option Value) (s0 : Int32) (h : MH)  : rn d 85 107 [a0, a1, a2, a3, a4] [.int s0] h = rn d 85 111 [a0, a1, a2, a3, a4] [.int s0] h := rP (i := (.goto 4)) rfl rfl
theorem e85_110 (d : Nat) (a0 a1 a2 a3 a4 : Option Value) (h : MH)  : rn d 85 110 [a0, a1, a2, a3, a4] [] h = rn d 85 111 [a0, a1, a2, a3, a4] [.int 0] h := rP (i := (.iconst 0)) rfl rfl
theorem e85_111 (d : Nat) (a0 a1 a2 a3 a4 : Option Value) (s0 : Int32) (h : MH) (hz : s0 &&& 1 = s0) : rn d 85 111 [a0, a1, a2, a3, a4] [.int s0] h = some (some (.int s0), h) := rIretZ hz rfl rfl
theorem e85_111q0 (d : Nat) (a0 a1 a2 a3 a4 : Option Value)  (h : MH) : rn d 85 111 [a0, a1, a2, a3, a4] [.int 0] h = some (some (.int 0), h) := rIretZ rfl rfl rfl
theorem e85_111q1 (d : Nat) (a0 a1 a2 a3 a4 : Option Value)  (h : MH) : rn d 85 111 [a0, a1, a2, a3, a4] [.int 1] h = some (some (.int 1), h) := rIretZ rfl rfl rfl
-- 86: FlowEquationsModel.step(I)I
theorem e86_0 (d : Nat) (a0 a2 : Option Value) (h : MH) (x : Int32) : rn d 86 0 [a0, some (.int x), a2] [] h = rn d 86 1 [a0, some (.int x), a2] [.int x] h := rP (i := (.iload_n 1)) rfl rfl
theorem e86_1 (d : Nat) (a0 a1 a2 : Option Value) (s0 : Int32) (h : MH)  : rn d 86 1 [a0, a1, a2] [.int s0] h = rn d 86 2 [a0, a1, a2] [.int 1, .int s0] h := rP (i := (.iconst 1)) rfl rfl
theorem e86_2 (d : Nat) (a0 a1 a2 : Option Value) (s0 s1 : Int32) (h : MH)  : rn d 86 2 [a0, a1, a2] [.int s0, .int s1] h = if s1 < s0 then rn d 86 11 [a0, a1, a2] [] h else rn d 86 5 [a0, a1, a2] [] h := rLt2 (off := 9) 11 rfl rfl
theorem e86_5 (d : Nat) (a0 a2 : Option Value) (h : MH) (x : Int32) : rn d 86 5 [a0, some (.int x), a2] [] h = rn d 86 6 [a0, some (.int x), a2] [.int x] h := rP (i := (.iload_n 1)) rfl rfl
theorem e86_6 (d : Nat) (a0 a1 a2 : Option Value) (s0 : Int32) (h : MH)  : rn d 86 6 [a0, a1, a2] [.int s0] h = rn d 86 8 [a0, a1, a2] [.int 20, .int s0] h := rP (i := (.bipush 20)) rfl rfl
theorem e86_8 (d : Nat) (a0 a1 a2 : Option Value) (s0 s1 : Int32) (h : MH)  : rn d 86 8 [a0, a1, a2] [.int s0, .int s1] h = if s0 < s1 then rn d 86 11 [a0, a1, a2] [] h else rn d 86 13 [a0, a1, a2] [] h := rLe2 (off := 5) 13 rfl rfl
theorem e86_11 (d : Nat) (a0 a1 a2 : Option Value) (h : MH)  : rn d 86 11 [a0, a1, a2] [] h = rn d 86 12 [a0, a1, a2] [.int (-1)] h := rP (i := (.iconst (-1))) rfl rfl
theorem e86_12 (d : Nat) (a0 a1 a2 : Option Value) (s0 : Int32) (h : MH)  : rn d 86 12 [a0, a1, a2] [.int s0] h = some (some (.int s0), h) := rIret rfl rfl
theorem e86_13 (d : Nat) (a1 a2 : Option Value) (h : MH) (x : Nat) : rn d 86 13 [some (.ref x), a1, a2] [] h = rn d 86 14 [some (.ref x), a1, a2] [.ref x] h := rP (i := (.aload_n 0)) rfl rfl
theorem e86_14 (d : Nat) (a0 a1 a2 : Option Value) (s0 : Nat) (h : MH)  : rn d 86 14 [a0, a1, a2] [.ref s0] h = (fgetv h s0 5 15).bind (fun v => rn d 86 17 [a0, a1, a2] [v] h) := rGet (idx := 103) rfl rfl
theorem e86_17 (d : Nat) (a0 a1 a2 : Option Value) (s0 : Int32) (h : MH)  : rn d 86 17 [a0, a1, a2] [.int s0] h = if s0 = 0 then rn d 86 20 [a0, a1, a2] [] h else rn d 86 23 [a0, a1, a2] [] h := rNe1 (off := 6) 23 rfl rfl
theorem e86_20 (d : Nat) (a0 a1 a2 : Option Value) (h : MH)  : rn d 86 20 [a0, a1, a2] [] h = rn d 86 22 [a0, a1, a2] [.int (-4)] h := rP (i := (.bipush (-4))) rfl rfl
theorem e86_22 (d : Nat) (a0 a1 a2 : Option Value) (s0 : Int32) (h : MH)  : rn d 86 22 [a0, a1, a2] [.int s0] h = some (some (.int s0), h) := rIret rfl rfl
theorem e86_23 (d : Nat) (a0 a1 a2 : Option Value) (h : MH)  : rn d 86 23 [a0, a1, a2] [] h = rn d 86 24 [a0, a1, a2] [.int 0] h := rP (i := (.iconst 0)) rfl rfl
theorem e86_24 (d : Nat) (a0 a1 a2 : Option Value) (s0 : Int32) (h : MH)  : rn d 86 24 [a0, a1, a2] [.int s0] h = rn d 86 25 [a0, a1, some (.int s0)] [] h := rP (i := (.istore_n 2)) rfl rfl
theorem e86_25 (d : Nat) (a0 a1 : Option Value) (h : MH) (x : Int32) : rn d 86 25 [a0, a1, some (.int x)] [] h = rn d 86 26 [a0, a1, some (.int x)] [.int x] h := rP (i := (.iload_n 2)) rfl rfl
theorem e86_26 (d : Nat) (a0 a2 : Option Value) (s0 : Int32) (h : MH) (x : Int32) : rn d 86 26 [a0, some (.int x), a2] [.int s0] h = rn d 86 27 [a0, some (.int x), a2] [.int x, .int s0] h := rP (i := (.iload_n 1)) rfl rfl
theorem e86_27 (d : Nat) (a0 a1 a2 : Option Value) (s0 s1 : Int32) (h : MH)  : rn d 86 27 [a0, a1, a2] [.int s0, .int s1] h = if s1 < s0 then rn d 86 30 [a0, a1, a2] [] h else rn d 86 40 [a0, a1, a2] [] h := rGe2 (off := 13) 40 rfl rfl
theorem e86_30 (d : Nat) (a1 a2 : Option Value) (h : MH) (x : Nat) : rn d 86 30 [some (.ref x), a1, a2] [] h = rn d 86 31 [some (.ref x), a1, a2] [.ref x] h := rP (i := (.aload_n 0)) rfl rfl
theorem e86_31 (d : Nat) (a0 a1 a2 : Option Value) (s0 : Nat) (h : MH) (hz : clsOf h s0 = some 5) : rn (d + 1) 86 31 [a0, a1, a2] [.ref s0] h = (rn d 87 0 [some (.ref s0), none, none, none, none] [] h).bind (fun R => rn (d + 1) 86 34 [a0, a1, a2] (R.1.toList ++ []) R.2) := rInv (i := (.invokevirtual 145)) (n := 1) (tl := [522, 523, 46, 58]) rfl rfl rfl rfl (by decide) (Nat.le_of_ble_eq_true rfl) (Nat.le_of_ble_eq_true rfl) (Nat.le_of_ble_eq_true rfl) (rcv_V hz)
theorem e86_34 (d : Nat) (a0 a1 : Option Value) (h : MH) (x : Int32) : rn d 86 34 [a0, a1, some (.int x)] [] h = rn d 86 37 [a0, a1, some (.int (x + 1))] [] h := rP (i := (.iinc 2 1)) rfl rfl
theorem e86_37 (d : Nat) (a0 a1 a2 : Option Value) (h : MH)  : rn d 86 37 [a0, a1, a2] [] h = rn d 86 25 [a0, a1, a2] [] h := rP (i := (.goto (-12))) rfl rfl
theorem e86_40 (d : Nat) (a1 a2 : Option Value) (h : MH) (x : Nat) : rn d 86 40 [some (.ref x), a1, a2] [] h = rn d 86 41 [some (.ref x), a1, a2] [.ref x] h := rP (i := (.aload_n 0)) rfl rfl
theorem e86_41 (d : Nat) (a0 a1 a2 : Option Value) (s0 : Nat) (h : MH)  : rn d 86 41 [a0, a1, a2] [.ref s0] h = (fgetv h s0 5 16).bind (fun v => rn d 86 44 [a0, a1, a2] [v] h) := rGet (idx := 130) rfl rfl
theorem e86_44 (d : Nat) (a0 a1 a2 : Option Value) (s0 : Int32) (h : MH)  : rn d 86 44 [a0, a1, a2] [.int s0] h = some (some (.int s0), h) := rIret rfl rfl
-- 87: FlowEquationsModel.instant()V
set_option maxRecDepth 8000 in
theorem e87_0 (d : Nat) (a0 a1 a2 a3 a4 : Option Value) (h : MH)  : rn d 87 0 [a0, a1, a2, a3, a4] [] h = rn d 87 1 [a0, a1, a2, a3, a4] [.int 0] h := rP (i := (.iconst 0)) rfl rfl
set_option maxRecDepth 8000 in
theorem e87_1 (d : Nat) (a0 a1 a2 a3 a4 : Option Value) (s0 : Int32) (h : MH)  : rn d 87 1 [a0, a1, a2, a3, a4] [.int s0] h = rn d 87 2 [a0, some (.int s0), a2, a3, a4] [] h := rP (i := (.istore_n 1)) rfl rfl
set_option maxRecDepth 8000 in
theorem e87_2 (d : Nat) (a0 a2 a3 a4 : Option Value) (h : MH) (x : Int32) : rn d 87 2 [a0, some (.int x), a2, a3, a4] [] h = rn d 87 3 [a0, some (.int x), a2, a3, a4] [.int x] h := rP (i := (.iload_n 1)) rfl rfl
set_option maxRecDepth 8000 in
theorem e87_3 (d : Nat) (a0 a1 a2 a3 a4 : Option Value) (s0 : Int32) (h : MH)  : rn d 87 3 [a0, a1, a2, a3, a4] [.int s0] h = rn d 87 5 [a0, a1, a2, a3, a4] [.int 8, .int s0] h := rP (i := (.bipush 8)) rfl rfl
set_option maxRecDepth 8000 in
theorem e87_5 (d : Nat) (a0 a1 a2 a3 a4 : Option Value) (s0 s1 : Int32) (h : MH)  : rn d 87 5 [a0, a1, a2, a3, a4] [.int s0, .int s1] h = if s1 < s0 then rn d 87 8 [a0, a1, a2, a3, a4] [] h else rn d 87 28 [a0, a1, a2, a3, a4] [] h := rGe2 (off := 23) 28 rfl rfl
set_option maxRecDepth 8000 in
theorem e87_8 (d : Nat) (a1 a2 a3 a4 : Option Value) (h : MH) (x : Nat) : rn d 87 8 [some (.ref x), a1, a2, a3, a4] [] h = rn d 87 9 [some (.ref x), a1, a2, a3, a4] [.ref x] h := rP (i := (.aload_n 0)) rfl rfl
set_option maxRecDepth 8000 in
theorem e87_9 (d : Nat) (a0 a1 a2 a3 a4 : Option Value) (s0 : Nat) (h : MH)  : rn d 87 9 [a0, a1, a2, a3, a4] [.ref s0] h = (fgetv h s0 5 17).bind (fun v => rn d 87 12 [a0, a1, a2, a3, a4] [v] h) := rGet (idx := 51) rfl rfl
set_option maxRecDepth 8000 in
theorem e87_12 (d : Nat) (a0 a2 a3 a4 : Option Value) (s0 : Nat) (h : MH) (x : Int32) : rn d 87 12 [a0, some (.int x), a2, a3, a4] [.ref s0] h = rn d 87 13 [a0, some (.int x), a2, a3, a4] [.int x, .ref s0] h := rP (i := (.iload_n 1)) rfl rfl
set_option maxRecDepth 8000 in
theorem e87_13 (d : Nat) (a1 a2 a3 a4 : Option Value) (s0 : Int32) (s1 : Nat) (h : MH) (x : Nat) : rn d 87 13 [some (.ref x), a1, a2, a3, a4] [.int s0, .ref s1] h = rn d 87 14 [some (.ref x), a1, a2, a3, a4] [.ref x, .int s0, .ref s1] h := rP (i := (.aload_n 0)) rfl rfl
set_option maxRecDepth 8000 in
theorem e87_14 (d : Nat) (a0 a1 a2 a3 a4 : Option Value) (s1 : Int32) (s0 s2 : Nat) (h : MH)  : rn d 87 14 [a0, a1, a2, a3, a4] [.ref s0, .int s1, .ref s2] h = (fgetv h s0 5 18).bind (fun v => rn d 87 17 [a0, a1, a2, a3, a4] [v, .int s1, .ref s2] h) := rGet (idx := 54) rfl rfl
set_option maxRecDepth 8000 in
theorem e87_17 (d : Nat) (a0 a2 a3 a4 : Option Value) (s1 : Int32) (s0 s2 : Nat) (h : MH) (x : Int32) : rn d 87 17 [a0, some (.int x), a2, a3, a4] [.ref s0, .int s1, .ref s2] h = rn d 87 18 [a0, some (.int x), a2, a3, a4] [.int x, .ref s0, .int s1, .ref s2] h := rP (i := (.iload_n 1)) rfl rfl
set_option maxRecDepth 8000 in
theorem e87_18 (d : Nat) (a0 a1 a2 a3 a4 : Option Value) (s0 s2 : Int32) (s1 s3 : Nat) (h : MH)  : rn d 87 18 [a0, a1, a2, a3, a4] [.int s0, .ref s1, .int s2, .ref s3] h = rn d 87 19 [a0, a1, a2, a3, a4] [.int 0, .int s0, .ref s1, .int s2, .ref s3] h := rP (i := (.iconst 0)) rfl rfl
set_option maxRecDepth 8000 in
theorem e87_19 (d : Nat) (a0 a1 a2 a3 a4 : Option Value) (s0 s1 s3 : Int32) (s2 s4 : Nat) (h : MH)  : rn d 87 19 [a0, a1, a2, a3, a4] [.int s0, .int s1, .ref s2, .int s3, .ref s4] h = rn d 87 20 [a0, a1, a2, a3, a4] [.int s0, .int s1, .ref s2, .int s0, .int s3, .ref s4] h := rP (i := (.dup_x2)) rfl rfl
set_option maxRecDepth 8000 in
theorem e87_20 (d : Nat) (a0 a1 a2 a3 a4 : Option Value) (s0 s1 s3 s4 : Int32) (s2 s5 : Nat) (h : MH) (hz : s0 &&& 1 = s0) : rn d 87 20 [a0, a1, a2, a3, a4] [.int s0, .int s1, .ref s2, .int s3, .int s4, .ref s5] h = (aputi h 1 s2 s1 s0).bind (fun h => rn d 87 21 [a0, a1, a2, a3, a4] [.int s3, .int s4, .ref s5] h) := rBast hz rfl
set_option maxRecDepth 8000 in
theorem e87_20q0 (d : Nat) (a0 a1 a2 a3 a4 : Option Value) (s0 s1 s3 s4 : Int32) (s2 s5 : Nat) (h : MH) : rn d 87 20 [a0, a1, a2, a3, a4] [.int 0, .int s1, .ref s2, .int s3, .int s4, .ref s5] h = (aputi h 1 s2 s1 0).bind (fun h => rn d 87 21 [a0, a1, a2, a3, a4] [.int s3, .int s4, .ref s5] h) := rBast rfl rfl
set_option maxRecDepth 8000 in
theorem e87_20q1 (d : Nat) (a0 a1 a2 a3 a4 : Option Value) (s0 s1 s3 s4 : Int32) (s2 s5 : Nat) (h : MH) : rn d 87 20 [a0, a1, a2, a3, a4] [.int 1, .int s1, .ref s2, .int s3, .int s4, .ref s5] h = (aputi h 1 s2 s1 1).bind (fun h => rn d 87 21 [a0, a1, a2, a3, a4] [.int s3, .int s4, .ref s5] h) := rBast rfl rfl
set_option maxRecDepth 8000 in
theorem e87_21 (d : Nat) (a0 a1 a2 a3 a4 : Option Value) (s0 s1 : Int32) (s2 : Nat) (h : MH) (hz : s0 &&& 1 = s0) : rn d 87 21 [a0, a1, a2, a3, a4] [.int s0, .int s1, .ref s2] h = (aputi h 1 s2 s1 s0).bind (fun h => rn d 87 22 [a0, a1, a2, a3, a4] [] h) := rBast hz rfl
set_option maxRecDepth 8000 in
theorem e87_21q0 (d : Nat) (a0 a1 a2 a3 a4 : Option Value) (s1 : Int32) (s2 : Nat) (h : MH) : rn d 87 21 [a0, a1, a2, a3, a4] [.int 0, .int s1, .ref s2] h = (aputi h 1 s2 s1 0).bind (fun h => rn d 87 22 [a0, a1, a2, a3, a4] [] h) := rBast rfl rfl
set_option maxRecDepth 8000 in
theorem e87_21q1 (d : Nat) (a0 a1 a2 a3 a4 : Option Value) (s1 : Int32) (s2 : Nat) (h : MH) : rn d 87 21 [a0, a1, a2, a3, a4] [.int 1, .int s1, .ref s2] h = (aputi h 1 s2 s1 1).bind (fun h => rn d 87 22 [a0, a1, a2, a3, a4] [] h) := rBast rfl rfl
set_option maxRecDepth 8000 in
theorem e87_22 (d : Nat) (a0 a2 a3 a4 : Option Value) (h : MH) (x : Int32) : rn d 87 22 [a0, some (.int x), a2, a3, a4] [] h = rn d 87 25 [a0, some (.int (x + 1)), a2, a3, a4] [] h := rP (i := (.iinc 1 1)) rfl rfl
set_option maxRecDepth 8000 in
theorem e87_25 (d : Nat) (a0 a1 a2 a3 a4 : Option Value) (h : MH)  : rn d 87 25 [a0, a1, a2, a3, a4] [] h = rn d 87 2 [a0, a1, a2, a3, a4] [] h := rP (i := (.goto (-23))) rfl rfl
set_option maxRecDepth 8000 in
theorem e87_28 (d : Nat) (a0 a1 a2 a3 a4 : Option Value) (h : MH)  : rn d 87 28 [a0, a1, a2, a3, a4] [] h = rn d 87 29 [a0, a1, a2, a3, a4] [.int 0] h := rP (i := (.iconst 0)) rfl rfl
set_option maxRecDepth 8000 in
theorem e87_29 (d : Nat) (a0 a1 a2 a3 a4 : Option Value) (s0 : Int32) (h : MH)  : rn d 87 29 [a0, a1, a2, a3, a4] [.int s0] h = rn d 87 30 [a0, some (.int s0), a2, a3, a4] [] h := rP (i := (.istore_n 1)) rfl rfl
set_option maxRecDepth 8000 in
theorem e87_30 (d : Nat) (a0 a2 a3 a4 : Option Value) (h : MH) (x : Int32) : rn d 87 30 [a0, some (.int x), a2, a3, a4] [] h = rn d 87 31 [a0, some (.int x), a2, a3, a4] [.int x] h := rP (i := (.iload_n 1)) rfl rfl
set_option maxRecDepth 8000 in
theorem e87_31 (d : Nat) (a0 a1 a2 a3 a4 : Option Value) (s0 : Int32) (h : MH)  : rn d 87 31 [a0, a1, a2, a3, a4] [.int s0] h = rn d 87 33 [a0, a1, a2, a3, a4] [.int 8, .int s0] h := rP (i := (.bipush 8)) rfl rfl
set_option maxRecDepth 8000 in
theorem e87_33 (d : Nat) (a0 a1 a2 a3 a4 : Option Value) (s0 s1 : Int32) (h : MH)  : rn d 87 33 [a0, a1, a2, a3, a4] [.int s0, .int s1] h = if s1 < s0 then rn d 87 36 [a0, a1, a2, a3, a4] [] h else rn d 87 127 [a0, a1, a2, a3, a4] [] h := rGe2 (off := 94) 127 rfl rfl
set_option maxRecDepth 8000 in
theorem e87_36 (d : Nat) (a0 a1 a2 a3 a4 : Option Value) (h : MH)  : rn d 87 36 [a0, a1, a2, a3, a4] [] h = rn d 87 37 [a0, a1, a2, a3, a4] [.int 0] h := rP (i := (.iconst 0)) rfl rfl
set_option maxRecDepth 8000 in
theorem e87_37 (d : Nat) (a0 a1 a2 a3 a4 : Option Value) (s0 : Int32) (h : MH)  : rn d 87 37 [a0, a1, a2, a3, a4] [.int s0] h = rn d 87 38 [a0, a1, some (.int s0), a3, a4] [] h := rP (i := (.istore_n 2)) rfl rfl
set_option maxRecDepth 8000 in
theorem e87_38 (d : Nat) (a0 a1 a3 a4 : Option Value) (h : MH) (x : Int32) : rn d 87 38 [a0, a1, some (.int x), a3, a4] [] h = rn d 87 39 [a0, a1, some (.int x), a3, a4] [.int x] h := rP (i := (.iload_n 2)) rfl rfl
set_option maxRecDepth 8000 in
theorem e87_39 (d : Nat) (a0 a1 a2 a3 a4 : Option Value) (s0 : Int32) (h : MH)  : rn d 87 39 [a0, a1, a2, a3, a4] [.int s0] h = rn d 87 41 [a0, a1, a2, a3, a4] [.int 8, .int s0] h := rP (i := (.bipush 8)) rfl rfl
set_option maxRecDepth 8000 in
theorem e87_41 (d : Nat) (a0 a1 a2 a3 a4 : Option Value) (s0 s1 : Int32) (h : MH)  : rn d 87 41 [a0, a1, a2, a3, a4] [.int s0, .int s1] h = if s1 < s0 then rn d 87 44 [a0, a1, a2, a3, a4] [] h else rn d 87 121 [a0, a1, a2, a3, a4] [] h := rGe2 (off := 80) 121 rfl rfl
set_option maxRecDepth 8000 in
theorem e87_44 (d : Nat) (a1 a2 a3 a4 : Option Value) (h : MH) (x : Nat) : rn d 87 44 [some (.ref x), a1, a2, a3, a4] [] h = rn d 87 45 [some (.ref x), a1, a2, a3, a4] [.ref x] h := rP (i := (.aload_n 0)) rfl rfl
set_option maxRecDepth 8000 in
theorem e87_45 (d : Nat) (a0 a1 a3 a4 : Option Value) (s0 : Nat) (h : MH) (x : Int32) : rn d 87 45 [a0, a1, some (.int x), a3, a4] [.ref s0] h = rn d 87 46 [a0, a1, some (.int x), a3, a4] [.int x, .ref s0] h := rP (i := (.iload_n 2)) rfl rfl
set_option maxRecDepth 8000 in
theorem e87_46 (d : Nat) (a0 a1 a2 a3 a4 : Option Value) (s0 : Int32) (s1 : Nat) (h : MH) (hz : clsOf h s1 = some 5) : rn (d + 1) 87 46 [a0, a1, a2, a3, a4] [.int s0, .ref s1] h = (rn d 88 0 [some (.ref s1), some (.int s0), none] [] h).bind (fun R => rn (d + 1) 87 49 [a0, a1, a2, a3, a4] (R.1.toList ++ []) R.2) := rInv (i := (.invokevirtual 139)) (n := 2) (tl := [525, 526, 47, 58]) rfl rfl rfl rfl (by decide) (Nat.le_of_ble_eq_true rfl) (Nat.le_of_ble_eq_true rfl) (Nat.le_of_ble_eq_true rfl) (rcv_V hz)
set_option maxRecDepth 8000 in
theorem e87_49 (d : Nat) (a0 a1 a2 a3 a4 : Option Value) (s0 : Int32) (h : MH)  : rn d 87 49 [a0, a1, a2, a3, a4] [.int s0] h = if s0 = 0 then rn d 87 52 [a0, a1, a2, a3, a4] [] h else rn d 87 55 [a0, a1, a2, a3, a4] [] h := rNe1 (off := 6) 55 rfl rfl
set_option maxRecDepth 8000 in
theorem e87_52 (d : Nat) (a0 a1 a2 a3 a4 : Option Value) (h : MH)  : rn d 87 52 [a0, a1, a2, a3, a4] [] h = rn d 87 115 [a0, a1, a2, a3, a4] [] h := rP (i := (.goto 63)) rfl rfl
set_option maxRecDepth 8000 in
theorem e87_55 (d : Nat) (a1 a2 a3 a4 : Option Value) (h : MH) (x : Nat) : rn d 87 55 [some (.ref x), a1, a2, a3, a4] [] h = rn d 87 56 [some (.ref x), a1, a2, a3, a4] [.ref x] h := rP (i := (.aload_n 0)) rfl rfl
set_option maxRecDepth 8000 in
theorem e87_56 (d : Nat) (a0 a1 a2 a3 a4 : Option Value) (s0 : Nat) (h : MH)  : rn d 87 56 [a0, a1, a2, a3, a4] [.ref s0] h = (fgetv h s0 5 18).bind (fun v => rn d 87 59 [a0, a1, a2, a3, a4] [v] h) := rGet (idx := 54) rfl rfl
set_option maxRecDepth 8000 in
theorem e87_59 (d : Nat) (a0 a1 a3 a4 : Option Value) (s0 : Nat) (h : MH) (x : Int32) : rn d 87 59 [a0, a1, some (.int x), a3, a4] [.ref s0] h = rn d 87 60 [a0, a1, some (.int x), a3, a4] [.int x, .ref s0] h := rP (i := (.iload_n 2)) rfl rfl
set_option maxRecDepth 8000 in
theorem e87_60 (d : Nat) (a0 a1 a2 a3 a4 : Option Value) (s0 : Int32) (s1 : Nat) (h : MH)  : rn d 87 60 [a0, a1, a2, a3, a4] [.int s0, .ref s1] h = rn d 87 61 [a0, a1, a2, a3, a4] [.int 1, .int s0, .ref s1] h := rP (i := (.iconst 1)) rfl rfl
set_option maxRecDepth 8000 in
theorem e87_61 (d : Nat) (a0 a1 a2 a3 a4 : Option Value) (s0 s1 : Int32) (s2 : Nat) (h : MH) (hz : s0 &&& 1 = s0) : rn d 87 61 [a0, a1, a2, a3, a4] [.int s0, .int s1, .ref s2] h = (aputi h 1 s2 s1 s0).bind (fun h => rn d 87 62 [a0, a1, a2, a3, a4] [] h) := rBast hz rfl
set_option maxRecDepth 8000 in
theorem e87_61q0 (d : Nat) (a0 a1 a2 a3 a4 : Option Value) (s1 : Int32) (s2 : Nat) (h : MH) : rn d 87 61 [a0, a1, a2, a3, a4] [.int 0, .int s1, .ref s2] h = (aputi h 1 s2 s1 0).bind (fun h => rn d 87 62 [a0, a1, a2, a3, a4] [] h) := rBast rfl rfl
set_option maxRecDepth 8000 in
theorem e87_61q1 (d : Nat) (a0 a1 a2 a3 a4 : Option Value) (s1 : Int32) (s2 : Nat) (h : MH) : rn d 87 61 [a0, a1, a2, a3, a4] [.int 1, .int s1, .ref s2] h = (aputi h 1 s2 s1 1).bind (fun h => rn d 87 62 [a0, a1, a2, a3, a4] [] h) := rBast rfl rfl
set_option maxRecDepth 8000 in
theorem e87_62 (d : Nat) (a1 a2 a3 a4 : Option Value) (h : MH) (x : Nat) : rn d 87 62 [some (.ref x), a1, a2, a3, a4] [] h = rn d 87 63 [some (.ref x), a1, a2, a3, a4] [.ref x] h := rP (i := (.aload_n 0)) rfl rfl
set_option maxRecDepth 8000 in
theorem e87_63 (d : Nat) (a1 a2 a3 a4 : Option Value) (s0 : Nat) (h : MH) (x : Nat) : rn d 87 63 [some (.ref x), a1, a2, a3, a4] [.ref s0] h = rn d 87 64 [some (.ref x), a1, a2, a3, a4] [.ref x, .ref s0] h := rP (i := (.aload_n 0)) rfl rfl
set_option maxRecDepth 8000 in
theorem e87_64 (d : Nat) (a0 a1 a2 a3 a4 : Option Value) (s0 s1 : Nat) (h : MH)  : rn d 87 64 [a0, a1, a2, a3, a4] [.ref s0, .ref s1] h = (fgetv h s0 5 13).bind (fun v => rn d 87 67 [a0, a1, a2, a3, a4] [v, .ref s1] h) := rGet (idx := 45) rfl rfl
set_option maxRecDepth 8000 in
theorem e87_67 (d : Nat) (a0 a1 a3 a4 : Option Value) (s0 s1 : Nat) (h : MH) (x : Int32) : rn d 87 67 [a0, a1, some (.int x), a3, a4] [.ref s0, .ref s1] h = rn d 87 68 [a0, a1, some (.int x), a3, a4] [.int x, .ref s0, .ref s1] h := rP (i := (.iload_n 2)) rfl rfl
set_option maxRecDepth 8000 in
theorem e87_68 (d : Nat) (a0 a1 a2 a3 a4 : Option Value) (s0 : Int32) (s1 s2 : Nat) (h : MH)  : rn d 87 68 [a0, a1, a2, a3, a4] [.int s0, .ref s1, .ref s2] h = (ageti h 0 s1 s0).bind (fun v => rn d 87 69 [a0, a1, a2, a3, a4] [.int v, .ref s2] h) := rIald rfl
set_option maxRecDepth 8000 in
theorem e87_69 (d : Nat) (a0 a1 a2 a3 a4 : Option Value) (s0 : Int32) (s1 : Nat) (h : MH) (hz : clsOf h s1 = some 5) : rn (d + 1) 87 69 [a0, a1, a2, a3, a4] [.int s0, .ref s1] h = (rn d 89 0 [some (.ref s1), some (.int s0)] [] h).bind (fun R => rn (d + 1) 87 72 [a0, a1, a2, a3, a4] (R.1.toList ++ []) R.2) := rInv (i := (.invokevirtual 133)) (n := 2) (tl := [528, 529, 48, 58]) rfl rfl rfl rfl (by decide) (Nat.le_of_ble_eq_true rfl) (Nat.le_of_ble_eq_true rfl) (Nat.le_of_ble_eq_true rfl) (rcv_V hz)
set_option maxRecDepth 8000 in
theorem e87_72 (d : Nat) (a0 a1 a2 a3 a4 : Option Value) (s0 : Int32) (h : MH)  : rn d 87 72 [a0, a1, a2, a3, a4] [.int s0] h = if s0 = 0 then rn d 87 75 [a0, a1, a2, a3, a4] [] h else rn d 87 78 [a0, a1, a2, a3, a4] [] h := rNe1 (off := 6) 78 rfl rfl
set_option maxRecDepth 8000 in
theorem e87_75 (d : Nat) (a0 a1 a2 a3 a4 : Option Value) (h : MH)  : rn d 87 75 [a0, a1, a2, a3, a4] [] h = rn d 87 115 [a0, a1, a2, a3, a4] [] h := rP (i := (.goto 40)) rfl rfl
set_option maxRecDepth 8000 in
theorem e87_78 (d : Nat) (a1 a2 a3 a4 : Option Value) (h : MH) (x : Nat) : rn d 87 78 [some (.ref x), a1, a2, a3, a4] [] h = rn d 87 79 [some (.ref x), a1, a2, a3, a4] [.ref x] h := rP (i := (.aload_n 0)) rfl rfl
set_option maxRecDepth 8000 in
theorem e87_79 (d : Nat) (a0 a1 a3 a4 : Option Value) (s0 : Nat) (h : MH) (x : Int32) : rn d 87 79 [a0, a1, some (.int x), a3, a4] [.ref s0] h = rn d 87 80 [a0, a1, some (.int x), a3, a4] [.int x, .ref s0] h := rP (i := (.iload_n 2)) rfl rfl
set_option maxRecDepth 8000 in
theorem e87_80 (d : Nat) (a0 a1 a2 a3 a4 : Option Value) (s0 : Int32) (s1 : Nat) (h : MH) (hz : clsOf h s1 = some 5) : rn (d + 1) 87 80 [a0, a1, a2, a3, a4] [.int s0, .ref s1] h = (rn d 90 0 [some (.ref s1), some (.int s0), none] [] h).bind (fun R => rn (d + 1) 87 83 [a0, a1, a2, a3, a4] (R.1.toList ++ []) R.2) := rInv (i := (.invokevirtual 142)) (n := 2) (tl := [531, 532, 49, 58]) rfl rfl rfl rfl (by decide) (Nat.le_of_ble_eq_true rfl) (Nat.le_of_ble_eq_true rfl) (Nat.le_of_ble_eq_true rfl) (rcv_V hz)
set_option maxRecDepth 8000 in
theorem e87_83 (d : Nat) (a1 a2 a3 a4 : Option Value) (h : MH) (x : Nat) : rn d 87 83 [some (.ref x), a1, a2, a3, a4] [] h = rn d 87 84 [some (.ref x), a1, a2, a3, a4] [.ref x] h := rP (i := (.aload_n 0)) rfl rfl
set_option maxRecDepth 8000 in
theorem e87_84 (d : Nat) (a0 a1 a2 a3 a4 : Option Value) (s0 : Nat) (h : MH)  : rn d 87 84 [a0, a1, a2, a3, a4] [.ref s0] h = (fgetv h s0 5 17).bind (fun v => rn d 87 87 [a0, a1, a2, a3, a4] [v] h) := rGet (idx := 51) rfl rfl
set_option maxRecDepth 8000 in
theorem e87_87 (d : Nat) (a0 a1 a3 a4 : Option Value) (s0 : Nat) (h : MH) (x : Int32) : rn d 87 87 [a0, a1, some (.int x), a3, a4] [.ref s0] h = rn d 87 88 [a0, a1, some (.int x), a3, a4] [.int x, .ref s0] h := rP (i := (.iload_n 2)) rfl rfl
set_option maxRecDepth 8000 in
theorem e87_88 (d : Nat) (a0 a1 a2 a3 a4 : Option Value) (s0 : Int32) (s1 : Nat) (h : MH)  : rn d 87 88 [a0, a1, a2, a3, a4] [.int s0, .ref s1] h = rn d 87 89 [a0, a1, a2, a3, a4] [.int 1, .int s0, .ref s1] h := rP (i := (.iconst 1)) rfl rfl
set_option maxRecDepth 8000 in
theorem e87_89 (d : Nat) (a0 a1 a2 a3 a4 : Option Value) (s0 s1 : Int32) (s2 : Nat) (h : MH) (hz : s0 &&& 1 = s0) : rn d 87 89 [a0, a1, a2, a3, a4] [.int s0, .int s1, .ref s2] h = (aputi h 1 s2 s1 s0).bind (fun h => rn d 87 90 [a0, a1, a2, a3, a4] [] h) := rBast hz rfl
set_option maxRecDepth 8000 in
theorem e87_89q0 (d : Nat) (a0 a1 a2 a3 a4 : Option Value) (s1 : Int32) (s2 : Nat) (h : MH) : rn d 87 89 [a0, a1, a2, a3, a4] [.int 0, .int s1, .ref s2] h = (aputi h 1 s2 s1 0).bind (fun h => rn d 87 90 [a0, a1, a2, a3, a4] [] h) := rBast rfl rfl
set_option maxRecDepth 8000 in
theorem e87_89q1 (d : Nat) (a0 a1 a2 a3 a4 : Option Value) (s1 : Int32) (s2 : Nat) (h : MH) : rn d 87 89 [a0, a1, a2, a3, a4] [.int 1, .int s1, .ref s2] h = (aputi h 1 s2 s1 1).bind (fun h => rn d 87 90 [a0, a1, a2, a3, a4] [] h) := rBast rfl rfl
set_option maxRecDepth 8000 in
theorem e87_90 (d : Nat) (a1 a2 a3 a4 : Option Value) (h : MH) (x : Nat) : rn d 87 90 [some (.ref x), a1, a2, a3, a4] [] h = rn d 87 91 [some (.ref x), a1, a2, a3, a4] [.ref x] h := rP (i := (.aload_n 0)) rfl rfl
set_option maxRecDepth 8000 in
theorem e87_91 (d : Nat) (a0 a1 a2 a3 a4 : Option Value) (s0 : Nat) (h : MH)  : rn d 87 91 [a0, a1, a2, a3, a4] [.ref s0] h = (fgetv h s0 5 20).bind (fun v => rn d 87 94 [a0, a1, a2, a3, a4] [v] h) := rGet (idx := 60) rfl rfl
set_option maxRecDepth 8000 in
theorem e87_94 (d : Nat) (a0 a1 a3 a4 : Option Value) (s0 : Nat) (h : MH) (x : Int32) : rn d 87 94 [a0, a1, some (.int x), a3, a4] [.ref s0] h = rn d 87 95 [a0, a1, some (.int x), a3, a4] [.int x, .ref s0] h := rP (i := (.iload_n 2)) rfl rfl
set_option maxRecDepth 8000 in
theorem e87_95 (d : Nat) (a1 a2 a3 a4 : Option Value) (s0 : Int32) (s1 : Nat) (h : MH) (x : Nat) : rn d 87 95 [some (.ref x), a1, a2, a3, a4] [.int s0, .ref s1] h = rn d 87 96 [some (.ref x), a1, a2, a3, a4] [.ref x, .int s0, .ref s1] h := rP (i := (.aload_n 0)) rfl rfl
set_option maxRecDepth 8000 in
theorem e87_96 (d : Nat) (a0 a1 a2 a3 a4 : Option Value) (s1 : Int32) (s0 s2 : Nat) (h : MH)  : rn d 87 96 [a0, a1, a2, a3, a4] [.ref s0, .int s1, .ref s2] h = (fgetv h s0 5 9).bind (fun v => rn d 87 99 [a0, a1, a2, a3, a4] [v, .int s1, .ref s2] h) := rGet (idx := 32) rfl rfl
set_option maxRecDepth 8000 in
theorem e87_99 (d : Nat) (a0 a1 a3 a4 : Option Value) (s1 : Int32) (s0 s2 : Nat) (h : MH) (x : Int32) : rn d 87 99 [a0, a1, some (.int x), a3, a4] [.ref s0, .int s1, .ref s2] h = rn d 87 100 [a0, a1, some (.int x), a3, a4] [.int x, .ref s0, .int s1, .ref s2] h := rP (i := (.iload_n 2)) rfl rfl
set_option maxRecDepth 8000 in
theorem e87_100 (d : Nat) (a0 a1 a2 a3 a4 : Option Value) (s0 s2 : Int32) (s1 s3 : Nat) (h : MH)  : rn d 87 100 [a0, a1, a2, a3, a4] [.int s0, .ref s1, .int s2, .ref s3] h = rn d 87 102 [a0, a1, a2, a3, a4] [.int 24, .int s0, .ref s1, .int s2, .ref s3] h := rP (i := (.bipush 24)) rfl rfl
set_option maxRecDepth 8000 in
theorem e87_102 (d : Nat) (a0 a1 a2 a3 a4 : Option Value) (s0 s1 s3 : Int32) (s2 s4 : Nat) (h : MH)  : rn d 87 102 [a0, a1, a2, a3, a4] [.int s0, .int s1, .ref s2, .int s3, .ref s4] h = rn d 87 103 [a0, a1, a2, a3, a4] [.int (s1 * s0), .ref s2, .int s3, .ref s4] h := rP (i := (.imul)) rfl rfl
set_option maxRecDepth 8000 in
theorem e87_103 (d : Nat) (a0 a1 a2 a3 a4 : Option Value) (s0 s2 : Int32) (s1 s3 : Nat) (h : MH)  : rn d 87 103 [a0, a1, a2, a3, a4] [.int s0, .ref s1, .int s2, .ref s3] h = (ageti h 0 s1 s0).bind (fun v => rn d 87 104 [a0, a1, a2, a3, a4] [.int v, .int s2, .ref s3] h) := rIald rfl
set_option maxRecDepth 8000 in
theorem e87_104 (d : Nat) (a0 a1 a2 a3 a4 : Option Value) (s0 s1 : Int32) (s2 : Nat) (h : MH)  : rn d 87 104 [a0, a1, a2, a3, a4] [.int s0, .int s1, .ref s2] h = (aputi h 0 s2 s1 s0).bind (fun h => rn d 87 105 [a0, a1, a2, a3, a4] [] h) := rIast rfl
set_option maxRecDepth 8000 in
theorem e87_105 (d : Nat) (a1 a2 a3 a4 : Option Value) (h : MH) (x : Nat) : rn d 87 105 [some (.ref x), a1, a2, a3, a4] [] h = rn d 87 106 [some (.ref x), a1, a2, a3, a4] [.ref x] h := rP (i := (.aload_n 0)) rfl rfl
set_option maxRecDepth 8000 in
theorem e87_106 (d : Nat) (a0 a1 a2 a3 a4 : Option Value) (s0 : Nat) (h : MH)  : rn d 87 106 [a0, a1, a2, a3, a4] [.ref s0] h = (fgetv h s0 5 21).bind (fun v => rn d 87 109 [a0, a1, a2, a3, a4] [v] h) := rGet (idx := 63) rfl rfl
set_option maxRecDepth 8000 in
theorem e87_109 (d : Nat) (a0 a1 a3 a4 : Option Value) (s0 : Nat) (h : MH) (x : Int32) : rn d 87 109 [a0, a1, some (.int x), a3, a4] [.ref s0] h = rn d 87 110 [a0, a1, some (.int x), a3, a4] [.int x, .ref s0] h := rP (i := (.iload_n 2)) rfl rfl
set_option maxRecDepth 8000 in
theorem e87_110 (d : Nat) (a0 a1 a2 a3 a4 : Option Value) (s0 : Int32) (s1 : Nat) (h : MH)  : rn d 87 110 [a0, a1, a2, a3, a4] [.int s0, .ref s1] h = rn d 87 111 [a0, a1, a2, a3, a4] [.int s0, .ref s1, .int s0, .ref s1] h := rP (i := (.dup2)) rfl rfl
set_option maxRecDepth 8000 in
theorem e87_111 (d : Nat) (a0 a1 a2 a3 a4 : Option Value) (s0 s2 : Int32) (s1 s3 : Nat) (h : MH)  : rn d 87 111 [a0, a1, a2, a3, a4] [.int s0, .ref s1, .int s2, .ref s3] h = (ageti h 0 s1 s0).bind (fun v => rn d 87 112 [a0, a1, a2, a3, a4] [.int v, .int s2, .ref s3] h) := rIald rfl
set_option maxRecDepth 8000 in
theorem e87_112 (d : Nat) (a0 a1 a2 a3 a4 : Option Value) (s0 s1 : Int32) (s2 : Nat) (h : MH)  : rn d 87 112 [a0, a1, a2, a3, a4] [.int s0, .int s1, .ref s2] h = rn d 87 113 [a0, a1, a2, a3, a4] [.int 1, .int s0, .int s1, .ref s2] h := rP (i := (.iconst 1)) rfl rfl
set_option maxRecDepth 8000 in
theorem e87_113 (d : Nat) (a0 a1 a2 a3 a4 : Option Value) (s0 s1 s2 : Int32) (s3 : Nat) (h : MH)  : rn d 87 113 [a0, a1, a2, a3, a4] [.int s0, .int s1, .int s2, .ref s3] h = rn d 87 114 [a0, a1, a2, a3, a4] [.int (s1 + s0), .int s2, .ref s3] h := rP (i := (.iadd)) rfl rfl
set_option maxRecDepth 8000 in
theorem e87_114 (d : Nat) (a0 a1 a2 a3 a4 : Option Value) (s0 s1 : Int32) (s2 : Nat) (h : MH)  : rn d 87 114 [a0, a1, a2, a3, a4] [.int s0, .int s1, .ref s2] h = (aputi h 0 s2 s1 s0).bind (fun h => rn d 87 115 [a0, a1, a2, a3, a4] [] h) := rIast rfl
set_option maxRecDepth 8000 in
theorem e87_115 (d : Nat) (a0 a1 a3 a4 : Option Value) (h : MH) (x : Int32) : rn d 87 115 [a0, a1, some (.int x), a3, a4] [] h = rn d 87 118 [a0, a1, some (.int (x + 1)), a3, a4] [] h := rP (i := (.iinc 2 1)) rfl rfl
set_option maxRecDepth 8000 in
theorem e87_118 (d : Nat) (a0 a1 a2 a3 a4 : Option Value) (h : MH)  : rn d 87 118 [a0, a1, a2, a3, a4] [] h = rn d 87 38 [a0, a1, a2, a3, a4] [] h := rP (i := (.goto (-80))) rfl rfl
set_option maxRecDepth 8000 in
theorem e87_121 (d : Nat) (a0 a2 a3 a4 : Option Value) (h : MH) (x : Int32) : rn d 87 121 [a0, some (.int x), a2, a3, a4] [] h = rn d 87 124 [a0, some (.int (x + 1)), a2, a3, a4] [] h := rP (i := (.iinc 1 1)) rfl rfl
set_option maxRecDepth 8000 in
theorem e87_124 (d : Nat) (a0 a1 a2 a3 a4 : Option Value) (h : MH)  : rn d 87 124 [a0, a1, a2, a3, a4] [] h = rn d 87 30 [a0, a1, a2, a3, a4] [] h := rP (i := (.goto (-94))) rfl rfl
set_option maxRecDepth 8000 in
theorem e87_127 (d : Nat) (a0 a1 a2 a3 a4 : Option Value) (h : MH)  : rn d 87 127 [a0, a1, a2, a3, a4] [] h = rn d 87 128 [a0, a1, a2, a3, a4] [.int 0] h := rP (i := (.iconst 0)) rfl rfl
set_option maxRecDepth 8000 in
theorem e87_128 (d : Nat) (a0 a1 a2 a3 a4 : Option Value) (s0 : Int32) (h : MH)  : rn d 87 128 [a0, a1, a2, a3, a4] [.int s0] h = rn d 87 129 [a0, some (.int s0), a2, a3, a4] [] h := rP (i := (.istore_n 1)) rfl rfl
set_option maxRecDepth 8000 in
theorem e87_129 (d : Nat) (a0 a2 a3 a4 : Option Value) (h : MH) (x : Int32) : rn d 87 129 [a0, some (.int x), a2, a3, a4] [] h = rn d 87 130 [a0, some (.int x), a2, a3, a4] [.int x] h := rP (i := (.iload_n 1)) rfl rfl
set_option maxRecDepth 8000 in
theorem e87_130 (d : Nat) (a0 a1 a2 a3 a4 : Option Value) (s0 : Int32) (h : MH)  : rn d 87 130 [a0, a1, a2, a3, a4] [.int s0] h = rn d 87 132 [a0, a1, a2, a3, a4] [.int 8, .int s0] h := rP (i := (.bipush 8)) rfl rfl
set_option maxRecDepth 8000 in
theorem e87_132 (d : Nat) (a0 a1 a2 a3 a4 : Option Value) (s0 s1 : Int32) (h : MH)  : rn d 87 132 [a0, a1, a2, a3, a4] [.int s0, .int s1] h = if s1 < s0 then rn d 87 135 [a0, a1, a2, a3, a4] [] h else rn d 87 246 [a0, a1, a2, a3, a4] [] h := rGe2 (off := 114) 246 rfl rfl
set_option maxRecDepth 8000 in
theorem e87_135 (d : Nat) (a1 a2 a3 a4 : Option Value) (h : MH) (x : Nat) : rn d 87 135 [some (.ref x), a1, a2, a3, a4] [] h = rn d 87 136 [some (.ref x), a1, a2, a3, a4] [.ref x] h := rP (i := (.aload_n 0)) rfl rfl
set_option maxRecDepth 8000 in
theorem e87_136 (d : Nat) (a0 a2 a3 a4 : Option Value) (s0 : Nat) (h : MH) (x : Int32) : rn d 87 136 [a0, some (.int x), a2, a3, a4] [.ref s0] h = rn d 87 137 [a0, some (.int x), a2, a3, a4] [.int x, .ref s0] h := rP (i := (.iload_n 1)) rfl rfl
set_option maxRecDepth 8000 in
theorem e87_137 (d : Nat) (a0 a1 a2 a3 a4 : Option Value) (s0 : Int32) (s1 : Nat) (h : MH) (hz : clsOf h s1 = some 5) : rn (d + 1) 87 137 [a0, a1, a2, a3, a4] [.int s0, .ref s1] h = (rn d 90 0 [some (.ref s1), some (.int s0), none] [] h).bind (fun R => rn (d + 1) 87 140 [a0, a1, a2, a3, a4] (R.1.toList ++ []) R.2) := rInv (i := (.invokevirtual 142)) (n := 2) (tl := [531, 532, 49, 58]) rfl rfl rfl rfl (by decide) (Nat.le_of_ble_eq_true rfl) (Nat.le_of_ble_eq_true rfl) (Nat.le_of_ble_eq_true rfl) (rcv_V hz)
set_option maxRecDepth 8000 in
theorem e87_140 (d : Nat) (a0 a1 a2 a3 a4 : Option Value) (h : MH)  : rn d 87 140 [a0, a1, a2, a3, a4] [] h = rn d 87 141 [a0, a1, a2, a3, a4] [.int 0] h := rP (i := (.iconst 0)) rfl rfl
set_option maxRecDepth 8000 in
theorem e87_141 (d : Nat) (a0 a1 a2 a3 a4 : Option Value) (s0 : Int32) (h : MH)  : rn d 87 141 [a0, a1, a2, a3, a4] [.int s0] h = rn d 87 142 [a0, a1, some (.int s0), a3, a4] [] h := rP (i := (.istore_n 2)) rfl rfl
set_option maxRecDepth 8000 in
theorem e87_142 (d : Nat) (a0 a1 a3 a4 : Option Value) (h : MH) (x : Int32) : rn d 87 142 [a0, a1, some (.int x), a3, a4] [] h = rn d 87 143 [a0, a1, some (.int x), a3, a4] [.int x] h := rP (i := (.iload_n 2)) rfl rfl
set_option maxRecDepth 8000 in
theorem e87_143 (d : Nat) (a1 a2 a3 a4 : Option Value) (s0 : Int32) (h : MH) (x : Nat) : rn d 87 143 [some (.ref x), a1, a2, a3, a4] [.int s0] h = rn d 87 144 [some (.ref x), a1, a2, a3, a4] [.ref x, .int s0] h := rP (i := (.aload_n 0)) rfl rfl
set_option maxRecDepth 8000 in
theorem e87_144 (d : Nat) (a0 a1 a2 a3 a4 : Option Value) (s1 : Int32) (s0 : Nat) (h : MH)  : rn d 87 144 [a0, a1, a2, a3, a4] [.ref s0, .int s1] h = (fgetv h s0 5 5).bind (fun v => rn d 87 147 [a0, a1, a2, a3, a4] [v, .int s1] h) := rGet (idx := 20) rfl rfl
set_option maxRecDepth 8000 in
theorem e87_147 (d : Nat) (a0 a2 a3 a4 : Option Value) (s1 : Int32) (s0 : Nat) (h : MH) (x : Int32) : rn d 87 147 [a0, some (.int x), a2, a3, a4] [.ref s0, .int s1] h = rn d 87 148 [a0, some (.int x), a2, a3, a4] [.int x, .ref s0, .int s1] h := rP (i := (.iload_n 1)) rfl rfl
set_option maxRecDepth 8000 in
theorem e87_148 (d : Nat) (a0 a1 a2 a3 a4 : Option Value) (s0 s2 : Int32) (s1 : Nat) (h : MH)  : rn d 87 148 [a0, a1, a2, a3, a4] [.int s0, .ref s1, .int s2] h = (ageti h 0 s1 s0).bind (fun v => rn d 87 149 [a0, a1, a2, a3, a4] [.int v, .int s2] h) := rIald rfl
set_option maxRecDepth 8000 in
theorem e87_149 (d : Nat) (a0 a1 a2 a3 a4 : Option Value) (s0 s1 : Int32) (h : MH)  : rn d 87 149 [a0, a1, a2, a3, a4] [.int s0, .int s1] h = if s1 < s0 then rn d 87 152 [a0, a1, a2, a3, a4] [] h else rn d 87 240 [a0, a1, a2, a3, a4] [] h := rGe2 (off := 91) 240 rfl rfl
set_option maxRecDepth 8000 in
theorem e87_152 (d : Nat) (a0 a2 a3 a4 : Option Value) (h : MH) (x : Int32) : rn d 87 152 [a0, some (.int x), a2, a3, a4] [] h = rn d 87 153 [a0, some (.int x), a2, a3, a4] [.int x] h := rP (i := (.iload_n 1)) rfl rfl
set_option maxRecDepth 8000 in
theorem e87_153 (d : Nat) (a0 a1 a2 a3 a4 : Option Value) (s0 : Int32) (h : MH)  : rn d 87 153 [a0, a1, a2, a3, a4] [.int s0] h = rn d 87 155 [a0, a1, a2, a3, a4] [.int 24, .int s0] h := rP (i := (.bipush 24)) rfl rfl
set_option maxRecDepth 8000 in
theorem e87_155 (d : Nat) (a0 a1 a2 a3 a4 : Option Value) (s0 s1 : Int32) (h : MH)  : rn d 87 155 [a0, a1, a2, a3, a4] [.int s0, .int s1] h = rn d 87 156 [a0, a1, a2, a3, a4] [.int (s1 * s0)] h := rP (i := (.imul)) rfl rfl
set_option maxRecDepth 8000 in
theorem e87_156 (d : Nat) (a0 a1 a3 a4 : Option Value) (s0 : Int32) (h : MH) (x : Int32) : rn d 87 156 [a0, a1, some (.int x), a3, a4] [.int s0] h = rn d 87 157 [a0, a1, some (.int x), a3, a4] [.int x, .int s0] h := rP (i := (.iload_n 2)) rfl rfl
set_option maxRecDepth 8000 in
theorem e87_157 (d : Nat) (a0 a1 a2 a3 a4 : Option Value) (s0 s1 : Int32) (h : MH)  : rn d 87 157 [a0, a1, a2, a3, a4] [.int s0, .int s1] h = rn d 87 158 [a0, a1, a2, a3, a4] [.int (s1 + s0)] h := rP (i := (.iadd)) rfl rfl
set_option maxRecDepth 8000 in
theorem e87_158 (d : Nat) (a0 a1 a2 a3 a4 : Option Value) (s0 : Int32) (h : MH)  : rn d 87 158 [a0, a1, a2, a3, a4] [.int s0] h = rn d 87 159 [a0, a1, a2, some (.int s0), a4] [] h := rP (i := (.istore_n 3)) rfl rfl
set_option maxRecDepth 8000 in
theorem e87_159 (d : Nat) (a1 a2 a3 a4 : Option Value) (h : MH) (x : Nat) : rn d 87 159 [some (.ref x), a1, a2, a3, a4] [] h = rn d 87 160 [some (.ref x), a1, a2, a3, a4] [.ref x] h := rP (i := (.aload_n 0)) rfl rfl
set_option maxRecDepth 8000 in
theorem e87_160 (d : Nat) (a0 a1 a2 a3 a4 : Option Value) (s0 : Nat) (h : MH)  : rn d 87 160 [a0, a1, a2, a3, a4] [.ref s0] h = (fgetv h s0 5 11).bind (fun v => rn d 87 163 [a0, a1, a2, a3, a4] [v] h) := rGet (idx := 38) rfl rfl
set_option maxRecDepth 8000 in
theorem e87_163 (d : Nat) (a0 a1 a2 a4 : Option Value) (s0 : Nat) (h : MH) (x : Int32) : rn d 87 163 [a0, a1, a2, some (.int x), a4] [.ref s0] h = rn d 87 164 [a0, a1, a2, some (.int x), a4] [.int x, .ref s0] h := rP (i := (.iload_n 3)) rfl rfl
set_option maxRecDepth 8000 in
theorem e87_164 (d : Nat) (a0 a1 a2 a3 a4 : Option Value) (s0 : Int32) (s1 : Nat) (h : MH)  : rn d 87 164 [a0, a1, a2, a3, a4] [.int s0, .ref s1] h = (ageti h 1 s1 s0).bind (fun v => rn d 87 165 [a0, a1, a2, a3, a4] [.int v] h) := rBald rfl
set_option maxRecDepth 8000 in
theorem e87_165 (d : Nat) (a0 a1 a2 a3 a4 : Option Value) (s0 : Int32) (h : MH)  : rn d 87 165 [a0, a1, a2, a3, a4] [.int s0] h = if s0 = 0 then rn d 87 234 [a0, a1, a2, a3, a4] [] h else rn d 87 168 [a0, a1, a2, a3, a4] [] h := rEq1 (off := 69) 234 rfl rfl
set_option maxRecDepth 8000 in
theorem e87_168 (d : Nat) (a1 a2 a3 a4 : Option Value) (h : MH) (x : Nat) : rn d 87 168 [some (.ref x), a1, a2, a3, a4] [] h = rn d 87 169 [some (.ref x), a1, a2, a3, a4] [.ref x] h := rP (i := (.aload_n 0)) rfl rfl
set_option maxRecDepth 8000 in
theorem e87_169 (d : Nat) (a0 a1 a2 a3 a4 : Option Value) (s0 : Nat) (h : MH)  : rn d 87 169 [a0, a1, a2, a3, a4] [.ref s0] h = (fgetv h s0 5 4).bind (fun v => rn d 87 172 [a0, a1, a2, a3, a4] [v] h) := rGet (idx := 17) rfl rfl
set_option maxRecDepth 8000 in
theorem e87_172 (d : Nat) (a0 a1 a2 a4 : Option Value) (s0 : Nat) (h : MH) (x : Int32) : rn d 87 172 [a0, a1, a2, some (.int x), a4] [.ref s0] h = rn d 87 173 [a0, a1, a2, some (.int x), a4] [.int x, .ref s0] h := rP (i := (.iload_n 3)) rfl rfl
set_option maxRecDepth 8000 in
theorem e87_173 (d : Nat) (a0 a1 a2 a3 a4 : Option Value) (s0 : Int32) (s1 : Nat) (h : MH)  : rn d 87 173 [a0, a1, a2, a3, a4] [.int s0, .ref s1] h = (ageti h 0 s1 s0).bind (fun v => rn d 87 174 [a0, a1, a2, a3, a4] [.int v] h) := rIald rfl
set_option maxRecDepth 8000 in
theorem e87_174 (d : Nat) (a0 a1 a2 a3 a4 : Option Value) (s0 : Int32) (h : MH)  : rn d 87 174 [a0, a1, a2, a3, a4] [.int s0] h = rn d 87 176 [a0, a1, a2, a3, a4] [.int 80, .int s0] h := rP (i := (.bipush 80)) rfl rfl
set_option maxRecDepth 8000 in
theorem e87_176 (d : Nat) (a0 a1 a2 a3 a4 : Option Value) (s0 s1 : Int32) (h : MH)  : rn d 87 176 [a0, a1, a2, a3, a4] [.int s0, .int s1] h = if s1 = s0 then rn d 87 193 [a0, a1, a2, a3, a4] [] h else rn d 87 179 [a0, a1, a2, a3, a4] [] h := rEq2 (off := 17) 193 rfl rfl
set_option maxRecDepth 8000 in
theorem e87_179 (d : Nat) (a1 a2 a3 a4 : Option Value) (h : MH) (x : Nat) : rn d 87 179 [some (.ref x), a1, a2, a3, a4] [] h = rn d 87 180 [some (.ref x), a1, a2, a3, a4] [.ref x] h := rP (i := (.aload_n 0)) rfl rfl
set_option maxRecDepth 8000 in
theorem e87_180 (d : Nat) (a0 a1 a2 a3 a4 : Option Value) (s0 : Nat) (h : MH)  : rn d 87 180 [a0, a1, a2, a3, a4] [.ref s0] h = (fgetv h s0 5 4).bind (fun v => rn d 87 183 [a0, a1, a2, a3, a4] [v] h) := rGet (idx := 17) rfl rfl
set_option maxRecDepth 8000 in
theorem e87_183 (d : Nat) (a0 a1 a2 a4 : Option Value) (s0 : Nat) (h : MH) (x : Int32) : rn d 87 183 [a0, a1, a2, some (.int x), a4] [.ref s0] h = rn d 87 184 [a0, a1, a2, some (.int x), a4] [.int x, .ref s0] h := rP (i := (.iload_n 3)) rfl rfl
set_option maxRecDepth 8000 in
theorem e87_184 (d : Nat) (a0 a1 a2 a3 a4 : Option Value) (s0 : Int32) (s1 : Nat) (h : MH)  : rn d 87 184 [a0, a1, a2, a3, a4] [.int s0, .ref s1] h = (ageti h 0 s1 s0).bind (fun v => rn d 87 185 [a0, a1, a2, a3, a4] [.int v] h) := rIald rfl
set_option maxRecDepth 8000 in
theorem e87_185 (d : Nat) (a0 a1 a2 a3 a4 : Option Value) (s0 : Int32) (h : MH)  : rn d 87 185 [a0, a1, a2, a3, a4] [.int s0] h = rn d 87 187 [a0, a1, a2, a3, a4] [.int 67, .int s0] h := rP (i := (.bipush 67)) rfl rfl
set_option maxRecDepth 8000 in
theorem e87_187 (d : Nat) (a0 a1 a2 a3 a4 : Option Value) (s0 s1 : Int32) (h : MH)  : rn d 87 187 [a0, a1, a2, a3, a4] [.int s0, .int s1] h = if s1 = s0 then rn d 87 193 [a0, a1, a2, a3, a4] [] h else rn d 87 190 [a0, a1, a2, a3, a4] [] h := rEq2 (off := 6) 193 rfl rfl
set_option maxRecDepth 8000 in
theorem e87_190 (d : Nat) (a0 a1 a2 a3 a4 : Option Value) (h : MH)  : rn d 87 190 [a0, a1, a2, a3, a4] [] h = rn d 87 234 [a0, a1, a2, a3, a4] [] h := rP (i := (.goto 44)) rfl rfl
set_option maxRecDepth 8000 in
theorem e87_193 (d : Nat) (a0 a2 a3 a4 : Option Value) (h : MH) (x : Int32) : rn d 87 193 [a0, some (.int x), a2, a3, a4] [] h = rn d 87 194 [a0, some (.int x), a2, a3, a4] [.int x] h := rP (i := (.iload_n 1)) rfl rfl
set_option maxRecDepth 8000 in
theorem e87_194 (d : Nat) (a0 a1 a2 a3 a4 : Option Value) (s0 : Int32) (h : MH)  : rn d 87 194 [a0, a1, a2, a3, a4] [.int s0] h = rn d 87 196 [a0, a1, a2, a3, a4] [.int 24, .int s0] h := rP (i := (.bipush 24)) rfl rfl
set_option maxRecDepth 8000 in
theorem e87_196 (d : Nat) (a0 a1 a2 a3 a4 : Option Value) (s0 s1 : Int32) (h : MH)  : rn d 87 196 [a0, a1, a2, a3, a4] [.int s0, .int s1] h = rn d 87 197 [a0, a1, a2, a3, a4] [.int (s1 * s0)] h := rP (i := (.imul)) rfl rfl
set_option maxRecDepth 8000 in
theorem e87_197 (d : Nat) (a1 a2 a3 a4 : Option Value) (s0 : Int32) (h : MH) (x : Nat) : rn d 87 197 [some (.ref x), a1, a2, a3, a4] [.int s0] h = rn d 87 198 [some (.ref x), a1, a2, a3, a4] [.ref x, .int s0] h := rP (i := (.aload_n 0)) rfl rfl
set_option maxRecDepth 8000 in
theorem e87_198 (d : Nat) (a0 a2 a3 a4 : Option Value) (s1 : Int32) (s0 : Nat) (h : MH) (x : Int32) : rn d 87 198 [a0, some (.int x), a2, a3, a4] [.ref s0, .int s1] h = rn d 87 199 [a0, some (.int x), a2, a3, a4] [.int x, .ref s0, .int s1] h := rP (i := (.iload_n 1)) rfl rfl
set_option maxRecDepth 8000 in
theorem e87_199 (d : Nat) (a0 a1 a3 a4 : Option Value) (s0 s2 : Int32) (s1 : Nat) (h : MH) (x : Int32) : rn d 87 199 [a0, a1, some (.int x), a3, a4] [.int s0, .ref s1, .int s2] h = rn d 87 200 [a0, a1, some (.int x), a3, a4] [.int x, .int s0, .ref s1, .int s2] h := rP (i := (.iload_n 2)) rfl rfl
set_option maxRecDepth 8000 in
theorem e87_200 (d : Nat) (a0 a1 a2 a3 a4 : Option Value) (s0 s1 s3 : Int32) (s2 : Nat) (h : MH)  : rn d 87 200 [a0, a1, a2, a3, a4] [.int s0, .int s1, .ref s2, .int s3] h = rn d 87 201 [a0, a1, a2, a3, a4] [.int 0, .int s0, .int s1, .ref s2, .int s3] h := rP (i := (.iconst 0)) rfl rfl
set_option maxRecDepth 8000 in
theorem e87_201 (d : Nat) (a0 a1 a2 a3 a4 : Option Value) (s0 s1 s2 s4 : Int32) (s3 : Nat) (h : MH) (hz : clsOf h s3 = some 5) : rn (d + 1) 87 201 [a0, a1, a2, a3, a4] [.int s0, .int s1, .int s2, .ref s3, .int s4] h = (rn d 83 0 [some (.ref s3), some (.int s2), some (.int s1), some (.int s0), none, none] [] h).bind (fun R => rn (d + 1) 87 204 [a0, a1, a2, a3, a4] (R.1.toList ++ [.int s4]) R.2) := rInv (i := (.invokevirtual 111)) (n := 4) (tl := [509, 510, 43, 58]) rfl rfl rfl rfl (by decide) (Nat.le_of_ble_eq_true rfl) (Nat.le_of_ble_eq_true rfl) (Nat.le_of_ble_eq_true rfl) (rcv_V hz)
set_option maxRecDepth 8000 in
theorem e87_204 (d : Nat) (a0 a1 a2 a3 a4 : Option Value) (s0 s1 : Int32) (h : MH)  : rn d 87 204 [a0, a1, a2, a3, a4] [.int s0, .int s1] h = rn d 87 205 [a0, a1, a2, a3, a4] [.int (s1 + s0)] h := rP (i := (.iadd)) rfl rfl
set_option maxRecDepth 8000 in
theorem e87_205 (d : Nat) (a0 a1 a2 a3 a4 : Option Value) (s0 : Int32) (h : MH)  : rn d 87 205 [a0, a1, a2, a3, a4] [.int s0] h = rn d 87 207 [a0, a1, a2, a3, some (.int s0)] [] h := rP (i := (.istore 4)) rfl rfl
set_option maxRecDepth 8000 in
theorem e87_207 (d : Nat) (a1 a2 a3 a4 : Option Value) (h : MH) (x : Nat) : rn d 87 207 [some (.ref x), a1, a2, a3, a4] [] h = rn d 87 208 [some (.ref x), a1, a2, a3, a4] [.ref x] h := rP (i := (.aload_n 0)) rfl rfl
set_option maxRecDepth 8000 in
theorem e87_208 (d : Nat) (a1 a2 a3 a4 : Option Value) (s0 : Nat) (h : MH) (x : Nat) : rn d 87 208 [some (.ref x), a1, a2, a3, a4] [.ref s0] h = rn d 87 209 [some (.ref x), a1, a2, a3, a4] [.ref x, .ref s0] h := rP (i := (.aload_n 0)) rfl rfl
set_option maxRecDepth 8000 in
theorem e87_209 (d : Nat) (a0 a1 a2 a3 a4 : Option Value) (s0 s1 : Nat) (h : MH)  : rn d 87 209 [a0, a1, a2, a3, a4] [.ref s0, .ref s1] h = (fgetv h s0 5 7).bind (fun v => rn d 87 212 [a0, a1, a2, a3, a4] [v, .ref s1] h) := rGet (idx := 26) rfl rfl
set_option maxRecDepth 8000 in
theorem e87_212 (d : Nat) (a0 a1 a2 a3 : Option Value) (s0 s1 : Nat) (h : MH) (x : Int32) : rn d 87 212 [a0, a1, a2, a3, some (.int x)] [.ref s0, .ref s1] h = rn d 87 214 [a0, a1, a2, a3, some (.int x)] [.int x, .ref s0, .ref s1] h := rP (i := (.iload 4)) rfl rfl
set_option maxRecDepth 8000 in
theorem e87_214 (d : Nat) (a0 a1 a2 a3 a4 : Option Value) (s0 : Int32) (s1 s2 : Nat) (h : MH)  : rn d 87 214 [a0, a1, a2, a3, a4] [.int s0, .ref s1, .ref s2] h = (ageti h 0 s1 s0).bind (fun v => rn d 87 215 [a0, a1, a2, a3, a4] [.int v, .ref s2] h) := rIald rfl
set_option maxRecDepth 8000 in
theorem e87_215 (d : Nat) (a0 a1 a2 a3 a4 : Option Value) (s0 : Int32) (s1 : Nat) (h : MH) (hz : clsOf h s1 = some 5) : rn (d + 1) 87 215 [a0, a1, a2, a3, a4] [.int s0, .ref s1] h = (rn d 89 0 [some (.ref s1), some (.int s0)] [] h).bind (fun R => rn (d + 1) 87 218 [a0, a1, a2, a3, a4] (R.1.toList ++ []) R.2) := rInv (i := (.invokevirtual 133)) (n := 2) (tl := [528, 529, 48, 58]) rfl rfl rfl rfl (by decide) (Nat.le_of_ble_eq_true rfl) (Nat.le_of_ble_eq_true rfl) (Nat.le_of_ble_eq_true rfl) (rcv_V hz)
set_option maxRecDepth 8000 in
theorem e87_218 (d : Nat) (a0 a1 a2 a3 a4 : Option Value) (s0 : Int32) (h : MH)  : rn d 87 218 [a0, a1, a2, a3, a4] [.int s0] h = if s0 = 0 then rn d 87 234 [a0, a1, a2, a3, a4] [] h else rn d 87 221 [a0, a1, a2, a3, a4] [] h := rEq1 (off := 16) 234 rfl rfl
set_option maxRecDepth 8000 in
theorem e87_221 (d : Nat) (a1 a2 a3 a4 : Option Value) (h : MH) (x : Nat) : rn d 87 221 [some (.ref x), a1, a2, a3, a4] [] h = rn d 87 222 [some (.ref x), a1, a2, a3, a4] [.ref x] h := rP (i := (.aload_n 0)) rfl rfl
set_option maxRecDepth 8000 in
theorem e87_222 (d : Nat) (a0 a1 a2 a3 a4 : Option Value) (s0 : Nat) (h : MH)  : rn d 87 222 [a0, a1, a2, a3, a4] [.ref s0] h = (fgetv h s0 5 10).bind (fun v => rn d 87 225 [a0, a1, a2, a3, a4] [v] h) := rGet (idx := 35) rfl rfl
set_option maxRecDepth 8000 in
theorem e87_225 (d : Nat) (a0 a1 a2 a4 : Option Value) (s0 : Nat) (h : MH) (x : Int32) : rn d 87 225 [a0, a1, a2, some (.int x), a4] [.ref s0] h = rn d 87 226 [a0, a1, a2, some (.int x), a4] [.int x, .ref s0] h := rP (i := (.iload_n 3)) rfl rfl
set_option maxRecDepth 8000 in
theorem e87_226 (d : Nat) (a1 a2 a3 a4 : Option Value) (s0 : Int32) (s1 : Nat) (h : MH) (x : Nat) : rn d 87 226 [some (.ref x), a1, a2, a3, a4] [.int s0, .ref s1] h = rn d 87 227 [some (.ref x), a1, a2, a3, a4] [.ref x, .int s0, .ref s1] h := rP (i := (.aload_n 0)) rfl rfl
set_option maxRecDepth 8000 in
theorem e87_227 (d : Nat) (a0 a1 a2 a3 a4 : Option Value) (s1 : Int32) (s0 s2 : Nat) (h : MH)  : rn d 87 227 [a0, a1, a2, a3, a4] [.ref s0, .int s1, .ref s2] h = (fgetv h s0 5 9).bind (fun v => rn d 87 230 [a0, a1, a2, a3, a4] [v, .int s1, .ref s2] h) := rGet (idx := 32) rfl rfl
set_option maxRecDepth 8000 in
theorem e87_230 (d : Nat) (a0 a1 a2 a3 : Option Value) (s1 : Int32) (s0 s2 : Nat) (h : MH) (x : Int32) : rn d 87 230 [a0, a1, a2, a3, some (.int x)] [.ref s0, .int s1, .ref s2] h = rn d 87 232 [a0, a1, a2, a3, some (.int x)] [.int x, .ref s0, .int s1, .ref s2] h := rP (i := (.iload 4)) rfl rfl
set_option maxRecDepth 8000 in
theorem e87_232 (d : Nat) (a0 a1 a2 a3 a4 : Option Value) (s0 s2 : Int32) (s1 s3 : Nat) (h : MH)  : rn d 87 232 [a0, a1, a2, a3, a4] [.int s0, .ref s1, .int s2, .ref s3] h = (ageti h 0 s1 s0).bind (fun v => rn d 87 233 [a0, a1, a2, a3, a4] [.int v, .int s2, .ref s3] h) := rIald rfl
set_option maxRecDepth 8000 in
theorem e87_233 (d : Nat) (a0 a1 a2 a3 a4 : Option Value) (s0 s1 : Int32) (s2 : Nat) (h : MH)  : rn d 87 233 [a0, a1, a2, a3, a4] [.int s0, .int s1, .ref s2] h = (aputi h 0 s2 s1 s0).bind (fun h => rn d 87 234 [a0, a1, a2, a3, a4] [] h) := rIast rfl
set_option maxRecDepth 8000 in
theorem e87_234 (d : Nat) (a0 a1 a3 a4 : Option Value) (h : MH) (x : Int32) : rn d 87 234 [a0, a1, some (.int x), a3, a4] [] h = rn d 87 237 [a0, a1, some (.int (x + 1)), a3, a4] [] h := rP (i := (.iinc 2 1)) rfl rfl
set_option maxRecDepth 8000 in
theorem e87_237 (d : Nat) (a0 a1 a2 a3 a4 : Option Value) (h : MH)  : rn d 87 237 [a0, a1, a2, a3, a4] [] h = rn d 87 142 [a0, a1, a2, a3, a4] [] h := rP (i := (.goto (-95))) rfl rfl
set_option maxRecDepth 8000 in
theorem e87_240 (d : Nat) (a0 a2 a3 a4 : Option Value) (h : MH) (x : Int32) : rn d 87 240 [a0, some (.int x), a2, a3, a4] [] h = rn d 87 243 [a0, some (.int (x + 1)), a2, a3, a4] [] h := rP (i := (.iinc 1 1)) rfl rfl
set_option maxRecDepth 8000 in
theorem e87_243 (d : Nat) (a0 a1 a2 a3 a4 : Option Value) (h : MH)  : rn d 87 243 [a0, a1, a2, a3, a4] [] h = rn d 87 129 [a0, a1, a2, a3, a4] [] h := rP (i := (.goto (-114))) rfl rfl
set_option maxRecDepth 8000 in
theorem e87_246 (d : Nat) (a0 a1 a2 a3 a4 : Option Value) (h : MH)  : rn d 87 246 [a0, a1, a2, a3, a4] [] h = rn d 87 247 [a0, a1, a2, a3, a4] [.int (-1)] h := rP (i := (.iconst (-1))) rfl rfl
set_option maxRecDepth 8000 in
theorem e87_247 (d : Nat) (a0 a1 a2 a3 a4 : Option Value) (s0 : Int32) (h : MH)  : rn d 87 247 [a0, a1, a2, a3, a4] [.int s0] h = rn d 87 248 [a0, some (.int s0), a2, a3, a4] [] h := rP (i := (.istore_n 1)) rfl rfl
set_option maxRecDepth 8000 in
theorem e87_248 (d : Nat) (a0 a2 a3 a4 : Option Value) (h : MH) (x : Int32) : rn d 87 248 [a0, some (.int x), a2, a3, a4] [] h = rn d 87 249 [a0, some (.int x), a2, a3, a4] [.int x] h := rP (i := (.iload_n 1)) rfl rfl
set_option maxRecDepth 8000 in
theorem e87_249 (d : Nat) (a0 a1 a2 a3 a4 : Option Value) (s0 : Int32) (h : MH)  : rn d 87 249 [a0, a1, a2, a3, a4] [.int s0] h = rn d 87 251 [a0, a1, a2, a3, a4] [.int 8, .int s0] h := rP (i := (.bipush 8)) rfl rfl
set_option maxRecDepth 8000 in
theorem e87_251 (d : Nat) (a0 a1 a2 a3 a4 : Option Value) (s0 s1 : Int32) (h : MH)  : rn d 87 251 [a0, a1, a2, a3, a4] [.int s0, .int s1] h = if s1 < s0 then rn d 87 254 [a0, a1, a2, a3, a4] [] h else rn d 87 280 [a0, a1, a2, a3, a4] [] h := rGe2 (off := 29) 280 rfl rfl
set_option maxRecDepth 8000 in
theorem e87_254 (d : Nat) (a1 a2 a3 a4 : Option Value) (h : MH) (x : Nat) : rn d 87 254 [some (.ref x), a1, a2, a3, a4] [] h = rn d 87 255 [some (.ref x), a1, a2, a3, a4] [.ref x] h := rP (i := (.aload_n 0)) rfl rfl
set_option maxRecDepth 8000 in
theorem e87_255 (d : Nat) (a0 a2 a3 a4 : Option Value) (s0 : Nat) (h : MH) (x : Int32) : rn d 87 255 [a0, some (.int x), a2, a3, a4] [.ref s0] h = rn d 87 256 [a0, some (.int x), a2, a3, a4] [.int x, .ref s0] h := rP (i := (.iload_n 1)) rfl rfl
set_option maxRecDepth 8000 in
theorem e87_256 (d : Nat) (a0 a1 a2 a3 a4 : Option Value) (s0 : Int32) (s1 : Nat) (h : MH) (hz : clsOf h s1 = some 5) : rn (d + 1) 87 256 [a0, a1, a2, a3, a4] [.int s0, .ref s1] h = (rn d 89 0 [some (.ref s1), some (.int s0)] [] h).bind (fun R => rn (d + 1) 87 259 [a0, a1, a2, a3, a4] (R.1.toList ++ []) R.2) := rInv (i := (.invokevirtual 133)) (n := 2) (tl := [528, 529, 48, 58]) rfl rfl rfl rfl (by decide) (Nat.le_of_ble_eq_true rfl) (Nat.le_of_ble_eq_true rfl) (Nat.le_of_ble_eq_true rfl) (rcv_V hz)
set_option maxRecDepth 8000 in
theorem e87_259 (d : Nat) (a0 a1 a2 a3 a4 : Option Value) (s0 : Int32) (h : MH)  : rn d 87 259 [a0, a1, a2, a3, a4] [.int s0] h = if s0 = 0 then rn d 87 274 [a0, a1, a2, a3, a4] [] h else rn d 87 262 [a0, a1, a2, a3, a4] [] h := rEq1 (off := 15) 274 rfl rfl
set_option maxRecDepth 8000 in
theorem e87_262 (d : Nat) (a1 a2 a3 a4 : Option Value) (h : MH) (x : Nat) : rn d 87 262 [some (.ref x), a1, a2, a3, a4] [] h = rn d 87 263 [some (.ref x), a1, a2, a3, a4] [.ref x] h := rP (i := (.aload_n 0)) rfl rfl
set_option maxRecDepth 8000 in
theorem e87_263 (d : Nat) (a0 a1 a2 a3 a4 : Option Value) (s0 : Nat) (h : MH)  : rn d 87 263 [a0, a1, a2, a3, a4] [.ref s0] h = (fgetv h s0 5 22).bind (fun v => rn d 87 266 [a0, a1, a2, a3, a4] [v] h) := rGet (idx := 66) rfl rfl
set_option maxRecDepth 8000 in
theorem e87_266 (d : Nat) (a0 a2 a3 a4 : Option Value) (s0 : Nat) (h : MH) (x : Int32) : rn d 87 266 [a0, some (.int x), a2, a3, a4] [.ref s0] h = rn d 87 267 [a0, some (.int x), a2, a3, a4] [.int x, .ref s0] h := rP (i := (.iload_n 1)) rfl rfl
set_option maxRecDepth 8000 in
theorem e87_267 (d : Nat) (a0 a1 a2 a3 a4 : Option Value) (s0 : Int32) (s1 : Nat) (h : MH)  : rn d 87 267 [a0, a1, a2, a3, a4] [.int s0, .ref s1] h = rn d 87 268 [a0, a1, a2, a3, a4] [.int 1, .int s0, .ref s1] h := rP (i := (.iconst 1)) rfl rfl
set_option maxRecDepth 8000 in
theorem e87_268 (d : Nat) (a0 a1 a2 a3 a4 : Option Value) (s0 s1 : Int32) (s2 : Nat) (h : MH)  : rn d 87 268 [a0, a1, a2, a3, a4] [.int s0, .int s1, .ref s2] h = rn d 87 269 [a0, a1, a2, a3, a4] [.int (s1 + s0), .ref s2] h := rP (i := (.iadd)) rfl rfl
set_option maxRecDepth 8000 in
theorem e87_269 (d : Nat) (a0 a1 a2 a3 a4 : Option Value) (s0 : Int32) (s1 : Nat) (h : MH)  : rn d 87 269 [a0, a1, a2, a3, a4] [.int s0, .ref s1] h = rn d 87 270 [a0, a1, a2, a3, a4] [.int s0, .ref s1, .int s0, .ref s1] h := rP (i := (.dup2)) rfl rfl
set_option maxRecDepth 8000 in
theorem e87_270 (d : Nat) (a0 a1 a2 a3 a4 : Option Value) (s0 s2 : Int32) (s1 s3 : Nat) (h : MH)  : rn d 87 270 [a0, a1, a2, a3, a4] [.int s0, .ref s1, .int s2, .ref s3] h = (ageti h 0 s1 s0).bind (fun v => rn d 87 271 [a0, a1, a2, a3, a4] [.int v, .int s2, .ref s3] h) := rIald rfl
set_option maxRecDepth 8000 in
theorem e87_271 (d : Nat) (a0 a1 a2 a3 a4 : Option Value) (s0 s1 : Int32) (s2 : Nat) (h : MH)  : rn d 87 271 [a0, a1, a2, a3, a4] [.int s0, .int s1, .ref s2] h = rn d 87 272 [a0, a1, a2, a3, a4] [.int 1, .int s0, .int s1, .ref s2] h := rP (i := (.iconst 1)) rfl rfl
set_option maxRecDepth 8000 in
theorem e87_272 (d : Nat) (a0 a1 a2 a3 a4 : Option Value) (s0 s1 s2 : Int32) (s3 : Nat) (h : MH)  : rn d 87 272 [a0, a1, a2, a3, a4] [.int s0, .int s1, .int s2, .ref s3] h = rn d 87 273 [a0, a1, a2, a3, a4] [.int (s1 + s0), .int s2, .ref s3] h := rP (i := (.iadd)) rfl rfl
set_option maxRecDepth 8000 in
theorem e87_273 (d : Nat) (a0 a1 a2 a3 a4 : Option Value) (s0 s1 : Int32) (s2 : Nat) (h : MH)  : rn d 87 273 [a0, a1, a2, a3, a4] [.int s0, .int s1, .ref s2] h = (aputi h 0 s2 s1 s0).bind (fun h => rn d 87 274 [a0, a1, a2, a3, a4] [] h) := rIast rfl
set_option maxRecDepth 8000 in
theorem e87_274 (d : Nat) (a0 a2 a3 a4 : Option Value) (h : MH) (x : Int32) : rn d 87 274 [a0, some (.int x), a2, a3, a4] [] h = rn d 87 277 [a0, some (.int (x + 1)), a2, a3, a4] [] h := rP (i := (.iinc 1 1)) rfl rfl
set_option maxRecDepth 8000 in
theorem e87_277 (d : Nat) (a0 a1 a2 a3 a4 : Option Value) (h : MH)  : rn d 87 277 [a0, a1, a2, a3, a4] [] h = rn d 87 248 [a0, a1, a2, a3, a4] [] h := rP (i := (.goto (-29))) rfl rfl
set_option maxRecDepth 8000 in
theorem e87_280 (d : Nat) (a1 a2 a3 a4 : Option Value) (h : MH) (x : Nat) : rn d 87 280 [some (.ref x), a1, a2, a3, a4] [] h = rn d 87 281 [some (.ref x), a1, a2, a3, a4] [.ref x] h := rP (i := (.aload_n 0)) rfl rfl
set_option maxRecDepth 8000 in
theorem e87_281 (d : Nat) (a0 a1 a2 a3 a4 : Option Value) (s0 : Nat) (h : MH)  : rn d 87 281 [a0, a1, a2, a3, a4] [.ref s0] h = rn d 87 282 [a0, a1, a2, a3, a4] [.ref s0, .ref s0] h := rP (i := (.dup)) rfl rfl
set_option maxRecDepth 8000 in
theorem e87_282 (d : Nat) (a0 a1 a2 a3 a4 : Option Value) (s0 s1 : Nat) (h : MH)  : rn d 87 282 [a0, a1, a2, a3, a4] [.ref s0, .ref s1] h = (fgetv h s0 5 16).bind (fun v => rn d 87 285 [a0, a1, a2, a3, a4] [v, .ref s1] h) := rGet (idx := 130) rfl rfl
set_option maxRecDepth 8000 in
theorem e87_285 (d : Nat) (a0 a1 a2 a3 a4 : Option Value) (s0 : Int32) (s1 : Nat) (h : MH)  : rn d 87 285 [a0, a1, a2, a3, a4] [.int s0, .ref s1] h = rn d 87 286 [a0, a1, a2, a3, a4] [.int 1, .int s0, .ref s1] h := rP (i := (.iconst 1)) rfl rfl
set_option maxRecDepth 8000 in
theorem e87_286 (d : Nat) (a0 a1 a2 a3 a4 : Option Value) (s0 s1 : Int32) (s2 : Nat) (h : MH)  : rn d 87 286 [a0, a1, a2, a3, a4] [.int s0, .int s1, .ref s2] h = rn d 87 287 [a0, a1, a2, a3, a4] [.int (s1 + s0), .ref s2] h := rP (i := (.iadd)) rfl rfl
set_option maxRecDepth 8000 in
theorem e87_287 (d : Nat) (a0 a1 a2 a3 a4 : Option Value) (s0 : Int32) (s1 : Nat) (h : MH)  : rn d 87 287 [a0, a1, a2, a3, a4] [.int s0, .ref s1] h = (fputh h s1 5 16 .int (.int s0)).bind (fun h => rn d 87 290 [a0, a1, a2, a3, a4] [] h) := rPut (idx := 130) rfl rfl
set_option maxRecDepth 8000 in
theorem e87_290 (d : Nat) (a0 a1 a2 a3 a4 : Option Value) (h : MH)  : rn d 87 290 [a0, a1, a2, a3, a4] [] h = some (none, h) := rVret rfl rfl
-- 88: FlowEquationsModel.canWork(I)Z
theorem e88_0 (d : Nat) (a1 a2 : Option Value) (h : MH) (x : Nat) : rn d 88 0 [some (.ref x), a1, a2] [] h = rn d 88 1 [some (.ref x), a1, a2] [.ref x] h := rP (i := (.aload_n 0)) rfl rfl
theorem e88_1 (d : Nat) (a0 a1 a2 : Option Value) (s0 : Nat) (h : MH)  : rn d 88 1 [a0, a1, a2] [.ref s0] h = (fgetv h s0 5 5).bind (fun v => rn d 88 4 [a0, a1, a2] [v] h) := rGet (idx := 20) rfl rfl
theorem e88_4 (d : Nat) (a0 a2 : Option Value) (s0 : Nat) (h : MH) (x : Int32) : rn d 88 4 [a0, some (.int x), a2] [.ref s0] h = rn d 88 5 [a0, some (.int x), a2] [.int x, .ref s0] h := rP (i := (.iload_n 1)) rfl rfl
theorem e88_5 (d : Nat) (a0 a1 a2 : Option Value) (s0 : Int32) (s1 : Nat) (h : MH)  : rn d 88 5 [a0, a1, a2] [.int s0, .ref s1] h = (ageti h 0 s1 s0).bind (fun v => rn d 88 6 [a0, a1, a2] [.int v] h) := rIald rfl
theorem e88_6 (d : Nat) (a0 a1 a2 : Option Value) (s0 : Int32) (h : MH)  : rn d 88 6 [a0, a1, a2] [.int s0] h = if s0 = 0 then rn d 88 18 [a0, a1, a2] [] h else rn d 88 9 [a0, a1, a2] [] h := rEq1 (off := 12) 18 rfl rfl
theorem e88_9 (d : Nat) (a1 a2 : Option Value) (h : MH) (x : Nat) : rn d 88 9 [some (.ref x), a1, a2] [] h = rn d 88 10 [some (.ref x), a1, a2] [.ref x] h := rP (i := (.aload_n 0)) rfl rfl
theorem e88_10 (d : Nat) (a0 a1 a2 : Option Value) (s0 : Nat) (h : MH)  : rn d 88 10 [a0, a1, a2] [.ref s0] h = (fgetv h s0 5 18).bind (fun v => rn d 88 13 [a0, a1, a2] [v] h) := rGet (idx := 54) rfl rfl
theorem e88_13 (d : Nat) (a0 a2 : Option Value) (s0 : Nat) (h : MH) (x : Int32) : rn d 88 13 [a0, some (.int x), a2] [.ref s0] h = rn d 88 14 [a0, some (.int x), a2] [.int x, .ref s0] h := rP (i := (.iload_n 1)) rfl rfl
theorem e88_14 (d : Nat) (a0 a1 a2 : Option Value) (s0 : Int32) (s1 : Nat) (h : MH)  : rn d 88 14 [a0, a1, a2] [.int s0, .ref s1] h = (ageti h 1 s1 s0).bind (fun v => rn d 88 15 [a0, a1, a2] [.int v] h) := rBald rfl
theorem e88_15 (d : Nat) (a0 a1 a2 : Option Value) (s0 : Int32) (h : MH)  : rn d 88 15 [a0, a1, a2] [.int s0] h = if s0 = 0 then rn d 88 20 [a0, a1, a2] [] h else rn d 88 18 [a0, a1, a2] [] h := rEq1 (off := 5) 20 rfl rfl
theorem e88_18 (d : Nat) (a0 a1 a2 : Option Value) (h : MH)  : rn d 88 18 [a0, a1, a2] [] h = rn d 88 19 [a0, a1, a2] [.int 0] h := rP (i := (.iconst 0)) rfl rfl
theorem e88_19 (d : Nat) (a0 a1 a2 : Option Value) (s0 : Int32) (h : MH) (hz : s0 &&& 1 = s0) : rn d 88 19 [a0, a1, a2] [.int s0] h = some (some (.int s0), h) := rIretZ hz rfl rfl
theorem e88_19q0 (d : Nat) (a0 a1 a2 : Option Value)  (h : MH) : rn d 88 19 [a0, a1, a2] [.int 0] h = some (some (.int 0), h) := rIretZ rfl rfl rfl
theorem e88_19q1 (d : Nat) (a0 a1 a2 : Option Value)  (h : MH) : rn d 88 19 [a0, a1, a2] [.int 1] h = some (some (.int 1), h) := rIretZ rfl rfl rfl
theorem e88_20 (d : Nat) (a0 a1 a2 : Option Value) (h : MH)  : rn d 88 20 [a0, a1, a2] [] h = rn d 88 21 [a0, a1, a2] [.int 0] h := rP (i := (.iconst 0)) rfl rfl
theorem e88_21 (d : Nat) (a0 a1 a2 : Option Value) (s0 : Int32) (h : MH)  : rn d 88 21 [a0, a1, a2] [.int s0] h = rn d 88 22 [a0, a1, some (.int s0)] [] h := rP (i := (.istore_n 2)) rfl rfl
theorem e88_22 (d : Nat) (a0 a1 : Option Value) (h : MH) (x : Int32) : rn d 88 22 [a0, a1, some (.int x)] [] h = rn d 88 23 [a0, a1, some (.int x)] [.int x] h := rP (i := (.iload_n 2)) rfl rfl
theorem e88_23 (d : Nat) (a0 a1 a2 : Option Value) (s0 : Int32) (h : MH)  : rn d 88 23 [a0, a1, a2] [.int s0] h = rn d 88 25 [a0, a1, a2] [.int 8, .int s0] h := rP (i := (.bipush 8)) rfl rfl
theorem e88_25 (d : Nat) (a0 a1 a2 : Option Value) (s0 s1 : Int32) (h : MH)  : rn d 88 25 [a0, a1, a2] [.int s0, .int s1] h = if s1 < s0 then rn d 88 28 [a0, a1, a2] [] h else rn d 88 59 [a0, a1, a2] [] h := rGe2 (off := 34) 59 rfl rfl
theorem e88_28 (d : Nat) (a1 a2 : Option Value) (h : MH) (x : Nat) : rn d 88 28 [some (.ref x), a1, a2] [] h = rn d 88 29 [some (.ref x), a1, a2] [.ref x] h := rP (i := (.aload_n 0)) rfl rfl
theorem e88_29 (d : Nat) (a0 a1 a2 : Option Value) (s0 : Nat) (h : MH)  : rn d 88 29 [a0, a1, a2] [.ref s0] h = (fgetv h s0 5 19).bind (fun v => rn d 88 32 [a0, a1, a2] [v] h) := rGet (idx := 57) rfl rfl
theorem e88_32 (d : Nat) (a0 a2 : Option Value) (s0 : Nat) (h : MH) (x : Int32) : rn d 88 32 [a0, some (.int x), a2] [.ref s0] h = rn d 88 33 [a0, some (.int x), a2] [.int x, .ref s0] h := rP (i := (.iload_n 1)) rfl rfl
theorem e88_33 (d : Nat) (a0 a1 a2 : Option Value) (s0 : Int32) (s1 : Nat) (h : MH)  : rn d 88 33 [a0, a1, a2] [.int s0, .ref s1] h = rn d 88 35 [a0, a1, a2] [.int 8, .int s0, .ref s1] h := rP (i := (.bipush 8)) rfl rfl
theorem e88_35 (d : Nat) (a0 a1 a2 : Option Value) (s0 s1 : Int32) (s2 : Nat) (h : MH)  : rn d 88 35 [a0, a1, a2] [.int s0, .int s1, .ref s2] h = rn d 88 36 [a0, a1, a2] [.int (s1 * s0), .ref s2] h := rP (i := (.imul)) rfl rfl
theorem e88_36 (d : Nat) (a0 a1 : Option Value) (s0 : Int32) (s1 : Nat) (h : MH) (x : Int32) : rn d 88 36 [a0, a1, some (.int x)] [.int s0, .ref s1] h = rn d 88 37 [a0, a1, some (.int x)] [.int x, .int s0, .ref s1] h := rP (i := (.iload_n 2)) rfl rfl
theorem e88_37 (d : Nat) (a0 a1 a2 : Option Value) (s0 s1 : Int32) (s2 : Nat) (h : MH)  : rn d 88 37 [a0, a1, a2] [.int s0, .int s1, .ref s2] h = rn d 88 38 [a0, a1, a2] [.int (s1 + s0), .ref s2] h := rP (i := (.iadd)) rfl rfl
theorem e88_38 (d : Nat) (a0 a1 a2 : Option Value) (s0 : Int32) (s1 : Nat) (h : MH)  : rn d 88 38 [a0, a1, a2] [.int s0, .ref s1] h = (ageti h 1 s1 s0).bind (fun v => rn d 88 39 [a0, a1, a2] [.int v] h) := rBald rfl
theorem e88_39 (d : Nat) (a0 a1 a2 : Option Value) (s0 : Int32) (h : MH)  : rn d 88 39 [a0, a1, a2] [.int s0] h = if s0 = 0 then rn d 88 53 [a0, a1, a2] [] h else rn d 88 42 [a0, a1, a2] [] h := rEq1 (off := 14) 53 rfl rfl
theorem e88_42 (d : Nat) (a1 a2 : Option Value) (h : MH) (x : Nat) : rn d 88 42 [some (.ref x), a1, a2] [] h = rn d 88 43 [some (.ref x), a1, a2] [.ref x] h := rP (i := (.aload_n 0)) rfl rfl
theorem e88_43 (d : Nat) (a0 a1 a2 : Option Value) (s0 : Nat) (h : MH)  : rn d 88 43 [a0, a1, a2] [.ref s0] h = (fgetv h s0 5 18).bind (fun v => rn d 88 46 [a0, a1, a2] [v] h) := rGet (idx := 54) rfl rfl
theorem e88_46 (d : Nat) (a0 a1 : Option Value) (s0 : Nat) (h : MH) (x : Int32) : rn d 88 46 [a0, a1, some (.int x)] [.ref s0] h = rn d 88 47 [a0, a1, some (.int x)] [.int x, .ref s0] h := rP (i := (.iload_n 2)) rfl rfl
theorem e88_47 (d : Nat) (a0 a1 a2 : Option Value) (s0 : Int32) (s1 : Nat) (h : MH)  : rn d 88 47 [a0, a1, a2] [.int s0, .ref s1] h = (ageti h 1 s1 s0).bind (fun v => rn d 88 48 [a0, a1, a2] [.int v] h) := rBald rfl
theorem e88_48 (d : Nat) (a0 a1 a2 : Option Value) (s0 : Int32) (h : MH)  : rn d 88 48 [a0, a1, a2] [.int s0] h = if s0 = 0 then rn d 88 51 [a0, a1, a2] [] h else rn d 88 53 [a0, a1, a2] [] h := rNe1 (off := 5) 53 rfl rfl
theorem e88_51 (d : Nat) (a0 a1 a2 : Option Value) (h : MH)  : rn d 88 51 [a0, a1, a2] [] h = rn d 88 52 [a0, a1, a2] [.int 0] h := rP (i := (.iconst 0)) rfl rfl
theorem e88_52 (d : Nat) (a0 a1 a2 : Option Value) (s0 : Int32) (h : MH) (hz : s0 &&& 1 = s0) : rn d 88 52 [a0, a1, a2] [.int s0] h = some (some (.int s0), h) := rIretZ hz rfl rfl
theorem e88_52q0 (d : Nat) (a0 a1 a2 : Option Value)  (h : MH) : rn d 88 52 [a0, a1, a2] [.int 0] h = some (some (.int 0), h) := rIretZ rfl rfl rfl
theorem e88_52q1 (d : Nat) (a0 a1 a2 : Option Value)  (h : MH) : rn d 88 52 [a0, a1, a2] [.int 1] h = some (some (.int 1), h) := rIretZ rfl rfl rfl
theorem e88_53 (d : Nat) (a0 a1 : Option Value) (h : MH) (x : Int32) : rn d 88 53 [a0, a1, some (.int x)] [] h = rn d 88 56 [a0, a1, some (.int (x + 1))] [] h := rP (i := (.iinc 2 1)) rfl rfl
theorem e88_56 (d : Nat) (a0 a1 a2 : Option Value) (h : MH)  : rn d 88 56 [a0, a1, a2] [] h = rn d 88 22 [a0, a1, a2] [] h := rP (i := (.goto (-34))) rfl rfl
theorem e88_59 (d : Nat) (a0 a1 a2 : Option Value) (h : MH)  : rn d 88 59 [a0, a1, a2] [] h = rn d 88 60 [a0, a1, a2] [.int 1] h := rP (i := (.iconst 1)) rfl rfl
theorem e88_60 (d : Nat) (a0 a1 a2 : Option Value) (s0 : Int32) (h : MH) (hz : s0 &&& 1 = s0) : rn d 88 60 [a0, a1, a2] [.int s0] h = some (some (.int s0), h) := rIretZ hz rfl rfl
theorem e88_60q0 (d : Nat) (a0 a1 a2 : Option Value)  (h : MH) : rn d 88 60 [a0, a1, a2] [.int 0] h = some (some (.int 0), h) := rIretZ rfl rfl rfl
theorem e88_60q1 (d : Nat) (a0 a1 a2 : Option Value)  (h : MH) : rn d 88 60 [a0, a1, a2] [.int 1] h = some (some (.int 1), h) := rIretZ rfl rfl rfl
-- 89: FlowEquationsModel.active(I)Z
theorem e89_0 (d : Nat) (a0 : Option Value) (h : MH) (x : Int32) : rn d 89 0 [a0, some (.int x)] [] h = rn d 89 1 [a0, some (.int x)] [.int x] h := rP (i := (.iload_n 1)) rfl rfl
theorem e89_1 (d : Nat) (a0 a1 : Option Value) (s0 : Int32) (h : MH)  : rn d 89 1 [a0, a1] [.int s0] h = if s0 < 0 then rn d 89 22 [a0, a1] [] h else rn d 89 4 [a0, a1] [] h := rLt1 (off := 21) 22 rfl rfl
theorem e89_4 (d : Nat) (a1 : Option Value) (h : MH) (x : Nat) : rn d 89 4 [some (.ref x), a1] [] h = rn d 89 5 [some (.ref x), a1] [.ref x] h := rP (i := (.aload_n 0)) rfl rfl
theorem e89_5 (d : Nat) (a0 a1 : Option Value) (s0 : Nat) (h : MH)  : rn d 89 5 [a0, a1] [.ref s0] h = (fgetv h s0 5 17).bind (fun v => rn d 89 8 [a0, a1] [v] h) := rGet (idx := 51) rfl rfl
theorem e89_8 (d : Nat) (a0 : Option Value) (s0 : Nat) (h : MH) (x : Int32) : rn d 89 8 [a0, some (.int x)] [.ref s0] h = rn d 89 9 [a0, some (.int x)] [.int x, .ref s0] h := rP (i := (.iload_n 1)) rfl rfl
theorem e89_9 (d : Nat) (a0 a1 : Option Value) (s0 : Int32) (s1 : Nat) (h : MH)  : rn d 89 9 [a0, a1] [.int s0, .ref s1] h = (ageti h 1 s1 s0).bind (fun v => rn d 89 10 [a0, a1] [.int v] h) := rBald rfl
theorem e89_10 (d : Nat) (a0 a1 : Option Value) (s0 : Int32) (h : MH)  : rn d 89 10 [a0, a1] [.int s0] h = if s0 = 0 then rn d 89 26 [a0, a1] [] h else rn d 89 13 [a0, a1] [] h := rEq1 (off := 16) 26 rfl rfl
theorem e89_13 (d : Nat) (a1 : Option Value) (h : MH) (x : Nat) : rn d 89 13 [some (.ref x), a1] [] h = rn d 89 14 [some (.ref x), a1] [.ref x] h := rP (i := (.aload_n 0)) rfl rfl
theorem e89_14 (d : Nat) (a0 a1 : Option Value) (s0 : Nat) (h : MH)  : rn d 89 14 [a0, a1] [.ref s0] h = (fgetv h s0 5 20).bind (fun v => rn d 89 17 [a0, a1] [v] h) := rGet (idx := 60) rfl rfl
theorem e89_17 (d : Nat) (a0 : Option Value) (s0 : Nat) (h : MH) (x : Int32) : rn d 89 17 [a0, some (.int x)] [.ref s0] h = rn d 89 18 [a0, some (.int x)] [.int x, .ref s0] h := rP (i := (.iload_n 1)) rfl rfl
theorem e89_18 (d : Nat) (a0 a1 : Option Value) (s0 : Int32) (s1 : Nat) (h : MH)  : rn d 89 18 [a0, a1] [.int s0, .ref s1] h = (ageti h 0 s1 s0).bind (fun v => rn d 89 19 [a0, a1] [.int v] h) := rIald rfl
theorem e89_19 (d : Nat) (a0 a1 : Option Value) (s0 : Int32) (h : MH)  : rn d 89 19 [a0, a1] [.int s0] h = if s0 = 0 then rn d 89 26 [a0, a1] [] h else rn d 89 22 [a0, a1] [] h := rEq1 (off := 7) 26 rfl rfl
theorem e89_22 (d : Nat) (a0 a1 : Option Value) (h : MH)  : rn d 89 22 [a0, a1] [] h = rn d 89 23 [a0, a1] [.int 1] h := rP (i := (.iconst 1)) rfl rfl
theorem e89_23 (d : Nat) (a0 a1 : Option Value) (s0 : Int32) (h : MH)  : rn d 89 23 [a0, a1] [.int s0] h = rn d 89 27 [a0, a1] [.int s0] h := rP (i := (.goto 4)) rfl rfl
theorem e89_26 (d : Nat) (a0 a1 : Option Value) (h : MH)  : rn d 89 26 [a0, a1] [] h = rn d 89 27 [a0, a1] [.int 0] h := rP (i := (.iconst 0)) rfl rfl
theorem e89_27 (d : Nat) (a0 a1 : Option Value) (s0 : Int32) (h : MH) (hz : s0 &&& 1 = s0) : rn d 89 27 [a0, a1] [.int s0] h = some (some (.int s0), h) := rIretZ hz rfl rfl
theorem e89_27q0 (d : Nat) (a0 a1 : Option Value)  (h : MH) : rn d 89 27 [a0, a1] [.int 0] h = some (some (.int 0), h) := rIretZ rfl rfl rfl
theorem e89_27q1 (d : Nat) (a0 a1 : Option Value)  (h : MH) : rn d 89 27 [a0, a1] [.int 1] h = some (some (.int 1), h) := rIretZ rfl rfl rfl
-- 90: FlowEquationsModel.workAll(I)V
theorem e90_0 (d : Nat) (a1 a2 : Option Value) (h : MH) (x : Nat) : rn d 90 0 [some (.ref x), a1, a2] [] h = rn d 90 1 [some (.ref x), a1, a2] [.ref x] h := rP (i := (.aload_n 0)) rfl rfl
theorem e90_1 (d : Nat) (a0 a1 a2 : Option Value) (s0 : Nat) (h : MH)  : rn d 90 1 [a0, a1, a2] [.ref s0] h = (fgetv h s0 5 5).bind (fun v => rn d 90 4 [a0, a1, a2] [v] h) := rGet (idx := 20) rfl rfl
theorem e90_4 (d : Nat) (a0 a2 : Option Value) (s0 : Nat) (h : MH) (x : Int32) : rn d 90 4 [a0, some (.int x), a2] [.ref s0] h = rn d 90 5 [a0, some (.int x), a2] [.int x, .ref s0] h := rP (i := (.iload_n 1)) rfl rfl
theorem e90_5 (d : Nat) (a0 a1 a2 : Option Value) (s0 : Int32) (s1 : Nat) (h : MH)  : rn d 90 5 [a0, a1, a2] [.int s0, .ref s1] h = (ageti h 0 s1 s0).bind (fun v => rn d 90 6 [a0, a1, a2] [.int v] h) := rIald rfl
theorem e90_6 (d : Nat) (a0 a1 a2 : Option Value) (s0 : Int32) (h : MH)  : rn d 90 6 [a0, a1, a2] [.int s0] h = rn d 90 7 [a0, a1, a2] [.int 1, .int s0] h := rP (i := (.iconst 1)) rfl rfl
theorem e90_7 (d : Nat) (a0 a1 a2 : Option Value) (s0 s1 : Int32) (h : MH)  : rn d 90 7 [a0, a1, a2] [.int s0, .int s1] h = rn d 90 8 [a0, a1, a2] [.int (s1 - s0)] h := rP (i := (.isub)) rfl rfl
theorem e90_8 (d : Nat) (a0 a1 a2 : Option Value) (s0 : Int32) (h : MH)  : rn d 90 8 [a0, a1, a2] [.int s0] h = rn d 90 9 [a0, a1, some (.int s0)] [] h := rP (i := (.istore_n 2)) rfl rfl
theorem e90_9 (d : Nat) (a0 a1 : Option Value) (h : MH) (x : Int32) : rn d 90 9 [a0, a1, some (.int x)] [] h = rn d 90 10 [a0, a1, some (.int x)] [.int x] h := rP (i := (.iload_n 2)) rfl rfl
theorem e90_10 (d : Nat) (a0 a1 a2 : Option Value) (s0 : Int32) (h : MH)  : rn d 90 10 [a0, a1, a2] [.int s0] h = if s0 < 0 then rn d 90 50 [a0, a1, a2] [] h else rn d 90 13 [a0, a1, a2] [] h := rLt1 (off := 40) 50 rfl rfl
theorem e90_13 (d : Nat) (a1 a2 : Option Value) (h : MH) (x : Nat) : rn d 90 13 [some (.ref x), a1, a2] [] h = rn d 90 14 [some (.ref x), a1, a2] [.ref x] h := rP (i := (.aload_n 0)) rfl rfl
theorem e90_14 (d : Nat) (a0 a1 a2 : Option Value) (s0 : Nat) (h : MH)  : rn d 90 14 [a0, a1, a2] [.ref s0] h = (fgetv h s0 5 11).bind (fun v => rn d 90 17 [a0, a1, a2] [v] h) := rGet (idx := 38) rfl rfl
theorem e90_17 (d : Nat) (a0 a2 : Option Value) (s0 : Nat) (h : MH) (x : Int32) : rn d 90 17 [a0, some (.int x), a2] [.ref s0] h = rn d 90 18 [a0, some (.int x), a2] [.int x, .ref s0] h := rP (i := (.iload_n 1)) rfl rfl
theorem e90_18 (d : Nat) (a0 a1 a2 : Option Value) (s0 : Int32) (s1 : Nat) (h : MH)  : rn d 90 18 [a0, a1, a2] [.int s0, .ref s1] h = rn d 90 20 [a0, a1, a2] [.int 24, .int s0, .ref s1] h := rP (i := (.bipush 24)) rfl rfl
theorem e90_20 (d : Nat) (a0 a1 a2 : Option Value) (s0 s1 : Int32) (s2 : Nat) (h : MH)  : rn d 90 20 [a0, a1, a2] [.int s0, .int s1, .ref s2] h = rn d 90 21 [a0, a1, a2] [.int (s1 * s0), .ref s2] h := rP (i := (.imul)) rfl rfl
theorem e90_21 (d : Nat) (a0 a1 : Option Value) (s0 : Int32) (s1 : Nat) (h : MH) (x : Int32) : rn d 90 21 [a0, a1, some (.int x)] [.int s0, .ref s1] h = rn d 90 22 [a0, a1, some (.int x)] [.int x, .int s0, .ref s1] h := rP (i := (.iload_n 2)) rfl rfl
theorem e90_22 (d : Nat) (a0 a1 a2 : Option Value) (s0 s1 : Int32) (s2 : Nat) (h : MH)  : rn d 90 22 [a0, a1, a2] [.int s0, .int s1, .ref s2] h = rn d 90 23 [a0, a1, a2] [.int (s1 + s0), .ref s2] h := rP (i := (.iadd)) rfl rfl
theorem e90_23 (d : Nat) (a0 a1 a2 : Option Value) (s0 : Int32) (s1 : Nat) (h : MH)  : rn d 90 23 [a0, a1, a2] [.int s0, .ref s1] h = (ageti h 1 s1 s0).bind (fun v => rn d 90 24 [a0, a1, a2] [.int v] h) := rBald rfl
theorem e90_24 (d : Nat) (a0 a1 a2 : Option Value) (s0 : Int32) (h : MH)  : rn d 90 24 [a0, a1, a2] [.int s0] h = if s0 = 0 then rn d 90 44 [a0, a1, a2] [] h else rn d 90 27 [a0, a1, a2] [] h := rEq1 (off := 20) 44 rfl rfl
theorem e90_27 (d : Nat) (a1 a2 : Option Value) (h : MH) (x : Nat) : rn d 90 27 [some (.ref x), a1, a2] [] h = rn d 90 28 [some (.ref x), a1, a2] [.ref x] h := rP (i := (.aload_n 0)) rfl rfl
theorem e90_28 (d : Nat) (a0 a1 a2 : Option Value) (s0 : Nat) (h : MH)  : rn d 90 28 [a0, a1, a2] [.ref s0] h = (fgetv h s0 5 9).bind (fun v => rn d 90 31 [a0, a1, a2] [v] h) := rGet (idx := 32) rfl rfl
theorem e90_31 (d : Nat) (a0 a2 : Option Value) (s0 : Nat) (h : MH) (x : Int32) : rn d 90 31 [a0, some (.int x), a2] [.ref s0] h = rn d 90 32 [a0, some (.int x), a2] [.int x, .ref s0] h := rP (i := (.iload_n 1)) rfl rfl
theorem e90_32 (d : Nat) (a0 a1 a2 : Option Value) (s0 : Int32) (s1 : Nat) (h : MH)  : rn d 90 32 [a0, a1, a2] [.int s0, .ref s1] h = rn d 90 34 [a0, a1, a2] [.int 24, .int s0, .ref s1] h := rP (i := (.bipush 24)) rfl rfl
theorem e90_34 (d : Nat) (a0 a1 a2 : Option Value) (s0 s1 : Int32) (s2 : Nat) (h : MH)  : rn d 90 34 [a0, a1, a2] [.int s0, .int s1, .ref s2] h = rn d 90 35 [a0, a1, a2] [.int (s1 * s0), .ref s2] h := rP (i := (.imul)) rfl rfl
theorem e90_35 (d : Nat) (a0 a1 : Option Value) (s0 : Int32) (s1 : Nat) (h : MH) (x : Int32) : rn d 90 35 [a0, a1, some (.int x)] [.int s0, .ref s1] h = rn d 90 36 [a0, a1, some (.int x)] [.int x, .int s0, .ref s1] h := rP (i := (.iload_n 2)) rfl rfl
theorem e90_36 (d : Nat) (a0 a1 a2 : Option Value) (s0 s1 : Int32) (s2 : Nat) (h : MH)  : rn d 90 36 [a0, a1, a2] [.int s0, .int s1, .ref s2] h = rn d 90 37 [a0, a1, a2] [.int (s1 + s0), .ref s2] h := rP (i := (.iadd)) rfl rfl
theorem e90_37 (d : Nat) (a1 a2 : Option Value) (s0 : Int32) (s1 : Nat) (h : MH) (x : Nat) : rn d 90 37 [some (.ref x), a1, a2] [.int s0, .ref s1] h = rn d 90 38 [some (.ref x), a1, a2] [.ref x, .int s0, .ref s1] h := rP (i := (.aload_n 0)) rfl rfl
theorem e90_38 (d : Nat) (a0 a2 : Option Value) (s1 : Int32) (s0 s2 : Nat) (h : MH) (x : Int32) : rn d 90 38 [a0, some (.int x), a2] [.ref s0, .int s1, .ref s2] h = rn d 90 39 [a0, some (.int x), a2] [.int x, .ref s0, .int s1, .ref s2] h := rP (i := (.iload_n 1)) rfl rfl
theorem e90_39 (d : Nat) (a0 a1 : Option Value) (s0 s2 : Int32) (s1 s3 : Nat) (h : MH) (x : Int32) : rn d 90 39 [a0, a1, some (.int x)] [.int s0, .ref s1, .int s2, .ref s3] h = rn d 90 40 [a0, a1, some (.int x)] [.int x, .int s0, .ref s1, .int s2, .ref s3] h := rP (i := (.iload_n 2)) rfl rfl
theorem e90_40 (d : Nat) (a0 a1 a2 : Option Value) (s0 s1 s3 : Int32) (s2 s4 : Nat) (h : MH) (hz : clsOf h s2 = some 5) : rn (d + 1) 90 40 [a0, a1, a2] [.int s0, .int s1, .ref s2, .int s3, .ref s4] h = (rn d 91 0 [some (.ref s2), some (.int s1), some (.int s0), none, none, none, none] [] h).bind (fun R => rn (d + 1) 90 43 [a0, a1, a2] (R.1.toList ++ [.int s3, .ref s4]) R.2) := rInv (i := (.invokevirtual 136)) (n := 3) (tl := [534, 535, 50, 58]) rfl rfl rfl rfl (by decide) (Nat.le_of_ble_eq_true rfl) (Nat.le_of_ble_eq_true rfl) (Nat.le_of_ble_eq_true rfl) (rcv_V hz)
theorem e90_43 (d : Nat) (a0 a1 a2 : Option Value) (s0 s1 : Int32) (s2 : Nat) (h : MH)  : rn d 90 43 [a0, a1, a2] [.int s0, .int s1, .ref s2] h = (aputi h 0 s2 s1 s0).bind (fun h => rn d 90 44 [a0, a1, a2] [] h) := rIast rfl
theorem e90_44 (d : Nat) (a0 a1 : Option Value) (h : MH) (x : Int32) : rn d 90 44 [a0, a1, some (.int x)] [] h = rn d 90 47 [a0, a1, some (.int (x + (-1)))] [] h := rP (i := (.iinc 2 (-1))) rfl rfl
theorem e90_47 (d : Nat) (a0 a1 a2 : Option Value) (h : MH)  : rn d 90 47 [a0, a1, a2] [] h = rn d 90 9 [a0, a1, a2] [] h := rP (i := (.goto (-38))) rfl rfl
theorem e90_50 (d : Nat) (a0 a1 a2 : Option Value) (h : MH)  : rn d 90 50 [a0, a1, a2] [] h = some (none, h) := rVret rfl rfl
-- 91: FlowEquationsModel.work(II)I
set_option maxRecDepth 8000 in
theorem e91_0 (d : Nat) (a0 a2 a3 a4 a5 a6 : Option Value) (h : MH) (x : Int32) : rn d 91 0 [a0, some (.int x), a2, a3, a4, a5, a6] [] h = rn d 91 1 [a0, some (.int x), a2, a3, a4, a5, a6] [.int x] h := rP (i := (.iload_n 1)) rfl rfl
set_option maxRecDepth 8000 in
theorem e91_1 (d : Nat) (a0 a1 a2 a3 a4 a5 a6 : Option Value) (s0 : Int32) (h : MH)  : rn d 91 1 [a0, a1, a2, a3, a4, a5, a6] [.int s0] h = rn d 91 3 [a0, a1, a2, a3, a4, a5, a6] [.int 24, .int s0] h := rP (i := (.bipush 24)) rfl rfl
set_option maxRecDepth 8000 in
theorem e91_3 (d : Nat) (a0 a1 a2 a3 a4 a5 a6 : Option Value) (s0 s1 : Int32) (h : MH)  : rn d 91 3 [a0, a1, a2, a3, a4, a5, a6] [.int s0, .int s1] h = rn d 91 4 [a0, a1, a2, a3, a4, a5, a6] [.int (s1 * s0)] h := rP (i := (.imul)) rfl rfl
set_option maxRecDepth 8000 in
theorem e91_4 (d : Nat) (a0 a1 a3 a4 a5 a6 : Option Value) (s0 : Int32) (h : MH) (x : Int32) : rn d 91 4 [a0, a1, some (.int x), a3, a4, a5, a6] [.int s0] h = rn d 91 5 [a0, a1, some (.int x), a3, a4, a5, a6] [.int x, .int s0] h := rP (i := (.iload_n 2)) rfl rfl
set_option maxRecDepth 8000 in
theorem e91_5 (d : Nat) (a0 a1 a2 a3 a4 a5 a6 : Option Value) (s0 s1 : Int32) (h : MH)  : rn d 91 5 [a0, a1, a2, a3, a4, a5, a6] [.int s0, .int s1] h = rn d 91 6 [a0, a1, a2, a3, a4, a5, a6] [.int (s1 + s0)] h := rP (i := (.iadd)) rfl rfl
set_option maxRecDepth 8000 in
theorem e91_6 (d : Nat) (a0 a1 a2 a3 a4 a5 a6 : Option Value) (s0 : Int32) (h : MH)  : rn d 91 6 [a0, a1, a2, a3, a4, a5, a6] [.int s0] h = rn d 91 7 [a0, a1, a2, some (.int s0), a4, a5, a6] [] h := rP (i := (.istore_n 3)) rfl rfl
set_option maxRecDepth 8000 in
theorem e91_7 (d : Nat) (a1 a2 a3 a4 a5 a6 : Option Value) (h : MH) (x : Nat) : rn d 91 7 [some (.ref x), a1, a2, a3, a4, a5, a6] [] h = rn d 91 8 [some (.ref x), a1, a2, a3, a4, a5, a6] [.ref x] h := rP (i := (.aload_n 0)) rfl rfl
set_option maxRecDepth 8000 in
theorem e91_8 (d : Nat) (a0 a1 a2 a3 a4 a5 a6 : Option Value) (s0 : Nat) (h : MH)  : rn d 91 8 [a0, a1, a2, a3, a4, a5, a6] [.ref s0] h = (fgetv h s0 5 4).bind (fun v => rn d 91 11 [a0, a1, a2, a3, a4, a5, a6] [v] h) := rGet (idx := 17) rfl rfl
set_option maxRecDepth 8000 in
theorem e91_11 (d : Nat) (a0 a1 a2 a4 a5 a6 : Option Value) (s0 : Nat) (h : MH) (x : Int32) : rn d 91 11 [a0, a1, a2, some (.int x), a4, a5, a6] [.ref s0] h = rn d 91 12 [a0, a1, a2, some (.int x), a4, a5, a6] [.int x, .ref s0] h := rP (i := (.iload_n 3)) rfl rfl
set_option maxRecDepth 8000 in
theorem e91_12 (d : Nat) (a0 a1 a2 a3 a4 a5 a6 : Option Value) (s0 : Int32) (s1 : Nat) (h : MH)  : rn d 91 12 [a0, a1, a2, a3, a4, a5, a6] [.int s0, .ref s1] h = (ageti h 0 s1 s0).bind (fun v => rn d 91 13 [a0, a1, a2, a3, a4, a5, a6] [.int v] h) := rIald rfl
set_option maxRecDepth 8000 in
theorem e91_13 (d : Nat) (a0 a1 a2 a3 a4 a5 a6 : Option Value) (s0 : Int32) (h : MH)  : rn d 91 13 [a0, a1, a2, a3, a4, a5, a6] [.int s0] h = rn d 91 15 [a0, a1, a2, a3, some (.int s0), a5, a6] [] h := rP (i := (.istore 4)) rfl rfl
set_option maxRecDepth 8000 in
theorem e91_15 (d : Nat) (a0 a1 a2 a3 a5 a6 : Option Value) (h : MH) (x : Int32) : rn d 91 15 [a0, a1, a2, a3, some (.int x), a5, a6] [] h = rn d 91 17 [a0, a1, a2, a3, some (.int x), a5, a6] [.int x] h := rP (i := (.iload 4)) rfl rfl
set_option maxRecDepth 8000 in
theorem e91_17 (d : Nat) (a0 a1 a2 a3 a4 a5 a6 : Option Value) (s0 : Int32) (h : MH)  : rn (d + 1) 91 17 [a0, a1, a2, a3, a4, a5, a6] [.int s0] h = (rn d 67 0 [some (.int s0)] [] h).bind (fun R => rn (d + 1) 91 20 [a0, a1, a2, a3, a4, a5, a6] (R.1.toList ++ []) R.2) := rInv (i := (.invokestatic 72)) (n := 1) (tl := [454, 455, 58]) rfl rfl rfl rfl (by decide) (Nat.le_of_ble_eq_true rfl) (Nat.le_of_ble_eq_true rfl) (Nat.le_of_ble_eq_true rfl) rfl
set_option maxRecDepth 8000 in
theorem e91_20 (d : Nat) (a0 a1 a2 a3 a4 a5 a6 : Option Value) (s0 : Int32) (h : MH)  : rn d 91 20 [a0, a1, a2, a3, a4, a5, a6] [.int s0] h = if s0 = 0 then rn d 91 29 [a0, a1, a2, a3, a4, a5, a6] [] h else rn d 91 23 [a0, a1, a2, a3, a4, a5, a6] [] h := rEq1 (off := 9) 29 rfl rfl
set_option maxRecDepth 8000 in
theorem e91_23 (d : Nat) (a0 a1 a2 a3 a5 a6 : Option Value) (h : MH) (x : Int32) : rn d 91 23 [a0, a1, a2, a3, some (.int x), a5, a6] [] h = rn d 91 25 [a0, a1, a2, a3, some (.int x), a5, a6] [.int x] h := rP (i := (.iload 4)) rfl rfl
set_option maxRecDepth 8000 in
theorem e91_25 (d : Nat) (a0 a1 a2 a3 a4 a5 a6 : Option Value) (s0 : Int32) (h : MH)  : rn d 91 25 [a0, a1, a2, a3, a4, a5, a6] [.int s0] h = rn d 91 27 [a0, a1, a2, a3, a4, a5, a6] [.int 48, .int s0] h := rP (i := (.bipush 48)) rfl rfl
set_option maxRecDepth 8000 in
theorem e91_27 (d : Nat) (a0 a1 a2 a3 a4 a5 a6 : Option Value) (s0 s1 : Int32) (h : MH)  : rn d 91 27 [a0, a1, a2, a3, a4, a5, a6] [.int s0, .int s1] h = rn d 91 28 [a0, a1, a2, a3, a4, a5, a6] [.int (s1 - s0)] h := rP (i := (.isub)) rfl rfl
set_option maxRecDepth 8000 in
theorem e91_28 (d : Nat) (a0 a1 a2 a3 a4 a5 a6 : Option Value) (s0 : Int32) (h : MH)  : rn d 91 28 [a0, a1, a2, a3, a4, a5, a6] [.int s0] h = some (some (.int s0), h) := rIret rfl rfl
set_option maxRecDepth 8000 in
theorem e91_29 (d : Nat) (a0 a1 a2 a3 a5 a6 : Option Value) (h : MH) (x : Int32) : rn d 91 29 [a0, a1, a2, a3, some (.int x), a5, a6] [] h = rn d 91 31 [a0, a1, a2, a3, some (.int x), a5, a6] [.int x] h := rP (i := (.iload 4)) rfl rfl
set_option maxRecDepth 8000 in
theorem e91_31 (d : Nat) (a0 a1 a2 a3 a4 a5 a6 : Option Value) (s0 : Int32) (h : MH)  : rn (d + 1) 91 31 [a0, a1, a2, a3, a4, a5, a6] [.int s0] h = (rn d 68 0 [some (.int s0)] [] h).bind (fun R => rn (d + 1) 91 34 [a0, a1, a2, a3, a4, a5, a6] (R.1.toList ++ []) R.2) := rInv (i := (.invokestatic 76)) (n := 1) (tl := [457, 458, 58]) rfl rfl rfl rfl (by decide) (Nat.le_of_ble_eq_true rfl) (Nat.le_of_ble_eq_true rfl) (Nat.le_of_ble_eq_true rfl) rfl
set_option maxRecDepth 8000 in
theorem e91_34 (d : Nat) (a0 a1 a2 a3 a4 a5 a6 : Option Value) (s0 : Int32) (h : MH)  : rn d 91 34 [a0, a1, a2, a3, a4, a5, a6] [.int s0] h = if s0 = 0 then rn d 91 48 [a0, a1, a2, a3, a4, a5, a6] [] h else rn d 91 37 [a0, a1, a2, a3, a4, a5, a6] [] h := rEq1 (off := 14) 48 rfl rfl
set_option maxRecDepth 8000 in
theorem e91_37 (d : Nat) (a1 a2 a3 a4 a5 a6 : Option Value) (h : MH) (x : Nat) : rn d 91 37 [some (.ref x), a1, a2, a3, a4, a5, a6] [] h = rn d 91 38 [some (.ref x), a1, a2, a3, a4, a5, a6] [.ref x] h := rP (i := (.aload_n 0)) rfl rfl
set_option maxRecDepth 8000 in
theorem e91_38 (d : Nat) (a0 a1 a2 a3 a4 a5 a6 : Option Value) (s0 : Nat) (h : MH)  : rn d 91 38 [a0, a1, a2, a3, a4, a5, a6] [.ref s0] h = (fgetv h s0 5 20).bind (fun v => rn d 91 41 [a0, a1, a2, a3, a4, a5, a6] [v] h) := rGet (idx := 60) rfl rfl
set_option maxRecDepth 8000 in
theorem e91_41 (d : Nat) (a0 a1 a2 a3 a5 a6 : Option Value) (s0 : Nat) (h : MH) (x : Int32) : rn d 91 41 [a0, a1, a2, a3, some (.int x), a5, a6] [.ref s0] h = rn d 91 43 [a0, a1, a2, a3, some (.int x), a5, a6] [.int x, .ref s0] h := rP (i := (.iload 4)) rfl rfl
set_option maxRecDepth 8000 in
theorem e91_43 (d : Nat) (a0 a1 a2 a3 a4 a5 a6 : Option Value) (s0 : Int32) (s1 : Nat) (h : MH)  : rn d 91 43 [a0, a1, a2, a3, a4, a5, a6] [.int s0, .ref s1] h = rn d 91 45 [a0, a1, a2, a3, a4, a5, a6] [.int 97, .int s0, .ref s1] h := rP (i := (.bipush 97)) rfl rfl
set_option maxRecDepth 8000 in
theorem e91_45 (d : Nat) (a0 a1 a2 a3 a4 a5 a6 : Option Value) (s0 s1 : Int32) (s2 : Nat) (h : MH)  : rn d 91 45 [a0, a1, a2, a3, a4, a5, a6] [.int s0, .int s1, .ref s2] h = rn d 91 46 [a0, a1, a2, a3, a4, a5, a6] [.int (s1 - s0), .ref s2] h := rP (i := (.isub)) rfl rfl
set_option maxRecDepth 8000 in
theorem e91_46 (d : Nat) (a0 a1 a2 a3 a4 a5 a6 : Option Value) (s0 : Int32) (s1 : Nat) (h : MH)  : rn d 91 46 [a0, a1, a2, a3, a4, a5, a6] [.int s0, .ref s1] h = (ageti h 0 s1 s0).bind (fun v => rn d 91 47 [a0, a1, a2, a3, a4, a5, a6] [.int v] h) := rIald rfl
set_option maxRecDepth 8000 in
theorem e91_47 (d : Nat) (a0 a1 a2 a3 a4 a5 a6 : Option Value) (s0 : Int32) (h : MH)  : rn d 91 47 [a0, a1, a2, a3, a4, a5, a6] [.int s0] h = some (some (.int s0), h) := rIret rfl rfl
set_option maxRecDepth 8000 in
theorem e91_48 (d : Nat) (a0 a1 a2 a3 a5 a6 : Option Value) (h : MH) (x : Int32) : rn d 91 48 [a0, a1, a2, a3, some (.int x), a5, a6] [] h = rn d 91 50 [a0, a1, a2, a3, some (.int x), a5, a6] [.int x] h := rP (i := (.iload 4)) rfl rfl
set_option maxRecDepth 8000 in
theorem e91_50 (d : Nat) (a0 a1 a2 a3 a4 a5 a6 : Option Value) (s0 : Int32) (h : MH)  : rn (d + 1) 91 50 [a0, a1, a2, a3, a4, a5, a6] [.int s0] h = (rn d 69 0 [some (.int s0)] [] h).bind (fun R => rn (d + 1) 91 53 [a0, a1, a2, a3, a4, a5, a6] (R.1.toList ++ []) R.2) := rInv (i := (.invokestatic 79)) (n := 1) (tl := [460, 461, 58]) rfl rfl rfl rfl (by decide) (Nat.le_of_ble_eq_true rfl) (Nat.le_of_ble_eq_true rfl) (Nat.le_of_ble_eq_true rfl) rfl
set_option maxRecDepth 8000 in
theorem e91_53 (d : Nat) (a0 a1 a2 a3 a4 a5 a6 : Option Value) (s0 : Int32) (h : MH)  : rn d 91 53 [a0, a1, a2, a3, a4, a5, a6] [.int s0] h = if s0 = 0 then rn d 91 67 [a0, a1, a2, a3, a4, a5, a6] [] h else rn d 91 56 [a0, a1, a2, a3, a4, a5, a6] [] h := rEq1 (off := 14) 67 rfl rfl
set_option maxRecDepth 8000 in
theorem e91_56 (d : Nat) (a1 a2 a3 a4 a5 a6 : Option Value) (h : MH) (x : Nat) : rn d 91 56 [some (.ref x), a1, a2, a3, a4, a5, a6] [] h = rn d 91 57 [some (.ref x), a1, a2, a3, a4, a5, a6] [.ref x] h := rP (i := (.aload_n 0)) rfl rfl
set_option maxRecDepth 8000 in
theorem e91_57 (d : Nat) (a0 a1 a2 a3 a4 a5 a6 : Option Value) (s0 : Nat) (h : MH)  : rn d 91 57 [a0, a1, a2, a3, a4, a5, a6] [.ref s0] h = (fgetv h s0 5 14).bind (fun v => rn d 91 60 [a0, a1, a2, a3, a4, a5, a6] [v] h) := rGet (idx := 48) rfl rfl
set_option maxRecDepth 8000 in
theorem e91_60 (d : Nat) (a0 a1 a2 a3 a5 a6 : Option Value) (s0 : Nat) (h : MH) (x : Int32) : rn d 91 60 [a0, a1, a2, a3, some (.int x), a5, a6] [.ref s0] h = rn d 91 62 [a0, a1, a2, a3, some (.int x), a5, a6] [.int x, .ref s0] h := rP (i := (.iload 4)) rfl rfl
set_option maxRecDepth 8000 in
theorem e91_62 (d : Nat) (a0 a1 a2 a3 a4 a5 a6 : Option Value) (s0 : Int32) (s1 : Nat) (h : MH)  : rn d 91 62 [a0, a1, a2, a3, a4, a5, a6] [.int s0, .ref s1] h = rn d 91 64 [a0, a1, a2, a3, a4, a5, a6] [.int 112, .int s0, .ref s1] h := rP (i := (.bipush 112)) rfl rfl
set_option maxRecDepth 8000 in
theorem e91_64 (d : Nat) (a0 a1 a2 a3 a4 a5 a6 : Option Value) (s0 s1 : Int32) (s2 : Nat) (h : MH)  : rn d 91 64 [a0, a1, a2, a3, a4, a5, a6] [.int s0, .int s1, .ref s2] h = rn d 91 65 [a0, a1, a2, a3, a4, a5, a6] [.int (s1 - s0), .ref s2] h := rP (i := (.isub)) rfl rfl
set_option maxRecDepth 8000 in
theorem e91_65 (d : Nat) (a0 a1 a2 a3 a4 a5 a6 : Option Value) (s0 : Int32) (s1 : Nat) (h : MH)  : rn d 91 65 [a0, a1, a2, a3, a4, a5, a6] [.int s0, .ref s1] h = (ageti h 0 s1 s0).bind (fun v => rn d 91 66 [a0, a1, a2, a3, a4, a5, a6] [.int v] h) := rIald rfl
set_option maxRecDepth 8000 in
theorem e91_66 (d : Nat) (a0 a1 a2 a3 a4 a5 a6 : Option Value) (s0 : Int32) (h : MH)  : rn d 91 66 [a0, a1, a2, a3, a4, a5, a6] [.int s0] h = some (some (.int s0), h) := rIret rfl rfl
set_option maxRecDepth 8000 in
theorem e91_67 (d : Nat) (a1 a2 a3 a4 a5 a6 : Option Value) (h : MH) (x : Nat) : rn d 91 67 [some (.ref x), a1, a2, a3, a4, a5, a6] [] h = rn d 91 68 [some (.ref x), a1, a2, a3, a4, a5, a6] [.ref x] h := rP (i := (.aload_n 0)) rfl rfl
set_option maxRecDepth 8000 in
theorem e91_68 (d : Nat) (a0 a1 a2 a3 a4 a5 a6 : Option Value) (s0 : Nat) (h : MH)  : rn d 91 68 [a0, a1, a2, a3, a4, a5, a6] [.ref s0] h = (fgetv h s0 5 9).bind (fun v => rn d 91 71 [a0, a1, a2, a3, a4, a5, a6] [v] h) := rGet (idx := 32) rfl rfl
set_option maxRecDepth 8000 in
theorem e91_71 (d : Nat) (a0 a2 a3 a4 a5 a6 : Option Value) (s0 : Nat) (h : MH) (x : Int32) : rn d 91 71 [a0, some (.int x), a2, a3, a4, a5, a6] [.ref s0] h = rn d 91 72 [a0, some (.int x), a2, a3, a4, a5, a6] [.int x, .ref s0] h := rP (i := (.iload_n 1)) rfl rfl
set_option maxRecDepth 8000 in
theorem e91_72 (d : Nat) (a0 a1 a2 a3 a4 a5 a6 : Option Value) (s0 : Int32) (s1 : Nat) (h : MH)  : rn d 91 72 [a0, a1, a2, a3, a4, a5, a6] [.int s0, .ref s1] h = rn d 91 74 [a0, a1, a2, a3, a4, a5, a6] [.int 24, .int s0, .ref s1] h := rP (i := (.bipush 24)) rfl rfl
set_option maxRecDepth 8000 in
theorem e91_74 (d : Nat) (a0 a1 a2 a3 a4 a5 a6 : Option Value) (s0 s1 : Int32) (s2 : Nat) (h : MH)  : rn d 91 74 [a0, a1, a2, a3, a4, a5, a6] [.int s0, .int s1, .ref s2] h = rn d 91 75 [a0, a1, a2, a3, a4, a5, a6] [.int (s1 * s0), .ref s2] h := rP (i := (.imul)) rfl rfl
set_option maxRecDepth 8000 in
theorem e91_75 (d : Nat) (a1 a2 a3 a4 a5 a6 : Option Value) (s0 : Int32) (s1 : Nat) (h : MH) (x : Nat) : rn d 91 75 [some (.ref x), a1, a2, a3, a4, a5, a6] [.int s0, .ref s1] h = rn d 91 76 [some (.ref x), a1, a2, a3, a4, a5, a6] [.ref x, .int s0, .ref s1] h := rP (i := (.aload_n 0)) rfl rfl
set_option maxRecDepth 8000 in
theorem e91_76 (d : Nat) (a0 a2 a3 a4 a5 a6 : Option Value) (s1 : Int32) (s0 s2 : Nat) (h : MH) (x : Int32) : rn d 91 76 [a0, some (.int x), a2, a3, a4, a5, a6] [.ref s0, .int s1, .ref s2] h = rn d 91 77 [a0, some (.int x), a2, a3, a4, a5, a6] [.int x, .ref s0, .int s1, .ref s2] h := rP (i := (.iload_n 1)) rfl rfl
set_option maxRecDepth 8000 in
theorem e91_77 (d : Nat) (a0 a1 a3 a4 a5 a6 : Option Value) (s0 s2 : Int32) (s1 s3 : Nat) (h : MH) (x : Int32) : rn d 91 77 [a0, a1, some (.int x), a3, a4, a5, a6] [.int s0, .ref s1, .int s2, .ref s3] h = rn d 91 78 [a0, a1, some (.int x), a3, a4, a5, a6] [.int x, .int s0, .ref s1, .int s2, .ref s3] h := rP (i := (.iload_n 2)) rfl rfl
set_option maxRecDepth 8000 in
theorem e91_78 (d : Nat) (a0 a1 a2 a3 a4 a5 a6 : Option Value) (s0 s1 s3 : Int32) (s2 s4 : Nat) (h : MH)  : rn d 91 78 [a0, a1, a2, a3, a4, a5, a6] [.int s0, .int s1, .ref s2, .int s3, .ref s4] h = rn d 91 79 [a0, a1, a2, a3, a4, a5, a6] [.int 0, .int s0, .int s1, .ref s2, .int s3, .ref s4] h := rP (i := (.iconst 0)) rfl rfl
set_option maxRecDepth 8000 in
theorem e91_79 (d : Nat) (a0 a1 a2 a3 a4 a5 a6 : Option Value) (s0 s1 s2 s4 : Int32) (s3 s5 : Nat) (h : MH) (hz : clsOf h s3 = some 5) : rn (d + 1) 91 79 [a0, a1, a2, a3, a4, a5, a6] [.int s0, .int s1, .int s2, .ref s3, .int s4, .ref s5] h = (rn d 83 0 [some (.ref s3), some (.int s2), some (.int s1), some (.int s0), none, none] [] h).bind (fun R => rn (d + 1) 91 82 [a0, a1, a2, a3, a4, a5, a6] (R.1.toList ++ [.int s4, .ref s5]) R.2) := rInv (i := (.invokevirtual 111)) (n := 4) (tl := [509, 510, 43, 58]) rfl rfl rfl rfl (by decide) (Nat.le_of_ble_eq_true rfl) (Nat.le_of_ble_eq_true rfl) (Nat.le_of_ble_eq_true rfl) (rcv_V hz)
set_option maxRecDepth 8000 in
theorem e91_82 (d : Nat) (a0 a1 a2 a3 a4 a5 a6 : Option Value) (s0 s1 : Int32) (s2 : Nat) (h : MH)  : rn d 91 82 [a0, a1, a2, a3, a4, a5, a6] [.int s0, .int s1, .ref s2] h = rn d 91 83 [a0, a1, a2, a3, a4, a5, a6] [.int (s1 + s0), .ref s2] h := rP (i := (.iadd)) rfl rfl
set_option maxRecDepth 8000 in
theorem e91_83 (d : Nat) (a0 a1 a2 a3 a4 a5 a6 : Option Value) (s0 : Int32) (s1 : Nat) (h : MH)  : rn d 91 83 [a0, a1, a2, a3, a4, a5, a6] [.int s0, .ref s1] h = (ageti h 0 s1 s0).bind (fun v => rn d 91 84 [a0, a1, a2, a3, a4, a5, a6] [.int v] h) := rIald rfl
set_option maxRecDepth 8000 in
theorem e91_84 (d : Nat) (a0 a1 a2 a3 a4 a5 a6 : Option Value) (s0 : Int32) (h : MH)  : rn d 91 84 [a0, a1, a2, a3, a4, a5, a6] [.int s0] h = rn d 91 86 [a0, a1, a2, a3, a4, some (.int s0), a6] [] h := rP (i := (.istore 5)) rfl rfl
set_option maxRecDepth 8000 in
theorem e91_86 (d : Nat) (a0 a1 a2 a3 a5 a6 : Option Value) (h : MH) (x : Int32) : rn d 91 86 [a0, a1, a2, a3, some (.int x), a5, a6] [] h = rn d 91 88 [a0, a1, a2, a3, some (.int x), a5, a6] [.int x] h := rP (i := (.iload 4)) rfl rfl
set_option maxRecDepth 8000 in
theorem e91_88 (d : Nat) (a0 a1 a2 a3 a4 a5 a6 : Option Value) (s0 : Int32) (h : MH)  : rn d 91 88 [a0, a1, a2, a3, a4, a5, a6] [.int s0] h = rn d 91 90 [a0, a1, a2, a3, a4, a5, a6] [.int 33, .int s0] h := rP (i := (.bipush 33)) rfl rfl
set_option maxRecDepth 8000 in
theorem e91_90 (d : Nat) (a0 a1 a2 a3 a4 a5 a6 : Option Value) (s0 s1 : Int32) (h : MH)  : rn d 91 90 [a0, a1, a2, a3, a4, a5, a6] [.int s0, .int s1] h = if s1 = s0 then rn d 91 93 [a0, a1, a2, a3, a4, a5, a6] [] h else rn d 91 104 [a0, a1, a2, a3, a4, a5, a6] [] h := rNe2 (off := 14) 104 rfl rfl
set_option maxRecDepth 8000 in
theorem e91_93 (d : Nat) (a0 a1 a2 a3 a4 a6 : Option Value) (h : MH) (x : Int32) : rn d 91 93 [a0, a1, a2, a3, a4, some (.int x), a6] [] h = rn d 91 95 [a0, a1, a2, a3, a4, some (.int x), a6] [.int x] h := rP (i := (.iload 5)) rfl rfl
set_option maxRecDepth 8000 in
theorem e91_95 (d : Nat) (a0 a1 a2 a3 a4 a5 a6 : Option Value) (s0 : Int32) (h : MH)  : rn d 91 95 [a0, a1, a2, a3, a4, a5, a6] [.int s0] h = if s0 = 0 then rn d 91 98 [a0, a1, a2, a3, a4, a5, a6] [] h else rn d 91 102 [a0, a1, a2, a3, a4, a5, a6] [] h := rNe1 (off := 7) 102 rfl rfl
set_option maxRecDepth 8000 in
theorem e91_98 (d : Nat) (a0 a1 a2 a3 a4 a5 a6 : Option Value) (h : MH)  : rn d 91 98 [a0, a1, a2, a3, a4, a5, a6] [] h = rn d 91 99 [a0, a1, a2, a3, a4, a5, a6] [.int 1] h := rP (i := (.iconst 1)) rfl rfl
set_option maxRecDepth 8000 in
theorem e91_99 (d : Nat) (a0 a1 a2 a3 a4 a5 a6 : Option Value) (s0 : Int32) (h : MH)  : rn d 91 99 [a0, a1, a2, a3, a4, a5, a6] [.int s0] h = rn d 91 103 [a0, a1, a2, a3, a4, a5, a6] [.int s0] h := rP (i := (.goto 4)) rfl rfl
set_option maxRecDepth 8000 in
theorem e91_102 (d : Nat) (a0 a1 a2 a3 a4 a5 a6 : Option Value) (h : MH)  : rn d 91 102 [a0, a1, a2, a3, a4, a5, a6] [] h = rn d 91 103 [a0, a1, a2, a3, a4, a5, a6] [.int 0] h := rP (i := (.iconst 0)) rfl rfl
set_option maxRecDepth 8000 in
theorem e91_103 (d : Nat) (a0 a1 a2 a3 a4 a5 a6 : Option Value) (s0 : Int32) (h : MH)  : rn d 91 103 [a0, a1, a2, a3, a4, a5, a6] [.int s0] h = some (some (.int s0), h) := rIret rfl rfl
set_option maxRecDepth 8000 in
theorem e91_104 (d : Nat) (a0 a1 a2 a3 a5 a6 : Option Value) (h : MH) (x : Int32) : rn d 91 104 [a0, a1, a2, a3, some (.int x), a5, a6] [] h = rn d 91 106 [a0, a1, a2, a3, some (.int x), a5, a6] [.int x] h := rP (i := (.iload 4)) rfl rfl
set_option maxRecDepth 8000 in
theorem e91_106 (d : Nat) (a0 a1 a2 a3 a4 a5 a6 : Option Value) (s0 : Int32) (h : MH)  : rn d 91 106 [a0, a1, a2, a3, a4, a5, a6] [.int s0] h = rn d 91 108 [a0, a1, a2, a3, a4, a5, a6] [.int 80, .int s0] h := rP (i := (.bipush 80)) rfl rfl
set_option maxRecDepth 8000 in
theorem e91_108 (d : Nat) (a0 a1 a2 a3 a4 a5 a6 : Option Value) (s0 s1 : Int32) (h : MH)  : rn d 91 108 [a0, a1, a2, a3, a4, a5, a6] [.int s0, .int s1] h = if s1 = s0 then rn d 91 111 [a0, a1, a2, a3, a4, a5, a6] [] h else rn d 91 118 [a0, a1, a2, a3, a4, a5, a6] [] h := rNe2 (off := 10) 118 rfl rfl
set_option maxRecDepth 8000 in
theorem e91_111 (d : Nat) (a1 a2 a3 a4 a5 a6 : Option Value) (h : MH) (x : Nat) : rn d 91 111 [some (.ref x), a1, a2, a3, a4, a5, a6] [] h = rn d 91 112 [some (.ref x), a1, a2, a3, a4, a5, a6] [.ref x] h := rP (i := (.aload_n 0)) rfl rfl
set_option maxRecDepth 8000 in
theorem e91_112 (d : Nat) (a0 a1 a2 a3 a4 a5 a6 : Option Value) (s0 : Nat) (h : MH)  : rn d 91 112 [a0, a1, a2, a3, a4, a5, a6] [.ref s0] h = (fgetv h s0 5 10).bind (fun v => rn d 91 115 [a0, a1, a2, a3, a4, a5, a6] [v] h) := rGet (idx := 35) rfl rfl
set_option maxRecDepth 8000 in
theorem e91_115 (d : Nat) (a0 a1 a2 a4 a5 a6 : Option Value) (s0 : Nat) (h : MH) (x : Int32) : rn d 91 115 [a0, a1, a2, some (.int x), a4, a5, a6] [.ref s0] h = rn d 91 116 [a0, a1, a2, some (.int x), a4, a5, a6] [.int x, .ref s0] h := rP (i := (.iload_n 3)) rfl rfl
set_option maxRecDepth 8000 in
theorem e91_116 (d : Nat) (a0 a1 a2 a3 a4 a5 a6 : Option Value) (s0 : Int32) (s1 : Nat) (h : MH)  : rn d 91 116 [a0, a1, a2, a3, a4, a5, a6] [.int s0, .ref s1] h = (ageti h 0 s1 s0).bind (fun v => rn d 91 117 [a0, a1, a2, a3, a4, a5, a6] [.int v] h) := rIald rfl
set_option maxRecDepth 8000 in
theorem e91_117 (d : Nat) (a0 a1 a2 a3 a4 a5 a6 : Option Value) (s0 : Int32) (h : MH)  : rn d 91 117 [a0, a1, a2, a3, a4, a5, a6] [.int s0] h = some (some (.int s0), h) := rIret rfl rfl
set_option maxRecDepth 8000 in
theorem e91_118 (d : Nat) (a0 a1 a2 a3 a5 a6 : Option Value) (h : MH) (x : Int32) : rn d 91 118 [a0, a1, a2, a3, some (.int x), a5, a6] [] h = rn d 91 120 [a0, a1, a2, a3, some (.int x), a5, a6] [.int x] h := rP (i := (.iload 4)) rfl rfl
set_option maxRecDepth 8000 in
theorem e91_120 (d : Nat) (a0 a1 a2 a3 a4 a5 a6 : Option Value) (s0 : Int32) (h : MH)  : rn d 91 120 [a0, a1, a2, a3, a4, a5, a6] [.int s0] h = rn d 91 122 [a0, a1, a2, a3, a4, a5, a6] [.int 87, .int s0] h := rP (i := (.bipush 87)) rfl rfl
set_option maxRecDepth 8000 in
theorem e91_122 (d : Nat) (a0 a1 a2 a3 a4 a5 a6 : Option Value) (s0 s1 : Int32) (h : MH)  : rn d 91 122 [a0, a1, a2, a3, a4, a5, a6] [.int s0, .int s1] h = if s1 = s0 then rn d 91 125 [a0, a1, a2, a3, a4, a5, a6] [] h else rn d 91 128 [a0, a1, a2, a3, a4, a5, a6] [] h := rNe2 (off := 6) 128 rfl rfl
set_option maxRecDepth 8000 in
theorem e91_125 (d : Nat) (a0 a1 a2 a3 a4 a6 : Option Value) (h : MH) (x : Int32) : rn d 91 125 [a0, a1, a2, a3, a4, some (.int x), a6] [] h = rn d 91 127 [a0, a1, a2, a3, a4, some (.int x), a6] [.int x] h := rP (i := (.iload 5)) rfl rfl
set_option maxRecDepth 8000 in
theorem e91_127 (d : Nat) (a0 a1 a2 a3 a4 a5 a6 : Option Value) (s0 : Int32) (h : MH)  : rn d 91 127 [a0, a1, a2, a3, a4, a5, a6] [.int s0] h = some (some (.int s0), h) := rIret rfl rfl
set_option maxRecDepth 8000 in
theorem e91_128 (d : Nat) (a0 a1 a2 a3 a5 a6 : Option Value) (h : MH) (x : Int32) : rn d 91 128 [a0, a1, a2, a3, some (.int x), a5, a6] [] h = rn d 91 130 [a0, a1, a2, a3, some (.int x), a5, a6] [.int x] h := rP (i := (.iload 4)) rfl rfl
set_option maxRecDepth 8000 in
theorem e91_130 (d : Nat) (a0 a1 a2 a3 a4 a5 a6 : Option Value) (s0 : Int32) (h : MH)  : rn d 91 130 [a0, a1, a2, a3, a4, a5, a6] [.int s0] h = rn d 91 132 [a0, a1, a2, a3, a4, a5, a6] [.int 67, .int s0] h := rP (i := (.bipush 67)) rfl rfl
set_option maxRecDepth 8000 in
theorem e91_132 (d : Nat) (a0 a1 a2 a3 a4 a5 a6 : Option Value) (s0 s1 : Int32) (h : MH)  : rn d 91 132 [a0, a1, a2, a3, a4, a5, a6] [.int s0, .int s1] h = if s1 = s0 then rn d 91 135 [a0, a1, a2, a3, a4, a5, a6] [] h else rn d 91 160 [a0, a1, a2, a3, a4, a5, a6] [] h := rNe2 (off := 28) 160 rfl rfl
set_option maxRecDepth 8000 in
theorem e91_135 (d : Nat) (a1 a2 a3 a4 a5 a6 : Option Value) (h : MH) (x : Nat) : rn d 91 135 [some (.ref x), a1, a2, a3, a4, a5, a6] [] h = rn d 91 136 [some (.ref x), a1, a2, a3, a4, a5, a6] [.ref x] h := rP (i := (.aload_n 0)) rfl rfl
set_option maxRecDepth 8000 in
theorem e91_136 (d : Nat) (a1 a2 a3 a4 a5 a6 : Option Value) (s0 : Nat) (h : MH) (x : Nat) : rn d 91 136 [some (.ref x), a1, a2, a3, a4, a5, a6] [.ref s0] h = rn d 91 137 [some (.ref x), a1, a2, a3, a4, a5, a6] [.ref x, .ref s0] h := rP (i := (.aload_n 0)) rfl rfl
set_option maxRecDepth 8000 in
theorem e91_137 (d : Nat) (a0 a2 a3 a4 a5 a6 : Option Value) (s0 s1 : Nat) (h : MH) (x : Int32) : rn d 91 137 [a0, some (.int x), a2, a3, a4, a5, a6] [.ref s0, .ref s1] h = rn d 91 138 [a0, some (.int x), a2, a3, a4, a5, a6] [.int x, .ref s0, .ref s1] h := rP (i := (.iload_n 1)) rfl rfl
set_option maxRecDepth 8000 in
theorem e91_138 (d : Nat) (a0 a1 a3 a4 a5 a6 : Option Value) (s0 : Int32) (s1 s2 : Nat) (h : MH) (x : Int32) : rn d 91 138 [a0, a1, some (.int x), a3, a4, a5, a6] [.int s0, .ref s1, .ref s2] h = rn d 91 139 [a0, a1, some (.int x), a3, a4, a5, a6] [.int x, .int s0, .ref s1, .ref s2] h := rP (i := (.iload_n 2)) rfl rfl
set_option maxRecDepth 8000 in
theorem e91_139 (d : Nat) (a0 a1 a2 a3 a4 a5 a6 : Option Value) (s0 s1 : Int32) (s2 s3 : Nat) (h : MH) (hz : clsOf h s2 = some 5) : rn (d + 1) 91 139 [a0, a1, a2, a3, a4, a5, a6] [.int s0, .int s1, .ref s2, .ref s3] h = (rn d 82 0 [some (.ref s2), some (.int s1), some (.int s0), none] [] h).bind (fun R => rn (d + 1) 91 142 [a0, a1, a2, a3, a4, a5, a6] (R.1.toList ++ [.ref s3]) R.2) := rInv (i := (.invokevirtual 107)) (n := 3) (tl := [506, 507, 42, 58]) rfl rfl rfl rfl (by decide) (Nat.le_of_ble_eq_true rfl) (Nat.le_of_ble_eq_true rfl) (Nat.le_of_ble_eq_true rfl) (rcv_V hz)
set_option maxRecDepth 8000 in
theorem e91_142 (d : Nat) (a0 a1 a2 a3 a4 a5 a6 : Option Value) (s0 : Int32) (s1 : Nat) (h : MH) (hz : clsOf h s1 = some 5) : rn (d + 1) 91 142 [a0, a1, a2, a3, a4, a5, a6] [.int s0, .ref s1] h = (rn d 89 0 [some (.ref s1), some (.int s0)] [] h).bind (fun R => rn (d + 1) 91 145 [a0, a1, a2, a3, a4, a5, a6] (R.1.toList ++ []) R.2) := rInv (i := (.invokevirtual 133)) (n := 2) (tl := [528, 529, 48, 58]) rfl rfl rfl rfl (by decide) (Nat.le_of_ble_eq_true rfl) (Nat.le_of_ble_eq_true rfl) (Nat.le_of_ble_eq_true rfl) (rcv_V hz)
set_option maxRecDepth 8000 in
theorem e91_145 (d : Nat) (a0 a1 a2 a3 a4 a5 a6 : Option Value) (s0 : Int32) (h : MH)  : rn d 91 145 [a0, a1, a2, a3, a4, a5, a6] [.int s0] h = if s0 = 0 then rn d 91 153 [a0, a1, a2, a3, a4, a5, a6] [] h else rn d 91 148 [a0, a1, a2, a3, a4, a5, a6] [] h := rEq1 (off := 8) 153 rfl rfl
set_option maxRecDepth 8000 in
theorem e91_148 (d : Nat) (a0 a1 a2 a3 a4 a6 : Option Value) (h : MH) (x : Int32) : rn d 91 148 [a0, a1, a2, a3, a4, some (.int x), a6] [] h = rn d 91 150 [a0, a1, a2, a3, a4, some (.int x), a6] [.int x] h := rP (i := (.iload 5)) rfl rfl
set_option maxRecDepth 8000 in
theorem e91_150 (d : Nat) (a0 a1 a2 a3 a4 a5 a6 : Option Value) (s0 : Int32) (h : MH)  : rn d 91 150 [a0, a1, a2, a3, a4, a5, a6] [.int s0] h = rn d 91 159 [a0, a1, a2, a3, a4, a5, a6] [.int s0] h := rP (i := (.goto 9)) rfl rfl
set_option maxRecDepth 8000 in
theorem e91_153 (d : Nat) (a1 a2 a3 a4 a5 a6 : Option Value) (h : MH) (x : Nat) : rn d 91 153 [some (.ref x), a1, a2, a3, a4, a5, a6] [] h = rn d 91 154 [some (.ref x), a1, a2, a3, a4, a5, a6] [.ref x] h := rP (i := (.aload_n 0)) rfl rfl
set_option maxRecDepth 8000 in
theorem e91_154 (d : Nat) (a0 a1 a2 a3 a4 a5 a6 : Option Value) (s0 : Nat) (h : MH)  : rn d 91 154 [a0, a1, a2, a3, a4, a5, a6] [.ref s0] h = (fgetv h s0 5 10).bind (fun v => rn d 91 157 [a0, a1, a2, a3, a4, a5, a6] [v] h) := rGet (idx := 35) rfl rfl
set_option maxRecDepth 8000 in
theorem e91_157 (d : Nat) (a0 a1 a2 a4 a5 a6 : Option Value) (s0 : Nat) (h : MH) (x : Int32) : rn d 91 157 [a0, a1, a2, some (.int x), a4, a5, a6] [.ref s0] h = rn d 91 158 [a0, a1, a2, some (.int x), a4, a5, a6] [.int x, .ref s0] h := rP (i := (.iload_n 3)) rfl rfl
set_option maxRecDepth 8000 in
theorem e91_158 (d : Nat) (a0 a1 a2 a3 a4 a5 a6 : Option Value) (s0 : Int32) (s1 : Nat) (h : MH)  : rn d 91 158 [a0, a1, a2, a3, a4, a5, a6] [.int s0, .ref s1] h = (ageti h 0 s1 s0).bind (fun v => rn d 91 159 [a0, a1, a2, a3, a4, a5, a6] [.int v] h) := rIald rfl
set_option maxRecDepth 8000 in
theorem e91_159 (d : Nat) (a0 a1 a2 a3 a4 a5 a6 : Option Value) (s0 : Int32) (h : MH)  : rn d 91 159 [a0, a1, a2, a3, a4, a5, a6] [.int s0] h = some (some (.int s0), h) := rIret rfl rfl
set_option maxRecDepth 8000 in
theorem e91_160 (d : Nat) (a1 a2 a3 a4 a5 a6 : Option Value) (h : MH) (x : Nat) : rn d 91 160 [some (.ref x), a1, a2, a3, a4, a5, a6] [] h = rn d 91 161 [some (.ref x), a1, a2, a3, a4, a5, a6] [.ref x] h := rP (i := (.aload_n 0)) rfl rfl
set_option maxRecDepth 8000 in
theorem e91_161 (d : Nat) (a0 a1 a2 a3 a4 a5 a6 : Option Value) (s0 : Nat) (h : MH)  : rn d 91 161 [a0, a1, a2, a3, a4, a5, a6] [.ref s0] h = (fgetv h s0 5 9).bind (fun v => rn d 91 164 [a0, a1, a2, a3, a4, a5, a6] [v] h) := rGet (idx := 32) rfl rfl
set_option maxRecDepth 8000 in
theorem e91_164 (d : Nat) (a0 a2 a3 a4 a5 a6 : Option Value) (s0 : Nat) (h : MH) (x : Int32) : rn d 91 164 [a0, some (.int x), a2, a3, a4, a5, a6] [.ref s0] h = rn d 91 165 [a0, some (.int x), a2, a3, a4, a5, a6] [.int x, .ref s0] h := rP (i := (.iload_n 1)) rfl rfl
set_option maxRecDepth 8000 in
theorem e91_165 (d : Nat) (a0 a1 a2 a3 a4 a5 a6 : Option Value) (s0 : Int32) (s1 : Nat) (h : MH)  : rn d 91 165 [a0, a1, a2, a3, a4, a5, a6] [.int s0, .ref s1] h = rn d 91 167 [a0, a1, a2, a3, a4, a5, a6] [.int 24, .int s0, .ref s1] h := rP (i := (.bipush 24)) rfl rfl
set_option maxRecDepth 8000 in
theorem e91_167 (d : Nat) (a0 a1 a2 a3 a4 a5 a6 : Option Value) (s0 s1 : Int32) (s2 : Nat) (h : MH)  : rn d 91 167 [a0, a1, a2, a3, a4, a5, a6] [.int s0, .int s1, .ref s2] h = rn d 91 168 [a0, a1, a2, a3, a4, a5, a6] [.int (s1 * s0), .ref s2] h := rP (i := (.imul)) rfl rfl
set_option maxRecDepth 8000 in
theorem e91_168 (d : Nat) (a1 a2 a3 a4 a5 a6 : Option Value) (s0 : Int32) (s1 : Nat) (h : MH) (x : Nat) : rn d 91 168 [some (.ref x), a1, a2, a3, a4, a5, a6] [.int s0, .ref s1] h = rn d 91 169 [some (.ref x), a1, a2, a3, a4, a5, a6] [.ref x, .int s0, .ref s1] h := rP (i := (.aload_n 0)) rfl rfl
set_option maxRecDepth 8000 in
theorem e91_169 (d : Nat) (a0 a2 a3 a4 a5 a6 : Option Value) (s1 : Int32) (s0 s2 : Nat) (h : MH) (x : Int32) : rn d 91 169 [a0, some (.int x), a2, a3, a4, a5, a6] [.ref s0, .int s1, .ref s2] h = rn d 91 170 [a0, some (.int x), a2, a3, a4, a5, a6] [.int x, .ref s0, .int s1, .ref s2] h := rP (i := (.iload_n 1)) rfl rfl
set_option maxRecDepth 8000 in
theorem e91_170 (d : Nat) (a0 a1 a3 a4 a5 a6 : Option Value) (s0 s2 : Int32) (s1 s3 : Nat) (h : MH) (x : Int32) : rn d 91 170 [a0, a1, some (.int x), a3, a4, a5, a6] [.int s0, .ref s1, .int s2, .ref s3] h = rn d 91 171 [a0, a1, some (.int x), a3, a4, a5, a6] [.int x, .int s0, .ref s1, .int s2, .ref s3] h := rP (i := (.iload_n 2)) rfl rfl
set_option maxRecDepth 8000 in
theorem e91_171 (d : Nat) (a0 a1 a2 a3 a4 a5 a6 : Option Value) (s0 s1 s3 : Int32) (s2 s4 : Nat) (h : MH)  : rn d 91 171 [a0, a1, a2, a3, a4, a5, a6] [.int s0, .int s1, .ref s2, .int s3, .ref s4] h = rn d 91 172 [a0, a1, a2, a3, a4, a5, a6] [.int 1, .int s0, .int s1, .ref s2, .int s3, .ref s4] h := rP (i := (.iconst 1)) rfl rfl
set_option maxRecDepth 8000 in
theorem e91_172 (d : Nat) (a0 a1 a2 a3 a4 a5 a6 : Option Value) (s0 s1 s2 s4 : Int32) (s3 s5 : Nat) (h : MH) (hz : clsOf h s3 = some 5) : rn (d + 1) 91 172 [a0, a1, a2, a3, a4, a5, a6] [.int s0, .int s1, .int s2, .ref s3, .int s4, .ref s5] h = (rn d 83 0 [some (.ref s3), some (.int s2), some (.int s1), some (.int s0), none, none] [] h).bind (fun R => rn (d + 1) 91 175 [a0, a1, a2, a3, a4, a5, a6] (R.1.toList ++ [.int s4, .ref s5]) R.2) := rInv (i := (.invokevirtual 111)) (n := 4) (tl := [509, 510, 43, 58]) rfl rfl rfl rfl (by decide) (Nat.le_of_ble_eq_true rfl) (Nat.le_of_ble_eq_true rfl) (Nat.le_of_ble_eq_true rfl) (rcv_V hz)
set_option maxRecDepth 8000 in
theorem e91_175 (d : Nat) (a0 a1 a2 a3 a4 a5 a6 : Option Value) (s0 s1 : Int32) (s2 : Nat) (h : MH)  : rn d 91 175 [a0, a1, a2, a3, a4, a5, a6] [.int s0, .int s1, .ref s2] h = rn d 91 176 [a0, a1, a2, a3, a4, a5, a6] [.int (s1 + s0), .ref s2] h := rP (i := (.iadd)) rfl rfl
set_option maxRecDepth 8000 in
theorem e91_176 (d : Nat) (a0 a1 a2 a3 a4 a5 a6 : Option Value) (s0 : Int32) (s1 : Nat) (h : MH)  : rn d 91 176 [a0, a1, a2, a3, a4, a5, a6] [.int s0, .ref s1] h = (ageti h 0 s1 s0).bind (fun v => rn d 91 177 [a0, a1, a2, a3, a4, a5, a6] [.int v] h) := rIald rfl
set_option maxRecDepth 8000 in
theorem e91_177 (d : Nat) (a0 a1 a2 a3 a4 a5 a6 : Option Value) (s0 : Int32) (h : MH)  : rn d 91 177 [a0, a1, a2, a3, a4, a5, a6] [.int s0] h = rn d 91 179 [a0, a1, a2, a3, a4, a5, some (.int s0)] [] h := rP (i := (.istore 6)) rfl rfl
set_option maxRecDepth 8000 in
theorem e91_179 (d : Nat) (a0 a1 a2 a3 a5 a6 : Option Value) (h : MH) (x : Int32) : rn d 91 179 [a0, a1, a2, a3, some (.int x), a5, a6] [] h = rn d 91 181 [a0, a1, a2, a3, some (.int x), a5, a6] [.int x] h := rP (i := (.iload 4)) rfl rfl
set_option maxRecDepth 8000 in
theorem e91_181 (d : Nat) (a0 a1 a2 a3 a4 a5 a6 : Option Value) (s0 : Int32) (h : MH)  : rn d 91 181 [a0, a1, a2, a3, a4, a5, a6] [.int s0] h = rn d 91 183 [a0, a1, a2, a3, a4, a5, a6] [.int 43, .int s0] h := rP (i := (.bipush 43)) rfl rfl
set_option maxRecDepth 8000 in
theorem e91_183 (d : Nat) (a0 a1 a2 a3 a4 a5 a6 : Option Value) (s0 s1 : Int32) (h : MH)  : rn d 91 183 [a0, a1, a2, a3, a4, a5, a6] [.int s0, .int s1] h = if s1 = s0 then rn d 91 186 [a0, a1, a2, a3, a4, a5, a6] [] h else rn d 91 192 [a0, a1, a2, a3, a4, a5, a6] [] h := rNe2 (off := 9) 192 rfl rfl
set_option maxRecDepth 8000 in
theorem e91_186 (d : Nat) (a0 a1 a2 a3 a4 a6 : Option Value) (h : MH) (x : Int32) : rn d 91 186 [a0, a1, a2, a3, a4, some (.int x), a6] [] h = rn d 91 188 [a0, a1, a2, a3, a4, some (.int x), a6] [.int x] h := rP (i := (.iload 5)) rfl rfl
set_option maxRecDepth 8000 in
theorem e91_188 (d : Nat) (a0 a1 a2 a3 a4 a5 : Option Value) (s0 : Int32) (h : MH) (x : Int32) : rn d 91 188 [a0, a1, a2, a3, a4, a5, some (.int x)] [.int s0] h = rn d 91 190 [a0, a1, a2, a3, a4, a5, some (.int x)] [.int x, .int s0] h := rP (i := (.iload 6)) rfl rfl
set_option maxRecDepth 8000 in
theorem e91_190 (d : Nat) (a0 a1 a2 a3 a4 a5 a6 : Option Value) (s0 s1 : Int32) (h : MH)  : rn d 91 190 [a0, a1, a2, a3, a4, a5, a6] [.int s0, .int s1] h = rn d 91 191 [a0, a1, a2, a3, a4, a5, a6] [.int (s1 + s0)] h := rP (i := (.iadd)) rfl rfl
set_option maxRecDepth 8000 in
theorem e91_191 (d : Nat) (a0 a1 a2 a3 a4 a5 a6 : Option Value) (s0 : Int32) (h : MH)  : rn d 91 191 [a0, a1, a2, a3, a4, a5, a6] [.int s0] h = some (some (.int s0), h) := rIret rfl rfl
set_option maxRecDepth 8000 in
theorem e91_192 (d : Nat) (a0 a1 a2 a3 a5 a6 : Option Value) (h : MH) (x : Int32) : rn d 91 192 [a0, a1, a2, a3, some (.int x), a5, a6] [] h = rn d 91 194 [a0, a1, a2, a3, some (.int x), a5, a6] [.int x] h := rP (i := (.iload 4)) rfl rfl
set_option maxRecDepth 8000 in
theorem e91_194 (d : Nat) (a0 a1 a2 a3 a4 a5 a6 : Option Value) (s0 : Int32) (h : MH)  : rn d 91 194 [a0, a1, a2, a3, a4, a5, a6] [.int s0] h = rn d 91 196 [a0, a1, a2, a3, a4, a5, a6] [.int 45, .int s0] h := rP (i := (.bipush 45)) rfl rfl
set_option maxRecDepth 8000 in
theorem e91_196 (d : Nat) (a0 a1 a2 a3 a4 a5 a6 : Option Value) (s0 s1 : Int32) (h : MH)  : rn d 91 196 [a0, a1, a2, a3, a4, a5, a6] [.int s0, .int s1] h = if s1 = s0 then rn d 91 199 [a0, a1, a2, a3, a4, a5, a6] [] h else rn d 91 205 [a0, a1, a2, a3, a4, a5, a6] [] h := rNe2 (off := 9) 205 rfl rfl
set_option maxRecDepth 8000 in
theorem e91_199 (d : Nat) (a0 a1 a2 a3 a4 a6 : Option Value) (h : MH) (x : Int32) : rn d 91 199 [a0, a1, a2, a3, a4, some (.int x), a6] [] h = rn d 91 201 [a0, a1, a2, a3, a4, some (.int x), a6] [.int x] h := rP (i := (.iload 5)) rfl rfl
set_option maxRecDepth 8000 in
theorem e91_201 (d : Nat) (a0 a1 a2 a3 a4 a5 : Option Value) (s0 : Int32) (h : MH) (x : Int32) : rn d 91 201 [a0, a1, a2, a3, a4, a5, some (.int x)] [.int s0] h = rn d 91 203 [a0, a1, a2, a3, a4, a5, some (.int x)] [.int x, .int s0] h := rP (i := (.iload 6)) rfl rfl
set_option maxRecDepth 8000 in
theorem e91_203 (d : Nat) (a0 a1 a2 a3 a4 a5 a6 : Option Value) (s0 s1 : Int32) (h : MH)  : rn d 91 203 [a0, a1, a2, a3, a4, a5, a6] [.int s0, .int s1] h = rn d 91 204 [a0, a1, a2, a3, a4, a5, a6] [.int (s1 - s0)] h := rP (i := (.isub)) rfl rfl
set_option maxRecDepth 8000 in
theorem e91_204 (d : Nat) (a0 a1 a2 a3 a4 a5 a6 : Option Value) (s0 : Int32) (h : MH)  : rn d 91 204 [a0, a1, a2, a3, a4, a5, a6] [.int s0] h = some (some (.int s0), h) := rIret rfl rfl
set_option maxRecDepth 8000 in
theorem e91_205 (d : Nat) (a0 a1 a2 a3 a5 a6 : Option Value) (h : MH) (x : Int32) : rn d 91 205 [a0, a1, a2, a3, some (.int x), a5, a6] [] h = rn d 91 207 [a0, a1, a2, a3, some (.int x), a5, a6] [.int x] h := rP (i := (.iload 4)) rfl rfl
set_option maxRecDepth 8000 in
theorem e91_207 (d : Nat) (a0 a1 a2 a3 a4 a5 a6 : Option Value) (s0 : Int32) (h : MH)  : rn d 91 207 [a0, a1, a2, a3, a4, a5, a6] [.int s0] h = rn d 91 209 [a0, a1, a2, a3, a4, a5, a6] [.int 42, .int s0] h := rP (i := (.bipush 42)) rfl rfl
set_option maxRecDepth 8000 in
theorem e91_209 (d : Nat) (a0 a1 a2 a3 a4 a5 a6 : Option Value) (s0 s1 : Int32) (h : MH)  : rn d 91 209 [a0, a1, a2, a3, a4, a5, a6] [.int s0, .int s1] h = if s1 = s0 then rn d 91 212 [a0, a1, a2, a3, a4, a5, a6] [] h else rn d 91 218 [a0, a1, a2, a3, a4, a5, a6] [] h := rNe2 (off := 9) 218 rfl rfl
set_option maxRecDepth 8000 in
theorem e91_212 (d : Nat) (a0 a1 a2 a3 a4 a6 : Option Value) (h : MH) (x : Int32) : rn d 91 212 [a0, a1, a2, a3, a4, some (.int x), a6] [] h = rn d 91 214 [a0, a1, a2, a3, a4, some (.int x), a6] [.int x] h := rP (i := (.iload 5)) rfl rfl
set_option maxRecDepth 8000 in
theorem e91_214 (d : Nat) (a0 a1 a2 a3 a4 a5 : Option Value) (s0 : Int32) (h : MH) (x : Int32) : rn d 91 214 [a0, a1, a2, a3, a4, a5, some (.int x)] [.int s0] h = rn d 91 216 [a0, a1, a2, a3, a4, a5, some (.int x)] [.int x, .int s0] h := rP (i := (.iload 6)) rfl rfl
set_option maxRecDepth 8000 in
theorem e91_216 (d : Nat) (a0 a1 a2 a3 a4 a5 a6 : Option Value) (s0 s1 : Int32) (h : MH)  : rn d 91 216 [a0, a1, a2, a3, a4, a5, a6] [.int s0, .int s1] h = rn d 91 217 [a0, a1, a2, a3, a4, a5, a6] [.int (s1 * s0)] h := rP (i := (.imul)) rfl rfl
set_option maxRecDepth 8000 in
theorem e91_217 (d : Nat) (a0 a1 a2 a3 a4 a5 a6 : Option Value) (s0 : Int32) (h : MH)  : rn d 91 217 [a0, a1, a2, a3, a4, a5, a6] [.int s0] h = some (some (.int s0), h) := rIret rfl rfl
set_option maxRecDepth 8000 in
theorem e91_218 (d : Nat) (a0 a1 a2 a3 a5 a6 : Option Value) (h : MH) (x : Int32) : rn d 91 218 [a0, a1, a2, a3, some (.int x), a5, a6] [] h = rn d 91 220 [a0, a1, a2, a3, some (.int x), a5, a6] [.int x] h := rP (i := (.iload 4)) rfl rfl
set_option maxRecDepth 8000 in
theorem e91_220 (d : Nat) (a0 a1 a2 a3 a4 a5 a6 : Option Value) (s0 : Int32) (h : MH)  : rn d 91 220 [a0, a1, a2, a3, a4, a5, a6] [.int s0] h = rn d 91 222 [a0, a1, a2, a3, a4, a5, a6] [.int 60, .int s0] h := rP (i := (.bipush 60)) rfl rfl
set_option maxRecDepth 8000 in
theorem e91_222 (d : Nat) (a0 a1 a2 a3 a4 a5 a6 : Option Value) (s0 s1 : Int32) (h : MH)  : rn d 91 222 [a0, a1, a2, a3, a4, a5, a6] [.int s0, .int s1] h = if s1 = s0 then rn d 91 225 [a0, a1, a2, a3, a4, a5, a6] [] h else rn d 91 238 [a0, a1, a2, a3, a4, a5, a6] [] h := rNe2 (off := 16) 238 rfl rfl
set_option maxRecDepth 8000 in
theorem e91_225 (d : Nat) (a0 a1 a2 a3 a4 a6 : Option Value) (h : MH) (x : Int32) : rn d 91 225 [a0, a1, a2, a3, a4, some (.int x), a6] [] h = rn d 91 227 [a0, a1, a2, a3, a4, some (.int x), a6] [.int x] h := rP (i := (.iload 5)) rfl rfl
set_option maxRecDepth 8000 in
theorem e91_227 (d : Nat) (a0 a1 a2 a3 a4 a5 : Option Value) (s0 : Int32) (h : MH) (x : Int32) : rn d 91 227 [a0, a1, a2, a3, a4, a5, some (.int x)] [.int s0] h = rn d 91 229 [a0, a1, a2, a3, a4, a5, some (.int x)] [.int x, .int s0] h := rP (i := (.iload 6)) rfl rfl
set_option maxRecDepth 8000 in
theorem e91_229 (d : Nat) (a0 a1 a2 a3 a4 a5 a6 : Option Value) (s0 s1 : Int32) (h : MH)  : rn d 91 229 [a0, a1, a2, a3, a4, a5, a6] [.int s0, .int s1] h = if s1 < s0 then rn d 91 232 [a0, a1, a2, a3, a4, a5, a6] [] h else rn d 91 236 [a0, a1, a2, a3, a4, a5, a6] [] h := rGe2 (off := 7) 236 rfl rfl
set_option maxRecDepth 8000 in
theorem e91_232 (d : Nat) (a0 a1 a2 a3 a4 a5 a6 : Option Value) (h : MH)  : rn d 91 232 [a0, a1, a2, a3, a4, a5, a6] [] h = rn d 91 233 [a0, a1, a2, a3, a4, a5, a6] [.int 1] h := rP (i := (.iconst 1)) rfl rfl
set_option maxRecDepth 8000 in
theorem e91_233 (d : Nat) (a0 a1 a2 a3 a4 a5 a6 : Option Value) (s0 : Int32) (h : MH)  : rn d 91 233 [a0, a1, a2, a3, a4, a5, a6] [.int s0] h = rn d 91 237 [a0, a1, a2, a3, a4, a5, a6] [.int s0] h := rP (i := (.goto 4)) rfl rfl
set_option maxRecDepth 8000 in
theorem e91_236 (d : Nat) (a0 a1 a2 a3 a4 a5 a6 : Option Value) (h : MH)  : rn d 91 236 [a0, a1, a2, a3, a4, a5, a6] [] h = rn d 91 237 [a0, a1, a2, a3, a4, a5, a6] [.int 0] h := rP (i := (.iconst 0)) rfl rfl
set_option maxRecDepth 8000 in
theorem e91_237 (d : Nat) (a0 a1 a2 a3 a4 a5 a6 : Option Value) (s0 : Int32) (h : MH)  : rn d 91 237 [a0, a1, a2, a3, a4, a5, a6] [.int s0] h = some (some (.int s0), h) := rIret rfl rfl
set_option maxRecDepth 8000 in
theorem e91_238 (d : Nat) (a0 a1 a2 a3 a5 a6 : Option Value) (h : MH) (x : Int32) : rn d 91 238 [a0, a1, a2, a3, some (.int x), a5, a6] [] h = rn d 91 240 [a0, a1, a2, a3, some (.int x), a5, a6] [.int x] h := rP (i := (.iload 4)) rfl rfl
set_option maxRecDepth 8000 in
theorem e91_240 (d : Nat) (a0 a1 a2 a3 a4 a5 a6 : Option Value) (s0 : Int32) (h : MH)  : rn d 91 240 [a0, a1, a2, a3, a4, a5, a6] [.int s0] h = rn d 91 242 [a0, a1, a2, a3, a4, a5, a6] [.int 61, .int s0] h := rP (i := (.bipush 61)) rfl rfl
set_option maxRecDepth 8000 in
theorem e91_242 (d : Nat) (a0 a1 a2 a3 a4 a5 a6 : Option Value) (s0 s1 : Int32) (h : MH)  : rn d 91 242 [a0, a1, a2, a3, a4, a5, a6] [.int s0, .int s1] h = if s1 = s0 then rn d 91 245 [a0, a1, a2, a3, a4, a5, a6] [] h else rn d 91 258 [a0, a1, a2, a3, a4, a5, a6] [] h := rNe2 (off := 16) 258 rfl rfl
set_option maxRecDepth 8000 in
theorem e91_245 (d : Nat) (a0 a1 a2 a3 a4 a6 : Option Value) (h : MH) (x : Int32) : rn d 91 245 [a0, a1, a2, a3, a4, some (.int x), a6] [] h = rn d 91 247 [a0, a1, a2, a3, a4, some (.int x), a6] [.int x] h := rP (i := (.iload 5)) rfl rfl
set_option maxRecDepth 8000 in
theorem e91_247 (d : Nat) (a0 a1 a2 a3 a4 a5 : Option Value) (s0 : Int32) (h : MH) (x : Int32) : rn d 91 247 [a0, a1, a2, a3, a4, a5, some (.int x)] [.int s0] h = rn d 91 249 [a0, a1, a2, a3, a4, a5, some (.int x)] [.int x, .int s0] h := rP (i := (.iload 6)) rfl rfl
set_option maxRecDepth 8000 in
theorem e91_249 (d : Nat) (a0 a1 a2 a3 a4 a5 a6 : Option Value) (s0 s1 : Int32) (h : MH)  : rn d 91 249 [a0, a1, a2, a3, a4, a5, a6] [.int s0, .int s1] h = if s1 = s0 then rn d 91 252 [a0, a1, a2, a3, a4, a5, a6] [] h else rn d 91 256 [a0, a1, a2, a3, a4, a5, a6] [] h := rNe2 (off := 7) 256 rfl rfl
set_option maxRecDepth 8000 in
theorem e91_252 (d : Nat) (a0 a1 a2 a3 a4 a5 a6 : Option Value) (h : MH)  : rn d 91 252 [a0, a1, a2, a3, a4, a5, a6] [] h = rn d 91 253 [a0, a1, a2, a3, a4, a5, a6] [.int 1] h := rP (i := (.iconst 1)) rfl rfl
set_option maxRecDepth 8000 in
theorem e91_253 (d : Nat) (a0 a1 a2 a3 a4 a5 a6 : Option Value) (s0 : Int32) (h : MH)  : rn d 91 253 [a0, a1, a2, a3, a4, a5, a6] [.int s0] h = rn d 91 257 [a0, a1, a2, a3, a4, a5, a6] [.int s0] h := rP (i := (.goto 4)) rfl rfl
set_option maxRecDepth 8000 in
theorem e91_256 (d : Nat) (a0 a1 a2 a3 a4 a5 a6 : Option Value) (h : MH)  : rn d 91 256 [a0, a1, a2, a3, a4, a5, a6] [] h = rn d 91 257 [a0, a1, a2, a3, a4, a5, a6] [.int 0] h := rP (i := (.iconst 0)) rfl rfl
set_option maxRecDepth 8000 in
theorem e91_257 (d : Nat) (a0 a1 a2 a3 a4 a5 a6 : Option Value) (s0 : Int32) (h : MH)  : rn d 91 257 [a0, a1, a2, a3, a4, a5, a6] [.int s0] h = some (some (.int s0), h) := rIret rfl rfl
set_option maxRecDepth 8000 in
theorem e91_258 (d : Nat) (a0 a1 a2 a3 a5 a6 : Option Value) (h : MH) (x : Int32) : rn d 91 258 [a0, a1, a2, a3, some (.int x), a5, a6] [] h = rn d 91 260 [a0, a1, a2, a3, some (.int x), a5, a6] [.int x] h := rP (i := (.iload 4)) rfl rfl
set_option maxRecDepth 8000 in
theorem e91_260 (d : Nat) (a0 a1 a2 a3 a4 a5 a6 : Option Value) (s0 : Int32) (h : MH)  : rn d 91 260 [a0, a1, a2, a3, a4, a5, a6] [.int s0] h = rn d 91 262 [a0, a1, a2, a3, a4, a5, a6] [.int 38, .int s0] h := rP (i := (.bipush 38)) rfl rfl
set_option maxRecDepth 8000 in
theorem e91_262 (d : Nat) (a0 a1 a2 a3 a4 a5 a6 : Option Value) (s0 s1 : Int32) (h : MH)  : rn d 91 262 [a0, a1, a2, a3, a4, a5, a6] [.int s0, .int s1] h = if s1 = s0 then rn d 91 265 [a0, a1, a2, a3, a4, a5, a6] [] h else rn d 91 281 [a0, a1, a2, a3, a4, a5, a6] [] h := rNe2 (off := 19) 281 rfl rfl
set_option maxRecDepth 8000 in
theorem e91_265 (d : Nat) (a0 a1 a2 a3 a4 a6 : Option Value) (h : MH) (x : Int32) : rn d 91 265 [a0, a1, a2, a3, a4, some (.int x), a6] [] h = rn d 91 267 [a0, a1, a2, a3, a4, some (.int x), a6] [.int x] h := rP (i := (.iload 5)) rfl rfl
set_option maxRecDepth 8000 in
theorem e91_267 (d : Nat) (a0 a1 a2 a3 a4 a5 a6 : Option Value) (s0 : Int32) (h : MH)  : rn d 91 267 [a0, a1, a2, a3, a4, a5, a6] [.int s0] h = if s0 = 0 then rn d 91 279 [a0, a1, a2, a3, a4, a5, a6] [] h else rn d 91 270 [a0, a1, a2, a3, a4, a5, a6] [] h := rEq1 (off := 12) 279 rfl rfl
set_option maxRecDepth 8000 in
theorem e91_270 (d : Nat) (a0 a1 a2 a3 a4 a5 : Option Value) (h : MH) (x : Int32) : rn d 91 270 [a0, a1, a2, a3, a4, a5, some (.int x)] [] h = rn d 91 272 [a0, a1, a2, a3, a4, a5, some (.int x)] [.int x] h := rP (i := (.iload 6)) rfl rfl
set_option maxRecDepth 8000 in
theorem e91_272 (d : Nat) (a0 a1 a2 a3 a4 a5 a6 : Option Value) (s0 : Int32) (h : MH)  : rn d 91 272 [a0, a1, a2, a3, a4, a5, a6] [.int s0] h = if s0 = 0 then rn d 91 279 [a0, a1, a2, a3, a4, a5, a6] [] h else rn d 91 275 [a0, a1, a2, a3, a4, a5, a6] [] h := rEq1 (off := 7) 279 rfl rfl
set_option maxRecDepth 8000 in
theorem e91_275 (d : Nat) (a0 a1 a2 a3 a4 a5 a6 : Option Value) (h : MH)  : rn d 91 275 [a0, a1, a2, a3, a4, a5, a6] [] h = rn d 91 276 [a0, a1, a2, a3, a4, a5, a6] [.int 1] h := rP (i := (.iconst 1)) rfl rfl
set_option maxRecDepth 8000 in
theorem e91_276 (d : Nat) (a0 a1 a2 a3 a4 a5 a6 : Option Value) (s0 : Int32) (h : MH)  : rn d 91 276 [a0, a1, a2, a3, a4, a5, a6] [.int s0] h = rn d 91 280 [a0, a1, a2, a3, a4, a5, a6] [.int s0] h := rP (i := (.goto 4)) rfl rfl
set_option maxRecDepth 8000 in
theorem e91_279 (d : Nat) (a0 a1 a2 a3 a4 a5 a6 : Option Value) (h : MH)  : rn d 91 279 [a0, a1, a2, a3, a4, a5, a6] [] h = rn d 91 280 [a0, a1, a2, a3, a4, a5, a6] [.int 0] h := rP (i := (.iconst 0)) rfl rfl
set_option maxRecDepth 8000 in
theorem e91_280 (d : Nat) (a0 a1 a2 a3 a4 a5 a6 : Option Value) (s0 : Int32) (h : MH)  : rn d 91 280 [a0, a1, a2, a3, a4, a5, a6] [.int s0] h = some (some (.int s0), h) := rIret rfl rfl
set_option maxRecDepth 8000 in
theorem e91_281 (d : Nat) (a0 a1 a2 a3 a5 a6 : Option Value) (h : MH) (x : Int32) : rn d 91 281 [a0, a1, a2, a3, some (.int x), a5, a6] [] h = rn d 91 283 [a0, a1, a2, a3, some (.int x), a5, a6] [.int x] h := rP (i := (.iload 4)) rfl rfl
set_option maxRecDepth 8000 in
theorem e91_283 (d : Nat) (a0 a1 a2 a3 a4 a5 a6 : Option Value) (s0 : Int32) (h : MH)  : rn d 91 283 [a0, a1, a2, a3, a4, a5, a6] [.int s0] h = rn d 91 285 [a0, a1, a2, a3, a4, a5, a6] [.int 70, .int s0] h := rP (i := (.bipush 70)) rfl rfl
set_option maxRecDepth 8000 in
theorem e91_285 (d : Nat) (a0 a1 a2 a3 a4 a5 a6 : Option Value) (s0 s1 : Int32) (h : MH)  : rn d 91 285 [a0, a1, a2, a3, a4, a5, a6] [.int s0, .int s1] h = if s1 = s0 then rn d 91 288 [a0, a1, a2, a3, a4, a5, a6] [] h else rn d 91 312 [a0, a1, a2, a3, a4, a5, a6] [] h := rNe2 (off := 27) 312 rfl rfl
set_option maxRecDepth 8000 in
theorem e91_288 (d : Nat) (a1 a2 a3 a4 a5 a6 : Option Value) (h : MH) (x : Nat) : rn d 91 288 [some (.ref x), a1, a2, a3, a4, a5, a6] [] h = rn d 91 289 [some (.ref x), a1, a2, a3, a4, a5, a6] [.ref x] h := rP (i := (.aload_n 0)) rfl rfl
set_option maxRecDepth 8000 in
theorem e91_289 (d : Nat) (a0 a1 a2 a3 a4 a5 a6 : Option Value) (s0 : Nat) (h : MH)  : rn d 91 289 [a0, a1, a2, a3, a4, a5, a6] [.ref s0] h = (fgetv h s0 5 22).bind (fun v => rn d 91 292 [a0, a1, a2, a3, a4, a5, a6] [v] h) := rGet (idx := 66) rfl rfl
set_option maxRecDepth 8000 in
theorem e91_292 (d : Nat) (a1 a2 a3 a4 a5 a6 : Option Value) (s0 : Nat) (h : MH) (x : Nat) : rn d 91 292 [some (.ref x), a1, a2, a3, a4, a5, a6] [.ref s0] h = rn d 91 293 [some (.ref x), a1, a2, a3, a4, a5, a6] [.ref x, .ref s0] h := rP (i := (.aload_n 0)) rfl rfl
set_option maxRecDepth 8000 in
theorem e91_293 (d : Nat) (a0 a1 a2 a3 a4 a5 a6 : Option Value) (s0 s1 : Nat) (h : MH)  : rn d 91 293 [a0, a1, a2, a3, a4, a5, a6] [.ref s0, .ref s1] h = (fgetv h s0 5 7).bind (fun v => rn d 91 296 [a0, a1, a2, a3, a4, a5, a6] [v, .ref s1] h) := rGet (idx := 26) rfl rfl
set_option maxRecDepth 8000 in
theorem e91_296 (d : Nat) (a0 a1 a2 a4 a5 a6 : Option Value) (s0 s1 : Nat) (h : MH) (x : Int32) : rn d 91 296 [a0, a1, a2, some (.int x), a4, a5, a6] [.ref s0, .ref s1] h = rn d 91 297 [a0, a1, a2, some (.int x), a4, a5, a6] [.int x, .ref s0, .ref s1] h := rP (i := (.iload_n 3)) rfl rfl
set_option maxRecDepth 8000 in
theorem e91_297 (d : Nat) (a0 a1 a2 a3 a4 a5 a6 : Option Value) (s0 : Int32) (s1 s2 : Nat) (h : MH)  : rn d 91 297 [a0, a1, a2, a3, a4, a5, a6] [.int s0, .ref s1, .ref s2] h = (ageti h 0 s1 s0).bind (fun v => rn d 91 298 [a0, a1, a2, a3, a4, a5, a6] [.int v, .ref s2] h) := rIald rfl
set_option maxRecDepth 8000 in
theorem e91_298 (d : Nat) (a0 a1 a2 a3 a4 a5 a6 : Option Value) (s0 : Int32) (s1 : Nat) (h : MH)  : rn d 91 298 [a0, a1, a2, a3, a4, a5, a6] [.int s0, .ref s1] h = rn d 91 299 [a0, a1, a2, a3, a4, a5, a6] [.int 1, .int s0, .ref s1] h := rP (i := (.iconst 1)) rfl rfl
set_option maxRecDepth 8000 in
theorem e91_299 (d : Nat) (a0 a1 a2 a3 a4 a5 a6 : Option Value) (s0 s1 : Int32) (s2 : Nat) (h : MH)  : rn d 91 299 [a0, a1, a2, a3, a4, a5, a6] [.int s0, .int s1, .ref s2] h = rn d 91 300 [a0, a1, a2, a3, a4, a5, a6] [.int (s1 + s0), .ref s2] h := rP (i := (.iadd)) rfl rfl
set_option maxRecDepth 8000 in
theorem e91_300 (d : Nat) (a0 a1 a2 a3 a4 a5 a6 : Option Value) (s0 : Int32) (s1 : Nat) (h : MH)  : rn d 91 300 [a0, a1, a2, a3, a4, a5, a6] [.int s0, .ref s1] h = (ageti h 0 s1 s0).bind (fun v => rn d 91 301 [a0, a1, a2, a3, a4, a5, a6] [.int v] h) := rIald rfl
set_option maxRecDepth 8000 in
theorem e91_301 (d : Nat) (a0 a1 a2 a3 a4 a5 a6 : Option Value) (s0 : Int32) (h : MH)  : rn d 91 301 [a0, a1, a2, a3, a4, a5, a6] [.int s0] h = if s0 = 0 then rn d 91 304 [a0, a1, a2, a3, a4, a5, a6] [] h else rn d 91 309 [a0, a1, a2, a3, a4, a5, a6] [] h := rNe1 (off := 8) 309 rfl rfl
set_option maxRecDepth 8000 in
theorem e91_304 (d : Nat) (a0 a1 a2 a3 a4 a6 : Option Value) (h : MH) (x : Int32) : rn d 91 304 [a0, a1, a2, a3, a4, some (.int x), a6] [] h = rn d 91 306 [a0, a1, a2, a3, a4, some (.int x), a6] [.int x] h := rP (i := (.iload 5)) rfl rfl
set_option maxRecDepth 8000 in
theorem e91_306 (d : Nat) (a0 a1 a2 a3 a4 a5 a6 : Option Value) (s0 : Int32) (h : MH)  : rn d 91 306 [a0, a1, a2, a3, a4, a5, a6] [.int s0] h = rn d 91 311 [a0, a1, a2, a3, a4, a5, a6] [.int s0] h := rP (i := (.goto 5)) rfl rfl
set_option maxRecDepth 8000 in
theorem e91_309 (d : Nat) (a0 a1 a2 a3 a4 a5 : Option Value) (h : MH) (x : Int32) : rn d 91 309 [a0, a1, a2, a3, a4, a5, some (.int x)] [] h = rn d 91 311 [a0, a1, a2, a3, a4, a5, some (.int x)] [.int x] h := rP (i := (.iload 6)) rfl rfl
set_option maxRecDepth 8000 in
theorem e91_311 (d : Nat) (a0 a1 a2 a3 a4 a5 a6 : Option Value) (s0 : Int32) (h : MH)  : rn d 91 311 [a0, a1, a2, a3, a4, a5, a6] [.int s0] h = some (some (.int s0), h) := rIret rfl rfl
set_option maxRecDepth 8000 in
theorem e91_312 (d : Nat) (a0 a1 a2 a3 a4 a6 : Option Value) (h : MH) (x : Int32) : rn d 91 312 [a0, a1, a2, a3, a4, some (.int x), a6] [] h = rn d 91 314 [a0, a1, a2, a3, a4, some (.int x), a6] [.int x] h := rP (i := (.iload 5)) rfl rfl
set_option maxRecDepth 8000 in
theorem e91_314 (d : Nat) (a0 a1 a2 a3 a4 a5 a6 : Option Value) (s0 : Int32) (h : MH)  : rn d 91 314 [a0, a1, a2, a3, a4, a5, a6] [.int s0] h = if s0 = 0 then rn d 91 322 [a0, a1, a2, a3, a4, a5, a6] [] h else rn d 91 317 [a0, a1, a2, a3, a4, a5, a6] [] h := rEq1 (off := 8) 322 rfl rfl
set_option maxRecDepth 8000 in
theorem e91_317 (d : Nat) (a0 a1 a2 a3 a4 a5 : Option Value) (h : MH) (x : Int32) : rn d 91 317 [a0, a1, a2, a3, a4, a5, some (.int x)] [] h = rn d 91 319 [a0, a1, a2, a3, a4, a5, some (.int x)] [.int x] h := rP (i := (.iload 6)) rfl rfl
set_option maxRecDepth 8000 in
theorem e91_319 (d : Nat) (a0 a1 a2 a3 a4 a5 a6 : Option Value) (s0 : Int32) (h : MH)  : rn d 91 319 [a0, a1, a2, a3, a4, a5, a6] [.int s0] h = rn d 91 339 [a0, a1, a2, a3, a4, a5, a6] [.int s0] h := rP (i := (.goto 20)) rfl rfl
set_option maxRecDepth 8000 in
theorem e91_322 (d : Nat) (a1 a2 a3 a4 a5 a6 : Option Value) (h : MH) (x : Nat) : rn d 91 322 [some (.ref x), a1, a2, a3, a4, a5, a6] [] h = rn d 91 323 [some (.ref x), a1, a2, a3, a4, a5, a6] [.ref x] h := rP (i := (.aload_n 0)) rfl rfl
set_option maxRecDepth 8000 in
theorem e91_323 (d : Nat) (a0 a1 a2 a3 a4 a5 a6 : Option Value) (s0 : Nat) (h : MH)  : rn d 91 323 [a0, a1, a2, a3, a4, a5, a6] [.ref s0] h = (fgetv h s0 5 9).bind (fun v => rn d 91 326 [a0, a1, a2, a3, a4, a5, a6] [v] h) := rGet (idx := 32) rfl rfl
set_option maxRecDepth 8000 in
theorem e91_326 (d : Nat) (a0 a2 a3 a4 a5 a6 : Option Value) (s0 : Nat) (h : MH) (x : Int32) : rn d 91 326 [a0, some (.int x), a2, a3, a4, a5, a6] [.ref s0] h = rn d 91 327 [a0, some (.int x), a2, a3, a4, a5, a6] [.int x, .ref s0] h := rP (i := (.iload_n 1)) rfl rfl
set_option maxRecDepth 8000 in
theorem e91_327 (d : Nat) (a0 a1 a2 a3 a4 a5 a6 : Option Value) (s0 : Int32) (s1 : Nat) (h : MH)  : rn d 91 327 [a0, a1, a2, a3, a4, a5, a6] [.int s0, .ref s1] h = rn d 91 329 [a0, a1, a2, a3, a4, a5, a6] [.int 24, .int s0, .ref s1] h := rP (i := (.bipush 24)) rfl rfl
set_option maxRecDepth 8000 in
theorem e91_329 (d : Nat) (a0 a1 a2 a3 a4 a5 a6 : Option Value) (s0 s1 : Int32) (s2 : Nat) (h : MH)  : rn d 91 329 [a0, a1, a2, a3, a4, a5, a6] [.int s0, .int s1, .ref s2] h = rn d 91 330 [a0, a1, a2, a3, a4, a5, a6] [.int (s1 * s0), .ref s2] h := rP (i := (.imul)) rfl rfl
set_option maxRecDepth 8000 in
theorem e91_330 (d : Nat) (a1 a2 a3 a4 a5 a6 : Option Value) (s0 : Int32) (s1 : Nat) (h : MH) (x : Nat) : rn d 91 330 [some (.ref x), a1, a2, a3, a4, a5, a6] [.int s0, .ref s1] h = rn d 91 331 [some (.ref x), a1, a2, a3, a4, a5, a6] [.ref x, .int s0, .ref s1] h := rP (i := (.aload_n 0)) rfl rfl
set_option maxRecDepth 8000 in
theorem e91_331 (d : Nat) (a0 a2 a3 a4 a5 a6 : Option Value) (s1 : Int32) (s0 s2 : Nat) (h : MH) (x : Int32) : rn d 91 331 [a0, some (.int x), a2, a3, a4, a5, a6] [.ref s0, .int s1, .ref s2] h = rn d 91 332 [a0, some (.int x), a2, a3, a4, a5, a6] [.int x, .ref s0, .int s1, .ref s2] h := rP (i := (.iload_n 1)) rfl rfl
set_option maxRecDepth 8000 in
theorem e91_332 (d : Nat) (a0 a1 a3 a4 a5 a6 : Option Value) (s0 s2 : Int32) (s1 s3 : Nat) (h : MH) (x : Int32) : rn d 91 332 [a0, a1, some (.int x), a3, a4, a5, a6] [.int s0, .ref s1, .int s2, .ref s3] h = rn d 91 333 [a0, a1, some (.int x), a3, a4, a5, a6] [.int x, .int s0, .ref s1, .int s2, .ref s3] h := rP (i := (.iload_n 2)) rfl rfl
set_option maxRecDepth 8000 in
theorem e91_333 (d : Nat) (a0 a1 a2 a3 a4 a5 a6 : Option Value) (s0 s1 s3 : Int32) (s2 s4 : Nat) (h : MH)  : rn d 91 333 [a0, a1, a2, a3, a4, a5, a6] [.int s0, .int s1, .ref s2, .int s3, .ref s4] h = rn d 91 334 [a0, a1, a2, a3, a4, a5, a6] [.int 2, .int s0, .int s1, .ref s2, .int s3, .ref s4] h := rP (i := (.iconst 2)) rfl rfl
set_option maxRecDepth 8000 in
theorem e91_334 (d : Nat) (a0 a1 a2 a3 a4 a5 a6 : Option Value) (s0 s1 s2 s4 : Int32) (s3 s5 : Nat) (h : MH) (hz : clsOf h s3 = some 5) : rn (d + 1) 91 334 [a0, a1, a2, a3, a4, a5, a6] [.int s0, .int s1, .int s2, .ref s3, .int s4, .ref s5] h = (rn d 83 0 [some (.ref s3), some (.int s2), some (.int s1), some (.int s0), none, none] [] h).bind (fun R => rn (d + 1) 91 337 [a0, a1, a2, a3, a4, a5, a6] (R.1.toList ++ [.int s4, .ref s5]) R.2) := rInv (i := (.invokevirtual 111)) (n := 4) (tl := [509, 510, 43, 58]) rfl rfl rfl rfl (by decide) (Nat.le_of_ble_eq_true rfl) (Nat.le_of_ble_eq_true rfl) (Nat.le_of_ble_eq_true rfl) (rcv_V hz)
set_option maxRecDepth 8000 in
theorem e91_337 (d : Nat) (a0 a1 a2 a3 a4 a5 a6 : Option Value) (s0 s1 : Int32) (s2 : Nat) (h : MH)  : rn d 91 337 [a0, a1, a2, a3, a4, a5, a6] [.int s0, .int s1, .ref s2] h = rn d 91 338 [a0, a1, a2, a3, a4, a5, a6] [.int (s1 + s0), .ref s2] h := rP (i := (.iadd)) rfl rfl
set_option maxRecDepth 8000 in
theorem e91_338 (d : Nat) (a0 a1 a2 a3 a4 a5 a6 : Option Value) (s0 : Int32) (s1 : Nat) (h : MH)  : rn d 91 338 [a0, a1, a2, a3, a4, a5, a6] [.int s0, .ref s1] h = (ageti h 0 s1 s0).bind (fun v => rn d 91 339 [a0, a1, a2, a3, a4, a5, a6] [.int v] h) := rIald rfl
set_option maxRecDepth 8000 in
theorem e91_339 (d : Nat) (a0 a1 a2 a3 a4 a5 a6 : Option Value) (s0 : Int32) (h : MH)  : rn d 91 339 [a0, a1, a2, a3, a4, a5, a6] [.int s0] h = some (some (.int s0), h) := rIret rfl rfl
-- 92: FlowEquationsModel.value(I)J
theorem e92_0 (d : Nat) (a1 : Option Value) (h : MH) (x : Nat) : rn d 92 0 [some (.ref x), a1] [] h = rn d 92 1 [some (.ref x), a1] [.ref x] h := rP (i := (.aload_n 0)) rfl rfl
theorem e92_1 (d : Nat) (a0 : Option Value) (s0 : Nat) (h : MH) (x : Int32) : rn d 92 1 [a0, some (.int x)] [.ref s0] h = rn d 92 2 [a0, some (.int x)] [.int x, .ref s0] h := rP (i := (.iload_n 1)) rfl rfl
theorem e92_2 (d : Nat) (a0 a1 : Option Value) (s0 : Int32) (s1 : Nat) (h : MH) (hz : clsOf h s1 = some 5) : rn (d + 1) 92 2 [a0, a1] [.int s0, .ref s1] h = (rn d 93 0 [some (.ref s1), some (.int s0)] [] h).bind (fun R => rn (d + 1) 92 5 [a0, a1] (R.1.toList ++ []) R.2) := rInv (i := (.invokevirtual 148)) (n := 2) (tl := [541, 542, 51, 58]) rfl rfl rfl rfl (by decide) (Nat.le_of_ble_eq_true rfl) (Nat.le_of_ble_eq_true rfl) (Nat.le_of_ble_eq_true rfl) (rcv_V hz)
theorem e92_5 (d : Nat) (a0 a1 : Option Value) (s0 : Int32) (h : MH)  : rn d 92 5 [a0, a1] [.int s0] h = if s0 = 0 then rn d 92 18 [a0, a1] [] h else rn d 92 8 [a0, a1] [] h := rEq1 (off := 13) 18 rfl rfl
theorem e92_8 (d : Nat) (a1 : Option Value) (h : MH) (x : Nat) : rn d 92 8 [some (.ref x), a1] [] h = rn d 92 9 [some (.ref x), a1] [.ref x] h := rP (i := (.aload_n 0)) rfl rfl
theorem e92_9 (d : Nat) (a0 a1 : Option Value) (s0 : Nat) (h : MH)  : rn d 92 9 [a0, a1] [.ref s0] h = (fgetv h s0 5 20).bind (fun v => rn d 92 12 [a0, a1] [v] h) := rGet (idx := 60) rfl rfl
theorem e92_12 (d : Nat) (a0 : Option Value) (s0 : Nat) (h : MH) (x : Int32) : rn d 92 12 [a0, some (.int x)] [.ref s0] h = rn d 92 13 [a0, some (.int x)] [.int x, .ref s0] h := rP (i := (.iload_n 1)) rfl rfl
theorem e92_13 (d : Nat) (a0 a1 : Option Value) (s0 : Int32) (s1 : Nat) (h : MH)  : rn d 92 13 [a0, a1] [.int s0, .ref s1] h = (ageti h 0 s1 s0).bind (fun v => rn d 92 14 [a0, a1] [.int v] h) := rIald rfl
theorem e92_14 (d : Nat) (a0 a1 : Option Value) (s0 : Int32) (h : MH)  : rn d 92 14 [a0, a1] [.int s0] h = rn d 92 15 [a0, a1] [.long s0.toInt64] h := rP (i := (.i2l)) rfl rfl
theorem e92_15 (d : Nat) (a0 a1 : Option Value) (s0 : Int64) (h : MH)  : rn d 92 15 [a0, a1] [.long s0] h = rn d 92 21 [a0, a1] [.long s0] h := rP (i := (.goto 6)) rfl rfl
theorem e92_18 (d : Nat) (a0 a1 : Option Value) (h : MH)  : rn d 92 18 [a0, a1] [] h = rn d 92 21 [a0, a1] [.long (-1000000000000)] h := rLdc2 (idx := 151) rfl
theorem e92_21 (d : Nat) (a0 a1 : Option Value) (s0 : Int64) (h : MH)  : rn d 92 21 [a0, a1] [.long s0] h = some (some (.long s0), h) := rLret rfl rfl
-- 93: FlowEquationsModel.seen(I)Z
theorem e93_0 (d : Nat) (a0 : Option Value) (h : MH) (x : Int32) : rn d 93 0 [a0, some (.int x)] [] h = rn d 93 1 [a0, some (.int x)] [.int x] h := rP (i := (.iload_n 1)) rfl rfl
theorem e93_1 (d : Nat) (a0 a1 : Option Value) (s0 : Int32) (h : MH)  : rn d 93 1 [a0, a1] [.int s0] h = if s0 < 0 then rn d 93 46 [a0, a1] [] h else rn d 93 4 [a0, a1] [] h := rLt1 (off := 45) 46 rfl rfl
theorem e93_4 (d : Nat) (a0 : Option Value) (h : MH) (x : Int32) : rn d 93 4 [a0, some (.int x)] [] h = rn d 93 5 [a0, some (.int x)] [.int x] h := rP (i := (.iload_n 1)) rfl rfl
theorem e93_5 (d : Nat) (a0 a1 : Option Value) (s0 : Int32) (h : MH)  : rn d 93 5 [a0, a1] [.int s0] h = rn d 93 7 [a0, a1] [.int 8, .int s0] h := rP (i := (.bipush 8)) rfl rfl
theorem e93_7 (d : Nat) (a0 a1 : Option Value) (s0 s1 : Int32) (h : MH)  : rn d 93 7 [a0, a1] [.int s0, .int s1] h = if s1 < s0 then rn d 93 10 [a0, a1] [] h else rn d 93 46 [a0, a1] [] h := rGe2 (off := 39) 46 rfl rfl
theorem e93_10 (d : Nat) (a1 : Option Value) (h : MH) (x : Nat) : rn d 93 10 [some (.ref x), a1] [] h = rn d 93 11 [some (.ref x), a1] [.ref x] h := rP (i := (.aload_n 0)) rfl rfl
theorem e93_11 (d : Nat) (a0 a1 : Option Value) (s0 : Nat) (h : MH)  : rn d 93 11 [a0, a1] [.ref s0] h = (fgetv h s0 5 15).bind (fun v => rn d 93 14 [a0, a1] [v] h) := rGet (idx := 103) rfl rfl
theorem e93_14 (d : Nat) (a0 a1 : Option Value) (s0 : Int32) (h : MH)  : rn d 93 14 [a0, a1] [.int s0] h = if s0 = 0 then rn d 93 46 [a0, a1] [] h else rn d 93 17 [a0, a1] [] h := rEq1 (off := 32) 46 rfl rfl
theorem e93_17 (d : Nat) (a1 : Option Value) (h : MH) (x : Nat) : rn d 93 17 [some (.ref x), a1] [] h = rn d 93 18 [some (.ref x), a1] [.ref x] h := rP (i := (.aload_n 0)) rfl rfl
theorem e93_18 (d : Nat) (a0 a1 : Option Value) (s0 : Nat) (h : MH)  : rn d 93 18 [a0, a1] [.ref s0] h = (fgetv h s0 5 16).bind (fun v => rn d 93 21 [a0, a1] [v] h) := rGet (idx := 130) rfl rfl
theorem e93_21 (d : Nat) (a0 a1 : Option Value) (s0 : Int32) (h : MH)  : rn d 93 21 [a0, a1] [.int s0] h = if 0 < s0 then rn d 93 24 [a0, a1] [] h else rn d 93 46 [a0, a1] [] h := rLe1 (off := 25) 46 rfl rfl
theorem e93_24 (d : Nat) (a1 : Option Value) (h : MH) (x : Nat) : rn d 93 24 [some (.ref x), a1] [] h = rn d 93 25 [some (.ref x), a1] [.ref x] h := rP (i := (.aload_n 0)) rfl rfl
theorem e93_25 (d : Nat) (a0 a1 : Option Value) (s0 : Nat) (h : MH)  : rn d 93 25 [a0, a1] [.ref s0] h = (fgetv h s0 5 5).bind (fun v => rn d 93 28 [a0, a1] [v] h) := rGet (idx := 20) rfl rfl
theorem e93_28 (d : Nat) (a0 : Option Value) (s0 : Nat) (h : MH) (x : Int32) : rn d 93 28 [a0, some (.int x)] [.ref s0] h = rn d 93 29 [a0, some (.int x)] [.int x, .ref s0] h := rP (i := (.iload_n 1)) rfl rfl
theorem e93_29 (d : Nat) (a0 a1 : Option Value) (s0 : Int32) (s1 : Nat) (h : MH)  : rn d 93 29 [a0, a1] [.int s0, .ref s1] h = (ageti h 0 s1 s0).bind (fun v => rn d 93 30 [a0, a1] [.int v] h) := rIald rfl
theorem e93_30 (d : Nat) (a0 a1 : Option Value) (s0 : Int32) (h : MH)  : rn d 93 30 [a0, a1] [.int s0] h = if 0 < s0 then rn d 93 33 [a0, a1] [] h else rn d 93 46 [a0, a1] [] h := rLe1 (off := 16) 46 rfl rfl
theorem e93_33 (d : Nat) (a1 : Option Value) (h : MH) (x : Nat) : rn d 93 33 [some (.ref x), a1] [] h = rn d 93 34 [some (.ref x), a1] [.ref x] h := rP (i := (.aload_n 0)) rfl rfl
theorem e93_34 (d : Nat) (a0 a1 : Option Value) (s0 : Nat) (h : MH)  : rn d 93 34 [a0, a1] [.ref s0] h = (fgetv h s0 5 17).bind (fun v => rn d 93 37 [a0, a1] [v] h) := rGet (idx := 51) rfl rfl
theorem e93_37 (d : Nat) (a0 : Option Value) (s0 : Nat) (h : MH) (x : Int32) : rn d 93 37 [a0, some (.int x)] [.ref s0] h = rn d 93 38 [a0, some (.int x)] [.int x, .ref s0] h := rP (i := (.iload_n 1)) rfl rfl
theorem e93_38 (d : Nat) (a0 a1 : Option Value) (s0 : Int32) (s1 : Nat) (h : MH)  : rn d 93 38 [a0, a1] [.int s0, .ref s1] h = (ageti h 1 s1 s0).bind (fun v => rn d 93 39 [a0, a1] [.int v] h) := rBald rfl
theorem e93_39 (d : Nat) (a0 a1 : Option Value) (s0 : Int32) (h : MH)  : rn d 93 39 [a0, a1] [.int s0] h = if s0 = 0 then rn d 93 46 [a0, a1] [] h else rn d 93 42 [a0, a1] [] h := rEq1 (off := 7) 46 rfl rfl
theorem e93_42 (d : Nat) (a0 a1 : Option Value) (h : MH)  : rn d 93 42 [a0, a1] [] h = rn d 93 43 [a0, a1] [.int 1] h := rP (i := (.iconst 1)) rfl rfl
theorem e93_43 (d : Nat) (a0 a1 : Option Value) (s0 : Int32) (h : MH)  : rn d 93 43 [a0, a1] [.int s0] h = rn d 93 47 [a0, a1] [.int s0] h := rP (i := (.goto 4)) rfl rfl
theorem e93_46 (d : Nat) (a0 a1 : Option Value) (h : MH)  : rn d 93 46 [a0, a1] [] h = rn d 93 47 [a0, a1] [.int 0] h := rP (i := (.iconst 0)) rfl rfl
theorem e93_47 (d : Nat) (a0 a1 : Option Value) (s0 : Int32) (h : MH) (hz : s0 &&& 1 = s0) : rn d 93 47 [a0, a1] [.int s0] h = some (some (.int s0), h) := rIretZ hz rfl rfl
theorem e93_47q0 (d : Nat) (a0 a1 : Option Value)  (h : MH) : rn d 93 47 [a0, a1] [.int 0] h = some (some (.int 0), h) := rIretZ rfl rfl rfl
theorem e93_47q1 (d : Nat) (a0 a1 : Option Value)  (h : MH) : rn d 93 47 [a0, a1] [.int 1] h = some (some (.int 1), h) := rIretZ rfl rfl rfl
-- 94: FlowEquationsModel.present(I)I
theorem e94_0 (d : Nat) (a0 : Option Value) (h : MH) (x : Int32) : rn d 94 0 [a0, some (.int x)] [] h = rn d 94 1 [a0, some (.int x)] [.int x] h := rP (i := (.iload_n 1)) rfl rfl
theorem e94_1 (d : Nat) (a0 a1 : Option Value) (s0 : Int32) (h : MH)  : rn d 94 1 [a0, a1] [.int s0] h = if s0 < 0 then rn d 94 10 [a0, a1] [] h else rn d 94 4 [a0, a1] [] h := rLt1 (off := 9) 10 rfl rfl
theorem e94_4 (d : Nat) (a0 : Option Value) (h : MH) (x : Int32) : rn d 94 4 [a0, some (.int x)] [] h = rn d 94 5 [a0, some (.int x)] [.int x] h := rP (i := (.iload_n 1)) rfl rfl
theorem e94_5 (d : Nat) (a0 a1 : Option Value) (s0 : Int32) (h : MH)  : rn d 94 5 [a0, a1] [.int s0] h = rn d 94 7 [a0, a1] [.int 7, .int s0] h := rP (i := (.bipush 7)) rfl rfl
theorem e94_7 (d : Nat) (a0 a1 : Option Value) (s0 s1 : Int32) (h : MH)  : rn d 94 7 [a0, a1] [.int s0, .int s1] h = if s0 < s1 then rn d 94 10 [a0, a1] [] h else rn d 94 12 [a0, a1] [] h := rLe2 (off := 5) 12 rfl rfl
theorem e94_10 (d : Nat) (a0 a1 : Option Value) (h : MH)  : rn d 94 10 [a0, a1] [] h = rn d 94 11 [a0, a1] [.int (-1)] h := rP (i := (.iconst (-1))) rfl rfl
theorem e94_11 (d : Nat) (a0 a1 : Option Value) (s0 : Int32) (h : MH)  : rn d 94 11 [a0, a1] [.int s0] h = some (some (.int s0), h) := rIret rfl rfl
theorem e94_12 (d : Nat) (a1 : Option Value) (h : MH) (x : Nat) : rn d 94 12 [some (.ref x), a1] [] h = rn d 94 13 [some (.ref x), a1] [.ref x] h := rP (i := (.aload_n 0)) rfl rfl
theorem e94_13 (d : Nat) (a0 a1 : Option Value) (s0 : Nat) (h : MH)  : rn d 94 13 [a0, a1] [.ref s0] h = (fgetv h s0 5 15).bind (fun v => rn d 94 16 [a0, a1] [v] h) := rGet (idx := 103) rfl rfl
theorem e94_16 (d : Nat) (a0 a1 : Option Value) (s0 : Int32) (h : MH)  : rn d 94 16 [a0, a1] [.int s0] h = if s0 = 0 then rn d 94 37 [a0, a1] [] h else rn d 94 19 [a0, a1] [] h := rEq1 (off := 21) 37 rfl rfl
theorem e94_19 (d : Nat) (a1 : Option Value) (h : MH) (x : Nat) : rn d 94 19 [some (.ref x), a1] [] h = rn d 94 20 [some (.ref x), a1] [.ref x] h := rP (i := (.aload_n 0)) rfl rfl
theorem e94_20 (d : Nat) (a0 a1 : Option Value) (s0 : Nat) (h : MH)  : rn d 94 20 [a0, a1] [.ref s0] h = (fgetv h s0 5 5).bind (fun v => rn d 94 23 [a0, a1] [v] h) := rGet (idx := 20) rfl rfl
theorem e94_23 (d : Nat) (a0 : Option Value) (s0 : Nat) (h : MH) (x : Int32) : rn d 94 23 [a0, some (.int x)] [.ref s0] h = rn d 94 24 [a0, some (.int x)] [.int x, .ref s0] h := rP (i := (.iload_n 1)) rfl rfl
theorem e94_24 (d : Nat) (a0 a1 : Option Value) (s0 : Int32) (s1 : Nat) (h : MH)  : rn d 94 24 [a0, a1] [.int s0, .ref s1] h = (ageti h 0 s1 s0).bind (fun v => rn d 94 25 [a0, a1] [.int v] h) := rIald rfl
theorem e94_25 (d : Nat) (a0 a1 : Option Value) (s0 : Int32) (h : MH)  : rn d 94 25 [a0, a1] [.int s0] h = if 0 < s0 then rn d 94 28 [a0, a1] [] h else rn d 94 37 [a0, a1] [] h := rLe1 (off := 12) 37 rfl rfl
theorem e94_28 (d : Nat) (a1 : Option Value) (h : MH) (x : Nat) : rn d 94 28 [some (.ref x), a1] [] h = rn d 94 29 [some (.ref x), a1] [.ref x] h := rP (i := (.aload_n 0)) rfl rfl
theorem e94_29 (d : Nat) (a0 a1 : Option Value) (s0 : Nat) (h : MH)  : rn d 94 29 [a0, a1] [.ref s0] h = (fgetv h s0 5 21).bind (fun v => rn d 94 32 [a0, a1] [v] h) := rGet (idx := 63) rfl rfl
theorem e94_32 (d : Nat) (a0 : Option Value) (s0 : Nat) (h : MH) (x : Int32) : rn d 94 32 [a0, some (.int x)] [.ref s0] h = rn d 94 33 [a0, some (.int x)] [.int x, .ref s0] h := rP (i := (.iload_n 1)) rfl rfl
theorem e94_33 (d : Nat) (a0 a1 : Option Value) (s0 : Int32) (s1 : Nat) (h : MH)  : rn d 94 33 [a0, a1] [.int s0, .ref s1] h = (ageti h 0 s1 s0).bind (fun v => rn d 94 34 [a0, a1] [.int v] h) := rIald rfl
theorem e94_34 (d : Nat) (a0 a1 : Option Value) (s0 : Int32) (h : MH)  : rn d 94 34 [a0, a1] [.int s0] h = rn d 94 38 [a0, a1] [.int s0] h := rP (i := (.goto 4)) rfl rfl
theorem e94_37 (d : Nat) (a0 a1 : Option Value) (h : MH)  : rn d 94 37 [a0, a1] [] h = rn d 94 38 [a0, a1] [.int 0] h := rP (i := (.iconst 0)) rfl rfl
theorem e94_38 (d : Nat) (a0 a1 : Option Value) (s0 : Int32) (h : MH)  : rn d 94 38 [a0, a1] [.int s0] h = some (some (.int s0), h) := rIret rfl rfl
-- 95: FlowEquationsModel.memory(II)J
theorem e95_0 (d : Nat) (a0 a2 a3 : Option Value) (h : MH) (x : Int32) : rn d 95 0 [a0, some (.int x), a2, a3] [] h = rn d 95 1 [a0, some (.int x), a2, a3] [.int x] h := rP (i := (.iload_n 1)) rfl rfl
theorem e95_1 (d : Nat) (a0 a1 a2 a3 : Option Value) (s0 : Int32) (h : MH)  : rn d 95 1 [a0, a1, a2, a3] [.int s0] h = if s0 < 0 then rn d 95 31 [a0, a1, a2, a3] [] h else rn d 95 4 [a0, a1, a2, a3] [] h := rLt1 (off := 30) 31 rfl rfl
theorem e95_4 (d : Nat) (a0 a2 a3 : Option Value) (h : MH) (x : Int32) : rn d 95 4 [a0, some (.int x), a2, a3] [] h = rn d 95 5 [a0, some (.int x), a2, a3] [.int x] h := rP (i := (.iload_n 1)) rfl rfl
theorem e95_5 (d : Nat) (a0 a1 a2 a3 : Option Value) (s0 : Int32) (h : MH)  : rn d 95 5 [a0, a1, a2, a3] [.int s0] h = rn d 95 7 [a0, a1, a2, a3] [.int 7, .int s0] h := rP (i := (.bipush 7)) rfl rfl
theorem e95_7 (d : Nat) (a0 a1 a2 a3 : Option Value) (s0 s1 : Int32) (h : MH)  : rn d 95 7 [a0, a1, a2, a3] [.int s0, .int s1] h = if s0 < s1 then rn d 95 31 [a0, a1, a2, a3] [] h else rn d 95 10 [a0, a1, a2, a3] [] h := rGt2 (off := 24) 31 rfl rfl
theorem e95_10 (d : Nat) (a0 a1 a3 : Option Value) (h : MH) (x : Int32) : rn d 95 10 [a0, a1, some (.int x), a3] [] h = rn d 95 11 [a0, a1, some (.int x), a3] [.int x] h := rP (i := (.iload_n 2)) rfl rfl
theorem e95_11 (d : Nat) (a0 a1 a2 a3 : Option Value) (s0 : Int32) (h : MH)  : rn d 95 11 [a0, a1, a2, a3] [.int s0] h = if s0 < 0 then rn d 95 31 [a0, a1, a2, a3] [] h else rn d 95 14 [a0, a1, a2, a3] [] h := rLt1 (off := 20) 31 rfl rfl
theorem e95_14 (d : Nat) (a0 a1 a3 : Option Value) (h : MH) (x : Int32) : rn d 95 14 [a0, a1, some (.int x), a3] [] h = rn d 95 15 [a0, a1, some (.int x), a3] [.int x] h := rP (i := (.iload_n 2)) rfl rfl
theorem e95_15 (d : Nat) (a1 a2 a3 : Option Value) (s0 : Int32) (h : MH) (x : Nat) : rn d 95 15 [some (.ref x), a1, a2, a3] [.int s0] h = rn d 95 16 [some (.ref x), a1, a2, a3] [.ref x, .int s0] h := rP (i := (.aload_n 0)) rfl rfl
theorem e95_16 (d : Nat) (a0 a1 a2 a3 : Option Value) (s1 : Int32) (s0 : Nat) (h : MH)  : rn d 95 16 [a0, a1, a2, a3] [.ref s0, .int s1] h = (fgetv h s0 5 5).bind (fun v => rn d 95 19 [a0, a1, a2, a3] [v, .int s1] h) := rGet (idx := 20) rfl rfl
theorem e95_19 (d : Nat) (a0 a2 a3 : Option Value) (s1 : Int32) (s0 : Nat) (h : MH) (x : Int32) : rn d 95 19 [a0, some (.int x), a2, a3] [.ref s0, .int s1] h = rn d 95 20 [a0, some (.int x), a2, a3] [.int x, .ref s0, .int s1] h := rP (i := (.iload_n 1)) rfl rfl
theorem e95_20 (d : Nat) (a0 a1 a2 a3 : Option Value) (s0 s2 : Int32) (s1 : Nat) (h : MH)  : rn d 95 20 [a0, a1, a2, a3] [.int s0, .ref s1, .int s2] h = (ageti h 0 s1 s0).bind (fun v => rn d 95 21 [a0, a1, a2, a3] [.int v, .int s2] h) := rIald rfl
theorem e95_21 (d : Nat) (a0 a1 a2 a3 : Option Value) (s0 s1 : Int32) (h : MH)  : rn d 95 21 [a0, a1, a2, a3] [.int s0, .int s1] h = if s1 < s0 then rn d 95 24 [a0, a1, a2, a3] [] h else rn d 95 31 [a0, a1, a2, a3] [] h := rGe2 (off := 10) 31 rfl rfl
theorem e95_24 (d : Nat) (a1 a2 a3 : Option Value) (h : MH) (x : Nat) : rn d 95 24 [some (.ref x), a1, a2, a3] [] h = rn d 95 25 [some (.ref x), a1, a2, a3] [.ref x] h := rP (i := (.aload_n 0)) rfl rfl
theorem e95_25 (d : Nat) (a0 a1 a2 a3 : Option Value) (s0 : Nat) (h : MH)  : rn d 95 25 [a0, a1, a2, a3] [.ref s0] h = (fgetv h s0 5 15).bind (fun v => rn d 95 28 [a0, a1, a2, a3] [v] h) := rGet (idx := 103) rfl rfl
theorem e95_28 (d : Nat) (a0 a1 a2 a3 : Option Value) (s0 : Int32) (h : MH)  : rn d 95 28 [a0, a1, a2, a3] [.int s0] h = if s0 = 0 then rn d 95 31 [a0, a1, a2, a3] [] h else rn d 95 35 [a0, a1, a2, a3] [] h := rNe1 (off := 7) 35 rfl rfl
theorem e95_31 (d : Nat) (a0 a1 a2 a3 : Option Value) (h : MH)  : rn d 95 31 [a0, a1, a2, a3] [] h = rn d 95 34 [a0, a1, a2, a3] [.long (-1000000000000)] h := rLdc2 (idx := 151) rfl
theorem e95_34 (d : Nat) (a0 a1 a2 a3 : Option Value) (s0 : Int64) (h : MH)  : rn d 95 34 [a0, a1, a2, a3] [.long s0] h = some (some (.long s0), h) := rLret rfl rfl
theorem e95_35 (d : Nat) (a1 a2 a3 : Option Value) (h : MH) (x : Nat) : rn d 95 35 [some (.ref x), a1, a2, a3] [] h = rn d 95 36 [some (.ref x), a1, a2, a3] [.ref x] h := rP (i := (.aload_n 0)) rfl rfl
theorem e95_36 (d : Nat) (a0 a1 a2 a3 : Option Value) (s0 : Nat) (h : MH)  : rn d 95 36 [a0, a1, a2, a3] [.ref s0] h = (fgetv h s0 5 4).bind (fun v => rn d 95 39 [a0, a1, a2, a3] [v] h) := rGet (idx := 17) rfl rfl
theorem e95_39 (d : Nat) (a0 a2 a3 : Option Value) (s0 : Nat) (h : MH) (x : Int32) : rn d 95 39 [a0, some (.int x), a2, a3] [.ref s0] h = rn d 95 40 [a0, some (.int x), a2, a3] [.int x, .ref s0] h := rP (i := (.iload_n 1)) rfl rfl
theorem e95_40 (d : Nat) (a0 a1 a2 a3 : Option Value) (s0 : Int32) (s1 : Nat) (h : MH)  : rn d 95 40 [a0, a1, a2, a3] [.int s0, .ref s1] h = rn d 95 42 [a0, a1, a2, a3] [.int 24, .int s0, .ref s1] h := rP (i := (.bipush 24)) rfl rfl
theorem e95_42 (d : Nat) (a0 a1 a2 a3 : Option Value) (s0 s1 : Int32) (s2 : Nat) (h : MH)  : rn d 95 42 [a0, a1, a2, a3] [.int s0, .int s1, .ref s2] h = rn d 95 43 [a0, a1, a2, a3] [.int (s1 * s0), .ref s2] h := rP (i := (.imul)) rfl rfl
theorem e95_43 (d : Nat) (a0 a1 a3 : Option Value) (s0 : Int32) (s1 : Nat) (h : MH) (x : Int32) : rn d 95 43 [a0, a1, some (.int x), a3] [.int s0, .ref s1] h = rn d 95 44 [a0, a1, some (.int x), a3] [.int x, .int s0, .ref s1] h := rP (i := (.iload_n 2)) rfl rfl
theorem e95_44 (d : Nat) (a0 a1 a2 a3 : Option Value) (s0 s1 : Int32) (s2 : Nat) (h : MH)  : rn d 95 44 [a0, a1, a2, a3] [.int s0, .int s1, .ref s2] h = rn d 95 45 [a0, a1, a2, a3] [.int (s1 + s0), .ref s2] h := rP (i := (.iadd)) rfl rfl
theorem e95_45 (d : Nat) (a0 a1 a2 a3 : Option Value) (s0 : Int32) (s1 : Nat) (h : MH)  : rn d 95 45 [a0, a1, a2, a3] [.int s0, .ref s1] h = (ageti h 0 s1 s0).bind (fun v => rn d 95 46 [a0, a1, a2, a3] [.int v] h) := rIald rfl
theorem e95_46 (d : Nat) (a0 a1 a2 a3 : Option Value) (s0 : Int32) (h : MH)  : rn d 95 46 [a0, a1, a2, a3] [.int s0] h = rn d 95 47 [a0, a1, a2, some (.int s0)] [] h := rP (i := (.istore_n 3)) rfl rfl
theorem e95_47 (d : Nat) (a0 a1 a2 : Option Value) (h : MH) (x : Int32) : rn d 95 47 [a0, a1, a2, some (.int x)] [] h = rn d 95 48 [a0, a1, a2, some (.int x)] [.int x] h := rP (i := (.iload_n 3)) rfl rfl
theorem e95_48 (d : Nat) (a0 a1 a2 a3 : Option Value) (s0 : Int32) (h : MH)  : rn d 95 48 [a0, a1, a2, a3] [.int s0] h = rn d 95 50 [a0, a1, a2, a3] [.int 80, .int s0] h := rP (i := (.bipush 80)) rfl rfl
theorem e95_50 (d : Nat) (a0 a1 a2 a3 : Option Value) (s0 s1 : Int32) (h : MH)  : rn d 95 50 [a0, a1, a2, a3] [.int s0, .int s1] h = if s1 = s0 then rn d 95 59 [a0, a1, a2, a3] [] h else rn d 95 53 [a0, a1, a2, a3] [] h := rEq2 (off := 9) 59 rfl rfl
theorem e95_53 (d : Nat) (a0 a1 a2 : Option Value) (h : MH) (x : Int32) : rn d 95 53 [a0, a1, a2, some (.int x)] [] h = rn d 95 54 [a0, a1, a2, some (.int x)] [.int x] h := rP (i := (.iload_n 3)) rfl rfl
theorem e95_54 (d : Nat) (a0 a1 a2 a3 : Option Value) (s0 : Int32) (h : MH)  : rn d 95 54 [a0, a1, a2, a3] [.int s0] h = rn d 95 56 [a0, a1, a2, a3] [.int 67, .int s0] h := rP (i := (.bipush 67)) rfl rfl
theorem e95_56 (d : Nat) (a0 a1 a2 a3 : Option Value) (s0 s1 : Int32) (h : MH)  : rn d 95 56 [a0, a1, a2, a3] [.int s0, .int s1] h = if s1 = s0 then rn d 95 59 [a0, a1, a2, a3] [] h else rn d 95 74 [a0, a1, a2, a3] [] h := rNe2 (off := 18) 74 rfl rfl
theorem e95_59 (d : Nat) (a1 a2 a3 : Option Value) (h : MH) (x : Nat) : rn d 95 59 [some (.ref x), a1, a2, a3] [] h = rn d 95 60 [some (.ref x), a1, a2, a3] [.ref x] h := rP (i := (.aload_n 0)) rfl rfl
theorem e95_60 (d : Nat) (a0 a1 a2 a3 : Option Value) (s0 : Nat) (h : MH)  : rn d 95 60 [a0, a1, a2, a3] [.ref s0] h = (fgetv h s0 5 10).bind (fun v => rn d 95 63 [a0, a1, a2, a3] [v] h) := rGet (idx := 35) rfl rfl
theorem e95_63 (d : Nat) (a0 a2 a3 : Option Value) (s0 : Nat) (h : MH) (x : Int32) : rn d 95 63 [a0, some (.int x), a2, a3] [.ref s0] h = rn d 95 64 [a0, some (.int x), a2, a3] [.int x, .ref s0] h := rP (i := (.iload_n 1)) rfl rfl
theorem e95_64 (d : Nat) (a0 a1 a2 a3 : Option Value) (s0 : Int32) (s1 : Nat) (h : MH)  : rn d 95 64 [a0, a1, a2, a3] [.int s0, .ref s1] h = rn d 95 66 [a0, a1, a2, a3] [.int 24, .int s0, .ref s1] h := rP (i := (.bipush 24)) rfl rfl
theorem e95_66 (d : Nat) (a0 a1 a2 a3 : Option Value) (s0 s1 : Int32) (s2 : Nat) (h : MH)  : rn d 95 66 [a0, a1, a2, a3] [.int s0, .int s1, .ref s2] h = rn d 95 67 [a0, a1, a2, a3] [.int (s1 * s0), .ref s2] h := rP (i := (.imul)) rfl rfl
theorem e95_67 (d : Nat) (a0 a1 a3 : Option Value) (s0 : Int32) (s1 : Nat) (h : MH) (x : Int32) : rn d 95 67 [a0, a1, some (.int x), a3] [.int s0, .ref s1] h = rn d 95 68 [a0, a1, some (.int x), a3] [.int x, .int s0, .ref s1] h := rP (i := (.iload_n 2)) rfl rfl
theorem e95_68 (d : Nat) (a0 a1 a2 a3 : Option Value) (s0 s1 : Int32) (s2 : Nat) (h : MH)  : rn d 95 68 [a0, a1, a2, a3] [.int s0, .int s1, .ref s2] h = rn d 95 69 [a0, a1, a2, a3] [.int (s1 + s0), .ref s2] h := rP (i := (.iadd)) rfl rfl
theorem e95_69 (d : Nat) (a0 a1 a2 a3 : Option Value) (s0 : Int32) (s1 : Nat) (h : MH)  : rn d 95 69 [a0, a1, a2, a3] [.int s0, .ref s1] h = (ageti h 0 s1 s0).bind (fun v => rn d 95 70 [a0, a1, a2, a3] [.int v] h) := rIald rfl
theorem e95_70 (d : Nat) (a0 a1 a2 a3 : Option Value) (s0 : Int32) (h : MH)  : rn d 95 70 [a0, a1, a2, a3] [.int s0] h = rn d 95 71 [a0, a1, a2, a3] [.long s0.toInt64] h := rP (i := (.i2l)) rfl rfl
theorem e95_71 (d : Nat) (a0 a1 a2 a3 : Option Value) (s0 : Int64) (h : MH)  : rn d 95 71 [a0, a1, a2, a3] [.long s0] h = rn d 95 77 [a0, a1, a2, a3] [.long s0] h := rP (i := (.goto 6)) rfl rfl
theorem e95_74 (d : Nat) (a0 a1 a2 a3 : Option Value) (h : MH)  : rn d 95 74 [a0, a1, a2, a3] [] h = rn d 95 77 [a0, a1, a2, a3] [.long (-1000000000000)] h := rLdc2 (idx := 151) rfl
theorem e95_77 (d : Nat) (a0 a1 a2 a3 : Option Value) (s0 : Int64) (h : MH)  : rn d 95 77 [a0, a1, a2, a3] [.long s0] h = some (some (.long s0), h) := rLret rfl rfl
-- 96: FlowEquationsModel.info(I)I
theorem e96_0 (d : Nat) (a0 a2 a3 : Option Value) (h : MH) (x : Int32) : rn d 96 0 [a0, some (.int x), a2, a3] [] h = rn d 96 1 [a0, some (.int x), a2, a3] [.int x] h := rP (i := (.iload_n 1)) rfl rfl
theorem e96_1 (d : Nat) (a0 a1 a2 a3 : Option Value) (s0 : Int32) (h : MH)  : rn d 96 1 [a0, a1, a2, a3] [.int s0] h = if s0 < 0 then rn d 96 10 [a0, a1, a2, a3] [] h else rn d 96 4 [a0, a1, a2, a3] [] h := rLt1 (off := 9) 10 rfl rfl
theorem e96_4 (d : Nat) (a0 a2 a3 : Option Value) (h : MH) (x : Int32) : rn d 96 4 [a0, some (.int x), a2, a3] [] h = rn d 96 5 [a0, some (.int x), a2, a3] [.int x] h := rP (i := (.iload_n 1)) rfl rfl
theorem e96_5 (d : Nat) (a0 a1 a2 a3 : Option Value) (s0 : Int32) (h : MH)  : rn d 96 5 [a0, a1, a2, a3] [.int s0] h = rn d 96 7 [a0, a1, a2, a3] [.int 6, .int s0] h := rP (i := (.bipush 6)) rfl rfl
theorem e96_7 (d : Nat) (a0 a1 a2 a3 : Option Value) (s0 s1 : Int32) (h : MH)  : rn d 96 7 [a0, a1, a2, a3] [.int s0, .int s1] h = if s0 < s1 then rn d 96 10 [a0, a1, a2, a3] [] h else rn d 96 12 [a0, a1, a2, a3] [] h := rLe2 (off := 5) 12 rfl rfl
theorem e96_10 (d : Nat) (a0 a1 a2 a3 : Option Value) (h : MH)  : rn d 96 10 [a0, a1, a2, a3] [] h = rn d 96 11 [a0, a1, a2, a3] [.int (-1)] h := rP (i := (.iconst (-1))) rfl rfl
theorem e96_11 (d : Nat) (a0 a1 a2 a3 : Option Value) (s0 : Int32) (h : MH)  : rn d 96 11 [a0, a1, a2, a3] [.int s0] h = some (some (.int s0), h) := rIret rfl rfl
theorem e96_12 (d : Nat) (a0 a2 a3 : Option Value) (h : MH) (x : Int32) : rn d 96 12 [a0, some (.int x), a2, a3] [] h = rn d 96 13 [a0, some (.int x), a2, a3] [.int x] h := rP (i := (.iload_n 1)) rfl rfl
theorem e96_13 (d : Nat) (a0 a1 a2 a3 : Option Value) (s0 : Int32) (h : MH)  : rn d 96 13 [a0, a1, a2, a3] [.int s0] h = rn d 96 14 [a0, a1, a2, a3] [.int 2, .int s0] h := rP (i := (.iconst 2)) rfl rfl
theorem e96_14 (d : Nat) (a0 a1 a2 a3 : Option Value) (s0 s1 : Int32) (h : MH)  : rn d 96 14 [a0, a1, a2, a3] [.int s0, .int s1] h = if s1 < s0 then rn d 96 17 [a0, a1, a2, a3] [] h else rn d 96 33 [a0, a1, a2, a3] [] h := rGe2 (off := 19) 33 rfl rfl
theorem e96_17 (d : Nat) (a0 a2 a3 : Option Value) (h : MH) (x : Int32) : rn d 96 17 [a0, some (.int x), a2, a3] [] h = rn d 96 18 [a0, some (.int x), a2, a3] [.int x] h := rP (i := (.iload_n 1)) rfl rfl
theorem e96_18 (d : Nat) (a0 a1 a2 a3 : Option Value) (s0 : Int32) (h : MH)  : rn d 96 18 [a0, a1, a2, a3] [.int s0] h = if s0 = 0 then rn d 96 21 [a0, a1, a2, a3] [] h else rn d 96 28 [a0, a1, a2, a3] [] h := rNe1 (off := 10) 28 rfl rfl
theorem e96_21 (d : Nat) (a1 a2 a3 : Option Value) (h : MH) (x : Nat) : rn d 96 21 [some (.ref x), a1, a2, a3] [] h = rn d 96 22 [some (.ref x), a1, a2, a3] [.ref x] h := rP (i := (.aload_n 0)) rfl rfl
theorem e96_22 (d : Nat) (a0 a1 a2 a3 : Option Value) (s0 : Nat) (h : MH)  : rn d 96 22 [a0, a1, a2, a3] [.ref s0] h = (fgetv h s0 5 1).bind (fun v => rn d 96 25 [a0, a1, a2, a3] [v] h) := rGet (idx := 85) rfl rfl
theorem e96_25 (d : Nat) (a0 a1 a2 a3 : Option Value) (s0 : Int32) (h : MH)  : rn d 96 25 [a0, a1, a2, a3] [.int s0] h = rn d 96 32 [a0, a1, a2, a3] [.int s0] h := rP (i := (.goto 7)) rfl rfl
theorem e96_28 (d : Nat) (a1 a2 a3 : Option Value) (h : MH) (x : Nat) : rn d 96 28 [some (.ref x), a1, a2, a3] [] h = rn d 96 29 [some (.ref x), a1, a2, a3] [.ref x] h := rP (i := (.aload_n 0)) rfl rfl
theorem e96_29 (d : Nat) (a0 a1 a2 a3 : Option Value) (s0 : Nat) (h : MH)  : rn d 96 29 [a0, a1, a2, a3] [.ref s0] h = (fgetv h s0 5 2).bind (fun v => rn d 96 32 [a0, a1, a2, a3] [v] h) := rGet (idx := 13) rfl rfl
theorem e96_32 (d : Nat) (a0 a1 a2 a3 : Option Value) (s0 : Int32) (h : MH)  : rn d 96 32 [a0, a1, a2, a3] [.int s0] h = some (some (.int s0), h) := rIret rfl rfl
theorem e96_33 (d : Nat) (a0 a2 a3 : Option Value) (h : MH) (x : Int32) : rn d 96 33 [a0, some (.int x), a2, a3] [] h = rn d 96 34 [a0, some (.int x), a2, a3] [.int x] h := rP (i := (.iload_n 1)) rfl rfl
theorem e96_34 (d : Nat) (a0 a1 a2 a3 : Option Value) (s0 : Int32) (h : MH)  : rn d 96 34 [a0, a1, a2, a3] [.int s0] h = rn d 96 35 [a0, a1, a2, a3] [.int 3, .int s0] h := rP (i := (.iconst 3)) rfl rfl
theorem e96_35 (d : Nat) (a0 a1 a2 a3 : Option Value) (s0 s1 : Int32) (h : MH)  : rn d 96 35 [a0, a1, a2, a3] [.int s0, .int s1] h = if s1 = s0 then rn d 96 38 [a0, a1, a2, a3] [] h else rn d 96 51 [a0, a1, a2, a3] [] h := rNe2 (off := 16) 51 rfl rfl
theorem e96_38 (d : Nat) (a1 a2 a3 : Option Value) (h : MH) (x : Nat) : rn d 96 38 [some (.ref x), a1, a2, a3] [] h = rn d 96 39 [some (.ref x), a1, a2, a3] [.ref x] h := rP (i := (.aload_n 0)) rfl rfl
theorem e96_39 (d : Nat) (a0 a1 a2 a3 : Option Value) (s0 : Nat) (h : MH)  : rn d 96 39 [a0, a1, a2, a3] [.ref s0] h = (fgetv h s0 5 15).bind (fun v => rn d 96 42 [a0, a1, a2, a3] [v] h) := rGet (idx := 103) rfl rfl
theorem e96_42 (d : Nat) (a0 a1 a2 a3 : Option Value) (s0 : Int32) (h : MH)  : rn d 96 42 [a0, a1, a2, a3] [.int s0] h = if s0 = 0 then rn d 96 49 [a0, a1, a2, a3] [] h else rn d 96 45 [a0, a1, a2, a3] [] h := rEq1 (off := 7) 49 rfl rfl
theorem e96_45 (d : Nat) (a0 a1 a2 a3 : Option Value) (h : MH)  : rn d 96 45 [a0, a1, a2, a3] [] h = rn d 96 46 [a0, a1, a2, a3] [.int 1] h := rP (i := (.iconst 1)) rfl rfl
theorem e96_46 (d : Nat) (a0 a1 a2 a3 : Option Value) (s0 : Int32) (h : MH)  : rn d 96 46 [a0, a1, a2, a3] [.int s0] h = rn d 96 50 [a0, a1, a2, a3] [.int s0] h := rP (i := (.goto 4)) rfl rfl
theorem e96_49 (d : Nat) (a0 a1 a2 a3 : Option Value) (h : MH)  : rn d 96 49 [a0, a1, a2, a3] [] h = rn d 96 50 [a0, a1, a2, a3] [.int 0] h := rP (i := (.iconst 0)) rfl rfl
theorem e96_50 (d : Nat) (a0 a1 a2 a3 : Option Value) (s0 : Int32) (h : MH)  : rn d 96 50 [a0, a1, a2, a3] [.int s0] h = some (some (.int s0), h) := rIret rfl rfl
theorem e96_51 (d : Nat) (a0 a2 a3 : Option Value) (h : MH) (x : Int32) : rn d 96 51 [a0, some (.int x), a2, a3] [] h = rn d 96 52 [a0, some (.int x), a2, a3] [.int x] h := rP (i := (.iload_n 1)) rfl rfl
theorem e96_52 (d : Nat) (a0 a1 a2 a3 : Option Value) (s0 : Int32) (h : MH)  : rn d 96 52 [a0, a1, a2, a3] [.int s0] h = rn d 96 53 [a0, a1, a2, a3] [.int 4, .int s0] h := rP (i := (.iconst 4)) rfl rfl
theorem e96_53 (d : Nat) (a0 a1 a2 a3 : Option Value) (s0 s1 : Int32) (h : MH)  : rn d 96 53 [a0, a1, a2, a3] [.int s0, .int s1] h = if s1 = s0 then rn d 96 56 [a0, a1, a2, a3] [] h else rn d 96 72 [a0, a1, a2, a3] [] h := rNe2 (off := 19) 72 rfl rfl
theorem e96_56 (d : Nat) (a1 a2 a3 : Option Value) (h : MH) (x : Nat) : rn d 96 56 [some (.ref x), a1, a2, a3] [] h = rn d 96 57 [some (.ref x), a1, a2, a3] [.ref x] h := rP (i := (.aload_n 0)) rfl rfl
theorem e96_57 (d : Nat) (a0 a1 a2 a3 : Option Value) (s0 : Nat) (h : MH)  : rn d 96 57 [a0, a1, a2, a3] [.ref s0] h = (fgetv h s0 5 15).bind (fun v => rn d 96 60 [a0, a1, a2, a3] [v] h) := rGet (idx := 103) rfl rfl
theorem e96_60 (d : Nat) (a0 a1 a2 a3 : Option Value) (s0 : Int32) (h : MH)  : rn d 96 60 [a0, a1, a2, a3] [.int s0] h = if s0 = 0 then rn d 96 70 [a0, a1, a2, a3] [] h else rn d 96 63 [a0, a1, a2, a3] [] h := rEq1 (off := 10) 70 rfl rfl
theorem e96_63 (d : Nat) (a1 a2 a3 : Option Value) (h : MH) (x : Nat) : rn d 96 63 [some (.ref x), a1, a2, a3] [] h = rn d 96 64 [some (.ref x), a1, a2, a3] [.ref x] h := rP (i := (.aload_n 0)) rfl rfl
theorem e96_64 (d : Nat) (a0 a1 a2 a3 : Option Value) (s0 : Nat) (h : MH)  : rn d 96 64 [a0, a1, a2, a3] [.ref s0] h = (fgetv h s0 5 16).bind (fun v => rn d 96 67 [a0, a1, a2, a3] [v] h) := rGet (idx := 130) rfl rfl
theorem e96_67 (d : Nat) (a0 a1 a2 a3 : Option Value) (s0 : Int32) (h : MH)  : rn d 96 67 [a0, a1, a2, a3] [.int s0] h = rn d 96 71 [a0, a1, a2, a3] [.int s0] h := rP (i := (.goto 4)) rfl rfl
theorem e96_70 (d : Nat) (a0 a1 a2 a3 : Option Value) (h : MH)  : rn d 96 70 [a0, a1, a2, a3] [] h = rn d 96 71 [a0, a1, a2, a3] [.int 0] h := rP (i := (.iconst 0)) rfl rfl
theorem e96_71 (d : Nat) (a0 a1 a2 a3 : Option Value) (s0 : Int32) (h : MH)  : rn d 96 71 [a0, a1, a2, a3] [.int s0] h = some (some (.int s0), h) := rIret rfl rfl
theorem e96_72 (d : Nat) (a0 a1 a2 a3 : Option Value) (h : MH)  : rn d 96 72 [a0, a1, a2, a3] [] h = rn d 96 73 [a0, a1, a2, a3] [.int 0] h := rP (i := (.iconst 0)) rfl rfl
theorem e96_73 (d : Nat) (a0 a1 a2 a3 : Option Value) (s0 : Int32) (h : MH)  : rn d 96 73 [a0, a1, a2, a3] [.int s0] h = rn d 96 74 [a0, a1, some (.int s0), a3] [] h := rP (i := (.istore_n 2)) rfl rfl
theorem e96_74 (d : Nat) (a0 a1 a2 a3 : Option Value) (h : MH)  : rn d 96 74 [a0, a1, a2, a3] [] h = rn d 96 75 [a0, a1, a2, a3] [.int 0] h := rP (i := (.iconst 0)) rfl rfl
theorem e96_75 (d : Nat) (a0 a1 a2 a3 : Option Value) (s0 : Int32) (h : MH)  : rn d 96 75 [a0, a1, a2, a3] [.int s0] h = rn d 96 76 [a0, a1, a2, some (.int s0)] [] h := rP (i := (.istore_n 3)) rfl rfl
theorem e96_76 (d : Nat) (a0 a1 a2 : Option Value) (h : MH) (x : Int32) : rn d 96 76 [a0, a1, a2, some (.int x)] [] h = rn d 96 77 [a0, a1, a2, some (.int x)] [.int x] h := rP (i := (.iload_n 3)) rfl rfl
theorem e96_77 (d : Nat) (a0 a1 a2 a3 : Option Value) (s0 : Int32) (h : MH)  : rn d 96 77 [a0, a1, a2, a3] [.int s0] h = rn d 96 79 [a0, a1, a2, a3] [.int 8, .int s0] h := rP (i := (.bipush 8)) rfl rfl
theorem e96_79 (d : Nat) (a0 a1 a2 a3 : Option Value) (s0 s1 : Int32) (h : MH)  : rn d 96 79 [a0, a1, a2, a3] [.int s0, .int s1] h = if s1 < s0 then rn d 96 82 [a0, a1, a2, a3] [] h else rn d 96 133 [a0, a1, a2, a3] [] h := rGe2 (off := 54) 133 rfl rfl
theorem e96_82 (d : Nat) (a0 a2 a3 : Option Value) (h : MH) (x : Int32) : rn d 96 82 [a0, some (.int x), a2, a3] [] h = rn d 96 83 [a0, some (.int x), a2, a3] [.int x] h := rP (i := (.iload_n 1)) rfl rfl
theorem e96_83 (d : Nat) (a0 a1 a2 a3 : Option Value) (s0 : Int32) (h : MH)  : rn d 96 83 [a0, a1, a2, a3] [.int s0] h = rn d 96 84 [a0, a1, a2, a3] [.int 2, .int s0] h := rP (i := (.iconst 2)) rfl rfl
theorem e96_84 (d : Nat) (a0 a1 a2 a3 : Option Value) (s0 s1 : Int32) (h : MH)  : rn d 96 84 [a0, a1, a2, a3] [.int s0, .int s1] h = if s1 = s0 then rn d 96 87 [a0, a1, a2, a3] [] h else rn d 96 96 [a0, a1, a2, a3] [] h := rNe2 (off := 12) 96 rfl rfl
theorem e96_87 (d : Nat) (a1 a2 a3 : Option Value) (h : MH) (x : Nat) : rn d 96 87 [some (.ref x), a1, a2, a3] [] h = rn d 96 88 [some (.ref x), a1, a2, a3] [.ref x] h := rP (i := (.aload_n 0)) rfl rfl
theorem e96_88 (d : Nat) (a0 a1 a2 a3 : Option Value) (s0 : Nat) (h : MH)  : rn d 96 88 [a0, a1, a2, a3] [.ref s0] h = (fgetv h s0 5 5).bind (fun v => rn d 96 91 [a0, a1, a2, a3] [v] h) := rGet (idx := 20) rfl rfl
theorem e96_91 (d : Nat) (a0 a1 a2 : Option Value) (s0 : Nat) (h : MH) (x : Int32) : rn d 96 91 [a0, a1, a2, some (.int x)] [.ref s0] h = rn d 96 92 [a0, a1, a2, some (.int x)] [.int x, .ref s0] h := rP (i := (.iload_n 3)) rfl rfl
theorem e96_92 (d : Nat) (a0 a1 a2 a3 : Option Value) (s0 : Int32) (s1 : Nat) (h : MH)  : rn d 96 92 [a0, a1, a2, a3] [.int s0, .ref s1] h = (ageti h 0 s1 s0).bind (fun v => rn d 96 93 [a0, a1, a2, a3] [.int v] h) := rIald rfl
theorem e96_93 (d : Nat) (a0 a1 a2 a3 : Option Value) (s0 : Int32) (h : MH)  : rn d 96 93 [a0, a1, a2, a3] [.int s0] h = if 0 < s0 then rn d 96 110 [a0, a1, a2, a3] [] h else rn d 96 96 [a0, a1, a2, a3] [] h := rGt1 (off := 17) 110 rfl rfl
theorem e96_96 (d : Nat) (a0 a2 a3 : Option Value) (h : MH) (x : Int32) : rn d 96 96 [a0, some (.int x), a2, a3] [] h = rn d 96 97 [a0, some (.int x), a2, a3] [.int x] h := rP (i := (.iload_n 1)) rfl rfl
theorem e96_97 (d : Nat) (a0 a1 a2 a3 : Option Value) (s0 : Int32) (h : MH)  : rn d 96 97 [a0, a1, a2, a3] [.int s0] h = rn d 96 99 [a0, a1, a2, a3] [.int 6, .int s0] h := rP (i := (.bipush 6)) rfl rfl
theorem e96_99 (d : Nat) (a0 a1 a2 a3 : Option Value) (s0 s1 : Int32) (h : MH)  : rn d 96 99 [a0, a1, a2, a3] [.int s0, .int s1] h = if s1 = s0 then rn d 96 102 [a0, a1, a2, a3] [] h else rn d 96 113 [a0, a1, a2, a3] [] h := rNe2 (off := 14) 113 rfl rfl
theorem e96_102 (d : Nat) (a1 a2 a3 : Option Value) (h : MH) (x : Nat) : rn d 96 102 [some (.ref x), a1, a2, a3] [] h = rn d 96 103 [some (.ref x), a1, a2, a3] [.ref x] h := rP (i := (.aload_n 0)) rfl rfl
theorem e96_103 (d : Nat) (a0 a1 a2 : Option Value) (s0 : Nat) (h : MH) (x : Int32) : rn d 96 103 [a0, a1, a2, some (.int x)] [.ref s0] h = rn d 96 104 [a0, a1, a2, some (.int x)] [.int x, .ref s0] h := rP (i := (.iload_n 3)) rfl rfl
theorem e96_104 (d : Nat) (a0 a1 a2 a3 : Option Value) (s0 : Int32) (s1 : Nat) (h : MH) (hz : clsOf h s1 = some 5) : rn (d + 1) 96 104 [a0, a1, a2, a3] [.int s0, .ref s1] h = (rn d 93 0 [some (.ref s1), some (.int s0)] [] h).bind (fun R => rn (d + 1) 96 107 [a0, a1, a2, a3] (R.1.toList ++ []) R.2) := rInv (i := (.invokevirtual 148)) (n := 2) (tl := [541, 542, 51, 58]) rfl rfl rfl rfl (by decide) (Nat.le_of_ble_eq_true rfl) (Nat.le_of_ble_eq_true rfl) (Nat.le_of_ble_eq_true rfl) (rcv_V hz)
theorem e96_107 (d : Nat) (a0 a1 a2 a3 : Option Value) (s0 : Int32) (h : MH)  : rn d 96 107 [a0, a1, a2, a3] [.int s0] h = if s0 = 0 then rn d 96 113 [a0, a1, a2, a3] [] h else rn d 96 110 [a0, a1, a2, a3] [] h := rEq1 (off := 6) 113 rfl rfl
theorem e96_110 (d : Nat) (a0 a1 a3 : Option Value) (h : MH) (x : Int32) : rn d 96 110 [a0, a1, some (.int x), a3] [] h = rn d 96 113 [a0, a1, some (.int (x + 1)), a3] [] h := rP (i := (.iinc 2 1)) rfl rfl
theorem e96_113 (d : Nat) (a0 a2 a3 : Option Value) (h : MH) (x : Int32) : rn d 96 113 [a0, some (.int x), a2, a3] [] h = rn d 96 114 [a0, some (.int x), a2, a3] [.int x] h := rP (i := (.iload_n 1)) rfl rfl
theorem e96_114 (d : Nat) (a0 a1 a2 a3 : Option Value) (s0 : Int32) (h : MH)  : rn d 96 114 [a0, a1, a2, a3] [.int s0] h = rn d 96 115 [a0, a1, a2, a3] [.int 5, .int s0] h := rP (i := (.iconst 5)) rfl rfl
theorem e96_115 (d : Nat) (a0 a1 a2 a3 : Option Value) (s0 s1 : Int32) (h : MH)  : rn d 96 115 [a0, a1, a2, a3] [.int s0, .int s1] h = if s1 = s0 then rn d 96 118 [a0, a1, a2, a3] [] h else rn d 96 127 [a0, a1, a2, a3] [] h := rNe2 (off := 12) 127 rfl rfl
theorem e96_118 (d : Nat) (a0 a1 a3 : Option Value) (h : MH) (x : Int32) : rn d 96 118 [a0, a1, some (.int x), a3] [] h = rn d 96 119 [a0, a1, some (.int x), a3] [.int x] h := rP (i := (.iload_n 2)) rfl rfl
theorem e96_119 (d : Nat) (a1 a2 a3 : Option Value) (s0 : Int32) (h : MH) (x : Nat) : rn d 96 119 [some (.ref x), a1, a2, a3] [.int s0] h = rn d 96 120 [some (.ref x), a1, a2, a3] [.ref x, .int s0] h := rP (i := (.aload_n 0)) rfl rfl
theorem e96_120 (d : Nat) (a0 a1 a2 a3 : Option Value) (s1 : Int32) (s0 : Nat) (h : MH)  : rn d 96 120 [a0, a1, a2, a3] [.ref s0, .int s1] h = (fgetv h s0 5 5).bind (fun v => rn d 96 123 [a0, a1, a2, a3] [v, .int s1] h) := rGet (idx := 20) rfl rfl
theorem e96_123 (d : Nat) (a0 a1 a2 : Option Value) (s1 : Int32) (s0 : Nat) (h : MH) (x : Int32) : rn d 96 123 [a0, a1, a2, some (.int x)] [.ref s0, .int s1] h = rn d 96 124 [a0, a1, a2, some (.int x)] [.int x, .ref s0, .int s1] h := rP (i := (.iload_n 3)) rfl rfl
theorem e96_124 (d : Nat) (a0 a1 a2 a3 : Option Value) (s0 s2 : Int32) (s1 : Nat) (h : MH)  : rn d 96 124 [a0, a1, a2, a3] [.int s0, .ref s1, .int s2] h = (ageti h 0 s1 s0).bind (fun v => rn d 96 125 [a0, a1, a2, a3] [.int v, .int s2] h) := rIald rfl
theorem e96_125 (d : Nat) (a0 a1 a2 a3 : Option Value) (s0 s1 : Int32) (h : MH)  : rn d 96 125 [a0, a1, a2, a3] [.int s0, .int s1] h = rn d 96 126 [a0, a1, a2, a3] [.int (s1 + s0)] h := rP (i := (.iadd)) rfl rfl
theorem e96_126 (d : Nat) (a0 a1 a2 a3 : Option Value) (s0 : Int32) (h : MH)  : rn d 96 126 [a0, a1, a2, a3] [.int s0] h = rn d 96 127 [a0, a1, some (.int s0), a3] [] h := rP (i := (.istore_n 2)) rfl rfl
theorem e96_127 (d : Nat) (a0 a1 a2 : Option Value) (h : MH) (x : Int32) : rn d 96 127 [a0, a1, a2, some (.int x)] [] h = rn d 96 130 [a0, a1, a2, some (.int (x + 1))] [] h := rP (i := (.iinc 3 1)) rfl rfl
theorem e96_130 (d : Nat) (a0 a1 a2 a3 : Option Value) (h : MH)  : rn d 96 130 [a0, a1, a2, a3] [] h = rn d 96 76 [a0, a1, a2, a3] [] h := rP (i := (.goto (-54))) rfl rfl
theorem e96_133 (d : Nat) (a0 a1 a3 : Option Value) (h : MH) (x : Int32) : rn d 96 133 [a0, a1, some (.int x), a3] [] h = rn d 96 134 [a0, a1, some (.int x), a3] [.int x] h := rP (i := (.iload_n 2)) rfl rfl
theorem e96_134 (d : Nat) (a0 a1 a2 a3 : Option Value) (s0 : Int32) (h : MH)  : rn d 96 134 [a0, a1, a2, a3] [.int s0] h = some (some (.int s0), h) := rIret rfl rfl
-- 97: FlowEquationsLaw.law([I)Z
set_option maxRecDepth 8000 in
theorem e97_0 (d : Nat) (a0 a1 a2 a3 : Option Value) (h : MH)  : rn d 97 0 [a0, a1, a2, a3] [] h = rn d 97 3 [a0, a1, a2, a3] [.ref h.1] (mkobj h 0 8 [.null, .int 0, .int 0, .null, .null, .null, .null, .int 0]) := rNew (idx := 7) (tl := [67, 68, 53]) rfl rfl
set_option maxRecDepth 8000 in
theorem e97_3 (d : Nat) (a0 a1 a2 a3 : Option Value) (s0 : Nat) (h : MH)  : rn d 97 3 [a0, a1, a2, a3] [.ref s0] h = rn d 97 4 [a0, a1, a2, a3] [.ref s0, .ref s0] h := rP (i := (.dup)) rfl rfl
set_option maxRecDepth 8000 in
theorem e97_4 (d : Nat) (a0 a1 a2 a3 : Option Value) (s0 s1 : Nat) (h : MH)  : rn (d + 1) 97 4 [a0, a1, a2, a3] [.ref s0, .ref s1] h = (rn d 0 0 [some (.ref s0)] [] h).bind (fun R => rn (d + 1) 97 7 [a0, a1, a2, a3] (R.1.toList ++ [.ref s1]) R.2) := rInv (i := (.invokespecial 9)) (n := 1) (tl := [69, 70, 53]) rfl rfl rfl rfl (by decide) (Nat.le_of_ble_eq_true rfl) (Nat.le_of_ble_eq_true rfl) (Nat.le_of_ble_eq_true rfl) rfl
set_option maxRecDepth 8000 in
theorem e97_7 (d : Nat) (a0 a1 a2 a3 : Option Value) (s0 : Nat) (h : MH)  : rn d 97 7 [a0, a1, a2, a3] [.ref s0] h = rn d 97 8 [a0, some (.ref s0), a2, a3] [] h := rP (i := (.astore_n 1)) rfl rfl
set_option maxRecDepth 8000 in
theorem e97_8 (d : Nat) (a0 a1 a2 a3 : Option Value) (h : MH)  : rn d 97 8 [a0, a1, a2, a3] [] h = rn d 97 11 [a0, a1, a2, a3] [.ref h.1] (mkobj h 5 24 [.null, .int 0, .int 0, .int 0, .null, .null, .null, .null, .null, .null, .null, .null, .null, .null, .null, .int 0, .int 0, .null, .null, .null, .null, .null, .null, .null]) := rNew (idx := 10) (tl := [396, 397, 58]) rfl rfl
set_option maxRecDepth 8000 in
theorem e97_11 (d : Nat) (a0 a1 a2 a3 : Option Value) (s0 : Nat) (h : MH)  : rn d 97 11 [a0, a1, a2, a3] [.ref s0] h = rn d 97 12 [a0, a1, a2, a3] [.ref s0, .ref s0] h := rP (i := (.dup)) rfl rfl
set_option maxRecDepth 8000 in
theorem e97_12 (d : Nat) (a0 a1 a2 a3 : Option Value) (s0 s1 : Nat) (h : MH)  : rn (d + 1) 97 12 [a0, a1, a2, a3] [.ref s0, .ref s1] h = (rn d 65 0 [some (.ref s0), none] [] h).bind (fun R => rn (d + 1) 97 15 [a0, a1, a2, a3] (R.1.toList ++ [.ref s1]) R.2) := rInv (i := (.invokespecial 12)) (n := 1) (tl := [398, 399, 58]) rfl rfl rfl rfl (by decide) (Nat.le_of_ble_eq_true rfl) (Nat.le_of_ble_eq_true rfl) (Nat.le_of_ble_eq_true rfl) rfl
set_option maxRecDepth 8000 in
theorem e97_15 (d : Nat) (a0 a1 a2 a3 : Option Value) (s0 : Nat) (h : MH)  : rn d 97 15 [a0, a1, a2, a3] [.ref s0] h = rn d 97 16 [a0, a1, some (.ref s0), a3] [] h := rP (i := (.astore_n 2)) rfl rfl
set_option maxRecDepth 8000 in
theorem e97_16 (d : Nat) (a0 a1 a2 a3 : Option Value) (h : MH)  : rn d 97 16 [a0, a1, a2, a3] [] h = rn d 97 17 [a0, a1, a2, a3] [.int 0] h := rP (i := (.iconst 0)) rfl rfl
set_option maxRecDepth 8000 in
theorem e97_17 (d : Nat) (a0 a1 a2 a3 : Option Value) (s0 : Int32) (h : MH)  : rn d 97 17 [a0, a1, a2, a3] [.int s0] h = rn d 97 18 [a0, a1, a2, some (.int s0)] [] h := rP (i := (.istore_n 3)) rfl rfl
set_option maxRecDepth 8000 in
theorem e97_18 (d : Nat) (a0 a1 a2 : Option Value) (h : MH) (x : Int32) : rn d 97 18 [a0, a1, a2, some (.int x)] [] h = rn d 97 19 [a0, a1, a2, some (.int x)] [.int x] h := rP (i := (.iload_n 3)) rfl rfl
set_option maxRecDepth 8000 in
theorem e97_19 (d : Nat) (a1 a2 a3 : Option Value) (s0 : Int32) (h : MH) (x : Nat) : rn d 97 19 [some (.ref x), a1, a2, a3] [.int s0] h = rn d 97 20 [some (.ref x), a1, a2, a3] [.ref x, .int s0] h := rP (i := (.aload_n 0)) rfl rfl
set_option maxRecDepth 8000 in
theorem e97_20 (d : Nat) (a0 a1 a2 a3 : Option Value) (s1 : Int32) (s0 : Nat) (h : MH)  : rn d 97 20 [a0, a1, a2, a3] [.ref s0, .int s1] h = (alenv h s0).bind (fun v => rn d 97 21 [a0, a1, a2, a3] [.int v, .int s1] h) := rAlen rfl
set_option maxRecDepth 8000 in
theorem e97_21 (d : Nat) (a0 a1 a2 a3 : Option Value) (s0 s1 : Int32) (h : MH)  : rn d 97 21 [a0, a1, a2, a3] [.int s0, .int s1] h = rn d 97 22 [a0, a1, a2, a3] [.int 3, .int s0, .int s1] h := rP (i := (.iconst 3)) rfl rfl
set_option maxRecDepth 8000 in
theorem e97_22 (d : Nat) (a0 a1 a2 a3 : Option Value) (s0 s1 s2 : Int32) (h : MH)  : rn d 97 22 [a0, a1, a2, a3] [.int s0, .int s1, .int s2] h = rn d 97 23 [a0, a1, a2, a3] [.int (s1 - s0), .int s2] h := rP (i := (.isub)) rfl rfl
set_option maxRecDepth 8000 in
theorem e97_23 (d : Nat) (a0 a1 a2 a3 : Option Value) (s0 s1 : Int32) (h : MH)  : rn d 97 23 [a0, a1, a2, a3] [.int s0, .int s1] h = if s0 < s1 then rn d 97 430 [a0, a1, a2, a3] [] h else rn d 97 26 [a0, a1, a2, a3] [] h := rGt2 (off := 407) 430 rfl rfl
set_option maxRecDepth 8000 in
theorem e97_26 (d : Nat) (a1 a2 a3 : Option Value) (h : MH) (x : Nat) : rn d 97 26 [some (.ref x), a1, a2, a3] [] h = rn d 97 27 [some (.ref x), a1, a2, a3] [.ref x] h := rP (i := (.aload_n 0)) rfl rfl
set_option maxRecDepth 8000 in
theorem e97_27 (d : Nat) (a0 a1 a2 : Option Value) (s0 : Nat) (h : MH) (x : Int32) : rn d 97 27 [a0, a1, a2, some (.int x)] [.ref s0] h = rn d 97 28 [a0, a1, a2, some (.int x)] [.int x, .ref s0] h := rP (i := (.iload_n 3)) rfl rfl
set_option maxRecDepth 8000 in
theorem e97_28 (d : Nat) (a0 a1 a2 a3 : Option Value) (s0 : Int32) (s1 : Nat) (h : MH)  : rn d 97 28 [a0, a1, a2, a3] [.int s0, .ref s1] h = (ageti h 0 s1 s0).bind (fun v => rn d 97 29 [a0, a1, a2, a3] [.int v] h) := rIald rfl
set_option maxRecDepth 8000 in
theorem e97_29 (d : Nat) (a0 a1 a2 a3 : Option Value) (s0 : Int32) (h : MH)  : rn d 97 29 [a0, a1, a2, a3] [.int s0] h = rn d 97 31 [a0, a1, a2, a3] [.int 15, .int s0] h := rP (i := (.bipush 15)) rfl rfl
set_option maxRecDepth 8000 in
theorem e97_31 (d : Nat) (a0 a1 a2 a3 : Option Value) (s0 s1 : Int32) (h : MH)  : rn d 97 31 [a0, a1, a2, a3] [.int s0, .int s1] h = rn d 97 32 [a0, a1, a2, a3] [.int (s1 &&& s0)] h := rP (i := (.iand)) rfl rfl
set_option maxRecDepth 8000 in
theorem e97_32 (d : Nat) (a0 a1 a2 a3 : Option Value) (s0 : Int32) (h : MH)  : rn d 97 32 [a0, a1, a2, a3] [.int s0] h = if s0 = 0 then rn d 97 96 [a0, a1, a2, a3] [] h else if s0 = 1 then rn d 97 119 [a0, a1, a2, a3] [] h else if s0 = 2 then rn d 97 172 [a0, a1, a2, a3] [] h else if s0 = 3 then rn d 97 195 [a0, a1, a2, a3] [] h else if s0 = 4 then rn d 97 218 [a0, a1, a2, a3] [] h else if s0 = 5 then rn d 97 251 [a0, a1, a2, a3] [] h else if s0 = 6 then rn d 97 284 [a0, a1, a2, a3] [] h else if s0 = 7 then rn d 97 297 [a0, a1, a2, a3] [] h else if s0 = 8 then rn d 97 320 [a0, a1, a2, a3] [] h else if s0 = 9 then rn d 97 344 [a0, a1, a2, a3] [] h else if s0 = 10 then rn d 97 367 [a0, a1, a2, a3] [] h else if s0 = 11 then rn d 97 401 [a0, a1, a2, a3] [] h else rn d 97 424 [a0, a1, a2, a3] [] h := (rTab (tg := [(0, 96), (1, 119), (2, 172), (3, 195), (4, 218), (5, 251), (6, 284), (7, 297), (8, 320), (9, 344), (10, 367), (11, 401)]) (dflt := 392) (lw := 0) (hi := 11) (offs := #[64, 87, 140, 163, 186, 219, 252, 265, 288, 312, 335, 369]) (dt := 424) rfl rfl rfl (by decide +kernel)).trans (lookT_F (fun t => rn d 97 t [a0, a1, a2, a3] [] h) _ _ _)
set_option maxRecDepth 8000 in
theorem e97_96 (d : Nat) (a0 a2 a3 : Option Value) (h : MH) (x : Nat) : rn d 97 96 [a0, some (.ref x), a2, a3] [] h = rn d 97 97 [a0, some (.ref x), a2, a3] [.ref x] h := rP (i := (.aload_n 1)) rfl rfl
set_option maxRecDepth 8000 in
theorem e97_97 (d : Nat) (a1 a2 a3 : Option Value) (s0 : Nat) (h : MH) (x : Nat) : rn d 97 97 [some (.ref x), a1, a2, a3] [.ref s0] h = rn d 97 98 [some (.ref x), a1, a2, a3] [.ref x, .ref s0] h := rP (i := (.aload_n 0)) rfl rfl
set_option maxRecDepth 8000 in
theorem e97_98 (d : Nat) (a0 a1 a2 : Option Value) (s0 s1 : Nat) (h : MH) (x : Int32) : rn d 97 98 [a0, a1, a2, some (.int x)] [.ref s0, .ref s1] h = rn d 97 99 [a0, a1, a2, some (.int x)] [.int x, .ref s0, .ref s1] h := rP (i := (.iload_n 3)) rfl rfl
set_option maxRecDepth 8000 in
theorem e97_99 (d : Nat) (a0 a1 a2 a3 : Option Value) (s0 : Int32) (s1 s2 : Nat) (h : MH)  : rn d 97 99 [a0, a1, a2, a3] [.int s0, .ref s1, .ref s2] h = rn d 97 100 [a0, a1, a2, a3] [.int 1, .int s0, .ref s1, .ref s2] h := rP (i := (.iconst 1)) rfl rfl
set_option maxRecDepth 8000 in
theorem e97_100 (d : Nat) (a0 a1 a2 a3 : Option Value) (s0 s1 : Int32) (s2 s3 : Nat) (h : MH)  : rn d 97 100 [a0, a1, a2, a3] [.int s0, .int s1, .ref s2, .ref s3] h = rn d 97 101 [a0, a1, a2, a3] [.int (s1 + s0), .ref s2, .ref s3] h := rP (i := (.iadd)) rfl rfl
set_option maxRecDepth 8000 in
theorem e97_101 (d : Nat) (a0 a1 a2 a3 : Option Value) (s0 : Int32) (s1 s2 : Nat) (h : MH)  : rn d 97 101 [a0, a1, a2, a3] [.int s0, .ref s1, .ref s2] h = (ageti h 0 s1 s0).bind (fun v => rn d 97 102 [a0, a1, a2, a3] [.int v, .ref s2] h) := rIald rfl
set_option maxRecDepth 8000 in
theorem e97_102 (d : Nat) (a0 a1 a2 a3 : Option Value) (s0 : Int32) (s1 : Nat) (h : MH) (hz : clsOf h s1 = some 0) : rn (d + 1) 97 102 [a0, a1, a2, a3] [.int s0, .ref s1] h = (rn d 5 0 [some (.ref s1), some (.int s0)] [] h).bind (fun R => rn (d + 1) 97 105 [a0, a1, a2, a3] (R.1.toList ++ []) R.2) := rInv (i := (.invokevirtual 13)) (n := 2) (tl := [164, 165, 166, 53]) rfl rfl rfl rfl (by decide) (Nat.le_of_ble_eq_true rfl) (Nat.le_of_ble_eq_true rfl) (Nat.le_of_ble_eq_true rfl) (rcv_V hz)
set_option maxRecDepth 8000 in
theorem e97_105 (d : Nat) (a0 a1 a3 : Option Value) (s0 : Int32) (h : MH) (x : Nat) : rn d 97 105 [a0, a1, some (.ref x), a3] [.int s0] h = rn d 97 106 [a0, a1, some (.ref x), a3] [.ref x, .int s0] h := rP (i := (.aload_n 2)) rfl rfl
set_option maxRecDepth 8000 in
theorem e97_106 (d : Nat) (a1 a2 a3 : Option Value) (s1 : Int32) (s0 : Nat) (h : MH) (x : Nat) : rn d 97 106 [some (.ref x), a1, a2, a3] [.ref s0, .int s1] h = rn d 97 107 [some (.ref x), a1, a2, a3] [.ref x, .ref s0, .int s1] h := rP (i := (.aload_n 0)) rfl rfl
set_option maxRecDepth 8000 in
theorem e97_107 (d : Nat) (a0 a1 a2 : Option Value) (s2 : Int32) (s0 s1 : Nat) (h : MH) (x : Int32) : rn d 97 107 [a0, a1, a2, some (.int x)] [.ref s0, .ref s1, .int s2] h = rn d 97 108 [a0, a1, a2, some (.int x)] [.int x, .ref s0, .ref s1, .int s2] h := rP (i := (.iload_n 3)) rfl rfl
set_option maxRecDepth 8000 in
theorem e97_108 (d : Nat) (a0 a1 a2 a3 : Option Value) (s0 s3 : Int32) (s1 s2 : Nat) (h : MH)  : rn d 97 108 [a0, a1, a2, a3] [.int s0, .ref s1, .ref s2, .int s3] h = rn d 97 109 [a0, a1, a2, a3] [.int 1, .int s0, .ref s1, .ref s2, .int s3] h := rP (i := (.iconst 1)) rfl rfl
set_option maxRecDepth 8000 in
theorem e97_109 (d : Nat) (a0 a1 a2 a3 : Option Value) (s0 s1 s4 : Int32) (s2 s3 : Nat) (h : MH)  : rn d 97 109 [a0, a1, a2, a3] [.int s0, .int s1, .ref s2, .ref s3, .int s4] h = rn d 97 110 [a0, a1, a2, a3] [.int (s1 + s0), .ref s2, .ref s3, .int s4] h := rP (i := (.iadd)) rfl rfl
set_option maxRecDepth 8000 in
theorem e97_110 (d : Nat) (a0 a1 a2 a3 : Option Value) (s0 s3 : Int32) (s1 s2 : Nat) (h : MH)  : rn d 97 110 [a0, a1, a2, a3] [.int s0, .ref s1, .ref s2, .int s3] h = (ageti h 0 s1 s0).bind (fun v => rn d 97 111 [a0, a1, a2, a3] [.int v, .ref s2, .int s3] h) := rIald rfl
set_option maxRecDepth 8000 in
theorem e97_111 (d : Nat) (a0 a1 a2 a3 : Option Value) (s0 s2 : Int32) (s1 : Nat) (h : MH) (hz : clsOf h s1 = some 5) : rn (d + 1) 97 111 [a0, a1, a2, a3] [.int s0, .ref s1, .int s2] h = (rn d 66 0 [some (.ref s1), some (.int s0), none] [] h).bind (fun R => rn (d + 1) 97 114 [a0, a1, a2, a3] (R.1.toList ++ [.int s2]) R.2) := rInv (i := (.invokevirtual 17)) (n := 2) (tl := [450, 451, 452, 58]) rfl rfl rfl rfl (by decide) (Nat.le_of_ble_eq_true rfl) (Nat.le_of_ble_eq_true rfl) (Nat.le_of_ble_eq_true rfl) (rcv_V hz)
set_option maxRecDepth 8000 in
theorem e97_114 (d : Nat) (a0 a1 a2 a3 : Option Value) (s0 s1 : Int32) (h : MH)  : rn d 97 114 [a0, a1, a2, a3] [.int s0, .int s1] h = if s1 = s0 then rn d 97 424 [a0, a1, a2, a3] [] h else rn d 97 117 [a0, a1, a2, a3] [] h := rEq2 (off := 310) 424 rfl rfl
set_option maxRecDepth 8000 in
theorem e97_117 (d : Nat) (a0 a1 a2 a3 : Option Value) (h : MH)  : rn d 97 117 [a0, a1, a2, a3] [] h = rn d 97 118 [a0, a1, a2, a3] [.int 0] h := rP (i := (.iconst 0)) rfl rfl
set_option maxRecDepth 8000 in
theorem e97_118 (d : Nat) (a0 a1 a2 a3 : Option Value) (s0 : Int32) (h : MH) (hz : s0 &&& 1 = s0) : rn d 97 118 [a0, a1, a2, a3] [.int s0] h = some (some (.int s0), h) := rIretZ hz rfl rfl
set_option maxRecDepth 8000 in
theorem e97_118q0 (d : Nat) (a0 a1 a2 a3 : Option Value)  (h : MH) : rn d 97 118 [a0, a1, a2, a3] [.int 0] h = some (some (.int 0), h) := rIretZ rfl rfl rfl
set_option maxRecDepth 8000 in
theorem e97_118q1 (d : Nat) (a0 a1 a2 a3 : Option Value)  (h : MH) : rn d 97 118 [a0, a1, a2, a3] [.int 1] h = some (some (.int 1), h) := rIretZ rfl rfl rfl
set_option maxRecDepth 8000 in
theorem e97_119 (d : Nat) (a0 a2 a3 : Option Value) (h : MH) (x : Nat) : rn d 97 119 [a0, some (.ref x), a2, a3] [] h = rn d 97 120 [a0, some (.ref x), a2, a3] [.ref x] h := rP (i := (.aload_n 1)) rfl rfl
set_option maxRecDepth 8000 in
theorem e97_120 (d : Nat) (a1 a2 a3 : Option Value) (s0 : Nat) (h : MH) (x : Nat) : rn d 97 120 [some (.ref x), a1, a2, a3] [.ref s0] h = rn d 97 121 [some (.ref x), a1, a2, a3] [.ref x, .ref s0] h := rP (i := (.aload_n 0)) rfl rfl
set_option maxRecDepth 8000 in
theorem e97_121 (d : Nat) (a0 a1 a2 : Option Value) (s0 s1 : Nat) (h : MH) (x : Int32) : rn d 97 121 [a0, a1, a2, some (.int x)] [.ref s0, .ref s1] h = rn d 97 122 [a0, a1, a2, some (.int x)] [.int x, .ref s0, .ref s1] h := rP (i := (.iload_n 3)) rfl rfl
set_option maxRecDepth 8000 in
theorem e97_122 (d : Nat) (a0 a1 a2 a3 : Option Value) (s0 : Int32) (s1 s2 : Nat) (h : MH)  : rn d 97 122 [a0, a1, a2, a3] [.int s0, .ref s1, .ref s2] h = rn d 97 123 [a0, a1, a2, a3] [.int 1, .int s0, .ref s1, .ref s2] h := rP (i := (.iconst 1)) rfl rfl
set_option maxRecDepth 8000 in
theorem e97_123 (d : Nat) (a0 a1 a2 a3 : Option Value) (s0 s1 : Int32) (s2 s3 : Nat) (h : MH)  : rn d 97 123 [a0, a1, a2, a3] [.int s0, .int s1, .ref s2, .ref s3] h = rn d 97 124 [a0, a1, a2, a3] [.int (s1 + s0), .ref s2, .ref s3] h := rP (i := (.iadd)) rfl rfl
set_option maxRecDepth 8000 in
theorem e97_124 (d : Nat) (a0 a1 a2 a3 : Option Value) (s0 : Int32) (s1 s2 : Nat) (h : MH)  : rn d 97 124 [a0, a1, a2, a3] [.int s0, .ref s1, .ref s2] h = (ageti h 0 s1 s0).bind (fun v => rn d 97 125 [a0, a1, a2, a3] [.int v, .ref s2] h) := rIald rfl
set_option maxRecDepth 8000 in
theorem e97_125 (d : Nat) (a0 a1 a2 a3 : Option Value) (s0 : Int32) (s1 : Nat) (h : MH)  : rn d 97 125 [a0, a1, a2, a3] [.int s0, .ref s1] h = rn d 97 126 [a0, a1, a2, a3] [.long s0.toInt64, .ref s1] h := rP (i := (.i2l)) rfl rfl
set_option maxRecDepth 8000 in
theorem e97_126 (d : Nat) (a0 a1 a2 a3 : Option Value) (s0 : Int64) (s1 : Nat) (h : MH)  : rn d 97 126 [a0, a1, a2, a3] [.long s0, .ref s1] h = rn d 97 128 [a0, a1, a2, a3] [.int 32, .long s0, .ref s1] h := rP (i := (.bipush 32)) rfl rfl
set_option maxRecDepth 8000 in
theorem e97_128 (d : Nat) (a0 a1 a2 a3 : Option Value) (s0 : Int32) (s1 : Int64) (s2 : Nat) (h : MH)  : rn d 97 128 [a0, a1, a2, a3] [.int s0, .long s1, .ref s2] h = rn d 97 129 [a0, a1, a2, a3] [.long (s1 <<< (s0.toInt64 &&& 63)), .ref s2] h := rP (i := (.lshl)) rfl rfl
set_option maxRecDepth 8000 in
theorem e97_129 (d : Nat) (a1 a2 a3 : Option Value) (s0 : Int64) (s1 : Nat) (h : MH) (x : Nat) : rn d 97 129 [some (.ref x), a1, a2, a3] [.long s0, .ref s1] h = rn d 97 130 [some (.ref x), a1, a2, a3] [.ref x, .long s0, .ref s1] h := rP (i := (.aload_n 0)) rfl rfl
set_option maxRecDepth 8000 in
theorem e97_130 (d : Nat) (a0 a1 a2 : Option Value) (s1 : Int64) (s0 s2 : Nat) (h : MH) (x : Int32) : rn d 97 130 [a0, a1, a2, some (.int x)] [.ref s0, .long s1, .ref s2] h = rn d 97 131 [a0, a1, a2, some (.int x)] [.int x, .ref s0, .long s1, .ref s2] h := rP (i := (.iload_n 3)) rfl rfl
set_option maxRecDepth 8000 in
theorem e97_131 (d : Nat) (a0 a1 a2 a3 : Option Value) (s0 : Int32) (s2 : Int64) (s1 s3 : Nat) (h : MH)  : rn d 97 131 [a0, a1, a2, a3] [.int s0, .ref s1, .long s2, .ref s3] h = rn d 97 132 [a0, a1, a2, a3] [.int 2, .int s0, .ref s1, .long s2, .ref s3] h := rP (i := (.iconst 2)) rfl rfl
set_option maxRecDepth 8000 in
theorem e97_132 (d : Nat) (a0 a1 a2 a3 : Option Value) (s0 s1 : Int32) (s3 : Int64) (s2 s4 : Nat) (h : MH)  : rn d 97 132 [a0, a1, a2, a3] [.int s0, .int s1, .ref s2, .long s3, .ref s4] h = rn d 97 133 [a0, a1, a2, a3] [.int (s1 + s0), .ref s2, .long s3, .ref s4] h := rP (i := (.iadd)) rfl rfl
set_option maxRecDepth 8000 in
theorem e97_133 (d : Nat) (a0 a1 a2 a3 : Option Value) (s0 : Int32) (s2 : Int64) (s1 s3 : Nat) (h : MH)  : rn d 97 133 [a0, a1, a2, a3] [.int s0, .ref s1, .long s2, .ref s3] h = (ageti h 0 s1 s0).bind (fun v => rn d 97 134 [a0, a1, a2, a3] [.int v, .long s2, .ref s3] h) := rIald rfl
set_option maxRecDepth 8000 in
theorem e97_134 (d : Nat) (a0 a1 a2 a3 : Option Value) (s0 : Int32) (s1 : Int64) (s2 : Nat) (h : MH)  : rn d 97 134 [a0, a1, a2, a3] [.int s0, .long s1, .ref s2] h = rn d 97 135 [a0, a1, a2, a3] [.long s0.toInt64, .long s1, .ref s2] h := rP (i := (.i2l)) rfl rfl
set_option maxRecDepth 8000 in
theorem e97_135 (d : Nat) (a0 a1 a2 a3 : Option Value) (s0 s1 : Int64) (s2 : Nat) (h : MH)  : rn d 97 135 [a0, a1, a2, a3] [.long s0, .long s1, .ref s2] h = rn d 97 138 [a0, a1, a2, a3] [.long 4294967295, .long s0, .long s1, .ref s2] h := rLdc2 (idx := 18) rfl
set_option maxRecDepth 8000 in
theorem e97_138 (d : Nat) (a0 a1 a2 a3 : Option Value) (s0 s1 s2 : Int64) (s3 : Nat) (h : MH)  : rn d 97 138 [a0, a1, a2, a3] [.long s0, .long s1, .long s2, .ref s3] h = rn d 97 139 [a0, a1, a2, a3] [.long (s1 &&& s0), .long s2, .ref s3] h := rP (i := (.land)) rfl rfl
set_option maxRecDepth 8000 in
theorem e97_139 (d : Nat) (a0 a1 a2 a3 : Option Value) (s0 s1 : Int64) (s2 : Nat) (h : MH)  : rn d 97 139 [a0, a1, a2, a3] [.long s0, .long s1, .ref s2] h = rn d 97 140 [a0, a1, a2, a3] [.long (s1 ||| s0), .ref s2] h := rP (i := (.lor)) rfl rfl
set_option maxRecDepth 8000 in
theorem e97_140 (d : Nat) (a0 a1 a2 a3 : Option Value) (s0 : Int64) (s1 : Nat) (h : MH) (hz : clsOf h s1 = some 0) : rn (d + 1) 97 140 [a0, a1, a2, a3] [.long s0, .ref s1] h = (rn d 10 0 [some (.ref s1), some (.long s0), mSec, none, none, none] [] h).bind (fun R => rn (d + 1) 97 143 [a0, a1, a2, a3] (R.1.toList ++ []) R.2) := rInv (i := (.invokevirtual 20)) (n := 2) (tl := [227, 228, 229, 53]) rfl rfl rfl rfl (by decide) (Nat.le_of_ble_eq_true rfl) (Nat.le_of_ble_eq_true rfl) (Nat.le_of_ble_eq_true rfl) (rcv_V hz)
set_option maxRecDepth 8000 in
theorem e97_143 (d : Nat) (a0 a1 a3 : Option Value) (s0 : Int32) (h : MH) (x : Nat) : rn d 97 143 [a0, a1, some (.ref x), a3] [.int s0] h = rn d 97 144 [a0, a1, some (.ref x), a3] [.ref x, .int s0] h := rP (i := (.aload_n 2)) rfl rfl
set_option maxRecDepth 8000 in
theorem e97_144 (d : Nat) (a1 a2 a3 : Option Value) (s1 : Int32) (s0 : Nat) (h : MH) (x : Nat) : rn d 97 144 [some (.ref x), a1, a2, a3] [.ref s0, .int s1] h = rn d 97 145 [some (.ref x), a1, a2, a3] [.ref x, .ref s0, .int s1] h := rP (i := (.aload_n 0)) rfl rfl
set_option maxRecDepth 8000 in
theorem e97_145 (d : Nat) (a0 a1 a2 : Option Value) (s2 : Int32) (s0 s1 : Nat) (h : MH) (x : Int32) : rn d 97 145 [a0, a1, a2, some (.int x)] [.ref s0, .ref s1, .int s2] h = rn d 97 146 [a0, a1, a2, some (.int x)] [.int x, .ref s0, .ref s1, .int s2] h := rP (i := (.iload_n 3)) rfl rfl
set_option maxRecDepth 8000 in
theorem e97_146 (d : Nat) (a0 a1 a2 a3 : Option Value) (s0 s3 : Int32) (s1 s2 : Nat) (h : MH)  : rn d 97 146 [a0, a1, a2, a3] [.int s0, .ref s1, .ref s2, .int s3] h = rn d 97 147 [a0, a1, a2, a3] [.int 1, .int s0, .ref s1, .ref s2, .int s3] h := rP (i := (.iconst 1)) rfl rfl
set_option maxRecDepth 8000 in
theorem e97_147 (d : Nat) (a0 a1 a2 a3 : Option Value) (s0 s1 s4 : Int32) (s2 s3 : Nat) (h : MH)  : rn d 97 147 [a0, a1, a2, a3] [.int s0, .int s1, .ref s2, .ref s3, .int s4] h = rn d 97 148 [a0, a1, a2, a3] [.int (s1 + s0), .ref s2, .ref s3, .int s4] h := rP (i := (.iadd)) rfl rfl
set_option maxRecDepth 8000 in
theorem e97_148 (d : Nat) (a0 a1 a2 a3 : Option Value) (s0 s3 : Int32) (s1 s2 : Nat) (h : MH)  : rn d 97 148 [a0, a1, a2, a3] [.int s0, .ref s1, .ref s2, .int s3] h = (ageti h 0 s1 s0).bind (fun v => rn d 97 149 [a0, a1, a2, a3] [.int v, .ref s2, .int s3] h) := rIald rfl
set_option maxRecDepth 8000 in
theorem e97_149 (d : Nat) (a0 a1 a2 a3 : Option Value) (s0 s2 : Int32) (s1 : Nat) (h : MH)  : rn d 97 149 [a0, a1, a2, a3] [.int s0, .ref s1, .int s2] h = rn d 97 150 [a0, a1, a2, a3] [.long s0.toInt64, .ref s1, .int s2] h := rP (i := (.i2l)) rfl rfl
set_option maxRecDepth 8000 in
theorem e97_150 (d : Nat) (a0 a1 a2 a3 : Option Value) (s2 : Int32) (s0 : Int64) (s1 : Nat) (h : MH)  : rn d 97 150 [a0, a1, a2, a3] [.long s0, .ref s1, .int s2] h = rn d 97 152 [a0, a1, a2, a3] [.int 32, .long s0, .ref s1, .int s2] h := rP (i := (.bipush 32)) rfl rfl
set_option maxRecDepth 8000 in
theorem e97_152 (d : Nat) (a0 a1 a2 a3 : Option Value) (s0 s3 : Int32) (s1 : Int64) (s2 : Nat) (h : MH)  : rn d 97 152 [a0, a1, a2, a3] [.int s0, .long s1, .ref s2, .int s3] h = rn d 97 153 [a0, a1, a2, a3] [.long (s1 <<< (s0.toInt64 &&& 63)), .ref s2, .int s3] h := rP (i := (.lshl)) rfl rfl
set_option maxRecDepth 8000 in
theorem e97_153 (d : Nat) (a1 a2 a3 : Option Value) (s2 : Int32) (s0 : Int64) (s1 : Nat) (h : MH) (x : Nat) : rn d 97 153 [some (.ref x), a1, a2, a3] [.long s0, .ref s1, .int s2] h = rn d 97 154 [some (.ref x), a1, a2, a3] [.ref x, .long s0, .ref s1, .int s2] h := rP (i := (.aload_n 0)) rfl rfl
set_option maxRecDepth 8000 in
theorem e97_154 (d : Nat) (a0 a1 a2 : Option Value) (s3 : Int32) (s1 : Int64) (s0 s2 : Nat) (h : MH) (x : Int32) : rn d 97 154 [a0, a1, a2, some (.int x)] [.ref s0, .long s1, .ref s2, .int s3] h = rn d 97 155 [a0, a1, a2, some (.int x)] [.int x, .ref s0, .long s1, .ref s2, .int s3] h := rP (i := (.iload_n 3)) rfl rfl
set_option maxRecDepth 8000 in
theorem e97_155 (d : Nat) (a0 a1 a2 a3 : Option Value) (s0 s4 : Int32) (s2 : Int64) (s1 s3 : Nat) (h : MH)  : rn d 97 155 [a0, a1, a2, a3] [.int s0, .ref s1, .long s2, .ref s3, .int s4] h = rn d 97 156 [a0, a1, a2, a3] [.int 2, .int s0, .ref s1, .long s2, .ref s3, .int s4] h := rP (i := (.iconst 2)) rfl rfl
set_option maxRecDepth 8000 in
theorem e97_156 (d : Nat) (a0 a1 a2 a3 : Option Value) (s0 s1 s5 : Int32) (s3 : Int64) (s2 s4 : Nat) (h : MH)  : rn d 97 156 [a0, a1, a2, a3] [.int s0, .int s1, .ref s2, .long s3, .ref s4, .int s5] h = rn d 97 157 [a0, a1, a2, a3] [.int (s1 + s0), .ref s2, .long s3, .ref s4, .int s5] h := rP (i := (.iadd)) rfl rfl
set_option maxRecDepth 8000 in
theorem e97_157 (d : Nat) (a0 a1 a2 a3 : Option Value) (s0 s4 : Int32) (s2 : Int64) (s1 s3 : Nat) (h : MH)  : rn d 97 157 [a0, a1, a2, a3] [.int s0, .ref s1, .long s2, .ref s3, .int s4] h = (ageti h 0 s1 s0).bind (fun v => rn d 97 158 [a0, a1, a2, a3] [.int v, .long s2, .ref s3, .int s4] h) := rIald rfl
set_option maxRecDepth 8000 in
theorem e97_158 (d : Nat) (a0 a1 a2 a3 : Option Value) (s0 s3 : Int32) (s1 : Int64) (s2 : Nat) (h : MH)  : rn d 97 158 [a0, a1, a2, a3] [.int s0, .long s1, .ref s2, .int s3] h = rn d 97 159 [a0, a1, a2, a3] [.long s0.toInt64, .long s1, .ref s2, .int s3] h := rP (i := (.i2l)) rfl rfl
set_option maxRecDepth 8000 in
theorem e97_159 (d : Nat) (a0 a1 a2 a3 : Option Value) (s3 : Int32) (s0 s1 : Int64) (s2 : Nat) (h : MH)  : rn d 97 159 [a0, a1, a2, a3] [.long s0, .long s1, .ref s2, .int s3] h = rn d 97 162 [a0, a1, a2, a3] [.long 4294967295, .long s0, .long s1, .ref s2, .int s3] h := rLdc2 (idx := 18) rfl
set_option maxRecDepth 8000 in
theorem e97_162 (d : Nat) (a0 a1 a2 a3 : Option Value) (s4 : Int32) (s0 s1 s2 : Int64) (s3 : Nat) (h : MH)  : rn d 97 162 [a0, a1, a2, a3] [.long s0, .long s1, .long s2, .ref s3, .int s4] h = rn d 97 163 [a0, a1, a2, a3] [.long (s1 &&& s0), .long s2, .ref s3, .int s4] h := rP (i := (.land)) rfl rfl
set_option maxRecDepth 8000 in
theorem e97_163 (d : Nat) (a0 a1 a2 a3 : Option Value) (s3 : Int32) (s0 s1 : Int64) (s2 : Nat) (h : MH)  : rn d 97 163 [a0, a1, a2, a3] [.long s0, .long s1, .ref s2, .int s3] h = rn d 97 164 [a0, a1, a2, a3] [.long (s1 ||| s0), .ref s2, .int s3] h := rP (i := (.lor)) rfl rfl
set_option maxRecDepth 8000 in
theorem e97_164 (d : Nat) (a0 a1 a2 a3 : Option Value) (s2 : Int32) (s0 : Int64) (s1 : Nat) (h : MH) (hz : clsOf h s1 = some 5) : rn (d + 1) 97 164 [a0, a1, a2, a3] [.long s0, .ref s1, .int s2] h = (rn d 71 0 [some (.ref s1), some (.long s0), mSec, none, none, none] [] h).bind (fun R => rn (d + 1) 97 167 [a0, a1, a2, a3] (R.1.toList ++ [.int s2]) R.2) := rInv (i := (.invokevirtual 24)) (n := 2) (tl := [466, 467, 468, 58]) rfl rfl rfl rfl (by decide) (Nat.le_of_ble_eq_true rfl) (Nat.le_of_ble_eq_true rfl) (Nat.le_of_ble_eq_true rfl) (rcv_V hz)
set_option maxRecDepth 8000 in
theorem e97_167 (d : Nat) (a0 a1 a2 a3 : Option Value) (s0 s1 : Int32) (h : MH)  : rn d 97 167 [a0, a1, a2, a3] [.int s0, .int s1] h = if s1 = s0 then rn d 97 424 [a0, a1, a2, a3] [] h else rn d 97 170 [a0, a1, a2, a3] [] h := rEq2 (off := 257) 424 rfl rfl
set_option maxRecDepth 8000 in
theorem e97_170 (d : Nat) (a0 a1 a2 a3 : Option Value) (h : MH)  : rn d 97 170 [a0, a1, a2, a3] [] h = rn d 97 171 [a0, a1, a2, a3] [.int 0] h := rP (i := (.iconst 0)) rfl rfl
set_option maxRecDepth 8000 in
theorem e97_171 (d : Nat) (a0 a1 a2 a3 : Option Value) (s0 : Int32) (h : MH) (hz : s0 &&& 1 = s0) : rn d 97 171 [a0, a1, a2, a3] [.int s0] h = some (some (.int s0), h) := rIretZ hz rfl rfl
set_option maxRecDepth 8000 in
theorem e97_171q0 (d : Nat) (a0 a1 a2 a3 : Option Value)  (h : MH) : rn d 97 171 [a0, a1, a2, a3] [.int 0] h = some (some (.int 0), h) := rIretZ rfl rfl rfl
set_option maxRecDepth 8000 in
theorem e97_171q1 (d : Nat) (a0 a1 a2 a3 : Option Value)  (h : MH) : rn d 97 171 [a0, a1, a2, a3] [.int 1] h = some (some (.int 1), h) := rIretZ rfl rfl rfl
set_option maxRecDepth 8000 in
theorem e97_172 (d : Nat) (a0 a2 a3 : Option Value) (h : MH) (x : Nat) : rn d 97 172 [a0, some (.ref x), a2, a3] [] h = rn d 97 173 [a0, some (.ref x), a2, a3] [.ref x] h := rP (i := (.aload_n 1)) rfl rfl
set_option maxRecDepth 8000 in
theorem e97_173 (d : Nat) (a1 a2 a3 : Option Value) (s0 : Nat) (h : MH) (x : Nat) : rn d 97 173 [some (.ref x), a1, a2, a3] [.ref s0] h = rn d 97 174 [some (.ref x), a1, a2, a3] [.ref x, .ref s0] h := rP (i := (.aload_n 0)) rfl rfl
set_option maxRecDepth 8000 in
theorem e97_174 (d : Nat) (a0 a1 a2 : Option Value) (s0 s1 : Nat) (h : MH) (x : Int32) : rn d 97 174 [a0, a1, a2, some (.int x)] [.ref s0, .ref s1] h = rn d 97 175 [a0, a1, a2, some (.int x)] [.int x, .ref s0, .ref s1] h := rP (i := (.iload_n 3)) rfl rfl
set_option maxRecDepth 8000 in
theorem e97_175 (d : Nat) (a0 a1 a2 a3 : Option Value) (s0 : Int32) (s1 s2 : Nat) (h : MH)  : rn d 97 175 [a0, a1, a2, a3] [.int s0, .ref s1, .ref s2] h = rn d 97 176 [a0, a1, a2, a3] [.int 1, .int s0, .ref s1, .ref s2] h := rP (i := (.iconst 1)) rfl rfl
set_option maxRecDepth 8000 in
theorem e97_176 (d : Nat) (a0 a1 a2 a3 : Option Value) (s0 s1 : Int32) (s2 s3 : Nat) (h : MH)  : rn d 97 176 [a0, a1, a2, a3] [.int s0, .int s1, .ref s2, .ref s3] h = rn d 97 177 [a0, a1, a2, a3] [.int (s1 + s0), .ref s2, .ref s3] h := rP (i := (.iadd)) rfl rfl
set_option maxRecDepth 8000 in
theorem e97_177 (d : Nat) (a0 a1 a2 a3 : Option Value) (s0 : Int32) (s1 s2 : Nat) (h : MH)  : rn d 97 177 [a0, a1, a2, a3] [.int s0, .ref s1, .ref s2] h = (ageti h 0 s1 s0).bind (fun v => rn d 97 178 [a0, a1, a2, a3] [.int v, .ref s2] h) := rIald rfl
set_option maxRecDepth 8000 in
theorem e97_178 (d : Nat) (a0 a1 a2 a3 : Option Value) (s0 : Int32) (s1 : Nat) (h : MH) (hz : clsOf h s1 = some 0) : rn (d + 1) 97 178 [a0, a1, a2, a3] [.int s0, .ref s1] h = (rn d 11 0 [some (.ref s1), some (.int s0), none, none] [] h).bind (fun R => rn (d + 1) 97 181 [a0, a1, a2, a3] (R.1.toList ++ []) R.2) := rInv (i := (.invokevirtual 25)) (n := 2) (tl := [232, 233, 234, 53]) rfl rfl rfl rfl (by decide) (Nat.le_of_ble_eq_true rfl) (Nat.le_of_ble_eq_true rfl) (Nat.le_of_ble_eq_true rfl) (rcv_V hz)
set_option maxRecDepth 8000 in
theorem e97_181 (d : Nat) (a0 a1 a3 : Option Value) (s0 : Int32) (h : MH) (x : Nat) : rn d 97 181 [a0, a1, some (.ref x), a3] [.int s0] h = rn d 97 182 [a0, a1, some (.ref x), a3] [.ref x, .int s0] h := rP (i := (.aload_n 2)) rfl rfl
set_option maxRecDepth 8000 in
theorem e97_182 (d : Nat) (a1 a2 a3 : Option Value) (s1 : Int32) (s0 : Nat) (h : MH) (x : Nat) : rn d 97 182 [some (.ref x), a1, a2, a3] [.ref s0, .int s1] h = rn d 97 183 [some (.ref x), a1, a2, a3] [.ref x, .ref s0, .int s1] h := rP (i := (.aload_n 0)) rfl rfl
set_option maxRecDepth 8000 in
theorem e97_183 (d : Nat) (a0 a1 a2 : Option Value) (s2 : Int32) (s0 s1 : Nat) (h : MH) (x : Int32) : rn d 97 183 [a0, a1, a2, some (.int x)] [.ref s0, .ref s1, .int s2] h = rn d 97 184 [a0, a1, a2, some (.int x)] [.int x, .ref s0, .ref s1, .int s2] h := rP (i := (.iload_n 3)) rfl rfl
set_option maxRecDepth 8000 in
theorem e97_184 (d : Nat) (a0 a1 a2 a3 : Option Value) (s0 s3 : Int32) (s1 s2 : Nat) (h : MH)  : rn d 97 184 [a0, a1, a2, a3] [.int s0, .ref s1, .ref s2, .int s3] h = rn d 97 185 [a0, a1, a2, a3] [.int 1, .int s0, .ref s1, .ref s2, .int s3] h := rP (i := (.iconst 1)) rfl rfl
set_option maxRecDepth 8000 in
theorem e97_185 (d : Nat) (a0 a1 a2 a3 : Option Value) (s0 s1 s4 : Int32) (s2 s3 : Nat) (h : MH)  : rn d 97 185 [a0, a1, a2, a3] [.int s0, .int s1, .ref s2, .ref s3, .int s4] h = rn d 97 186 [a0, a1, a2, a3] [.int (s1 + s0), .ref s2, .ref s3, .int s4] h := rP (i := (.iadd)) rfl rfl
set_option maxRecDepth 8000 in
theorem e97_186 (d : Nat) (a0 a1 a2 a3 : Option Value) (s0 s3 : Int32) (s1 s2 : Nat) (h : MH)  : rn d 97 186 [a0, a1, a2, a3] [.int s0, .ref s1, .ref s2, .int s3] h = (ageti h 0 s1 s0).bind (fun v => rn d 97 187 [a0, a1, a2, a3] [.int v, .ref s2, .int s3] h) := rIald rfl
set_option maxRecDepth 8000 in
theorem e97_187 (d : Nat) (a0 a1 a2 a3 : Option Value) (s0 s2 : Int32) (s1 : Nat) (h : MH) (hz : clsOf h s1 = some 5) : rn (d + 1) 97 187 [a0, a1, a2, a3] [.int s0, .ref s1, .int s2] h = (rn d 72 0 [some (.ref s1), some (.int s0), none, none, none, none] [] h).bind (fun R => rn (d + 1) 97 190 [a0, a1, a2, a3] (R.1.toList ++ [.int s2]) R.2) := rInv (i := (.invokevirtual 28)) (n := 2) (tl := [471, 472, 473, 58]) rfl rfl rfl rfl (by decide) (Nat.le_of_ble_eq_true rfl) (Nat.le_of_ble_eq_true rfl) (Nat.le_of_ble_eq_true rfl) (rcv_V hz)
set_option maxRecDepth 8000 in
theorem e97_190 (d : Nat) (a0 a1 a2 a3 : Option Value) (s0 s1 : Int32) (h : MH)  : rn d 97 190 [a0, a1, a2, a3] [.int s0, .int s1] h = if s1 = s0 then rn d 97 424 [a0, a1, a2, a3] [] h else rn d 97 193 [a0, a1, a2, a3] [] h := rEq2 (off := 234) 424 rfl rfl
set_option maxRecDepth 8000 in
theorem e97_193 (d : Nat) (a0 a1 a2 a3 : Option Value) (h : MH)  : rn d 97 193 [a0, a1, a2, a3] [] h = rn d 97 194 [a0, a1, a2, a3] [.int 0] h := rP (i := (.iconst 0)) rfl rfl
set_option maxRecDepth 8000 in
theorem e97_194 (d : Nat) (a0 a1 a2 a3 : Option Value) (s0 : Int32) (h : MH) (hz : s0 &&& 1 = s0) : rn d 97 194 [a0, a1, a2, a3] [.int s0] h = some (some (.int s0), h) := rIretZ hz rfl rfl
set_option maxRecDepth 8000 in
theorem e97_194q0 (d : Nat) (a0 a1 a2 a3 : Option Value)  (h : MH) : rn d 97 194 [a0, a1, a2, a3] [.int 0] h = some (some (.int 0), h) := rIretZ rfl rfl rfl
set_option maxRecDepth 8000 in
theorem e97_194q1 (d : Nat) (a0 a1 a2 a3 : Option Value)  (h : MH) : rn d 97 194 [a0, a1, a2, a3] [.int 1] h = some (some (.int 1), h) := rIretZ rfl rfl rfl
set_option maxRecDepth 8000 in
theorem e97_195 (d : Nat) (a0 a2 a3 : Option Value) (h : MH) (x : Nat) : rn d 97 195 [a0, some (.ref x), a2, a3] [] h = rn d 97 196 [a0, some (.ref x), a2, a3] [.ref x] h := rP (i := (.aload_n 1)) rfl rfl
set_option maxRecDepth 8000 in
theorem e97_196 (d : Nat) (a1 a2 a3 : Option Value) (s0 : Nat) (h : MH) (x : Nat) : rn d 97 196 [some (.ref x), a1, a2, a3] [.ref s0] h = rn d 97 197 [some (.ref x), a1, a2, a3] [.ref x, .ref s0] h := rP (i := (.aload_n 0)) rfl rfl
set_option maxRecDepth 8000 in
theorem e97_197 (d : Nat) (a0 a1 a2 : Option Value) (s0 s1 : Nat) (h : MH) (x : Int32) : rn d 97 197 [a0, a1, a2, some (.int x)] [.ref s0, .ref s1] h = rn d 97 198 [a0, a1, a2, some (.int x)] [.int x, .ref s0, .ref s1] h := rP (i := (.iload_n 3)) rfl rfl
set_option maxRecDepth 8000 in
theorem e97_198 (d : Nat) (a0 a1 a2 a3 : Option Value) (s0 : Int32) (s1 s2 : Nat) (h : MH)  : rn d 97 198 [a0, a1, a2, a3] [.int s0, .ref s1, .ref s2] h = rn d 97 199 [a0, a1, a2, a3] [.int 1, .int s0, .ref s1, .ref s2] h := rP (i := (.iconst 1)) rfl rfl
set_option maxRecDepth 8000 in
theorem e97_199 (d : Nat) (a0 a1 a2 a3 : Option Value) (s0 s1 : Int32) (s2 s3 : Nat) (h : MH)  : rn d 97 199 [a0, a1, a2, a3] [.int s0, .int s1, .ref s2, .ref s3] h = rn d 97 200 [a0, a1, a2, a3] [.int (s1 + s0), .ref s2, .ref s3] h := rP (i := (.iadd)) rfl rfl
set_option maxRecDepth 8000 in
theorem e97_200 (d : Nat) (a0 a1 a2 a3 : Option Value) (s0 : Int32) (s1 s2 : Nat) (h : MH)  : rn d 97 200 [a0, a1, a2, a3] [.int s0, .ref s1, .ref s2] h = (ageti h 0 s1 s0).bind (fun v => rn d 97 201 [a0, a1, a2, a3] [.int v, .ref s2] h) := rIald rfl
set_option maxRecDepth 8000 in
theorem e97_201 (d : Nat) (a0 a1 a2 a3 : Option Value) (s0 : Int32) (s1 : Nat) (h : MH) (hz : clsOf h s1 = some 0) : rn (d + 1) 97 201 [a0, a1, a2, a3] [.int s0, .ref s1] h = (rn d 24 0 [some (.ref s1), some (.int s0)] [] h).bind (fun R => rn (d + 1) 97 204 [a0, a1, a2, a3] (R.1.toList ++ []) R.2) := rInv (i := (.invokevirtual 29)) (n := 2) (tl := [272, 273, 274, 53]) rfl rfl rfl rfl (by decide) (Nat.le_of_ble_eq_true rfl) (Nat.le_of_ble_eq_true rfl) (Nat.le_of_ble_eq_true rfl) (rcv_V hz)
set_option maxRecDepth 8000 in
theorem e97_204 (d : Nat) (a0 a1 a3 : Option Value) (s0 : Int32) (h : MH) (x : Nat) : rn d 97 204 [a0, a1, some (.ref x), a3] [.int s0] h = rn d 97 205 [a0, a1, some (.ref x), a3] [.ref x, .int s0] h := rP (i := (.aload_n 2)) rfl rfl
set_option maxRecDepth 8000 in
theorem e97_205 (d : Nat) (a1 a2 a3 : Option Value) (s1 : Int32) (s0 : Nat) (h : MH) (x : Nat) : rn d 97 205 [some (.ref x), a1, a2, a3] [.ref s0, .int s1] h = rn d 97 206 [some (.ref x), a1, a2, a3] [.ref x, .ref s0, .int s1] h := rP (i := (.aload_n 0)) rfl rfl
set_option maxRecDepth 8000 in
theorem e97_206 (d : Nat) (a0 a1 a2 : Option Value) (s2 : Int32) (s0 s1 : Nat) (h : MH) (x : Int32) : rn d 97 206 [a0, a1, a2, some (.int x)] [.ref s0, .ref s1, .int s2] h = rn d 97 207 [a0, a1, a2, some (.int x)] [.int x, .ref s0, .ref s1, .int s2] h := rP (i := (.iload_n 3)) rfl rfl
set_option maxRecDepth 8000 in
theorem e97_207 (d : Nat) (a0 a1 a2 a3 : Option Value) (s0 s3 : Int32) (s1 s2 : Nat) (h : MH)  : rn d 97 207 [a0, a1, a2, a3] [.int s0, .ref s1, .ref s2, .int s3] h = rn d 97 208 [a0, a1, a2, a3] [.int 1, .int s0, .ref s1, .ref s2, .int s3] h := rP (i := (.iconst 1)) rfl rfl
set_option maxRecDepth 8000 in
theorem e97_208 (d : Nat) (a0 a1 a2 a3 : Option Value) (s0 s1 s4 : Int32) (s2 s3 : Nat) (h : MH)  : rn d 97 208 [a0, a1, a2, a3] [.int s0, .int s1, .ref s2, .ref s3, .int s4] h = rn d 97 209 [a0, a1, a2, a3] [.int (s1 + s0), .ref s2, .ref s3, .int s4] h := rP (i := (.iadd)) rfl rfl
set_option maxRecDepth 8000 in
theorem e97_209 (d : Nat) (a0 a1 a2 a3 : Option Value) (s0 s3 : Int32) (s1 s2 : Nat) (h : MH)  : rn d 97 209 [a0, a1, a2, a3] [.int s0, .ref s1, .ref s2, .int s3] h = (ageti h 0 s1 s0).bind (fun v => rn d 97 210 [a0, a1, a2, a3] [.int v, .ref s2, .int s3] h) := rIald rfl
set_option maxRecDepth 8000 in
theorem e97_210 (d : Nat) (a0 a1 a2 a3 : Option Value) (s0 s2 : Int32) (s1 : Nat) (h : MH) (hz : clsOf h s1 = some 5) : rn (d + 1) 97 210 [a0, a1, a2, a3] [.int s0, .ref s1, .int s2] h = (rn d 75 0 [some (.ref s1), some (.int s0)] [] h).bind (fun R => rn (d + 1) 97 213 [a0, a1, a2, a3] (R.1.toList ++ [.int s2]) R.2) := rInv (i := (.invokevirtual 32)) (n := 2) (tl := [481, 482, 483, 58]) rfl rfl rfl rfl (by decide) (Nat.le_of_ble_eq_true rfl) (Nat.le_of_ble_eq_true rfl) (Nat.le_of_ble_eq_true rfl) (rcv_V hz)
set_option maxRecDepth 8000 in
theorem e97_213 (d : Nat) (a0 a1 a2 a3 : Option Value) (s0 s1 : Int32) (h : MH)  : rn d 97 213 [a0, a1, a2, a3] [.int s0, .int s1] h = if s1 = s0 then rn d 97 424 [a0, a1, a2, a3] [] h else rn d 97 216 [a0, a1, a2, a3] [] h := rEq2 (off := 211) 424 rfl rfl
set_option maxRecDepth 8000 in
theorem e97_216 (d : Nat) (a0 a1 a2 a3 : Option Value) (h : MH)  : rn d 97 216 [a0, a1, a2, a3] [] h = rn d 97 217 [a0, a1, a2, a3] [.int 0] h := rP (i := (.iconst 0)) rfl rfl
set_option maxRecDepth 8000 in
theorem e97_217 (d : Nat) (a0 a1 a2 a3 : Option Value) (s0 : Int32) (h : MH) (hz : s0 &&& 1 = s0) : rn d 97 217 [a0, a1, a2, a3] [.int s0] h = some (some (.int s0), h) := rIretZ hz rfl rfl
set_option maxRecDepth 8000 in
theorem e97_217q0 (d : Nat) (a0 a1 a2 a3 : Option Value)  (h : MH) : rn d 97 217 [a0, a1, a2, a3] [.int 0] h = some (some (.int 0), h) := rIretZ rfl rfl rfl
set_option maxRecDepth 8000 in
theorem e97_217q1 (d : Nat) (a0 a1 a2 a3 : Option Value)  (h : MH) : rn d 97 217 [a0, a1, a2, a3] [.int 1] h = some (some (.int 1), h) := rIretZ rfl rfl rfl
set_option maxRecDepth 8000 in
theorem e97_218 (d : Nat) (a0 a2 a3 : Option Value) (h : MH) (x : Nat) : rn d 97 218 [a0, some (.ref x), a2, a3] [] h = rn d 97 219 [a0, some (.ref x), a2, a3] [.ref x] h := rP (i := (.aload_n 1)) rfl rfl
set_option maxRecDepth 8000 in
theorem e97_219 (d : Nat) (a1 a2 a3 : Option Value) (s0 : Nat) (h : MH) (x : Nat) : rn d 97 219 [some (.ref x), a1, a2, a3] [.ref s0] h = rn d 97 220 [some (.ref x), a1, a2, a3] [.ref x, .ref s0] h := rP (i := (.aload_n 0)) rfl rfl
set_option maxRecDepth 8000 in
theorem e97_220 (d : Nat) (a0 a1 a2 : Option Value) (s0 s1 : Nat) (h : MH) (x : Int32) : rn d 97 220 [a0, a1, a2, some (.int x)] [.ref s0, .ref s1] h = rn d 97 221 [a0, a1, a2, some (.int x)] [.int x, .ref s0, .ref s1] h := rP (i := (.iload_n 3)) rfl rfl
set_option maxRecDepth 8000 in
theorem e97_221 (d : Nat) (a0 a1 a2 a3 : Option Value) (s0 : Int32) (s1 s2 : Nat) (h : MH)  : rn d 97 221 [a0, a1, a2, a3] [.int s0, .ref s1, .ref s2] h = rn d 97 222 [a0, a1, a2, a3] [.int 1, .int s0, .ref s1, .ref s2] h := rP (i := (.iconst 1)) rfl rfl
set_option maxRecDepth 8000 in
theorem e97_222 (d : Nat) (a0 a1 a2 a3 : Option Value) (s0 s1 : Int32) (s2 s3 : Nat) (h : MH)  : rn d 97 222 [a0, a1, a2, a3] [.int s0, .int s1, .ref s2, .ref s3] h = rn d 97 223 [a0, a1, a2, a3] [.int (s1 + s0), .ref s2, .ref s3] h := rP (i := (.iadd)) rfl rfl
set_option maxRecDepth 8000 in
theorem e97_223 (d : Nat) (a0 a1 a2 a3 : Option Value) (s0 : Int32) (s1 s2 : Nat) (h : MH)  : rn d 97 223 [a0, a1, a2, a3] [.int s0, .ref s1, .ref s2] h = (ageti h 0 s1 s0).bind (fun v => rn d 97 224 [a0, a1, a2, a3] [.int v, .ref s2] h) := rIald rfl
set_option maxRecDepth 8000 in
theorem e97_224 (d : Nat) (a1 a2 a3 : Option Value) (s0 : Int32) (s1 : Nat) (h : MH) (x : Nat) : rn d 97 224 [some (.ref x), a1, a2, a3] [.int s0, .ref s1] h = rn d 97 225 [some (.ref x), a1, a2, a3] [.ref x, .int s0, .ref s1] h := rP (i := (.aload_n 0)) rfl rfl
set_option maxRecDepth 8000 in
theorem e97_225 (d : Nat) (a0 a1 a2 : Option Value) (s1 : Int32) (s0 s2 : Nat) (h : MH) (x : Int32) : rn d 97 225 [a0, a1, a2, some (.int x)] [.ref s0, .int s1, .ref s2] h = rn d 97 226 [a0, a1, a2, some (.int x)] [.int x, .ref s0, .int s1, .ref s2] h := rP (i := (.iload_n 3)) rfl rfl
set_option maxRecDepth 8000 in
theorem e97_226 (d : Nat) (a0 a1 a2 a3 : Option Value) (s0 s2 : Int32) (s1 s3 : Nat) (h : MH)  : rn d 97 226 [a0, a1, a2, a3] [.int s0, .ref s1, .int s2, .ref s3] h = rn d 97 227 [a0, a1, a2, a3] [.int 2, .int s0, .ref s1, .int s2, .ref s3] h := rP (i := (.iconst 2)) rfl rfl
set_option maxRecDepth 8000 in
theorem e97_227 (d : Nat) (a0 a1 a2 a3 : Option Value) (s0 s1 s3 : Int32) (s2 s4 : Nat) (h : MH)  : rn d 97 227 [a0, a1, a2, a3] [.int s0, .int s1, .ref s2, .int s3, .ref s4] h = rn d 97 228 [a0, a1, a2, a3] [.int (s1 + s0), .ref s2, .int s3, .ref s4] h := rP (i := (.iadd)) rfl rfl
set_option maxRecDepth 8000 in
theorem e97_228 (d : Nat) (a0 a1 a2 a3 : Option Value) (s0 s2 : Int32) (s1 s3 : Nat) (h : MH)  : rn d 97 228 [a0, a1, a2, a3] [.int s0, .ref s1, .int s2, .ref s3] h = (ageti h 0 s1 s0).bind (fun v => rn d 97 229 [a0, a1, a2, a3] [.int v, .int s2, .ref s3] h) := rIald rfl
set_option maxRecDepth 8000 in
theorem e97_229 (d : Nat) (a0 a1 a2 a3 : Option Value) (s0 s1 : Int32) (s2 : Nat) (h : MH) (hz : clsOf h s2 = some 0) : rn (d + 1) 97 229 [a0, a1, a2, a3] [.int s0, .int s1, .ref s2] h = (rn d 26 0 [some (.ref s2), some (.int s1), some (.int s0)] [] h).bind (fun R => rn (d + 1) 97 232 [a0, a1, a2, a3] (R.1.toList ++ []) R.2) := rInv (i := (.invokevirtual 33)) (n := 3) (tl := [278, 279, 280, 53]) rfl rfl rfl rfl (by decide) (Nat.le_of_ble_eq_true rfl) (Nat.le_of_ble_eq_true rfl) (Nat.le_of_ble_eq_true rfl) (rcv_V hz)
set_option maxRecDepth 8000 in
theorem e97_232 (d : Nat) (a0 a1 a3 : Option Value) (s0 : Int32) (h : MH) (x : Nat) : rn d 97 232 [a0, a1, some (.ref x), a3] [.int s0] h = rn d 97 233 [a0, a1, some (.ref x), a3] [.ref x, .int s0] h := rP (i := (.aload_n 2)) rfl rfl
set_option maxRecDepth 8000 in
theorem e97_233 (d : Nat) (a1 a2 a3 : Option Value) (s1 : Int32) (s0 : Nat) (h : MH) (x : Nat) : rn d 97 233 [some (.ref x), a1, a2, a3] [.ref s0, .int s1] h = rn d 97 234 [some (.ref x), a1, a2, a3] [.ref x, .ref s0, .int s1] h := rP (i := (.aload_n 0)) rfl rfl
set_option maxRecDepth 8000 in
theorem e97_234 (d : Nat) (a0 a1 a2 : Option Value) (s2 : Int32) (s0 s1 : Nat) (h : MH) (x : Int32) : rn d 97 234 [a0, a1, a2, some (.int x)] [.ref s0, .ref s1, .int s2] h = rn d 97 235 [a0, a1, a2, some (.int x)] [.int x, .ref s0, .ref s1, .int s2] h := rP (i := (.iload_n 3)) rfl rfl
set_option maxRecDepth 8000 in
theorem e97_235 (d : Nat) (a0 a1 a2 a3 : Option Value) (s0 s3 : Int32) (s1 s2 : Nat) (h : MH)  : rn d 97 235 [a0, a1, a2, a3] [.int s0, .ref s1, .ref s2, .int s3] h = rn d 97 236 [a0, a1, a2, a3] [.int 1, .int s0, .ref s1, .ref s2, .int s3] h := rP (i := (.iconst 1)) rfl rfl
set_option maxRecDepth 8000 in
theorem e97_236 (d : Nat) (a0 a1 a2 a3 : Option Value) (s0 s1 s4 : Int32) (s2 s3 : Nat) (h : MH)  : rn d 97 236 [a0, a1, a2, a3] [.int s0, .int s1, .ref s2, .ref s3, .int s4] h = rn d 97 237 [a0, a1, a2, a3] [.int (s1 + s0), .ref s2, .ref s3, .int s4] h := rP (i := (.iadd)) rfl rfl
set_option maxRecDepth 8000 in
theorem e97_237 (d : Nat) (a0 a1 a2 a3 : Option Value) (s0 s3 : Int32) (s1 s2 : Nat) (h : MH)  : rn d 97 237 [a0, a1, a2, a3] [.int s0, .ref s1, .ref s2, .int s3] h = (ageti h 0 s1 s0).bind (fun v => rn d 97 238 [a0, a1, a2, a3] [.int v, .ref s2, .int s3] h) := rIald rfl
set_option maxRecDepth 8000 in
theorem e97_238 (d : Nat) (a1 a2 a3 : Option Value) (s0 s2 : Int32) (s1 : Nat) (h : MH) (x : Nat) : rn d 97 238 [some (.ref x), a1, a2, a3] [.int s0, .ref s1, .int s2] h = rn d 97 239 [some (.ref x), a1, a2, a3] [.ref x, .int s0, .ref s1, .int s2] h := rP (i := (.aload_n 0)) rfl rfl
set_option maxRecDepth 8000 in
theorem e97_239 (d : Nat) (a0 a1 a2 : Option Value) (s1 s3 : Int32) (s0 s2 : Nat) (h : MH) (x : Int32) : rn d 97 239 [a0, a1, a2, some (.int x)] [.ref s0, .int s1, .ref s2, .int s3] h = rn d 97 240 [a0, a1, a2, some (.int x)] [.int x, .ref s0, .int s1, .ref s2, .int s3] h := rP (i := (.iload_n 3)) rfl rfl
set_option maxRecDepth 8000 in
theorem e97_240 (d : Nat) (a0 a1 a2 a3 : Option Value) (s0 s2 s4 : Int32) (s1 s3 : Nat) (h : MH)  : rn d 97 240 [a0, a1, a2, a3] [.int s0, .ref s1, .int s2, .ref s3, .int s4] h = rn d 97 241 [a0, a1, a2, a3] [.int 2, .int s0, .ref s1, .int s2, .ref s3, .int s4] h := rP (i := (.iconst 2)) rfl rfl
set_option maxRecDepth 8000 in
theorem e97_241 (d : Nat) (a0 a1 a2 a3 : Option Value) (s0 s1 s3 s5 : Int32) (s2 s4 : Nat) (h : MH)  : rn d 97 241 [a0, a1, a2, a3] [.int s0, .int s1, .ref s2, .int s3, .ref s4, .int s5] h = rn d 97 242 [a0, a1, a2, a3] [.int (s1 + s0), .ref s2, .int s3, .ref s4, .int s5] h := rP (i := (.iadd)) rfl rfl
set_option maxRecDepth 8000 in
theorem e97_242 (d : Nat) (a0 a1 a2 a3 : Option Value) (s0 s2 s4 : Int32) (s1 s3 : Nat) (h : MH)  : rn d 97 242 [a0, a1, a2, a3] [.int s0, .ref s1, .int s2, .ref s3, .int s4] h = (ageti h 0 s1 s0).bind (fun v => rn d 97 243 [a0, a1, a2, a3] [.int v, .int s2, .ref s3, .int s4] h) := rIald rfl
set_option maxRecDepth 8000 in
theorem e97_243 (d : Nat) (a0 a1 a2 a3 : Option Value) (s0 s1 s3 : Int32) (s2 : Nat) (h : MH) (hz : clsOf h s2 = some 5) : rn (d + 1) 97 243 [a0, a1, a2, a3] [.int s0, .int s1, .ref s2, .int s3] h = (rn d 76 0 [some (.ref s2), some (.int s1), some (.int s0)] [] h).bind (fun R => rn (d + 1) 97 246 [a0, a1, a2, a3] (R.1.toList ++ [.int s3]) R.2) := rInv (i := (.invokevirtual 37)) (n := 3) (tl := [485, 486, 487, 58]) rfl rfl rfl rfl (by decide) (Nat.le_of_ble_eq_true rfl) (Nat.le_of_ble_eq_true rfl) (Nat.le_of_ble_eq_true rfl) (rcv_V hz)
set_option maxRecDepth 8000 in
theorem e97_246 (d : Nat) (a0 a1 a2 a3 : Option Value) (s0 s1 : Int32) (h : MH)  : rn d 97 246 [a0, a1, a2, a3] [.int s0, .int s1] h = if s1 = s0 then rn d 97 424 [a0, a1, a2, a3] [] h else rn d 97 249 [a0, a1, a2, a3] [] h := rEq2 (off := 178) 424 rfl rfl
set_option maxRecDepth 8000 in
theorem e97_249 (d : Nat) (a0 a1 a2 a3 : Option Value) (h : MH)  : rn d 97 249 [a0, a1, a2, a3] [] h = rn d 97 250 [a0, a1, a2, a3] [.int 0] h := rP (i := (.iconst 0)) rfl rfl
set_option maxRecDepth 8000 in
theorem e97_250 (d : Nat) (a0 a1 a2 a3 : Option Value) (s0 : Int32) (h : MH) (hz : s0 &&& 1 = s0) : rn d 97 250 [a0, a1, a2, a3] [.int s0] h = some (some (.int s0), h) := rIretZ hz rfl rfl
set_option maxRecDepth 8000 in
theorem e97_250q0 (d : Nat) (a0 a1 a2 a3 : Option Value)  (h : MH) : rn d 97 250 [a0, a1, a2, a3] [.int 0] h = some (some (.int 0), h) := rIretZ rfl rfl rfl
set_option maxRecDepth 8000 in
theorem e97_250q1 (d : Nat) (a0 a1 a2 a3 : Option Value)  (h : MH) : rn d 97 250 [a0, a1, a2, a3] [.int 1] h = some (some (.int 1), h) := rIretZ rfl rfl rfl
set_option maxRecDepth 8000 in
theorem e97_251 (d : Nat) (a0 a2 a3 : Option Value) (h : MH) (x : Nat) : rn d 97 251 [a0, some (.ref x), a2, a3] [] h = rn d 97 252 [a0, some (.ref x), a2, a3] [.ref x] h := rP (i := (.aload_n 1)) rfl rfl
set_option maxRecDepth 8000 in
theorem e97_252 (d : Nat) (a1 a2 a3 : Option Value) (s0 : Nat) (h : MH) (x : Nat) : rn d 97 252 [some (.ref x), a1, a2, a3] [.ref s0] h = rn d 97 253 [some (.ref x), a1, a2, a3] [.ref x, .ref s0] h := rP (i := (.aload_n 0)) rfl rfl
set_option maxRecDepth 8000 in
theorem e97_253 (d : Nat) (a0 a1 a2 : Option Value) (s0 s1 : Nat) (h : MH) (x : Int32) : rn d 97 253 [a0, a1, a2, some (.int x)] [.ref s0, .ref s1] h = rn d 97 254 [a0, a1, a2, some (.int x)] [.int x, .ref s0, .ref s1] h := rP (i := (.iload_n 3)) rfl rfl
set_option maxRecDepth 8000 in
theorem e97_254 (d : Nat) (a0 a1 a2 a3 : Option Value) (s0 : Int32) (s1 s2 : Nat) (h : MH)  : rn d 97 254 [a0, a1, a2, a3] [.int s0, .ref s1, .ref s2] h = rn d 97 255 [a0, a1, a2, a3] [.int 1, .int s0, .ref s1, .ref s2] h := rP (i := (.iconst 1)) rfl rfl
set_option maxRecDepth 8000 in
theorem e97_255 (d : Nat) (a0 a1 a2 a3 : Option Value) (s0 s1 : Int32) (s2 s3 : Nat) (h : MH)  : rn d 97 255 [a0, a1, a2, a3] [.int s0, .int s1, .ref s2, .ref s3] h = rn d 97 256 [a0, a1, a2, a3] [.int (s1 + s0), .ref s2, .ref s3] h := rP (i := (.iadd)) rfl rfl
set_option maxRecDepth 8000 in
theorem e97_256 (d : Nat) (a0 a1 a2 a3 : Option Value) (s0 : Int32) (s1 s2 : Nat) (h : MH)  : rn d 97 256 [a0, a1, a2, a3] [.int s0, .ref s1, .ref s2] h = (ageti h 0 s1 s0).bind (fun v => rn d 97 257 [a0, a1, a2, a3] [.int v, .ref s2] h) := rIald rfl
set_option maxRecDepth 8000 in
theorem e97_257 (d : Nat) (a1 a2 a3 : Option Value) (s0 : Int32) (s1 : Nat) (h : MH) (x : Nat) : rn d 97 257 [some (.ref x), a1, a2, a3] [.int s0, .ref s1] h = rn d 97 258 [some (.ref x), a1, a2, a3] [.ref x, .int s0, .ref s1] h := rP (i := (.aload_n 0)) rfl rfl
set_option maxRecDepth 8000 in
theorem e97_258 (d : Nat) (a0 a1 a2 : Option Value) (s1 : Int32) (s0 s2 : Nat) (h : MH) (x : Int32) : rn d 97 258 [a0, a1, a2, some (.int x)] [.ref s0, .int s1, .ref s2] h = rn d 97 259 [a0, a1, a2, some (.int x)] [.int x, .ref s0, .int s1, .ref s2] h := rP (i := (.iload_n 3)) rfl rfl
set_option maxRecDepth 8000 in
theorem e97_259 (d : Nat) (a0 a1 a2 a3 : Option Value) (s0 s2 : Int32) (s1 s3 : Nat) (h : MH)  : rn d 97 259 [a0, a1, a2, a3] [.int s0, .ref s1, .int s2, .ref s3] h = rn d 97 260 [a0, a1, a2, a3] [.int 2, .int s0, .ref s1, .int s2, .ref s3] h := rP (i := (.iconst 2)) rfl rfl
set_option maxRecDepth 8000 in
theorem e97_260 (d : Nat) (a0 a1 a2 a3 : Option Value) (s0 s1 s3 : Int32) (s2 s4 : Nat) (h : MH)  : rn d 97 260 [a0, a1, a2, a3] [.int s0, .int s1, .ref s2, .int s3, .ref s4] h = rn d 97 261 [a0, a1, a2, a3] [.int (s1 + s0), .ref s2, .int s3, .ref s4] h := rP (i := (.iadd)) rfl rfl
set_option maxRecDepth 8000 in
theorem e97_261 (d : Nat) (a0 a1 a2 a3 : Option Value) (s0 s2 : Int32) (s1 s3 : Nat) (h : MH)  : rn d 97 261 [a0, a1, a2, a3] [.int s0, .ref s1, .int s2, .ref s3] h = (ageti h 0 s1 s0).bind (fun v => rn d 97 262 [a0, a1, a2, a3] [.int v, .int s2, .ref s3] h) := rIald rfl
set_option maxRecDepth 8000 in
theorem e97_262 (d : Nat) (a0 a1 a2 a3 : Option Value) (s0 s1 : Int32) (s2 : Nat) (h : MH) (hz : clsOf h s2 = some 0) : rn (d + 1) 97 262 [a0, a1, a2, a3] [.int s0, .int s1, .ref s2] h = (rn d 27 0 [some (.ref s2), some (.int s1), some (.int s0)] [] h).bind (fun R => rn (d + 1) 97 265 [a0, a1, a2, a3] (R.1.toList ++ []) R.2) := rInv (i := (.invokevirtual 38)) (n := 3) (tl := [282, 283, 284, 53]) rfl rfl rfl rfl (by decide) (Nat.le_of_ble_eq_true rfl) (Nat.le_of_ble_eq_true rfl) (Nat.le_of_ble_eq_true rfl) (rcv_V hz)
set_option maxRecDepth 8000 in
theorem e97_265 (d : Nat) (a0 a1 a3 : Option Value) (s0 : Int32) (h : MH) (x : Nat) : rn d 97 265 [a0, a1, some (.ref x), a3] [.int s0] h = rn d 97 266 [a0, a1, some (.ref x), a3] [.ref x, .int s0] h := rP (i := (.aload_n 2)) rfl rfl
set_option maxRecDepth 8000 in
theorem e97_266 (d : Nat) (a1 a2 a3 : Option Value) (s1 : Int32) (s0 : Nat) (h : MH) (x : Nat) : rn d 97 266 [some (.ref x), a1, a2, a3] [.ref s0, .int s1] h = rn d 97 267 [some (.ref x), a1, a2, a3] [.ref x, .ref s0, .int s1] h := rP (i := (.aload_n 0)) rfl rfl
set_option maxRecDepth 8000 in
theorem e97_267 (d : Nat) (a0 a1 a2 : Option Value) (s2 : Int32) (s0 s1 : Nat) (h : MH) (x : Int32) : rn d 97 267 [a0, a1, a2, some (.int x)] [.ref s0, .ref s1, .int s2] h = rn d 97 268 [a0, a1, a2, some (.int x)] [.int x, .ref s0, .ref s1, .int s2] h := rP (i := (.iload_n 3)) rfl rfl
set_option maxRecDepth 8000 in
theorem e97_268 (d : Nat) (a0 a1 a2 a3 : Option Value) (s0 s3 : Int32) (s1 s2 : Nat) (h : MH)  : rn d 97 268 [a0, a1, a2, a3] [.int s0, .ref s1, .ref s2, .int s3] h = rn d 97 269 [a0, a1, a2, a3] [.int 1, .int s0, .ref s1, .ref s2, .int s3] h := rP (i := (.iconst 1)) rfl rfl
set_option maxRecDepth 8000 in
theorem e97_269 (d : Nat) (a0 a1 a2 a3 : Option Value) (s0 s1 s4 : Int32) (s2 s3 : Nat) (h : MH)  : rn d 97 269 [a0, a1, a2, a3] [.int s0, .int s1, .ref s2, .ref s3, .int s4] h = rn d 97 270 [a0, a1, a2, a3] [.int (s1 + s0), .ref s2, .ref s3, .int s4] h := rP (i := (.iadd)) rfl rfl
set_option maxRecDepth 8000 in
theorem e97_270 (d : Nat) (a0 a1 a2 a3 : Option Value) (s0 s3 : Int32) (s1 s2 : Nat) (h : MH)  : rn d 97 270 [a0, a1, a2, a3] [.int s0, .ref s1, .ref s2, .int s3] h = (ageti h 0 s1 s0).bind (fun v => rn d 97 271 [a0, a1, a2, a3] [.int v, .ref s2, .int s3] h) := rIald rfl
set_option maxRecDepth 8000 in
theorem e97_271 (d : Nat) (a1 a2 a3 : Option Value) (s0 s2 : Int32) (s1 : Nat) (h : MH) (x : Nat) : rn d 97 271 [some (.ref x), a1, a2, a3] [.int s0, .ref s1, .int s2] h = rn d 97 272 [some (.ref x), a1, a2, a3] [.ref x, .int s0, .ref s1, .int s2] h := rP (i := (.aload_n 0)) rfl rfl
set_option maxRecDepth 8000 in
theorem e97_272 (d : Nat) (a0 a1 a2 : Option Value) (s1 s3 : Int32) (s0 s2 : Nat) (h : MH) (x : Int32) : rn d 97 272 [a0, a1, a2, some (.int x)] [.ref s0, .int s1, .ref s2, .int s3] h = rn d 97 273 [a0, a1, a2, some (.int x)] [.int x, .ref s0, .int s1, .ref s2, .int s3] h := rP (i := (.iload_n 3)) rfl rfl
set_option maxRecDepth 8000 in
theorem e97_273 (d : Nat) (a0 a1 a2 a3 : Option Value) (s0 s2 s4 : Int32) (s1 s3 : Nat) (h : MH)  : rn d 97 273 [a0, a1, a2, a3] [.int s0, .ref s1, .int s2, .ref s3, .int s4] h = rn d 97 274 [a0, a1, a2, a3] [.int 2, .int s0, .ref s1, .int s2, .ref s3, .int s4] h := rP (i := (.iconst 2)) rfl rfl
set_option maxRecDepth 8000 in
theorem e97_274 (d : Nat) (a0 a1 a2 a3 : Option Value) (s0 s1 s3 s5 : Int32) (s2 s4 : Nat) (h : MH)  : rn d 97 274 [a0, a1, a2, a3] [.int s0, .int s1, .ref s2, .int s3, .ref s4, .int s5] h = rn d 97 275 [a0, a1, a2, a3] [.int (s1 + s0), .ref s2, .int s3, .ref s4, .int s5] h := rP (i := (.iadd)) rfl rfl
set_option maxRecDepth 8000 in
theorem e97_275 (d : Nat) (a0 a1 a2 a3 : Option Value) (s0 s2 s4 : Int32) (s1 s3 : Nat) (h : MH)  : rn d 97 275 [a0, a1, a2, a3] [.int s0, .ref s1, .int s2, .ref s3, .int s4] h = (ageti h 0 s1 s0).bind (fun v => rn d 97 276 [a0, a1, a2, a3] [.int v, .int s2, .ref s3, .int s4] h) := rIald rfl
set_option maxRecDepth 8000 in
theorem e97_276 (d : Nat) (a0 a1 a2 a3 : Option Value) (s0 s1 s3 : Int32) (s2 : Nat) (h : MH) (hz : clsOf h s2 = some 5) : rn (d + 1) 97 276 [a0, a1, a2, a3] [.int s0, .int s1, .ref s2, .int s3] h = (rn d 77 0 [some (.ref s2), some (.int s1), some (.int s0)] [] h).bind (fun R => rn (d + 1) 97 279 [a0, a1, a2, a3] (R.1.toList ++ [.int s3]) R.2) := rInv (i := (.invokevirtual 41)) (n := 3) (tl := [489, 490, 491, 58]) rfl rfl rfl rfl (by decide) (Nat.le_of_ble_eq_true rfl) (Nat.le_of_ble_eq_true rfl) (Nat.le_of_ble_eq_true rfl) (rcv_V hz)
set_option maxRecDepth 8000 in
theorem e97_279 (d : Nat) (a0 a1 a2 a3 : Option Value) (s0 s1 : Int32) (h : MH)  : rn d 97 279 [a0, a1, a2, a3] [.int s0, .int s1] h = if s1 = s0 then rn d 97 424 [a0, a1, a2, a3] [] h else rn d 97 282 [a0, a1, a2, a3] [] h := rEq2 (off := 145) 424 rfl rfl
set_option maxRecDepth 8000 in
theorem e97_282 (d : Nat) (a0 a1 a2 a3 : Option Value) (h : MH)  : rn d 97 282 [a0, a1, a2, a3] [] h = rn d 97 283 [a0, a1, a2, a3] [.int 0] h := rP (i := (.iconst 0)) rfl rfl
set_option maxRecDepth 8000 in
theorem e97_283 (d : Nat) (a0 a1 a2 a3 : Option Value) (s0 : Int32) (h : MH) (hz : s0 &&& 1 = s0) : rn d 97 283 [a0, a1, a2, a3] [.int s0] h = some (some (.int s0), h) := rIretZ hz rfl rfl
set_option maxRecDepth 8000 in
theorem e97_283q0 (d : Nat) (a0 a1 a2 a3 : Option Value)  (h : MH) : rn d 97 283 [a0, a1, a2, a3] [.int 0] h = some (some (.int 0), h) := rIretZ rfl rfl rfl
set_option maxRecDepth 8000 in
theorem e97_283q1 (d : Nat) (a0 a1 a2 a3 : Option Value)  (h : MH) : rn d 97 283 [a0, a1, a2, a3] [.int 1] h = some (some (.int 1), h) := rIretZ rfl rfl rfl
set_option maxRecDepth 8000 in
theorem e97_284 (d : Nat) (a0 a2 a3 : Option Value) (h : MH) (x : Nat) : rn d 97 284 [a0, some (.ref x), a2, a3] [] h = rn d 97 285 [a0, some (.ref x), a2, a3] [.ref x] h := rP (i := (.aload_n 1)) rfl rfl
set_option maxRecDepth 8000 in
theorem e97_285 (d : Nat) (a0 a1 a2 a3 : Option Value) (s0 : Nat) (h : MH) (hz : clsOf h s0 = some 0) : rn (d + 1) 97 285 [a0, a1, a2, a3] [.ref s0] h = (rn d 28 0 [some (.ref s0), none] [] h).bind (fun R => rn (d + 1) 97 288 [a0, a1, a2, a3] (R.1.toList ++ []) R.2) := rInv (i := (.invokevirtual 42)) (n := 1) (tl := [286, 287, 288, 53]) rfl rfl rfl rfl (by decide) (Nat.le_of_ble_eq_true rfl) (Nat.le_of_ble_eq_true rfl) (Nat.le_of_ble_eq_true rfl) (rcv_V hz)
set_option maxRecDepth 8000 in
theorem e97_288 (d : Nat) (a0 a1 a3 : Option Value) (s0 : Int32) (h : MH) (x : Nat) : rn d 97 288 [a0, a1, some (.ref x), a3] [.int s0] h = rn d 97 289 [a0, a1, some (.ref x), a3] [.ref x, .int s0] h := rP (i := (.aload_n 2)) rfl rfl
set_option maxRecDepth 8000 in
theorem e97_289 (d : Nat) (a0 a1 a2 a3 : Option Value) (s1 : Int32) (s0 : Nat) (h : MH) (hz : clsOf h s0 = some 5) : rn (d + 1) 97 289 [a0, a1, a2, a3] [.ref s0, .int s1] h = (rn d 78 0 [some (.ref s0), none, none, none] [] h).bind (fun R => rn (d + 1) 97 292 [a0, a1, a2, a3] (R.1.toList ++ [.int s1]) R.2) := rInv (i := (.invokevirtual 46)) (n := 1) (tl := [493, 494, 495, 58]) rfl rfl rfl rfl (by decide) (Nat.le_of_ble_eq_true rfl) (Nat.le_of_ble_eq_true rfl) (Nat.le_of_ble_eq_true rfl) (rcv_V hz)
set_option maxRecDepth 8000 in
theorem e97_292 (d : Nat) (a0 a1 a2 a3 : Option Value) (s0 s1 : Int32) (h : MH)  : rn d 97 292 [a0, a1, a2, a3] [.int s0, .int s1] h = if s1 = s0 then rn d 97 424 [a0, a1, a2, a3] [] h else rn d 97 295 [a0, a1, a2, a3] [] h := rEq2 (off := 132) 424 rfl rfl
set_option maxRecDepth 8000 in
theorem e97_295 (d : Nat) (a0 a1 a2 a3 : Option Value) (h : MH)  : rn d 97 295 [a0, a1, a2, a3] [] h = rn d 97 296 [a0, a1, a2, a3] [.int 0] h := rP (i := (.iconst 0)) rfl rfl
set_option maxRecDepth 8000 in
theorem e97_296 (d : Nat) (a0 a1 a2 a3 : Option Value) (s0 : Int32) (h : MH) (hz : s0 &&& 1 = s0) : rn d 97 296 [a0, a1, a2, a3] [.int s0] h = some (some (.int s0), h) := rIretZ hz rfl rfl
set_option maxRecDepth 8000 in
theorem e97_296q0 (d : Nat) (a0 a1 a2 a3 : Option Value)  (h : MH) : rn d 97 296 [a0, a1, a2, a3] [.int 0] h = some (some (.int 0), h) := rIretZ rfl rfl rfl
set_option maxRecDepth 8000 in
theorem e97_296q1 (d : Nat) (a0 a1 a2 a3 : Option Value)  (h : MH) : rn d 97 296 [a0, a1, a2, a3] [.int 1] h = some (some (.int 1), h) := rIretZ rfl rfl rfl
set_option maxRecDepth 8000 in
theorem e97_297 (d : Nat) (a0 a2 a3 : Option Value) (h : MH) (x : Nat) : rn d 97 297 [a0, some (.ref x), a2, a3] [] h = rn d 97 298 [a0, some (.ref x), a2, a3] [.ref x] h := rP (i := (.aload_n 1)) rfl rfl
set_option maxRecDepth 8000 in
theorem e97_298 (d : Nat) (a1 a2 a3 : Option Value) (s0 : Nat) (h : MH) (x : Nat) : rn d 97 298 [some (.ref x), a1, a2, a3] [.ref s0] h = rn d 97 299 [some (.ref x), a1, a2, a3] [.ref x, .ref s0] h := rP (i := (.aload_n 0)) rfl rfl
set_option maxRecDepth 8000 in
theorem e97_299 (d : Nat) (a0 a1 a2 : Option Value) (s0 s1 : Nat) (h : MH) (x : Int32) : rn d 97 299 [a0, a1, a2, some (.int x)] [.ref s0, .ref s1] h = rn d 97 300 [a0, a1, a2, some (.int x)] [.int x, .ref s0, .ref s1] h := rP (i := (.iload_n 3)) rfl rfl
set_option maxRecDepth 8000 in
theorem e97_300 (d : Nat) (a0 a1 a2 a3 : Option Value) (s0 : Int32) (s1 s2 : Nat) (h : MH)  : rn d 97 300 [a0, a1, a2, a3] [.int s0, .ref s1, .ref s2] h = rn d 97 301 [a0, a1, a2, a3] [.int 1, .int s0, .ref s1, .ref s2] h := rP (i := (.iconst 1)) rfl rfl
set_option maxRecDepth 8000 in
theorem e97_301 (d : Nat) (a0 a1 a2 a3 : Option Value) (s0 s1 : Int32) (s2 s3 : Nat) (h : MH)  : rn d 97 301 [a0, a1, a2, a3] [.int s0, .int s1, .ref s2, .ref s3] h = rn d 97 302 [a0, a1, a2, a3] [.int (s1 + s0), .ref s2, .ref s3] h := rP (i := (.iadd)) rfl rfl
set_option maxRecDepth 8000 in
theorem e97_302 (d : Nat) (a0 a1 a2 a3 : Option Value) (s0 : Int32) (s1 s2 : Nat) (h : MH)  : rn d 97 302 [a0, a1, a2, a3] [.int s0, .ref s1, .ref s2] h = (ageti h 0 s1 s0).bind (fun v => rn d 97 303 [a0, a1, a2, a3] [.int v, .ref s2] h) := rIald rfl
set_option maxRecDepth 8000 in
theorem e97_303 (d : Nat) (a0 a1 a2 a3 : Option Value) (s0 : Int32) (s1 : Nat) (h : MH) (hz : clsOf h s1 = some 0) : rn (d + 1) 97 303 [a0, a1, a2, a3] [.int s0, .ref s1] h = (rn d 47 0 [some (.ref s1), some (.int s0), none] [] h).bind (fun R => rn (d + 1) 97 306 [a0, a1, a2, a3] (R.1.toList ++ []) R.2) := rInv (i := (.invokevirtual 47)) (n := 2) (tl := [340, 341, 342, 53]) rfl rfl rfl rfl (by decide) (Nat.le_of_ble_eq_true rfl) (Nat.le_of_ble_eq_true rfl) (Nat.le_of_ble_eq_true rfl) (rcv_V hz)
set_option maxRecDepth 8000 in
theorem e97_306 (d : Nat) (a0 a1 a3 : Option Value) (s0 : Int32) (h : MH) (x : Nat) : rn d 97 306 [a0, a1, some (.ref x), a3] [.int s0] h = rn d 97 307 [a0, a1, some (.ref x), a3] [.ref x, .int s0] h := rP (i := (.aload_n 2)) rfl rfl
set_option maxRecDepth 8000 in
theorem e97_307 (d : Nat) (a1 a2 a3 : Option Value) (s1 : Int32) (s0 : Nat) (h : MH) (x : Nat) : rn d 97 307 [some (.ref x), a1, a2, a3] [.ref s0, .int s1] h = rn d 97 308 [some (.ref x), a1, a2, a3] [.ref x, .ref s0, .int s1] h := rP (i := (.aload_n 0)) rfl rfl
set_option maxRecDepth 8000 in
theorem e97_308 (d : Nat) (a0 a1 a2 : Option Value) (s2 : Int32) (s0 s1 : Nat) (h : MH) (x : Int32) : rn d 97 308 [a0, a1, a2, some (.int x)] [.ref s0, .ref s1, .int s2] h = rn d 97 309 [a0, a1, a2, some (.int x)] [.int x, .ref s0, .ref s1, .int s2] h := rP (i := (.iload_n 3)) rfl rfl
set_option maxRecDepth 8000 in
theorem e97_309 (d : Nat) (a0 a1 a2 a3 : Option Value) (s0 s3 : Int32) (s1 s2 : Nat) (h : MH)  : rn d 97 309 [a0, a1, a2, a3] [.int s0, .ref s1, .ref s2, .int s3] h = rn d 97 310 [a0, a1, a2, a3] [.int 1, .int s0, .ref s1, .ref s2, .int s3] h := rP (i := (.iconst 1)) rfl rfl
set_option maxRecDepth 8000 in
theorem e97_310 (d : Nat) (a0 a1 a2 a3 : Option Value) (s0 s1 s4 : Int32) (s2 s3 : Nat) (h : MH)  : rn d 97 310 [a0, a1, a2, a3] [.int s0, .int s1, .ref s2, .ref s3, .int s4] h = rn d 97 311 [a0, a1, a2, a3] [.int (s1 + s0), .ref s2, .ref s3, .int s4] h := rP (i := (.iadd)) rfl rfl
set_option maxRecDepth 8000 in
theorem e97_311 (d : Nat) (a0 a1 a2 a3 : Option Value) (s0 s3 : Int32) (s1 s2 : Nat) (h : MH)  : rn d 97 311 [a0, a1, a2, a3] [.int s0, .ref s1, .ref s2, .int s3] h = (ageti h 0 s1 s0).bind (fun v => rn d 97 312 [a0, a1, a2, a3] [.int v, .ref s2, .int s3] h) := rIald rfl
set_option maxRecDepth 8000 in
theorem e97_312 (d : Nat) (a0 a1 a2 a3 : Option Value) (s0 s2 : Int32) (s1 : Nat) (h : MH) (hz : clsOf h s1 = some 5) : rn (d + 1) 97 312 [a0, a1, a2, a3] [.int s0, .ref s1, .int s2] h = (rn d 86 0 [some (.ref s1), some (.int s0), none] [] h).bind (fun R => rn (d + 1) 97 315 [a0, a1, a2, a3] (R.1.toList ++ [.int s2]) R.2) := rInv (i := (.invokevirtual 50)) (n := 2) (tl := [518, 519, 520, 58]) rfl rfl rfl rfl (by decide) (Nat.le_of_ble_eq_true rfl) (Nat.le_of_ble_eq_true rfl) (Nat.le_of_ble_eq_true rfl) (rcv_V hz)
set_option maxRecDepth 8000 in
theorem e97_315 (d : Nat) (a0 a1 a2 a3 : Option Value) (s0 s1 : Int32) (h : MH)  : rn d 97 315 [a0, a1, a2, a3] [.int s0, .int s1] h = if s1 = s0 then rn d 97 424 [a0, a1, a2, a3] [] h else rn d 97 318 [a0, a1, a2, a3] [] h := rEq2 (off := 109) 424 rfl rfl
set_option maxRecDepth 8000 in
theorem e97_318 (d : Nat) (a0 a1 a2 a3 : Option Value) (h : MH)  : rn d 97 318 [a0, a1, a2, a3] [] h = rn d 97 319 [a0, a1, a2, a3] [.int 0] h := rP (i := (.iconst 0)) rfl rfl
set_option maxRecDepth 8000 in
theorem e97_319 (d : Nat) (a0 a1 a2 a3 : Option Value) (s0 : Int32) (h : MH) (hz : s0 &&& 1 = s0) : rn d 97 319 [a0, a1, a2, a3] [.int s0] h = some (some (.int s0), h) := rIretZ hz rfl rfl
set_option maxRecDepth 8000 in
theorem e97_319q0 (d : Nat) (a0 a1 a2 a3 : Option Value)  (h : MH) : rn d 97 319 [a0, a1, a2, a3] [.int 0] h = some (some (.int 0), h) := rIretZ rfl rfl rfl
set_option maxRecDepth 8000 in
theorem e97_319q1 (d : Nat) (a0 a1 a2 a3 : Option Value)  (h : MH) : rn d 97 319 [a0, a1, a2, a3] [.int 1] h = some (some (.int 1), h) := rIretZ rfl rfl rfl
set_option maxRecDepth 8000 in
theorem e97_320 (d : Nat) (a0 a2 a3 : Option Value) (h : MH) (x : Nat) : rn d 97 320 [a0, some (.ref x), a2, a3] [] h = rn d 97 321 [a0, some (.ref x), a2, a3] [.ref x] h := rP (i := (.aload_n 1)) rfl rfl
set_option maxRecDepth 8000 in
theorem e97_321 (d : Nat) (a1 a2 a3 : Option Value) (s0 : Nat) (h : MH) (x : Nat) : rn d 97 321 [some (.ref x), a1, a2, a3] [.ref s0] h = rn d 97 322 [some (.ref x), a1, a2, a3] [.ref x, .ref s0] h := rP (i := (.aload_n 0)) rfl rfl
set_option maxRecDepth 8000 in
theorem e97_322 (d : Nat) (a0 a1 a2 : Option Value) (s0 s1 : Nat) (h : MH) (x : Int32) : rn d 97 322 [a0, a1, a2, some (.int x)] [.ref s0, .ref s1] h = rn d 97 323 [a0, a1, a2, some (.int x)] [.int x, .ref s0, .ref s1] h := rP (i := (.iload_n 3)) rfl rfl
set_option maxRecDepth 8000 in
theorem e97_323 (d : Nat) (a0 a1 a2 a3 : Option Value) (s0 : Int32) (s1 s2 : Nat) (h : MH)  : rn d 97 323 [a0, a1, a2, a3] [.int s0, .ref s1, .ref s2] h = rn d 97 324 [a0, a1, a2, a3] [.int 1, .int s0, .ref s1, .ref s2] h := rP (i := (.iconst 1)) rfl rfl
set_option maxRecDepth 8000 in
theorem e97_324 (d : Nat) (a0 a1 a2 a3 : Option Value) (s0 s1 : Int32) (s2 s3 : Nat) (h : MH)  : rn d 97 324 [a0, a1, a2, a3] [.int s0, .int s1, .ref s2, .ref s3] h = rn d 97 325 [a0, a1, a2, a3] [.int (s1 + s0), .ref s2, .ref s3] h := rP (i := (.iadd)) rfl rfl
set_option maxRecDepth 8000 in
theorem e97_325 (d : Nat) (a0 a1 a2 a3 : Option Value) (s0 : Int32) (s1 s2 : Nat) (h : MH)  : rn d 97 325 [a0, a1, a2, a3] [.int s0, .ref s1, .ref s2] h = (ageti h 0 s1 s0).bind (fun v => rn d 97 326 [a0, a1, a2, a3] [.int v, .ref s2] h) := rIald rfl
set_option maxRecDepth 8000 in
theorem e97_326 (d : Nat) (a0 a1 a2 a3 : Option Value) (s0 : Int32) (s1 : Nat) (h : MH) (hz : clsOf h s1 = some 0) : rn (d + 1) 97 326 [a0, a1, a2, a3] [.int s0, .ref s1] h = (rn d 59 0 [some (.ref s1), some (.int s0)] [] h).bind (fun R => rn (d + 1) 97 329 [a0, a1, a2, a3] (R.1.toList ++ []) R.2) := rInv (i := (.invokevirtual 51)) (n := 2) (tl := [374, 375, 376, 53]) rfl rfl rfl rfl (by decide) (Nat.le_of_ble_eq_true rfl) (Nat.le_of_ble_eq_true rfl) (Nat.le_of_ble_eq_true rfl) (rcv_V hz)
set_option maxRecDepth 8000 in
theorem e97_329 (d : Nat) (a0 a1 a3 : Option Value) (s0 : Int64) (h : MH) (x : Nat) : rn d 97 329 [a0, a1, some (.ref x), a3] [.long s0] h = rn d 97 330 [a0, a1, some (.ref x), a3] [.ref x, .long s0] h := rP (i := (.aload_n 2)) rfl rfl
set_option maxRecDepth 8000 in
theorem e97_330 (d : Nat) (a1 a2 a3 : Option Value) (s1 : Int64) (s0 : Nat) (h : MH) (x : Nat) : rn d 97 330 [some (.ref x), a1, a2, a3] [.ref s0, .long s1] h = rn d 97 331 [some (.ref x), a1, a2, a3] [.ref x, .ref s0, .long s1] h := rP (i := (.aload_n 0)) rfl rfl
set_option maxRecDepth 8000 in
theorem e97_331 (d : Nat) (a0 a1 a2 : Option Value) (s2 : Int64) (s0 s1 : Nat) (h : MH) (x : Int32) : rn d 97 331 [a0, a1, a2, some (.int x)] [.ref s0, .ref s1, .long s2] h = rn d 97 332 [a0, a1, a2, some (.int x)] [.int x, .ref s0, .ref s1, .long s2] h := rP (i := (.iload_n 3)) rfl rfl
set_option maxRecDepth 8000 in
theorem e97_332 (d : Nat) (a0 a1 a2 a3 : Option Value) (s0 : Int32) (s3 : Int64) (s1 s2 : Nat) (h : MH)  : rn d 97 332 [a0, a1, a2, a3] [.int s0, .ref s1, .ref s2, .long s3] h = rn d 97 333 [a0, a1, a2, a3] [.int 1, .int s0, .ref s1, .ref s2, .long s3] h := rP (i := (.iconst 1)) rfl rfl
set_option maxRecDepth 8000 in
theorem e97_333 (d : Nat) (a0 a1 a2 a3 : Option Value) (s0 s1 : Int32) (s4 : Int64) (s2 s3 : Nat) (h : MH)  : rn d 97 333 [a0, a1, a2, a3] [.int s0, .int s1, .ref s2, .ref s3, .long s4] h = rn d 97 334 [a0, a1, a2, a3] [.int (s1 + s0), .ref s2, .ref s3, .long s4] h := rP (i := (.iadd)) rfl rfl
set_option maxRecDepth 8000 in
theorem e97_334 (d : Nat) (a0 a1 a2 a3 : Option Value) (s0 : Int32) (s3 : Int64) (s1 s2 : Nat) (h : MH)  : rn d 97 334 [a0, a1, a2, a3] [.int s0, .ref s1, .ref s2, .long s3] h = (ageti h 0 s1 s0).bind (fun v => rn d 97 335 [a0, a1, a2, a3] [.int v, .ref s2, .long s3] h) := rIald rfl
set_option maxRecDepth 8000 in
theorem e97_335 (d : Nat) (a0 a1 a2 a3 : Option Value) (s0 : Int32) (s2 : Int64) (s1 : Nat) (h : MH) (hz : clsOf h s1 = some 5) : rn (d + 1) 97 335 [a0, a1, a2, a3] [.int s0, .ref s1, .long s2] h = (rn d 92 0 [some (.ref s1), some (.int s0)] [] h).bind (fun R => rn (d + 1) 97 338 [a0, a1, a2, a3] (R.1.toList ++ [.long s2]) R.2) := rInv (i := (.invokevirtual 55)) (n := 2) (tl := [537, 538, 539, 58]) rfl rfl rfl rfl (by decide) (Nat.le_of_ble_eq_true rfl) (Nat.le_of_ble_eq_true rfl) (Nat.le_of_ble_eq_true rfl) (rcv_V hz)
set_option maxRecDepth 8000 in
theorem e97_338 (d : Nat) (a0 a1 a2 a3 : Option Value) (s0 s1 : Int64) (h : MH)  : rn d 97 338 [a0, a1, a2, a3] [.long s0, .long s1] h = rn d 97 339 [a0, a1, a2, a3] [.int (lg_cmp s1 s0)] h := rP (i := (.lcmp)) rfl rfl
set_option maxRecDepth 8000 in
theorem e97_339 (d : Nat) (a0 a1 a2 a3 : Option Value) (s0 : Int32) (h : MH)  : rn d 97 339 [a0, a1, a2, a3] [.int s0] h = if s0 = 0 then rn d 97 424 [a0, a1, a2, a3] [] h else rn d 97 342 [a0, a1, a2, a3] [] h := rEq1 (off := 85) 424 rfl rfl
set_option maxRecDepth 8000 in
theorem e97_342 (d : Nat) (a0 a1 a2 a3 : Option Value) (h : MH)  : rn d 97 342 [a0, a1, a2, a3] [] h = rn d 97 343 [a0, a1, a2, a3] [.int 0] h := rP (i := (.iconst 0)) rfl rfl
set_option maxRecDepth 8000 in
theorem e97_343 (d : Nat) (a0 a1 a2 a3 : Option Value) (s0 : Int32) (h : MH) (hz : s0 &&& 1 = s0) : rn d 97 343 [a0, a1, a2, a3] [.int s0] h = some (some (.int s0), h) := rIretZ hz rfl rfl
set_option maxRecDepth 8000 in
theorem e97_343q0 (d : Nat) (a0 a1 a2 a3 : Option Value)  (h : MH) : rn d 97 343 [a0, a1, a2, a3] [.int 0] h = some (some (.int 0), h) := rIretZ rfl rfl rfl
set_option maxRecDepth 8000 in
theorem e97_343q1 (d : Nat) (a0 a1 a2 a3 : Option Value)  (h : MH) : rn d 97 343 [a0, a1, a2, a3] [.int 1] h = some (some (.int 1), h) := rIretZ rfl rfl rfl
set_option maxRecDepth 8000 in
theorem e97_344 (d : Nat) (a0 a2 a3 : Option Value) (h : MH) (x : Nat) : rn d 97 344 [a0, some (.ref x), a2, a3] [] h = rn d 97 345 [a0, some (.ref x), a2, a3] [.ref x] h := rP (i := (.aload_n 1)) rfl rfl
set_option maxRecDepth 8000 in
theorem e97_345 (d : Nat) (a1 a2 a3 : Option Value) (s0 : Nat) (h : MH) (x : Nat) : rn d 97 345 [some (.ref x), a1, a2, a3] [.ref s0] h = rn d 97 346 [some (.ref x), a1, a2, a3] [.ref x, .ref s0] h := rP (i := (.aload_n 0)) rfl rfl
set_option maxRecDepth 8000 in
theorem e97_346 (d : Nat) (a0 a1 a2 : Option Value) (s0 s1 : Nat) (h : MH) (x : Int32) : rn d 97 346 [a0, a1, a2, some (.int x)] [.ref s0, .ref s1] h = rn d 97 347 [a0, a1, a2, some (.int x)] [.int x, .ref s0, .ref s1] h := rP (i := (.iload_n 3)) rfl rfl
set_option maxRecDepth 8000 in
theorem e97_347 (d : Nat) (a0 a1 a2 a3 : Option Value) (s0 : Int32) (s1 s2 : Nat) (h : MH)  : rn d 97 347 [a0, a1, a2, a3] [.int s0, .ref s1, .ref s2] h = rn d 97 348 [a0, a1, a2, a3] [.int 1, .int s0, .ref s1, .ref s2] h := rP (i := (.iconst 1)) rfl rfl
set_option maxRecDepth 8000 in
theorem e97_348 (d : Nat) (a0 a1 a2 a3 : Option Value) (s0 s1 : Int32) (s2 s3 : Nat) (h : MH)  : rn d 97 348 [a0, a1, a2, a3] [.int s0, .int s1, .ref s2, .ref s3] h = rn d 97 349 [a0, a1, a2, a3] [.int (s1 + s0), .ref s2, .ref s3] h := rP (i := (.iadd)) rfl rfl
set_option maxRecDepth 8000 in
theorem e97_349 (d : Nat) (a0 a1 a2 a3 : Option Value) (s0 : Int32) (s1 s2 : Nat) (h : MH)  : rn d 97 349 [a0, a1, a2, a3] [.int s0, .ref s1, .ref s2] h = (ageti h 0 s1 s0).bind (fun v => rn d 97 350 [a0, a1, a2, a3] [.int v, .ref s2] h) := rIald rfl
set_option maxRecDepth 8000 in
theorem e97_350 (d : Nat) (a0 a1 a2 a3 : Option Value) (s0 : Int32) (s1 : Nat) (h : MH) (hz : clsOf h s1 = some 0) : rn (d + 1) 97 350 [a0, a1, a2, a3] [.int s0, .ref s1] h = (rn d 61 0 [some (.ref s1), some (.int s0)] [] h).bind (fun R => rn (d + 1) 97 353 [a0, a1, a2, a3] (R.1.toList ++ []) R.2) := rInv (i := (.invokevirtual 56)) (n := 2) (tl := [381, 382, 383, 53]) rfl rfl rfl rfl (by decide) (Nat.le_of_ble_eq_true rfl) (Nat.le_of_ble_eq_true rfl) (Nat.le_of_ble_eq_true rfl) (rcv_V hz)
set_option maxRecDepth 8000 in
theorem e97_353 (d : Nat) (a0 a1 a3 : Option Value) (s0 : Int32) (h : MH) (x : Nat) : rn d 97 353 [a0, a1, some (.ref x), a3] [.int s0] h = rn d 97 354 [a0, a1, some (.ref x), a3] [.ref x, .int s0] h := rP (i := (.aload_n 2)) rfl rfl
set_option maxRecDepth 8000 in
theorem e97_354 (d : Nat) (a1 a2 a3 : Option Value) (s1 : Int32) (s0 : Nat) (h : MH) (x : Nat) : rn d 97 354 [some (.ref x), a1, a2, a3] [.ref s0, .int s1] h = rn d 97 355 [some (.ref x), a1, a2, a3] [.ref x, .ref s0, .int s1] h := rP (i := (.aload_n 0)) rfl rfl
set_option maxRecDepth 8000 in
theorem e97_355 (d : Nat) (a0 a1 a2 : Option Value) (s2 : Int32) (s0 s1 : Nat) (h : MH) (x : Int32) : rn d 97 355 [a0, a1, a2, some (.int x)] [.ref s0, .ref s1, .int s2] h = rn d 97 356 [a0, a1, a2, some (.int x)] [.int x, .ref s0, .ref s1, .int s2] h := rP (i := (.iload_n 3)) rfl rfl
set_option maxRecDepth 8000 in
theorem e97_356 (d : Nat) (a0 a1 a2 a3 : Option Value) (s0 s3 : Int32) (s1 s2 : Nat) (h : MH)  : rn d 97 356 [a0, a1, a2, a3] [.int s0, .ref s1, .ref s2, .int s3] h = rn d 97 357 [a0, a1, a2, a3] [.int 1, .int s0, .ref s1, .ref s2, .int s3] h := rP (i := (.iconst 1)) rfl rfl
set_option maxRecDepth 8000 in
theorem e97_357 (d : Nat) (a0 a1 a2 a3 : Option Value) (s0 s1 s4 : Int32) (s2 s3 : Nat) (h : MH)  : rn d 97 357 [a0, a1, a2, a3] [.int s0, .int s1, .ref s2, .ref s3, .int s4] h = rn d 97 358 [a0, a1, a2, a3] [.int (s1 + s0), .ref s2, .ref s3, .int s4] h := rP (i := (.iadd)) rfl rfl
set_option maxRecDepth 8000 in
theorem e97_358 (d : Nat) (a0 a1 a2 a3 : Option Value) (s0 s3 : Int32) (s1 s2 : Nat) (h : MH)  : rn d 97 358 [a0, a1, a2, a3] [.int s0, .ref s1, .ref s2, .int s3] h = (ageti h 0 s1 s0).bind (fun v => rn d 97 359 [a0, a1, a2, a3] [.int v, .ref s2, .int s3] h) := rIald rfl
set_option maxRecDepth 8000 in
theorem e97_359 (d : Nat) (a0 a1 a2 a3 : Option Value) (s0 s2 : Int32) (s1 : Nat) (h : MH) (hz : clsOf h s1 = some 5) : rn (d + 1) 97 359 [a0, a1, a2, a3] [.int s0, .ref s1, .int s2] h = (rn d 94 0 [some (.ref s1), some (.int s0)] [] h).bind (fun R => rn (d + 1) 97 362 [a0, a1, a2, a3] (R.1.toList ++ [.int s2]) R.2) := rInv (i := (.invokevirtual 59)) (n := 2) (tl := [545, 546, 547, 58]) rfl rfl rfl rfl (by decide) (Nat.le_of_ble_eq_true rfl) (Nat.le_of_ble_eq_true rfl) (Nat.le_of_ble_eq_true rfl) (rcv_V hz)
set_option maxRecDepth 8000 in
theorem e97_362 (d : Nat) (a0 a1 a2 a3 : Option Value) (s0 s1 : Int32) (h : MH)  : rn d 97 362 [a0, a1, a2, a3] [.int s0, .int s1] h = if s1 = s0 then rn d 97 424 [a0, a1, a2, a3] [] h else rn d 97 365 [a0, a1, a2, a3] [] h := rEq2 (off := 62) 424 rfl rfl
set_option maxRecDepth 8000 in
theorem e97_365 (d : Nat) (a0 a1 a2 a3 : Option Value) (h : MH)  : rn d 97 365 [a0, a1, a2, a3] [] h = rn d 97 366 [a0, a1, a2, a3] [.int 0] h := rP (i := (.iconst 0)) rfl rfl
set_option maxRecDepth 8000 in
theorem e97_366 (d : Nat) (a0 a1 a2 a3 : Option Value) (s0 : Int32) (h : MH) (hz : s0 &&& 1 = s0) : rn d 97 366 [a0, a1, a2, a3] [.int s0] h = some (some (.int s0), h) := rIretZ hz rfl rfl
set_option maxRecDepth 8000 in
theorem e97_366q0 (d : Nat) (a0 a1 a2 a3 : Option Value)  (h : MH) : rn d 97 366 [a0, a1, a2, a3] [.int 0] h = some (some (.int 0), h) := rIretZ rfl rfl rfl
set_option maxRecDepth 8000 in
theorem e97_366q1 (d : Nat) (a0 a1 a2 a3 : Option Value)  (h : MH) : rn d 97 366 [a0, a1, a2, a3] [.int 1] h = some (some (.int 1), h) := rIretZ rfl rfl rfl
set_option maxRecDepth 8000 in
theorem e97_367 (d : Nat) (a0 a2 a3 : Option Value) (h : MH) (x : Nat) : rn d 97 367 [a0, some (.ref x), a2, a3] [] h = rn d 97 368 [a0, some (.ref x), a2, a3] [.ref x] h := rP (i := (.aload_n 1)) rfl rfl
set_option maxRecDepth 8000 in
theorem e97_368 (d : Nat) (a1 a2 a3 : Option Value) (s0 : Nat) (h : MH) (x : Nat) : rn d 97 368 [some (.ref x), a1, a2, a3] [.ref s0] h = rn d 97 369 [some (.ref x), a1, a2, a3] [.ref x, .ref s0] h := rP (i := (.aload_n 0)) rfl rfl
set_option maxRecDepth 8000 in
theorem e97_369 (d : Nat) (a0 a1 a2 : Option Value) (s0 s1 : Nat) (h : MH) (x : Int32) : rn d 97 369 [a0, a1, a2, some (.int x)] [.ref s0, .ref s1] h = rn d 97 370 [a0, a1, a2, some (.int x)] [.int x, .ref s0, .ref s1] h := rP (i := (.iload_n 3)) rfl rfl
set_option maxRecDepth 8000 in
theorem e97_370 (d : Nat) (a0 a1 a2 a3 : Option Value) (s0 : Int32) (s1 s2 : Nat) (h : MH)  : rn d 97 370 [a0, a1, a2, a3] [.int s0, .ref s1, .ref s2] h = rn d 97 371 [a0, a1, a2, a3] [.int 1, .int s0, .ref s1, .ref s2] h := rP (i := (.iconst 1)) rfl rfl
set_option maxRecDepth 8000 in
theorem e97_371 (d : Nat) (a0 a1 a2 a3 : Option Value) (s0 s1 : Int32) (s2 s3 : Nat) (h : MH)  : rn d 97 371 [a0, a1, a2, a3] [.int s0, .int s1, .ref s2, .ref s3] h = rn d 97 372 [a0, a1, a2, a3] [.int (s1 + s0), .ref s2, .ref s3] h := rP (i := (.iadd)) rfl rfl
set_option maxRecDepth 8000 in
theorem e97_372 (d : Nat) (a0 a1 a2 a3 : Option Value) (s0 : Int32) (s1 s2 : Nat) (h : MH)  : rn d 97 372 [a0, a1, a2, a3] [.int s0, .ref s1, .ref s2] h = (ageti h 0 s1 s0).bind (fun v => rn d 97 373 [a0, a1, a2, a3] [.int v, .ref s2] h) := rIald rfl
set_option maxRecDepth 8000 in
theorem e97_373 (d : Nat) (a1 a2 a3 : Option Value) (s0 : Int32) (s1 : Nat) (h : MH) (x : Nat) : rn d 97 373 [some (.ref x), a1, a2, a3] [.int s0, .ref s1] h = rn d 97 374 [some (.ref x), a1, a2, a3] [.ref x, .int s0, .ref s1] h := rP (i := (.aload_n 0)) rfl rfl
set_option maxRecDepth 8000 in
theorem e97_374 (d : Nat) (a0 a1 a2 : Option Value) (s1 : Int32) (s0 s2 : Nat) (h : MH) (x : Int32) : rn d 97 374 [a0, a1, a2, some (.int x)] [.ref s0, .int s1, .ref s2] h = rn d 97 375 [a0, a1, a2, some (.int x)] [.int x, .ref s0, .int s1, .ref s2] h := rP (i := (.iload_n 3)) rfl rfl
set_option maxRecDepth 8000 in
theorem e97_375 (d : Nat) (a0 a1 a2 a3 : Option Value) (s0 s2 : Int32) (s1 s3 : Nat) (h : MH)  : rn d 97 375 [a0, a1, a2, a3] [.int s0, .ref s1, .int s2, .ref s3] h = rn d 97 376 [a0, a1, a2, a3] [.int 2, .int s0, .ref s1, .int s2, .ref s3] h := rP (i := (.iconst 2)) rfl rfl
set_option maxRecDepth 8000 in
theorem e97_376 (d : Nat) (a0 a1 a2 a3 : Option Value) (s0 s1 s3 : Int32) (s2 s4 : Nat) (h : MH)  : rn d 97 376 [a0, a1, a2, a3] [.int s0, .int s1, .ref s2, .int s3, .ref s4] h = rn d 97 377 [a0, a1, a2, a3] [.int (s1 + s0), .ref s2, .int s3, .ref s4] h := rP (i := (.iadd)) rfl rfl
set_option maxRecDepth 8000 in
theorem e97_377 (d : Nat) (a0 a1 a2 a3 : Option Value) (s0 s2 : Int32) (s1 s3 : Nat) (h : MH)  : rn d 97 377 [a0, a1, a2, a3] [.int s0, .ref s1, .int s2, .ref s3] h = (ageti h 0 s1 s0).bind (fun v => rn d 97 378 [a0, a1, a2, a3] [.int v, .int s2, .ref s3] h) := rIald rfl
set_option maxRecDepth 8000 in
theorem e97_378 (d : Nat) (a0 a1 a2 a3 : Option Value) (s0 s1 : Int32) (s2 : Nat) (h : MH) (hz : clsOf h s2 = some 0) : rn (d + 1) 97 378 [a0, a1, a2, a3] [.int s0, .int s1, .ref s2] h = (rn d 62 0 [some (.ref s2), some (.int s1), some (.int s0), none] [] h).bind (fun R => rn (d + 1) 97 381 [a0, a1, a2, a3] (R.1.toList ++ []) R.2) := rInv (i := (.invokevirtual 60)) (n := 3) (tl := [385, 386, 387, 53]) rfl rfl rfl rfl (by decide) (Nat.le_of_ble_eq_true rfl) (Nat.le_of_ble_eq_true rfl) (Nat.le_of_ble_eq_true rfl) (rcv_V hz)
set_option maxRecDepth 8000 in
theorem e97_381 (d : Nat) (a0 a1 a3 : Option Value) (s0 : Int64) (h : MH) (x : Nat) : rn d 97 381 [a0, a1, some (.ref x), a3] [.long s0] h = rn d 97 382 [a0, a1, some (.ref x), a3] [.ref x, .long s0] h := rP (i := (.aload_n 2)) rfl rfl
set_option maxRecDepth 8000 in
theorem e97_382 (d : Nat) (a1 a2 a3 : Option Value) (s1 : Int64) (s0 : Nat) (h : MH) (x : Nat) : rn d 97 382 [some (.ref x), a1, a2, a3] [.ref s0, .long s1] h = rn d 97 383 [some (.ref x), a1, a2, a3] [.ref x, .ref s0, .long s1] h := rP (i := (.aload_n 0)) rfl rfl
set_option maxRecDepth 8000 in
theorem e97_383 (d : Nat) (a0 a1 a2 : Option Value) (s2 : Int64) (s0 s1 : Nat) (h : MH) (x : Int32) : rn d 97 383 [a0, a1, a2, some (.int x)] [.ref s0, .ref s1, .long s2] h = rn d 97 384 [a0, a1, a2, some (.int x)] [.int x, .ref s0, .ref s1, .long s2] h := rP (i := (.iload_n 3)) rfl rfl
set_option maxRecDepth 8000 in
theorem e97_384 (d : Nat) (a0 a1 a2 a3 : Option Value) (s0 : Int32) (s3 : Int64) (s1 s2 : Nat) (h : MH)  : rn d 97 384 [a0, a1, a2, a3] [.int s0, .ref s1, .ref s2, .long s3] h = rn d 97 385 [a0, a1, a2, a3] [.int 1, .int s0, .ref s1, .ref s2, .long s3] h := rP (i := (.iconst 1)) rfl rfl
set_option maxRecDepth 8000 in
theorem e97_385 (d : Nat) (a0 a1 a2 a3 : Option Value) (s0 s1 : Int32) (s4 : Int64) (s2 s3 : Nat) (h : MH)  : rn d 97 385 [a0, a1, a2, a3] [.int s0, .int s1, .ref s2, .ref s3, .long s4] h = rn d 97 386 [a0, a1, a2, a3] [.int (s1 + s0), .ref s2, .ref s3, .long s4] h := rP (i := (.iadd)) rfl rfl
set_option maxRecDepth 8000 in
theorem e97_386 (d : Nat) (a0 a1 a2 a3 : Option Value) (s0 : Int32) (s3 : Int64) (s1 s2 : Nat) (h : MH)  : rn d 97 386 [a0, a1, a2, a3] [.int s0, .ref s1, .ref s2, .long s3] h = (ageti h 0 s1 s0).bind (fun v => rn d 97 387 [a0, a1, a2, a3] [.int v, .ref s2, .long s3] h) := rIald rfl
set_option maxRecDepth 8000 in
theorem e97_387 (d : Nat) (a1 a2 a3 : Option Value) (s0 : Int32) (s2 : Int64) (s1 : Nat) (h : MH) (x : Nat) : rn d 97 387 [some (.ref x), a1, a2, a3] [.int s0, .ref s1, .long s2] h = rn d 97 388 [some (.ref x), a1, a2, a3] [.ref x, .int s0, .ref s1, .long s2] h := rP (i := (.aload_n 0)) rfl rfl
set_option maxRecDepth 8000 in
theorem e97_388 (d : Nat) (a0 a1 a2 : Option Value) (s1 : Int32) (s3 : Int64) (s0 s2 : Nat) (h : MH) (x : Int32) : rn d 97 388 [a0, a1, a2, some (.int x)] [.ref s0, .int s1, .ref s2, .long s3] h = rn d 97 389 [a0, a1, a2, some (.int x)] [.int x, .ref s0, .int s1, .ref s2, .long s3] h := rP (i := (.iload_n 3)) rfl rfl
set_option maxRecDepth 8000 in
theorem e97_389 (d : Nat) (a0 a1 a2 a3 : Option Value) (s0 s2 : Int32) (s4 : Int64) (s1 s3 : Nat) (h : MH)  : rn d 97 389 [a0, a1, a2, a3] [.int s0, .ref s1, .int s2, .ref s3, .long s4] h = rn d 97 390 [a0, a1, a2, a3] [.int 2, .int s0, .ref s1, .int s2, .ref s3, .long s4] h := rP (i := (.iconst 2)) rfl rfl
set_option maxRecDepth 8000 in
theorem e97_390 (d : Nat) (a0 a1 a2 a3 : Option Value) (s0 s1 s3 : Int32) (s5 : Int64) (s2 s4 : Nat) (h : MH)  : rn d 97 390 [a0, a1, a2, a3] [.int s0, .int s1, .ref s2, .int s3, .ref s4, .long s5] h = rn d 97 391 [a0, a1, a2, a3] [.int (s1 + s0), .ref s2, .int s3, .ref s4, .long s5] h := rP (i := (.iadd)) rfl rfl
set_option maxRecDepth 8000 in
theorem e97_391 (d : Nat) (a0 a1 a2 a3 : Option Value) (s0 s2 : Int32) (s4 : Int64) (s1 s3 : Nat) (h : MH)  : rn d 97 391 [a0, a1, a2, a3] [.int s0, .ref s1, .int s2, .ref s3, .long s4] h = (ageti h 0 s1 s0).bind (fun v => rn d 97 392 [a0, a1, a2, a3] [.int v, .int s2, .ref s3, .long s4] h) := rIald rfl
set_option maxRecDepth 8000 in
theorem e97_392 (d : Nat) (a0 a1 a2 a3 : Option Value) (s0 s1 : Int32) (s3 : Int64) (s2 : Nat) (h : MH) (hz : clsOf h s2 = some 5) : rn (d + 1) 97 392 [a0, a1, a2, a3] [.int s0, .int s1, .ref s2, .long s3] h = (rn d 95 0 [some (.ref s2), some (.int s1), some (.int s0), none] [] h).bind (fun R => rn (d + 1) 97 395 [a0, a1, a2, a3] (R.1.toList ++ [.long s3]) R.2) := rInv (i := (.invokevirtual 64)) (n := 3) (tl := [549, 550, 551, 58]) rfl rfl rfl rfl (by decide) (Nat.le_of_ble_eq_true rfl) (Nat.le_of_ble_eq_true rfl) (Nat.le_of_ble_eq_true rfl) (rcv_V hz)
set_option maxRecDepth 8000 in
theorem e97_395 (d : Nat) (a0 a1 a2 a3 : Option Value) (s0 s1 : Int64) (h : MH)  : rn d 97 395 [a0, a1, a2, a3] [.long s0, .long s1] h = rn d 97 396 [a0, a1, a2, a3] [.int (lg_cmp s1 s0)] h := rP (i := (.lcmp)) rfl rfl
set_option maxRecDepth 8000 in
theorem e97_396 (d : Nat) (a0 a1 a2 a3 : Option Value) (s0 : Int32) (h : MH)  : rn d 97 396 [a0, a1, a2, a3] [.int s0] h = if s0 = 0 then rn d 97 424 [a0, a1, a2, a3] [] h else rn d 97 399 [a0, a1, a2, a3] [] h := rEq1 (off := 28) 424 rfl rfl
set_option maxRecDepth 8000 in
theorem e97_399 (d : Nat) (a0 a1 a2 a3 : Option Value) (h : MH)  : rn d 97 399 [a0, a1, a2, a3] [] h = rn d 97 400 [a0, a1, a2, a3] [.int 0] h := rP (i := (.iconst 0)) rfl rfl
set_option maxRecDepth 8000 in
theorem e97_400 (d : Nat) (a0 a1 a2 a3 : Option Value) (s0 : Int32) (h : MH) (hz : s0 &&& 1 = s0) : rn d 97 400 [a0, a1, a2, a3] [.int s0] h = some (some (.int s0), h) := rIretZ hz rfl rfl
set_option maxRecDepth 8000 in
theorem e97_400q0 (d : Nat) (a0 a1 a2 a3 : Option Value)  (h : MH) : rn d 97 400 [a0, a1, a2, a3] [.int 0] h = some (some (.int 0), h) := rIretZ rfl rfl rfl
set_option maxRecDepth 8000 in
theorem e97_400q1 (d : Nat) (a0 a1 a2 a3 : Option Value)  (h : MH) : rn d 97 400 [a0, a1, a2, a3] [.int 1] h = some (some (.int 1), h) := rIretZ rfl rfl rfl
set_option maxRecDepth 8000 in
theorem e97_401 (d : Nat) (a0 a2 a3 : Option Value) (h : MH) (x : Nat) : rn d 97 401 [a0, some (.ref x), a2, a3] [] h = rn d 97 402 [a0, some (.ref x), a2, a3] [.ref x] h := rP (i := (.aload_n 1)) rfl rfl
set_option maxRecDepth 8000 in
theorem e97_402 (d : Nat) (a1 a2 a3 : Option Value) (s0 : Nat) (h : MH) (x : Nat) : rn d 97 402 [some (.ref x), a1, a2, a3] [.ref s0] h = rn d 97 403 [some (.ref x), a1, a2, a3] [.ref x, .ref s0] h := rP (i := (.aload_n 0)) rfl rfl
set_option maxRecDepth 8000 in
theorem e97_403 (d : Nat) (a0 a1 a2 : Option Value) (s0 s1 : Nat) (h : MH) (x : Int32) : rn d 97 403 [a0, a1, a2, some (.int x)] [.ref s0, .ref s1] h = rn d 97 404 [a0, a1, a2, some (.int x)] [.int x, .ref s0, .ref s1] h := rP (i := (.iload_n 3)) rfl rfl
set_option maxRecDepth 8000 in
theorem e97_404 (d : Nat) (a0 a1 a2 a3 : Option Value) (s0 : Int32) (s1 s2 : Nat) (h : MH)  : rn d 97 404 [a0, a1, a2, a3] [.int s0, .ref s1, .ref s2] h = rn d 97 405 [a0, a1, a2, a3] [.int 1, .int s0, .ref s1, .ref s2] h := rP (i := (.iconst 1)) rfl rfl
set_option maxRecDepth 8000 in
theorem e97_405 (d : Nat) (a0 a1 a2 a3 : Option Value) (s0 s1 : Int32) (s2 s3 : Nat) (h : MH)  : rn d 97 405 [a0, a1, a2, a3] [.int s0, .int s1, .ref s2, .ref s3] h = rn d 97 406 [a0, a1, a2, a3] [.int (s1 + s0), .ref s2, .ref s3] h := rP (i := (.iadd)) rfl rfl
set_option maxRecDepth 8000 in
theorem e97_406 (d : Nat) (a0 a1 a2 a3 : Option Value) (s0 : Int32) (s1 s2 : Nat) (h : MH)  : rn d 97 406 [a0, a1, a2, a3] [.int s0, .ref s1, .ref s2] h = (ageti h 0 s1 s0).bind (fun v => rn d 97 407 [a0, a1, a2, a3] [.int v, .ref s2] h) := rIald rfl
set_option maxRecDepth 8000 in
theorem e97_407 (d : Nat) (a0 a1 a2 a3 : Option Value) (s0 : Int32) (s1 : Nat) (h : MH) (hz : clsOf h s1 = some 0) : rn (d + 1) 97 407 [a0, a1, a2, a3] [.int s0, .ref s1] h = (rn d 63 0 [some (.ref s1), some (.int s0)] [] h).bind (fun R => rn (d + 1) 97 410 [a0, a1, a2, a3] (R.1.toList ++ []) R.2) := rInv (i := (.invokevirtual 65)) (n := 2) (tl := [389, 390, 391, 53]) rfl rfl rfl rfl (by decide) (Nat.le_of_ble_eq_true rfl) (Nat.le_of_ble_eq_true rfl) (Nat.le_of_ble_eq_true rfl) (rcv_V hz)
set_option maxRecDepth 8000 in
theorem e97_410 (d : Nat) (a0 a1 a3 : Option Value) (s0 : Int32) (h : MH) (x : Nat) : rn d 97 410 [a0, a1, some (.ref x), a3] [.int s0] h = rn d 97 411 [a0, a1, some (.ref x), a3] [.ref x, .int s0] h := rP (i := (.aload_n 2)) rfl rfl
set_option maxRecDepth 8000 in
theorem e97_411 (d : Nat) (a1 a2 a3 : Option Value) (s1 : Int32) (s0 : Nat) (h : MH) (x : Nat) : rn d 97 411 [some (.ref x), a1, a2, a3] [.ref s0, .int s1] h = rn d 97 412 [some (.ref x), a1, a2, a3] [.ref x, .ref s0, .int s1] h := rP (i := (.aload_n 0)) rfl rfl
set_option maxRecDepth 8000 in
theorem e97_412 (d : Nat) (a0 a1 a2 : Option Value) (s2 : Int32) (s0 s1 : Nat) (h : MH) (x : Int32) : rn d 97 412 [a0, a1, a2, some (.int x)] [.ref s0, .ref s1, .int s2] h = rn d 97 413 [a0, a1, a2, some (.int x)] [.int x, .ref s0, .ref s1, .int s2] h := rP (i := (.iload_n 3)) rfl rfl
set_option maxRecDepth 8000 in
theorem e97_413 (d : Nat) (a0 a1 a2 a3 : Option Value) (s0 s3 : Int32) (s1 s2 : Nat) (h : MH)  : rn d 97 413 [a0, a1, a2, a3] [.int s0, .ref s1, .ref s2, .int s3] h = rn d 97 414 [a0, a1, a2, a3] [.int 1, .int s0, .ref s1, .ref s2, .int s3] h := rP (i := (.iconst 1)) rfl rfl
set_option maxRecDepth 8000 in
theorem e97_414 (d : Nat) (a0 a1 a2 a3 : Option Value) (s0 s1 s4 : Int32) (s2 s3 : Nat) (h : MH)  : rn d 97 414 [a0, a1, a2, a3] [.int s0, .int s1, .ref s2, .ref s3, .int s4] h = rn d 97 415 [a0, a1, a2, a3] [.int (s1 + s0), .ref s2, .ref s3, .int s4] h := rP (i := (.iadd)) rfl rfl
set_option maxRecDepth 8000 in
theorem e97_415 (d : Nat) (a0 a1 a2 a3 : Option Value) (s0 s3 : Int32) (s1 s2 : Nat) (h : MH)  : rn d 97 415 [a0, a1, a2, a3] [.int s0, .ref s1, .ref s2, .int s3] h = (ageti h 0 s1 s0).bind (fun v => rn d 97 416 [a0, a1, a2, a3] [.int v, .ref s2, .int s3] h) := rIald rfl
set_option maxRecDepth 8000 in
theorem e97_416 (d : Nat) (a0 a1 a2 a3 : Option Value) (s0 s2 : Int32) (s1 : Nat) (h : MH) (hz : clsOf h s1 = some 5) : rn (d + 1) 97 416 [a0, a1, a2, a3] [.int s0, .ref s1, .int s2] h = (rn d 96 0 [some (.ref s1), some (.int s0), none, none] [] h).bind (fun R => rn (d + 1) 97 419 [a0, a1, a2, a3] (R.1.toList ++ [.int s2]) R.2) := rInv (i := (.invokevirtual 68)) (n := 2) (tl := [553, 554, 555, 58]) rfl rfl rfl rfl (by decide) (Nat.le_of_ble_eq_true rfl) (Nat.le_of_ble_eq_true rfl) (Nat.le_of_ble_eq_true rfl) (rcv_V hz)
set_option maxRecDepth 8000 in
theorem e97_419 (d : Nat) (a0 a1 a2 a3 : Option Value) (s0 s1 : Int32) (h : MH)  : rn d 97 419 [a0, a1, a2, a3] [.int s0, .int s1] h = if s1 = s0 then rn d 97 424 [a0, a1, a2, a3] [] h else rn d 97 422 [a0, a1, a2, a3] [] h := rEq2 (off := 5) 424 rfl rfl
set_option maxRecDepth 8000 in
theorem e97_422 (d : Nat) (a0 a1 a2 a3 : Option Value) (h : MH)  : rn d 97 422 [a0, a1, a2, a3] [] h = rn d 97 423 [a0, a1, a2, a3] [.int 0] h := rP (i := (.iconst 0)) rfl rfl
set_option maxRecDepth 8000 in
theorem e97_423 (d : Nat) (a0 a1 a2 a3 : Option Value) (s0 : Int32) (h : MH) (hz : s0 &&& 1 = s0) : rn d 97 423 [a0, a1, a2, a3] [.int s0] h = some (some (.int s0), h) := rIretZ hz rfl rfl
set_option maxRecDepth 8000 in
theorem e97_423q0 (d : Nat) (a0 a1 a2 a3 : Option Value)  (h : MH) : rn d 97 423 [a0, a1, a2, a3] [.int 0] h = some (some (.int 0), h) := rIretZ rfl rfl rfl
set_option maxRecDepth 8000 in
theorem e97_423q1 (d : Nat) (a0 a1 a2 a3 : Option Value)  (h : MH) : rn d 97 423 [a0, a1, a2, a3] [.int 1] h = some (some (.int 1), h) := rIretZ rfl rfl rfl
set_option maxRecDepth 8000 in
theorem e97_424 (d : Nat) (a0 a1 a2 : Option Value) (h : MH) (x : Int32) : rn d 97 424 [a0, a1, a2, some (.int x)] [] h = rn d 97 427 [a0, a1, a2, some (.int (x + 3))] [] h := rP (i := (.iinc 3 3)) rfl rfl
set_option maxRecDepth 8000 in
theorem e97_427 (d : Nat) (a0 a1 a2 a3 : Option Value) (h : MH)  : rn d 97 427 [a0, a1, a2, a3] [] h = rn d 97 18 [a0, a1, a2, a3] [] h := rP (i := (.goto (-409))) rfl rfl
set_option maxRecDepth 8000 in
theorem e97_430 (d : Nat) (a0 a1 a2 a3 : Option Value) (h : MH)  : rn d 97 430 [a0, a1, a2, a3] [] h = rn d 97 431 [a0, a1, a2, a3] [.int 1] h := rP (i := (.iconst 1)) rfl rfl
set_option maxRecDepth 8000 in
theorem e97_431 (d : Nat) (a0 a1 a2 a3 : Option Value) (s0 : Int32) (h : MH) (hz : s0 &&& 1 = s0) : rn d 97 431 [a0, a1, a2, a3] [.int s0] h = some (some (.int s0), h) := rIretZ hz rfl rfl
set_option maxRecDepth 8000 in
theorem e97_431q0 (d : Nat) (a0 a1 a2 a3 : Option Value)  (h : MH) : rn d 97 431 [a0, a1, a2, a3] [.int 0] h = some (some (.int 0), h) := rIretZ rfl rfl rfl
set_option maxRecDepth 8000 in
theorem e97_431q1 (d : Nat) (a0 a1 a2 a3 : Option Value)  (h : MH) : rn d 97 431 [a0, a1, a2, a3] [.int 1] h = some (some (.int 1), h) := rIretZ rfl rfl rfl
