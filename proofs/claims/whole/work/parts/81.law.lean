/-! The law's loop. -/
theorem gi0 (L : Nat) (s : St) {k : Nat} (hk : k < L) (hL : L < 2147483648) : ageti (hH L s) 0 0 (nI k) = some (s 0 k) := ag_n (a := 0) rfl (Or.inl rfl) hk hL
theorem ln0 (L : Nat) (s : St) : alenv (hH L s) 0 = some (nI L) := rfl
theorem nI_2 (i : Nat) : nI i + 2 = nI (i + 2) := nI_add i 2
theorem nI_3 (i : Nat) : nI i + 3 = nI (i + 3) := nI_add i 3
theorem len3 {L i : Nat} (hL : L ≤ 1536) (hi : i ≤ 1600) : nI L - 3 < nI i ↔ L < i + 3 := by
  by_cases h : L < 3
  · have hz : ¬ nI i < 0 := nI_pos (by omega)
    have h3 : nI L - 3 < 0 := by
      have : ∀ x : Fin 3, nI x.1 - 3 < 0 := by decide
      exact this ⟨L, h⟩
    have h4 : nI L - 3 < nI i := by
      rw [Int32.lt_iff_toInt_lt] at hz h3 ⊢
      omega
    exact ⟨fun _ => by omega, fun _ => h4⟩
  · obtain ⟨m, rfl⟩ : ∃ m, L = m + 3 := ⟨L - 3, by omega⟩
    have e : nI (m + 3) - 3 = nI m := by
      rw [← nI_3, Int32.add_sub_cancel]
    rw [e, nI_ltI (by omega) (by omega)]
    omega
theorem cmp_self (a : Int64) : lg_cmp a a = 0 := by
  unfold lg_cmp
  simp
theorem law_loop (d L : Nat) (hL : L ≤ 1536) : ∀ (r k i : Nat) (s : St), i = 3 * k → L ≤ i + r → i ≤ L → Inv s k → ∃ s', rn (d + 16) 97 18 [some (.ref 0), some (.ref 1), some (.ref 94), some (.int (nI i))] [] (hH L s) = some (some (.int 1), hH L s') := by
  intro r
  induction r with
  | zero =>
    intro k i s hi hr hiL hI
    refine ⟨s, ?_⟩
    simp only [e97_18, e97_19, e97_20, e97_21, e97_22, ln0, ob, e97_23]
    rw [if_pos ((len3 hL (by omega)).mpr (by omega))]
    simp only [e97_430, e97_431q1]
  | succ r ih =>
    intro k i s hi hr hiL hI
    simp only [e97_18, e97_19, e97_20, e97_21, e97_22, ln0, ob, e97_23]
    by_cases q : L < i + 3
    · refine ⟨s, ?_⟩
      rw [if_pos ((len3 hL (by omega)).mpr q)]
      simp only [e97_430, e97_431q1]
    · rw [if_neg (fun z => q ((len3 hL (by omega)).mp z))]
      have g0 := gi0 L s (k := i) (by omega) (by omega)
      have g1 : ∀ t : St, t 0 = s 0 → ageti (hH L t) 0 0 (nI (i + 1)) = some (s 0 (i + 1)) := fun t ht => by
        rw [gi0 L t (by omega) (by omega), ht]
      have g2 : ∀ t : St, t 0 = s 0 → ageti (hH L t) 0 0 (nI (i + 2)) = some (s 0 (i + 2)) := fun t ht => by
        rw [gi0 L t (by omega) (by omega), ht]
      have g1s := g1 s rfl
      have g2s := g2 s rfl
      have nxt : ∀ s2, Inv s2 (k + 1) → ∃ s', rn (d + 16) 97 424 [some (.ref 0), some (.ref 1), some (.ref 94), some (.int (nI i))] [] (hH L s2) = some (some (.int 1), hH L s') := fun s2 h2 => by
        simp only [e97_424, e97_427, nI_3]
        exact ih (k + 1) (i + 3) s2 (by omega) (by omega) (by omega) h2
      simp only [e97_26, e97_27, e97_28, e97_29, e97_31, g0, ob]
      generalize s 0 i &&& 15 = sw
      rw [e97_32]
      by_cases w0 : sw = 0
      · rw [if_pos w0]
        obtain ⟨a, s1, s2, h1, h2, h3⟩ := c_type d L hI (s 0 (i + 1))
        have g1' := g1 s1 (rn_0 h1)
        simp only [e97_96, e97_97, e97_98, e97_99, e97_100, e97_101, e97_102, e97_105, e97_106, e97_107, e97_108, e97_109, e97_110, e97_111, e97_114, cq_1, cq_94, eq_self, ob, tl1, nI_1, g1s, g1', h1, h2, if_true]
        exact nxt s2 h3
      rw [if_neg w0]
      by_cases w1 : sw = 1
      · rw [if_pos w1]
        obtain ⟨a, s1, s2, h1, h2, h3⟩ := c_types d L hI ((s 0 (i + 1)).toInt64 <<< ((32 : Int32).toInt64 &&& 63) ||| (s 0 (i + 2)).toInt64 &&& 4294967295)
        have g1' := g1 s1 (rn_0 h1)
        have g2' := g2 s1 (rn_0 h1)
        simp only [e97_119, e97_120, e97_121, e97_122, e97_123, e97_124, e97_125, e97_126, e97_128, e97_129, e97_130, e97_131, e97_132, e97_133, e97_134, e97_135, e97_138, e97_139, e97_140, e97_143, e97_144, e97_145, e97_146, e97_147, e97_148, e97_149, e97_150, e97_152, e97_153, e97_154, e97_155, e97_156, e97_157, e97_158, e97_159, e97_162, e97_163, e97_164, e97_167, cq_1, cq_94, eq_self, ob, tl1, nI_1, g1s, g1', nI_2, g2s, g2', h1, h2, if_true]
        exact nxt s2 h3
      rw [if_neg w1]
      by_cases w2 : sw = 2
      · rw [if_pos w2]
        obtain ⟨a, s1, s2, h1, h2, h3⟩ := c_define d L hI (s 0 (i + 1))
        have g1' := g1 s1 (rn_0 h1)
        simp only [e97_172, e97_173, e97_174, e97_175, e97_176, e97_177, e97_178, e97_181, e97_182, e97_183, e97_184, e97_185, e97_186, e97_187, e97_190, cq_1, cq_94, eq_self, ob, tl1, nI_1, g1s, g1', h1, h2, if_true]
        exact nxt s2 h3
      rw [if_neg w2]
      by_cases w3 : sw = 3
      · rw [if_pos w3]
        obtain ⟨a, s1, s2, h1, h2, h3⟩ := c_drop d L hI (s 0 (i + 1))
        have g1' := g1 s1 (rn_0 h1)
        simp only [e97_195, e97_196, e97_197, e97_198, e97_199, e97_200, e97_201, e97_204, e97_205, e97_206, e97_207, e97_208, e97_209, e97_210, e97_213, cq_1, cq_94, eq_self, ob, tl1, nI_1, g1s, g1', h1, h2, if_true]
        exact nxt s2 h3
      rw [if_neg w3]
      by_cases w4 : sw = 4
      · rw [if_pos w4]
        obtain ⟨a, s1, s2, h1, h2, h3⟩ := c_clock d L hI (s 0 (i + 1)) (s 0 (i + 2))
        have g1' := g1 s1 (rn_0 h1)
        have g2' := g2 s1 (rn_0 h1)
        simp only [e97_218, e97_219, e97_220, e97_221, e97_222, e97_223, e97_224, e97_225, e97_226, e97_227, e97_228, e97_229, e97_232, e97_233, e97_234, e97_235, e97_236, e97_237, e97_238, e97_239, e97_240, e97_241, e97_242, e97_243, e97_246, cq_1, cq_94, eq_self, ob, tl1, nI_1, g1s, g1', nI_2, g2s, g2', h1, h2, if_true]
        exact nxt s2 h3
      rw [if_neg w4]
      by_cases w5 : sw = 5
      · rw [if_pos w5]
        obtain ⟨a, s1, s2, h1, h2, h3⟩ := c_input d L hI (s 0 (i + 1)) (s 0 (i + 2))
        have g1' := g1 s1 (rn_0 h1)
        have g2' := g2 s1 (rn_0 h1)
        simp only [e97_251, e97_252, e97_253, e97_254, e97_255, e97_256, e97_257, e97_258, e97_259, e97_260, e97_261, e97_262, e97_265, e97_266, e97_267, e97_268, e97_269, e97_270, e97_271, e97_272, e97_273, e97_274, e97_275, e97_276, e97_279, cq_1, cq_94, eq_self, ob, tl1, nI_1, g1s, g1', nI_2, g2s, g2', h1, h2, if_true]
        exact nxt s2 h3
      rw [if_neg w5]
      by_cases w6 : sw = 6
      · rw [if_pos w6]
        obtain ⟨a, s1, s2, h1, h2, h3⟩ := c_check d L hI
        simp only [e97_284, e97_285, e97_288, e97_289, e97_292, cq_1, cq_94, eq_self, ob, tl1, h1, h2, if_true]
        exact nxt s2 h3
      rw [if_neg w6]
      by_cases w7 : sw = 7
      · rw [if_pos w7]
        obtain ⟨a, s1, s2, h1, h2, h3⟩ := c_step d L hI (by omega) (s 0 (i + 1))
        have g1' := g1 s1 (rn_0 h1)
        simp only [e97_297, e97_298, e97_299, e97_300, e97_301, e97_302, e97_303, e97_306, e97_307, e97_308, e97_309, e97_310, e97_311, e97_312, e97_315, cq_1, cq_94, eq_self, ob, tl1, nI_1, g1s, g1', h1, h2, if_true]
        exact nxt s2 h3
      rw [if_neg w7]
      by_cases w8 : sw = 8
      · rw [if_pos w8]
        obtain ⟨a, s1, s2, h1, h2, h3⟩ := c_value d L hI (by omega) (s 0 (i + 1))
        have g1' := g1 s1 (rn_0 h1)
        simp only [e97_320, e97_321, e97_322, e97_323, e97_324, e97_325, e97_326, e97_329, e97_330, e97_331, e97_332, e97_333, e97_334, e97_335, e97_338, e97_339, cq_1, cq_94, eq_self, ob, tl1, nI_1, g1s, g1', h1, h2, cmp_self, if_true]
        exact nxt s2 h3
      rw [if_neg w8]
      by_cases w9 : sw = 9
      · rw [if_pos w9]
        obtain ⟨a, s1, s2, h1, h2, h3⟩ := c_present d L hI (s 0 (i + 1))
        have g1' := g1 s1 (rn_0 h1)
        simp only [e97_344, e97_345, e97_346, e97_347, e97_348, e97_349, e97_350, e97_353, e97_354, e97_355, e97_356, e97_357, e97_358, e97_359, e97_362, cq_1, cq_94, eq_self, ob, tl1, nI_1, g1s, g1', h1, h2, if_true]
        exact nxt s2 h3
      rw [if_neg w9]
      by_cases w10 : sw = 10
      · rw [if_pos w10]
        obtain ⟨a, s1, s2, h1, h2, h3⟩ := c_memory d L hI (s 0 (i + 1)) (s 0 (i + 2))
        have g1' := g1 s1 (rn_0 h1)
        have g2' := g2 s1 (rn_0 h1)
        simp only [e97_367, e97_368, e97_369, e97_370, e97_371, e97_372, e97_373, e97_374, e97_375, e97_376, e97_377, e97_378, e97_381, e97_382, e97_383, e97_384, e97_385, e97_386, e97_387, e97_388, e97_389, e97_390, e97_391, e97_392, e97_395, e97_396, cq_1, cq_94, eq_self, ob, tl1, nI_1, g1s, g1', nI_2, g2s, g2', h1, h2, cmp_self, if_true]
        exact nxt s2 h3
      rw [if_neg w10]
      by_cases w11 : sw = 11
      · rw [if_pos w11]
        obtain ⟨a, s1, s2, h1, h2, h3⟩ := c_info d L hI (by omega) (s 0 (i + 1))
        have g1' := g1 s1 (rn_0 h1)
        simp only [e97_401, e97_402, e97_403, e97_404, e97_405, e97_406, e97_407, e97_410, e97_411, e97_412, e97_413, e97_414, e97_415, e97_416, e97_419, cq_1, cq_94, eq_self, ob, tl1, nI_1, g1s, g1', h1, h2, if_true]
        exact nxt s2 h3
      rw [if_neg w11]
      exact nxt s (hI.up)
