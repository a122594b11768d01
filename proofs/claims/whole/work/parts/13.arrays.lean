/-! Reading and writing the arrays, each at its address. -/
section ARR
variable (L : Nat) (s : St) {k e : Nat}
theorem gi_2 (h : k < 24) : ageti (hH L s) 0 2 (nI k) = some (s 2 k) := ag_n rfl (by decide) (show k < 24 from h) (show 24 < 2147483648 by decide)
theorem pi_2 (h : k < 24) (x : Int32) : aputi (hH L s) 0 2 (nI k) x = some (hH L (sU s 2 k x)) := ap_n rfl (by decide) (show k < 24 from h) (show 24 < 2147483648 by decide) (by decide)
theorem ln_2 : alenv (hH L s) 2 = some 24 := rfl
theorem gi_5 (h : k < 8) : ageti (hH L s) 0 5 (nI k) = some (s 5 k) := ag_n rfl (by decide) (show k < 8 from h) (show 8 < 2147483648 by decide)
theorem pi_5 (h : k < 8) (x : Int32) : aputi (hH L s) 0 5 (nI k) x = some (hH L (sU s 5 k x)) := ap_n rfl (by decide) (show k < 8 from h) (show 8 < 2147483648 by decide) (by decide)
theorem ln_5 : alenv (hH L s) 5 = some 8 := rfl
theorem gi_79 (h : k < 8) : ageti (hH L s) 0 79 (nI k) = some (s 79 k) := ag_n rfl (by decide) (show k < 8 from h) (show 8 < 2147483648 by decide)
theorem pi_79 (h : k < 8) (x : Int32) : aputi (hH L s) 0 79 (nI k) x = some (hH L (sU s 79 k x)) := ap_n rfl (by decide) (show k < 8 from h) (show 8 < 2147483648 by decide) (by decide)
theorem ln_79 : alenv (hH L s) 79 = some 8 := rfl
theorem gi_81 (h : k < 4) : ageti (hH L s) 0 81 (nI k) = some (s 81 k) := ag_n rfl (by decide) (show k < 4 from h) (show 4 < 2147483648 by decide)
theorem pi_81 (h : k < 4) (x : Int32) : aputi (hH L s) 0 81 (nI k) x = some (hH L (sU s 81 k x)) := ap_n rfl (by decide) (show k < 4 from h) (show 4 < 2147483648 by decide) (by decide)
theorem ln_81 : alenv (hH L s) 81 = some 4 := rfl
theorem gi_82 (h : k < 8) : ageti (hH L s) 0 82 (nI k) = some (s 82 k) := ag_n rfl (by decide) (show k < 8 from h) (show 8 < 2147483648 by decide)
theorem pi_82 (h : k < 8) (x : Int32) : aputi (hH L s) 0 82 (nI k) x = some (hH L (sU s 82 k x)) := ap_n rfl (by decide) (show k < 8 from h) (show 8 < 2147483648 by decide) (by decide)
theorem ln_82 : alenv (hH L s) 82 = some 8 := rfl
theorem gi_83 (h : k < 8) : ageti (hH L s) 0 83 (nI k) = some (s 83 k) := ag_n rfl (by decide) (show k < 8 from h) (show 8 < 2147483648 by decide)
theorem pi_83 (h : k < 8) (x : Int32) : aputi (hH L s) 0 83 (nI k) x = some (hH L (sU s 83 k x)) := ap_n rfl (by decide) (show k < 8 from h) (show 8 < 2147483648 by decide) (by decide)
theorem ln_83 : alenv (hH L s) 83 = some 8 := rfl
theorem gi_84 (h : k < 8) : ageti (hH L s) 0 84 (nI k) = some (s 84 k) := ag_n rfl (by decide) (show k < 8 from h) (show 8 < 2147483648 by decide)
theorem pi_84 (h : k < 8) (x : Int32) : aputi (hH L s) 0 84 (nI k) x = some (hH L (sU s 84 k x)) := ap_n rfl (by decide) (show k < 8 from h) (show 8 < 2147483648 by decide) (by decide)
theorem ln_84 : alenv (hH L s) 84 = some 8 := rfl
theorem gi_95 (h : k < 24) : ageti (hH L s) 0 95 (nI k) = some (s 95 k) := ag_n rfl (by decide) (show k < 24 from h) (show 24 < 2147483648 by decide)
theorem pi_95 (h : k < 24) (x : Int32) : aputi (hH L s) 0 95 (nI k) x = some (hH L (sU s 95 k x)) := ap_n rfl (by decide) (show k < 24 from h) (show 24 < 2147483648 by decide) (by decide)
theorem ln_95 : alenv (hH L s) 95 = some 24 := rfl
theorem gi_96 (h : k < 192) : ageti (hH L s) 0 96 (nI k) = some (s 96 k) := ag_n rfl (by decide) (show k < 192 from h) (show 192 < 2147483648 by decide)
theorem pi_96 (h : k < 192) (x : Int32) : aputi (hH L s) 0 96 (nI k) x = some (hH L (sU s 96 k x)) := ap_n rfl (by decide) (show k < 192 from h) (show 192 < 2147483648 by decide) (by decide)
theorem ln_96 : alenv (hH L s) 96 = some 192 := rfl
theorem gi_97 (h : k < 8) : ageti (hH L s) 0 97 (nI k) = some (s 97 k) := ag_n rfl (by decide) (show k < 8 from h) (show 8 < 2147483648 by decide)
theorem pi_97 (h : k < 8) (x : Int32) : aputi (hH L s) 0 97 (nI k) x = some (hH L (sU s 97 k x)) := ap_n rfl (by decide) (show k < 8 from h) (show 8 < 2147483648 by decide) (by decide)
theorem ln_97 : alenv (hH L s) 97 = some 8 := rfl
theorem gi_98 (h : k < 192) : ageti (hH L s) 0 98 (nI k) = some (s 98 k) := ag_n rfl (by decide) (show k < 192 from h) (show 192 < 2147483648 by decide)
theorem pi_98 (h : k < 192) (x : Int32) : aputi (hH L s) 0 98 (nI k) x = some (hH L (sU s 98 k x)) := ap_n rfl (by decide) (show k < 192 from h) (show 192 < 2147483648 by decide) (by decide)
theorem ln_98 : alenv (hH L s) 98 = some 192 := rfl
theorem gi_99 (h : k < 192) : ageti (hH L s) 0 99 (nI k) = some (s 99 k) := ag_n rfl (by decide) (show k < 192 from h) (show 192 < 2147483648 by decide)
theorem pi_99 (h : k < 192) (x : Int32) : aputi (hH L s) 0 99 (nI k) x = some (hH L (sU s 99 k x)) := ap_n rfl (by decide) (show k < 192 from h) (show 192 < 2147483648 by decide) (by decide)
theorem ln_99 : alenv (hH L s) 99 = some 192 := rfl
theorem gi_100 (h : k < 192) : ageti (hH L s) 0 100 (nI k) = some (s 100 k) := ag_n rfl (by decide) (show k < 192 from h) (show 192 < 2147483648 by decide)
theorem pi_100 (h : k < 192) (x : Int32) : aputi (hH L s) 0 100 (nI k) x = some (hH L (sU s 100 k x)) := ap_n rfl (by decide) (show k < 192 from h) (show 192 < 2147483648 by decide) (by decide)
theorem ln_100 : alenv (hH L s) 100 = some 192 := rfl
theorem gi_101 (h : k < 192) : ageti (hH L s) 0 101 (nI k) = some (s 101 k) := ag_n rfl (by decide) (show k < 192 from h) (show 192 < 2147483648 by decide)
theorem pi_101 (h : k < 192) (x : Int32) : aputi (hH L s) 0 101 (nI k) x = some (hH L (sU s 101 k x)) := ap_n rfl (by decide) (show k < 192 from h) (show 192 < 2147483648 by decide) (by decide)
theorem ln_101 : alenv (hH L s) 101 = some 192 := rfl
theorem gi_102 (h : k < 192) : ageti (hH L s) 0 102 (nI k) = some (s 102 k) := ag_n rfl (by decide) (show k < 192 from h) (show 192 < 2147483648 by decide)
theorem pi_102 (h : k < 192) (x : Int32) : aputi (hH L s) 0 102 (nI k) x = some (hH L (sU s 102 k x)) := ap_n rfl (by decide) (show k < 192 from h) (show 192 < 2147483648 by decide) (by decide)
theorem ln_102 : alenv (hH L s) 102 = some 192 := rfl
theorem gi_103 (h : k < 192) : ageti (hH L s) 1 103 (nI k) = some (s 103 k) := ag_n rfl (by decide) (show k < 192 from h) (show 192 < 2147483648 by decide)
theorem pi_103 (h : k < 192) (x : Int32) : aputi (hH L s) 1 103 (nI k) x = some (hH L (sU s 103 k x)) := ap_n rfl (by decide) (show k < 192 from h) (show 192 < 2147483648 by decide) (by decide)
theorem ln_103 : alenv (hH L s) 103 = some 192 := rfl
theorem gi_104 (h : k < 24) : ageti (hH L s) 1 104 (nI k) = some (s 104 k) := ag_n rfl (by decide) (show k < 24 from h) (show 24 < 2147483648 by decide)
theorem pi_104 (h : k < 24) (x : Int32) : aputi (hH L s) 1 104 (nI k) x = some (hH L (sU s 104 k x)) := ap_n rfl (by decide) (show k < 24 from h) (show 24 < 2147483648 by decide) (by decide)
theorem ln_104 : alenv (hH L s) 104 = some 24 := rfl
theorem gi_105 (h : k < 8) : ageti (hH L s) 0 105 (nI k) = some (s 105 k) := ag_n rfl (by decide) (show k < 8 from h) (show 8 < 2147483648 by decide)
theorem pi_105 (h : k < 8) (x : Int32) : aputi (hH L s) 0 105 (nI k) x = some (hH L (sU s 105 k x)) := ap_n rfl (by decide) (show k < 8 from h) (show 8 < 2147483648 by decide) (by decide)
theorem ln_105 : alenv (hH L s) 105 = some 8 := rfl
theorem gi_106 (h : k < 4) : ageti (hH L s) 0 106 (nI k) = some (s 106 k) := ag_n rfl (by decide) (show k < 4 from h) (show 4 < 2147483648 by decide)
theorem pi_106 (h : k < 4) (x : Int32) : aputi (hH L s) 0 106 (nI k) x = some (hH L (sU s 106 k x)) := ap_n rfl (by decide) (show k < 4 from h) (show 4 < 2147483648 by decide) (by decide)
theorem ln_106 : alenv (hH L s) 106 = some 4 := rfl
theorem gi_107 (h : k < 8) : ageti (hH L s) 1 107 (nI k) = some (s 107 k) := ag_n rfl (by decide) (show k < 8 from h) (show 8 < 2147483648 by decide)
theorem pi_107 (h : k < 8) (x : Int32) : aputi (hH L s) 1 107 (nI k) x = some (hH L (sU s 107 k x)) := ap_n rfl (by decide) (show k < 8 from h) (show 8 < 2147483648 by decide) (by decide)
theorem ln_107 : alenv (hH L s) 107 = some 8 := rfl
theorem gi_108 (h : k < 8) : ageti (hH L s) 1 108 (nI k) = some (s 108 k) := ag_n rfl (by decide) (show k < 8 from h) (show 8 < 2147483648 by decide)
theorem pi_108 (h : k < 8) (x : Int32) : aputi (hH L s) 1 108 (nI k) x = some (hH L (sU s 108 k x)) := ap_n rfl (by decide) (show k < 8 from h) (show 8 < 2147483648 by decide) (by decide)
theorem ln_108 : alenv (hH L s) 108 = some 8 := rfl
theorem gi_109 (h : k < 64) : ageti (hH L s) 1 109 (nI k) = some (s 109 k) := ag_n rfl (by decide) (show k < 64 from h) (show 64 < 2147483648 by decide)
theorem pi_109 (h : k < 64) (x : Int32) : aputi (hH L s) 1 109 (nI k) x = some (hH L (sU s 109 k x)) := ap_n rfl (by decide) (show k < 64 from h) (show 64 < 2147483648 by decide) (by decide)
theorem ln_109 : alenv (hH L s) 109 = some 64 := rfl
theorem gi_110 (h : k < 8) : ageti (hH L s) 0 110 (nI k) = some (s 110 k) := ag_n rfl (by decide) (show k < 8 from h) (show 8 < 2147483648 by decide)
theorem pi_110 (h : k < 8) (x : Int32) : aputi (hH L s) 0 110 (nI k) x = some (hH L (sU s 110 k x)) := ap_n rfl (by decide) (show k < 8 from h) (show 8 < 2147483648 by decide) (by decide)
theorem ln_110 : alenv (hH L s) 110 = some 8 := rfl
theorem gi_111 (h : k < 8) : ageti (hH L s) 0 111 (nI k) = some (s 111 k) := ag_n rfl (by decide) (show k < 8 from h) (show 8 < 2147483648 by decide)
theorem pi_111 (h : k < 8) (x : Int32) : aputi (hH L s) 0 111 (nI k) x = some (hH L (sU s 111 k x)) := ap_n rfl (by decide) (show k < 8 from h) (show 8 < 2147483648 by decide) (by decide)
theorem ln_111 : alenv (hH L s) 111 = some 8 := rfl
theorem gi_112 (h : k < 9) : ageti (hH L s) 0 112 (nI k) = some (s 112 k) := ag_n rfl (by decide) (show k < 9 from h) (show 9 < 2147483648 by decide)
theorem pi_112 (h : k < 9) (x : Int32) : aputi (hH L s) 0 112 (nI k) x = some (hH L (sU s 112 k x)) := ap_n rfl (by decide) (show k < 9 from h) (show 9 < 2147483648 by decide) (by decide)
theorem ln_112 : alenv (hH L s) 112 = some 9 := rfl
theorem gi_113 (h : k < 24) : ageti (hH L s) 0 113 (nI k) = some (s 113 k) := ag_n rfl (by decide) (show k < 24 from h) (show 24 < 2147483648 by decide)
theorem pi_113 (h : k < 24) (x : Int32) : aputi (hH L s) 0 113 (nI k) x = some (hH L (sU s 113 k x)) := ap_n rfl (by decide) (show k < 24 from h) (show 24 < 2147483648 by decide) (by decide)
theorem ln_113 : alenv (hH L s) 113 = some 24 := rfl
theorem gi_0 (h : k < L) (hL : L < 2147483648) : ageti (hH L s) 0 0 (nI k) = some (s 0 k) := ag_n rfl (by decide) (show k < L from h) (show L < 2147483648 from hL)
theorem ln_0 : alenv (hH L s) 0 = some (nI L) := rfl
theorem gi_E1 (he : isE e) (h : k < 24) : ageti (hH L s) 0 (e + 1) (nI k) = some (s (e + 1) k) := ag_n ((isE_kd he).2.1.1) (by decide) (by rw [((isE_kd he).2.2 L).1]; exact h) (by rw [((isE_kd he).2.2 L).1]; decide)
theorem pi_E1 (he : isE e) (h : k < 24) (x : Int32) : aputi (hH L s) 0 (e + 1) (nI k) x = some (hH L (sU s (e + 1) k x)) := ap_n ((isE_kd he).2.1.1) (by decide) (by rw [((isE_kd he).2.2 L).1]; exact h) (by rw [((isE_kd he).2.2 L).1]; decide) (by omega)
theorem ln_E1 (he : isE e) : alenv (hH L s) (e + 1) = some 24 := by
  have h1 : (hH L s).2.2 (e + 1) = some (.inl (0, al L (e + 1), .inl (s (e + 1)))) := hp_arr ((isE_kd he).2.1.1) (by decide)
  unfold alenv
  rw [h1, ((isE_kd he).2.2 L).1]
  rfl
theorem gi_E2 (he : isE e) (h : k < 72) : ageti (hH L s) 0 (e + 2) (nI k) = some (s (e + 2) k) := ag_n ((isE_kd he).2.1.2.1) (by decide) (by rw [((isE_kd he).2.2 L).2.1]; exact h) (by rw [((isE_kd he).2.2 L).2.1]; decide)
theorem pi_E2 (he : isE e) (h : k < 72) (x : Int32) : aputi (hH L s) 0 (e + 2) (nI k) x = some (hH L (sU s (e + 2) k x)) := ap_n ((isE_kd he).2.1.2.1) (by decide) (by rw [((isE_kd he).2.2 L).2.1]; exact h) (by rw [((isE_kd he).2.2 L).2.1]; decide) (by omega)
theorem ln_E2 (he : isE e) : alenv (hH L s) (e + 2) = some 72 := by
  have h1 : (hH L s).2.2 (e + 2) = some (.inl (0, al L (e + 2), .inl (s (e + 2)))) := hp_arr ((isE_kd he).2.1.2.1) (by decide)
  unfold alenv
  rw [h1, ((isE_kd he).2.2 L).2.1]
  rfl
theorem gi_E3 (he : isE e) (h : k < 24) : ageti (hH L s) 0 (e + 3) (nI k) = some (s (e + 3) k) := ag_n ((isE_kd he).2.1.2.2.1) (by decide) (by rw [((isE_kd he).2.2 L).2.2.1]; exact h) (by rw [((isE_kd he).2.2 L).2.2.1]; decide)
theorem pi_E3 (he : isE e) (h : k < 24) (x : Int32) : aputi (hH L s) 0 (e + 3) (nI k) x = some (hH L (sU s (e + 3) k x)) := ap_n ((isE_kd he).2.1.2.2.1) (by decide) (by rw [((isE_kd he).2.2 L).2.2.1]; exact h) (by rw [((isE_kd he).2.2 L).2.2.1]; decide) (by omega)
theorem ln_E3 (he : isE e) : alenv (hH L s) (e + 3) = some 24 := by
  have h1 : (hH L s).2.2 (e + 3) = some (.inl (0, al L (e + 3), .inl (s (e + 3)))) := hp_arr ((isE_kd he).2.1.2.2.1) (by decide)
  unfold alenv
  rw [h1, ((isE_kd he).2.2 L).2.2.1]
  rfl
theorem gi_E4 (he : isE e) (h : k < 24) : ageti (hH L s) 1 (e + 4) (nI k) = some (s (e + 4) k) := ag_n ((isE_kd he).2.1.2.2.2.1) (by decide) (by rw [((isE_kd he).2.2 L).2.2.2.1]; exact h) (by rw [((isE_kd he).2.2 L).2.2.2.1]; decide)
theorem pi_E4 (he : isE e) (h : k < 24) (x : Int32) : aputi (hH L s) 1 (e + 4) (nI k) x = some (hH L (sU s (e + 4) k x)) := ap_n ((isE_kd he).2.1.2.2.2.1) (by decide) (by rw [((isE_kd he).2.2 L).2.2.2.1]; exact h) (by rw [((isE_kd he).2.2 L).2.2.2.1]; decide) (by omega)
theorem ln_E4 (he : isE e) : alenv (hH L s) (e + 4) = some 24 := by
  have h1 : (hH L s).2.2 (e + 4) = some (.inl (1, al L (e + 4), .inl (s (e + 4)))) := hp_arr ((isE_kd he).2.1.2.2.2.1) (by decide)
  unfold alenv
  rw [h1, ((isE_kd he).2.2 L).2.2.2.1]
  rfl
theorem gi_E5 (he : isE e) (h : k < 24) : ageti (hH L s) 1 (e + 5) (nI k) = some (s (e + 5) k) := ag_n ((isE_kd he).2.1.2.2.2.2.1) (by decide) (by rw [((isE_kd he).2.2 L).2.2.2.2.1]; exact h) (by rw [((isE_kd he).2.2 L).2.2.2.2.1]; decide)
theorem pi_E5 (he : isE e) (h : k < 24) (x : Int32) : aputi (hH L s) 1 (e + 5) (nI k) x = some (hH L (sU s (e + 5) k x)) := ap_n ((isE_kd he).2.1.2.2.2.2.1) (by decide) (by rw [((isE_kd he).2.2 L).2.2.2.2.1]; exact h) (by rw [((isE_kd he).2.2 L).2.2.2.2.1]; decide) (by omega)
theorem ln_E5 (he : isE e) : alenv (hH L s) (e + 5) = some 24 := by
  have h1 : (hH L s).2.2 (e + 5) = some (.inl (1, al L (e + 5), .inl (s (e + 5)))) := hp_arr ((isE_kd he).2.1.2.2.2.2.1) (by decide)
  unfold alenv
  rw [h1, ((isE_kd he).2.2 L).2.2.2.2.1]
  rfl
theorem gi_E6 (he : isE e) (h : k < 24) : ageti (hH L s) 0 (e + 6) (nI k) = some (s (e + 6) k) := ag_n ((isE_kd he).2.1.2.2.2.2.2.1) (by decide) (by rw [((isE_kd he).2.2 L).2.2.2.2.2.1]; exact h) (by rw [((isE_kd he).2.2 L).2.2.2.2.2.1]; decide)
theorem pi_E6 (he : isE e) (h : k < 24) (x : Int32) : aputi (hH L s) 0 (e + 6) (nI k) x = some (hH L (sU s (e + 6) k x)) := ap_n ((isE_kd he).2.1.2.2.2.2.2.1) (by decide) (by rw [((isE_kd he).2.2 L).2.2.2.2.2.1]; exact h) (by rw [((isE_kd he).2.2 L).2.2.2.2.2.1]; decide) (by omega)
theorem ln_E6 (he : isE e) : alenv (hH L s) (e + 6) = some 24 := by
  have h1 : (hH L s).2.2 (e + 6) = some (.inl (0, al L (e + 6), .inl (s (e + 6)))) := hp_arr ((isE_kd he).2.1.2.2.2.2.2.1) (by decide)
  unfold alenv
  rw [h1, ((isE_kd he).2.2 L).2.2.2.2.2.1]
  rfl
theorem gi_E7 (he : isE e) (h : k < 24) : ageti (hH L s) 0 (e + 7) (nI k) = some (s (e + 7) k) := ag_n ((isE_kd he).2.1.2.2.2.2.2.2.1) (by decide) (by rw [((isE_kd he).2.2 L).2.2.2.2.2.2.1]; exact h) (by rw [((isE_kd he).2.2 L).2.2.2.2.2.2.1]; decide)
theorem pi_E7 (he : isE e) (h : k < 24) (x : Int32) : aputi (hH L s) 0 (e + 7) (nI k) x = some (hH L (sU s (e + 7) k x)) := ap_n ((isE_kd he).2.1.2.2.2.2.2.2.1) (by decide) (by rw [((isE_kd he).2.2 L).2.2.2.2.2.2.1]; exact h) (by rw [((isE_kd he).2.2 L).2.2.2.2.2.2.1]; decide) (by omega)
theorem ln_E7 (he : isE e) : alenv (hH L s) (e + 7) = some 24 := by
  have h1 : (hH L s).2.2 (e + 7) = some (.inl (0, al L (e + 7), .inl (s (e + 7)))) := hp_arr ((isE_kd he).2.1.2.2.2.2.2.2.1) (by decide)
  unfold alenv
  rw [h1, ((isE_kd he).2.2 L).2.2.2.2.2.2.1]
  rfl
theorem gi_E8 (he : isE e) (h : k < 24) : ageti (hH L s) 0 (e + 8) (nI k) = some (s (e + 8) k) := ag_n ((isE_kd he).2.1.2.2.2.2.2.2.2) (by decide) (by rw [((isE_kd he).2.2 L).2.2.2.2.2.2.2]; exact h) (by rw [((isE_kd he).2.2 L).2.2.2.2.2.2.2]; decide)
theorem pi_E8 (he : isE e) (h : k < 24) (x : Int32) : aputi (hH L s) 0 (e + 8) (nI k) x = some (hH L (sU s (e + 8) k x)) := ap_n ((isE_kd he).2.1.2.2.2.2.2.2.2) (by decide) (by rw [((isE_kd he).2.2 L).2.2.2.2.2.2.2]; exact h) (by rw [((isE_kd he).2.2 L).2.2.2.2.2.2.2]; decide) (by omega)
theorem ln_E8 (he : isE e) : alenv (hH L s) (e + 8) = some 24 := by
  have h1 : (hH L s).2.2 (e + 8) = some (.inl (0, al L (e + 8), .inl (s (e + 8)))) := hp_arr ((isE_kd he).2.1.2.2.2.2.2.2.2) (by decide)
  unfold alenv
  rw [h1, ((isE_kd he).2.2 L).2.2.2.2.2.2.2]
  rfl
/-- where the equation of variable k lies; the draft -/
def eqA (s : St) (k : Nat) : Nat := (s 4 k).toNatClampNeg
def dfA (s : St) : Nat := (s 1 6).toNatClampNeg
theorem gr_4 (h : k < 8) : agetr (hH L s) 4 (nI k) = some (some (eqA s k)) := by
  have e : (hH L s).2.2 4 = some (.inl (12, 8, .inr (.inr (.inr (.inr (fun j => if j < 8 then some (s 4 j).toNatClampNeg else none)))))) := rfl
  have h1 : (nI k).toNatClampNeg = k := nI_clamp (by omega)
  unfold agetr
  rw [e]
  have hc : 10 ≤ 12 ∧ ¬ (nI k < 0 ∨ 8 ≤ (nI k).toNatClampNeg) := ⟨by decide, by rw [h1]; exact fun z => z.elim (nI_pos (by omega)) (by omega)⟩
  refine (if_pos hc).trans ?_
  rw [h1]
  show some (if k < 8 then some (s 4 k).toNatClampNeg else none) = _
  rw [if_pos h]
  rfl
theorem pr_4 (h : k < 8) (he : isE e) : aputr (hH L s) 4 (nI k) e = some (hH L (sU s 4 k (nI e))) := by
  have e1 : (hH L s).2.2 4 = some (.inl (12, 8, .inr (.inr (.inr (.inr (fun j => if j < 8 then some (s 4 j).toNatClampNeg else none)))))) := rfl
  have h1 : (nI k).toNatClampNeg = k := nI_clamp (by omega)
  have h2 : (nI e).toNatClampNeg = e := nI_clamp (by have := isE_ge he; omega)
  unfold aputr
  rw [e1]
  have hc : 10 ≤ 12 ∧ clsOf (hH L s) e = some (12 - 10) ∧ ¬ (nI k < 0 ∨ 8 ≤ (nI k).toNatClampNeg) ∧ (4 : Nat) ≠ 0 := ⟨by decide, cq_E L s he, by rw [h1]; exact fun z => z.elim (nI_pos (by omega)) (by omega), by decide⟩
  refine (if_pos hc).trans ?_
  rw [h1]
  show some (114, 3922, va_up (hp L s) 4 (some (.inl (12, 8, .inr (.inr (.inr (.inr (va_up (fun j => if j < 8 then some (s 4 j).toNatClampNeg else none) k (some e))))))))) = some (114, 3922, hp L (sU s 4 k (nI e)))
  rw [hp_up (j := k) (x := nI e)]
  show some (Sum.inl (12, 8, _)) = some (Sum.inl (12, 8, _))
  congr 8
  funext j
  by_cases hj : j = k
  · subst hj
    simp [va_up, sU, h2, h]
  · simp [va_up, sU, hj]
end ARR
