/-! the constructors' bytes say what the tables say (by program: wip/gen/gen_cc.py) -/
theorem cc_okB {k a n pc : Nat} (h : (List.range' a n).all (cc_okP k) = true) (h1 : a ≤ pc) (h2 : pc < a + n) : cc_okP k pc = true := List.all_eq_true.mp h pc (List.mem_range'_1.mpr ⟨h1, h2⟩)
theorem cc_cb0 (pc : Nat) (h : 74 ≤ pc) : cc_c0 pc = none := mm_ct (mm_cl9 (K := 37) h rfl) (mm_ct (mm_cl9 (K := 57) h rfl) (mm_ct (mm_cl9 (K := 68) h rfl) (mm_ct (mm_cl9 (K := 70) h rfl) (mm_ct (mm_cl9 (K := 73) h rfl) (mm_ce (X := 73) (Nat.lt_of_lt_of_le (Nat.le_of_ble_eq_true rfl) h))))))
theorem cc_ck0_0 : (List.range' 0 200).all (cc_okP 0) = true := by decide +kernel
theorem cc_kk0 (pc : Nat) : cc_okP 0 pc = true := by
  by_cases h0 : pc < 200
  · exact cc_okB cc_ck0_0 (by omega) (by omega)
  · unfold cc_okP
    rw [show cc_cd 0 pc = none from cc_cb0 pc (by omega)]
theorem cc_cb1 (pc : Nat) (h : 84 ≤ pc) : cc_c1 pc = none := mm_ct (mm_cl9 (K := 42) h rfl) (mm_ct (mm_cl9 (K := 65) h rfl) (mm_ct (mm_cl9 (K := 75) h rfl) (mm_ct (mm_cl9 (K := 80) h rfl) (mm_ct (mm_cl9 (K := 83) h rfl) (mm_ce (X := 83) (Nat.lt_of_lt_of_le (Nat.le_of_ble_eq_true rfl) h))))))
theorem cc_ck1_0 : (List.range' 0 200).all (cc_okP 1) = true := by decide +kernel
theorem cc_kk1 (pc : Nat) : cc_okP 1 pc = true := by
  by_cases h0 : pc < 200
  · exact cc_okB cc_ck1_0 (by omega) (by omega)
  · unfold cc_okP
    rw [show cc_cd 1 pc = none from cc_cb1 pc (by omega)]
theorem cc_cb2 (pc : Nat) (h : 42 ≤ pc) : cc_c2 pc = none := mm_ct (mm_cl9 (K := 23) h rfl) (mm_ct (mm_cl9 (K := 33) h rfl) (mm_ct (mm_cl9 (K := 38) h rfl) (mm_ct (mm_cl9 (K := 41) h rfl) (mm_ce (X := 41) (Nat.lt_of_lt_of_le (Nat.le_of_ble_eq_true rfl) h)))))
theorem cc_ck2_0 : (List.range' 0 200).all (cc_okP 2) = true := by decide +kernel
theorem cc_kk2 (pc : Nat) : cc_okP 2 pc = true := by
  by_cases h0 : pc < 200
  · exact cc_okB cc_ck2_0 (by omega) (by omega)
  · unfold cc_okP
    rw [show cc_cd 2 pc = none from cc_cb2 pc (by omega)]
theorem cc_cb3 (pc : Nat) (h : 65 ≤ pc) : cc_c3 pc = none := mm_ct (mm_cl9 (K := 34) h rfl) (mm_ct (mm_cl9 (K := 49) h rfl) (mm_ct (mm_cl9 (K := 57) h rfl) (mm_ct (mm_cl9 (K := 61) h rfl) (mm_ct (mm_cl9 (K := 64) h rfl) (mm_ce (X := 64) (Nat.lt_of_lt_of_le (Nat.le_of_ble_eq_true rfl) h))))))
theorem cc_ck3_0 : (List.range' 0 200).all (cc_okP 3) = true := by decide +kernel
theorem cc_kk3 (pc : Nat) : cc_okP 3 pc = true := by
  by_cases h0 : pc < 200
  · exact cc_okB cc_ck3_0 (by omega) (by omega)
  · unfold cc_okP
    rw [show cc_cd 3 pc = none from cc_cb3 pc (by omega)]
theorem cc_cb4 (pc : Nat) (h : 160 ≤ pc) : cc_c4 pc = none := mm_ct (mm_cl9 (K := 78) h rfl) (mm_ct (mm_cl9 (K := 122) h rfl) (mm_ct (mm_cl9 (K := 141) h rfl) (mm_ct (mm_cl9 (K := 151) h rfl) (mm_ct (mm_cl9 (K := 156) h rfl) (mm_ct (mm_cl9 (K := 159) h rfl) (mm_ce (X := 159) (Nat.lt_of_lt_of_le (Nat.le_of_ble_eq_true rfl) h)))))))
theorem cc_ck4_0 : (List.range' 0 200).all (cc_okP 4) = true := by decide +kernel
theorem cc_kk4 (pc : Nat) : cc_okP 4 pc = true := by
  by_cases h0 : pc < 200
  · exact cc_okB cc_ck4_0 (by omega) (by omega)
  · unfold cc_okP
    rw [show cc_cd 4 pc = none from cc_cb4 pc (by omega)]
theorem cc_cb5 (pc : Nat) (h : 47 ≤ pc) : cc_c5 pc = none := mm_ct (mm_cl9 (K := 25) h rfl) (mm_ct (mm_cl9 (K := 36) h rfl) (mm_ct (mm_cl9 (K := 42) h rfl) (mm_ct (mm_cl9 (K := 46) h rfl) (mm_ce (X := 46) (Nat.lt_of_lt_of_le (Nat.le_of_ble_eq_true rfl) h)))))
theorem cc_ck5_0 : (List.range' 0 200).all (cc_okP 5) = true := by decide +kernel
theorem cc_kk5 (pc : Nat) : cc_okP 5 pc = true := by
  by_cases h0 : pc < 200
  · exact cc_okB cc_ck5_0 (by omega) (by omega)
  · unfold cc_okP
    rw [show cc_cd 5 pc = none from cc_cb5 pc (by omega)]
theorem cc_cb6 (pc : Nat) (h : 48 ≤ pc) : cc_c6 pc = none := mm_ct (mm_cl9 (K := 23) h rfl) (mm_ct (mm_cl9 (K := 36) h rfl) (mm_ct (mm_cl9 (K := 41) h rfl) (mm_ct (mm_cl9 (K := 47) h rfl) (mm_ce (X := 47) (Nat.lt_of_lt_of_le (Nat.le_of_ble_eq_true rfl) h)))))
theorem cc_ck6_0 : (List.range' 0 200).all (cc_okP 6) = true := by decide +kernel
theorem cc_kk6 (pc : Nat) : cc_okP 6 pc = true := by
  by_cases h0 : pc < 200
  · exact cc_okB cc_ck6_0 (by omega) (by omega)
  · unfold cc_okP
    rw [show cc_cd 6 pc = none from cc_cb6 pc (by omega)]
theorem cc_cb7 (pc : Nat) (h : 23 ≤ pc) : cc_c7 pc = none := mm_ct (mm_cl9 (K := 13) h rfl) (mm_ct (mm_cl9 (K := 18) h rfl) (mm_ct (mm_cl9 (K := 22) h rfl) (mm_ce (X := 22) (Nat.lt_of_lt_of_le (Nat.le_of_ble_eq_true rfl) h))))
theorem cc_ck7_0 : (List.range' 0 200).all (cc_okP 7) = true := by decide +kernel
theorem cc_kk7 (pc : Nat) : cc_okP 7 pc = true := by
  by_cases h0 : pc < 200
  · exact cc_okB cc_ck7_0 (by omega) (by omega)
  · unfold cc_okP
    rw [show cc_cd 7 pc = none from cc_cb7 pc (by omega)]
theorem cc_cb8 (pc : Nat) (h : 47 ≤ pc) : cc_c8 pc = none := mm_ct (mm_cl9 (K := 25) h rfl) (mm_ct (mm_cl9 (K := 37) h rfl) (mm_ct (mm_cl9 (K := 42) h rfl) (mm_ct (mm_cl9 (K := 46) h rfl) (mm_ce (X := 46) (Nat.lt_of_lt_of_le (Nat.le_of_ble_eq_true rfl) h)))))
theorem cc_ck8_0 : (List.range' 0 200).all (cc_okP 8) = true := by decide +kernel
theorem cc_kk8 (pc : Nat) : cc_okP 8 pc = true := by
  by_cases h0 : pc < 200
  · exact cc_okB cc_ck8_0 (by omega) (by omega)
  · unfold cc_okP
    rw [show cc_cd 8 pc = none from cc_cb8 pc (by omega)]
theorem cc_cb9 (pc : Nat) (h : 76 ≤ pc) : cc_c9 pc = none := mm_ct (mm_cl9 (K := 42) h rfl) (mm_ct (mm_cl9 (K := 60) h rfl) (mm_ct (mm_cl9 (K := 67) h rfl) (mm_ct (mm_cl9 (K := 72) h rfl) (mm_ct (mm_cl9 (K := 75) h rfl) (mm_ce (X := 75) (Nat.lt_of_lt_of_le (Nat.le_of_ble_eq_true rfl) h))))))
theorem cc_ck9_0 : (List.range' 0 200).all (cc_okP 9) = true := by decide +kernel
theorem cc_kk9 (pc : Nat) : cc_okP 9 pc = true := by
  by_cases h0 : pc < 200
  · exact cc_okB cc_ck9_0 (by omega) (by omega)
  · unfold cc_okP
    rw [show cc_cd 9 pc = none from cc_cb9 pc (by omega)]
theorem cc_cb10 (pc : Nat) (h : 28 ≤ pc) : cc_c10 pc = none := mm_ct (mm_cl9 (K := 14) h rfl) (mm_ct (mm_cl9 (K := 22) h rfl) (mm_ct (mm_cl9 (K := 24) h rfl) (mm_ct (mm_cl9 (K := 27) h rfl) (mm_ce (X := 27) (Nat.lt_of_lt_of_le (Nat.le_of_ble_eq_true rfl) h)))))
theorem cc_ck10_0 : (List.range' 0 200).all (cc_okP 10) = true := by decide +kernel
theorem cc_kk10 (pc : Nat) : cc_okP 10 pc = true := by
  by_cases h0 : pc < 200
  · exact cc_okB cc_ck10_0 (by omega) (by omega)
  · unfold cc_okP
    rw [show cc_cd 10 pc = none from cc_cb10 pc (by omega)]
theorem cc_cb11 (pc : Nat) (h : 201 ≤ pc) : cc_c11 pc = none := mm_ct (mm_cl9 (K := 103) h rfl) (mm_ct (mm_cl9 (K := 154) h rfl) (mm_ct (mm_cl9 (K := 176) h rfl) (mm_ct (mm_cl9 (K := 189) h rfl) (mm_ct (mm_cl9 (K := 194) h rfl) (mm_ct (mm_cl9 (K := 200) h rfl) (mm_ce (X := 200) (Nat.lt_of_lt_of_le (Nat.le_of_ble_eq_true rfl) h)))))))
theorem cc_ck11_0 : (List.range' 0 200).all (cc_okP 11) = true := by decide +kernel
theorem cc_ck11_1 : (List.range' 200 200).all (cc_okP 11) = true := by decide +kernel
theorem cc_kk11 (pc : Nat) : cc_okP 11 pc = true := by
  by_cases h0 : pc < 200
  · exact cc_okB cc_ck11_0 (by omega) (by omega)
  by_cases h1 : pc < 400
  · exact cc_okB cc_ck11_1 (by omega) (by omega)
  · unfold cc_okP
    rw [show cc_cd 11 pc = none from cc_cb11 pc (by omega)]
theorem cc_cb12 (pc : Nat) (h : 652 ≤ pc) : cc_c12 pc = none := mm_ct (mm_cl9 (K := 312) h rfl) (mm_ct (mm_cl9 (K := 473) h rfl) (mm_ct (mm_cl9 (K := 565) h rfl) (mm_ct (mm_cl9 (K := 610) h rfl) (mm_ct (mm_cl9 (K := 631) h rfl) (mm_ct (mm_cl9 (K := 643) h rfl) (mm_ct (mm_cl9 (K := 648) h rfl) (mm_ct (mm_cl9 (K := 651) h rfl) (mm_ce (X := 651) (Nat.lt_of_lt_of_le (Nat.le_of_ble_eq_true rfl) h)))))))))
theorem cc_ck12_0 : (List.range' 0 200).all (cc_okP 12) = true := by decide +kernel
theorem cc_ck12_1 : (List.range' 200 200).all (cc_okP 12) = true := by decide +kernel
theorem cc_ck12_2 : (List.range' 400 200).all (cc_okP 12) = true := by decide +kernel
theorem cc_ck12_3 : (List.range' 600 200).all (cc_okP 12) = true := by decide +kernel
theorem cc_kk12 (pc : Nat) : cc_okP 12 pc = true := by
  by_cases h0 : pc < 200
  · exact cc_okB cc_ck12_0 (by omega) (by omega)
  by_cases h1 : pc < 400
  · exact cc_okB cc_ck12_1 (by omega) (by omega)
  by_cases h2 : pc < 600
  · exact cc_okB cc_ck12_2 (by omega) (by omega)
  by_cases h3 : pc < 800
  · exact cc_okB cc_ck12_3 (by omega) (by omega)
  · unfold cc_okP
    rw [show cc_cd 12 pc = none from cc_cb12 pc (by omega)]
theorem cc_cb13 (pc : Nat) (h : 21 ≤ pc) : cc_c13 pc = none := mm_ct (mm_cl9 (K := 10) h rfl) (mm_ct (mm_cl9 (K := 14) h rfl) (mm_ct (mm_cl9 (K := 20) h rfl) (mm_ce (X := 20) (Nat.lt_of_lt_of_le (Nat.le_of_ble_eq_true rfl) h))))
theorem cc_ck13_0 : (List.range' 0 200).all (cc_okP 13) = true := by decide +kernel
theorem cc_kk13 (pc : Nat) : cc_okP 13 pc = true := by
  by_cases h0 : pc < 200
  · exact cc_okB cc_ck13_0 (by omega) (by omega)
  · unfold cc_okP
    rw [show cc_cd 13 pc = none from cc_cb13 pc (by omega)]
theorem cc_kk : ∀ (k : Nat), k < 14 → ∀ pc, cc_okP k pc = true
  | 0, _ => cc_kk0
  | 1, _ => cc_kk1
  | 2, _ => cc_kk2
  | 3, _ => cc_kk3
  | 4, _ => cc_kk4
  | 5, _ => cc_kk5
  | 6, _ => cc_kk6
  | 7, _ => cc_kk7
  | 8, _ => cc_kk8
  | 9, _ => cc_kk9
  | 10, _ => cc_kk10
  | 11, _ => cc_kk11
  | 12, _ => cc_kk12
  | 13, _ => cc_kk13
  | n + 14, h => absurd h (by omega)
