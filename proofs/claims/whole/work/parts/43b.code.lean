/-! the bytes of the methods 81 to 140 say what the tables say (by program: wip/gen/gen_code.py) -/
theorem mm_cb81 (pc : Nat) (h : 182 ≤ pc) : mm_c81 pc = none := mm_ct (mm_cl9 (K := 99) h rfl) (mm_ct (mm_cl9 (K := 141) h rfl) (mm_ct (mm_cl9 (K := 162) h rfl) (mm_ct (mm_cl9 (K := 174) h rfl) (mm_ct (mm_cl9 (K := 177) h rfl) (mm_ct (mm_cl9 (K := 181) h rfl) (mm_ce (X := 181) (Nat.lt_of_lt_of_le (Nat.le_of_ble_eq_true rfl) h)))))))
theorem mm_ck81 : (List.range 182).all (mm_okP 81) = true := by decide +kernel
theorem mm_kk81 (pc : Nat) : mm_okP 81 pc = true := mm_okA mm_ck81 (fun h => mm_cb81 pc h)
theorem mm_cb82 (pc : Nat) (h : 154 ≤ pc) : mm_c82 pc = none := mm_ct (mm_cl9 (K := 102) h rfl) (mm_ct (mm_cl9 (K := 128) h rfl) (mm_ct (mm_cl9 (K := 141) h rfl) (mm_ct (mm_cl9 (K := 149) h rfl) (mm_ct (mm_cl9 (K := 153) h rfl) (mm_ce (X := 153) (Nat.lt_of_lt_of_le (Nat.le_of_ble_eq_true rfl) h))))))
theorem mm_ck82 : (List.range 154).all (mm_okP 82) = true := by decide +kernel
theorem mm_kk82 (pc : Nat) : mm_okP 82 pc = true := mm_okA mm_ck82 (fun h => mm_cb82 pc h)
theorem mm_cb83 (pc : Nat) (h : 88 ≤ pc) : mm_c83 pc = none := mm_ct (mm_cl9 (K := 81) h rfl) (mm_ct (mm_cl9 (K := 85) h rfl) (mm_ct (mm_cl9 (K := 87) h rfl) (mm_ce (X := 87) (Nat.lt_of_lt_of_le (Nat.le_of_ble_eq_true rfl) h))))
theorem mm_ck83 : (List.range 88).all (mm_okP 83) = true := by decide +kernel
theorem mm_kk83 (pc : Nat) : mm_okP 83 pc = true := mm_okA mm_ck83 (fun h => mm_cb83 pc h)
theorem mm_cb84 (pc : Nat) (h : 33 ≤ pc) : mm_c84 pc = none := mm_ct (mm_cl9 (K := 17) h rfl) (mm_ct (mm_cl9 (K := 27) h rfl) (mm_ct (mm_cl9 (K := 31) h rfl) (mm_ct (mm_cl9 (K := 32) h rfl) (mm_ce (X := 32) (Nat.lt_of_lt_of_le (Nat.le_of_ble_eq_true rfl) h)))))
theorem mm_ck84 : (List.range 33).all (mm_okP 84) = true := by decide +kernel
theorem mm_kk84 (pc : Nat) : mm_okP 84 pc = true := mm_okA mm_ck84 (fun h => mm_cb84 pc h)
theorem mm_cb85 (pc : Nat) (h : 43 ≤ pc) : mm_c85 pc = none := mm_ct (mm_cl9 (K := 32) h rfl) (mm_ct (mm_cl9 (K := 38) h rfl) (mm_ct (mm_cl9 (K := 42) h rfl) (mm_ce (X := 42) (Nat.lt_of_lt_of_le (Nat.le_of_ble_eq_true rfl) h))))
theorem mm_ck85 : (List.range 43).all (mm_okP 85) = true := by decide +kernel
theorem mm_kk85 (pc : Nat) : mm_okP 85 pc = true := mm_okA mm_ck85 (fun h => mm_cb85 pc h)
theorem mm_cb86 (pc : Nat) (h : 24 ≤ pc) : mm_c86 pc = none := mm_ct (mm_cl9 (K := 12) h rfl) (mm_ct (mm_cl9 (K := 19) h rfl) (mm_ct (mm_cl9 (K := 23) h rfl) (mm_ce (X := 23) (Nat.lt_of_lt_of_le (Nat.le_of_ble_eq_true rfl) h))))
theorem mm_ck86 : (List.range 24).all (mm_okP 86) = true := by decide +kernel
theorem mm_kk86 (pc : Nat) : mm_okP 86 pc = true := mm_okA mm_ck86 (fun h => mm_cb86 pc h)
theorem mm_cb87 (pc : Nat) (h : 20 ≤ pc) : mm_c87 pc = none := mm_ct (mm_cl9 (K := 11) h rfl) (mm_ct (mm_cl9 (K := 18) h rfl) (mm_ct (mm_cl9 (K := 19) h rfl) (mm_ce (X := 19) (Nat.lt_of_lt_of_le (Nat.le_of_ble_eq_true rfl) h))))
theorem mm_ck87 : (List.range 20).all (mm_okP 87) = true := by decide +kernel
theorem mm_kk87 (pc : Nat) : mm_okP 87 pc = true := mm_okA mm_ck87 (fun h => mm_cb87 pc h)
theorem mm_cb88 (pc : Nat) (h : 10 ≤ pc) : mm_c88 pc = none := mm_ct (mm_cl9 (K := 5) h rfl) (mm_ct (mm_cl9 (K := 9) h rfl) (mm_ce (X := 9) (Nat.lt_of_lt_of_le (Nat.le_of_ble_eq_true rfl) h)))
theorem mm_ck88 : (List.range 10).all (mm_okP 88) = true := by decide +kernel
theorem mm_kk88 (pc : Nat) : mm_okP 88 pc = true := mm_okA mm_ck88 (fun h => mm_cb88 pc h)
theorem mm_cb89 (pc : Nat) (h : 164 ≤ pc) : mm_c89 pc = none := mm_ct (mm_cl9 (K := 83) h rfl) (mm_ct (mm_cl9 (K := 126) h rfl) (mm_ct (mm_cl9 (K := 147) h rfl) (mm_ct (mm_cl9 (K := 157) h rfl) (mm_ct (mm_cl9 (K := 162) h rfl) (mm_ct (mm_cl9 (K := 163) h rfl) (mm_ce (X := 163) (Nat.lt_of_lt_of_le (Nat.le_of_ble_eq_true rfl) h)))))))
theorem mm_ck89 : (List.range 164).all (mm_okP 89) = true := by decide +kernel
theorem mm_kk89 (pc : Nat) : mm_okP 89 pc = true := mm_okA mm_ck89 (fun h => mm_cb89 pc h)
theorem mm_cb90 (pc : Nat) (h : 21 ≤ pc) : mm_c90 pc = none := mm_ct (mm_cl9 (K := 12) h rfl) (mm_ct (mm_cl9 (K := 18) h rfl) (mm_ct (mm_cl9 (K := 20) h rfl) (mm_ce (X := 20) (Nat.lt_of_lt_of_le (Nat.le_of_ble_eq_true rfl) h))))
theorem mm_ck90 : (List.range 21).all (mm_okP 90) = true := by decide +kernel
theorem mm_kk90 (pc : Nat) : mm_okP 90 pc = true := mm_okA mm_ck90 (fun h => mm_cb90 pc h)
theorem mm_cb91 (pc : Nat) (h : 86 ≤ pc) : mm_c91 pc = none := mm_ct (mm_cl9 (K := 43) h rfl) (mm_ct (mm_cl9 (K := 63) h rfl) (mm_ct (mm_cl9 (K := 75) h rfl) (mm_ct (mm_cl9 (K := 82) h rfl) (mm_ct (mm_cl9 (K := 85) h rfl) (mm_ce (X := 85) (Nat.lt_of_lt_of_le (Nat.le_of_ble_eq_true rfl) h))))))
theorem mm_ck91 : (List.range 86).all (mm_okP 91) = true := by decide +kernel
theorem mm_kk91 (pc : Nat) : mm_okP 91 pc = true := mm_okA mm_ck91 (fun h => mm_cb91 pc h)
theorem mm_cb92 (pc : Nat) (h : 36 ≤ pc) : mm_c92 pc = none := mm_ct (mm_cl9 (K := 17) h rfl) (mm_ct (mm_cl9 (K := 27) h rfl) (mm_ct (mm_cl9 (K := 34) h rfl) (mm_ct (mm_cl9 (K := 35) h rfl) (mm_ce (X := 35) (Nat.lt_of_lt_of_le (Nat.le_of_ble_eq_true rfl) h)))))
theorem mm_ck92 : (List.range 36).all (mm_okP 92) = true := by decide +kernel
theorem mm_kk92 (pc : Nat) : mm_okP 92 pc = true := mm_okA mm_ck92 (fun h => mm_cb92 pc h)
theorem mm_cb93 (pc : Nat) (h : 27 ≤ pc) : mm_c93 pc = none := mm_ct (mm_cl9 (K := 13) h rfl) (mm_ct (mm_cl9 (K := 17) h rfl) (mm_ct (mm_cl9 (K := 23) h rfl) (mm_ct (mm_cl9 (K := 26) h rfl) (mm_ce (X := 26) (Nat.lt_of_lt_of_le (Nat.le_of_ble_eq_true rfl) h)))))
theorem mm_ck93 : (List.range 27).all (mm_okP 93) = true := by decide +kernel
theorem mm_kk93 (pc : Nat) : mm_okP 93 pc = true := mm_okA mm_ck93 (fun h => mm_cb93 pc h)
theorem mm_cb94 (pc : Nat) (h : 83 ≤ pc) : mm_c94 pc = none := mm_ct (mm_cl9 (K := 56) h rfl) (mm_ct (mm_cl9 (K := 72) h rfl) (mm_ct (mm_cl9 (K := 79) h rfl) (mm_ct (mm_cl9 (K := 81) h rfl) (mm_ct (mm_cl9 (K := 82) h rfl) (mm_ce (X := 82) (Nat.lt_of_lt_of_le (Nat.le_of_ble_eq_true rfl) h))))))
theorem mm_ck94 : (List.range 83).all (mm_okP 94) = true := by decide +kernel
theorem mm_kk94 (pc : Nat) : mm_okP 94 pc = true := mm_okA mm_ck94 (fun h => mm_cb94 pc h)
theorem mm_cb95 (pc : Nat) (h : 41 ≤ pc) : mm_c95 pc = none := mm_ct (mm_cl9 (K := 22) h rfl) (mm_ct (mm_cl9 (K := 30) h rfl) (mm_ct (mm_cl9 (K := 37) h rfl) (mm_ct (mm_cl9 (K := 40) h rfl) (mm_ce (X := 40) (Nat.lt_of_lt_of_le (Nat.le_of_ble_eq_true rfl) h)))))
theorem mm_ck95 : (List.range 41).all (mm_okP 95) = true := by decide +kernel
theorem mm_kk95 (pc : Nat) : mm_okP 95 pc = true := mm_okA mm_ck95 (fun h => mm_cb95 pc h)
theorem mm_cb96 (pc : Nat) (h : 95 ≤ pc) : mm_c96 pc = none := mm_ct (mm_cl9 (K := 49) h rfl) (mm_ct (mm_cl9 (K := 71) h rfl) (mm_ct (mm_cl9 (K := 83) h rfl) (mm_ct (mm_cl9 (K := 89) h rfl) (mm_ct (mm_cl9 (K := 94) h rfl) (mm_ce (X := 94) (Nat.lt_of_lt_of_le (Nat.le_of_ble_eq_true rfl) h))))))
theorem mm_ck96 : (List.range 95).all (mm_okP 96) = true := by decide +kernel
theorem mm_kk96 (pc : Nat) : mm_okP 96 pc = true := mm_okA mm_ck96 (fun h => mm_cb96 pc h)
theorem mm_cb97 (pc : Nat) (h : 79 ≤ pc) : mm_c97 pc = none := mm_ct (mm_cl9 (K := 39) h rfl) (mm_ct (mm_cl9 (K := 59) h rfl) (mm_ct (mm_cl9 (K := 69) h rfl) (mm_ct (mm_cl9 (K := 74) h rfl) (mm_ct (mm_cl9 (K := 78) h rfl) (mm_ce (X := 78) (Nat.lt_of_lt_of_le (Nat.le_of_ble_eq_true rfl) h))))))
theorem mm_ck97 : (List.range 79).all (mm_okP 97) = true := by decide +kernel
theorem mm_kk97 (pc : Nat) : mm_okP 97 pc = true := mm_okA mm_ck97 (fun h => mm_cb97 pc h)
theorem mm_cb98 (pc : Nat) (h : 33 ≤ pc) : mm_c98 pc = none := mm_ct (mm_cl9 (K := 18) h rfl) (mm_ct (mm_cl9 (K := 25) h rfl) (mm_ct (mm_cl9 (K := 31) h rfl) (mm_ct (mm_cl9 (K := 32) h rfl) (mm_ce (X := 32) (Nat.lt_of_lt_of_le (Nat.le_of_ble_eq_true rfl) h)))))
theorem mm_ck98 : (List.range 33).all (mm_okP 98) = true := by decide +kernel
theorem mm_kk98 (pc : Nat) : mm_okP 98 pc = true := mm_okA mm_ck98 (fun h => mm_cb98 pc h)
theorem mm_cb99 (pc : Nat) (h : 54 ≤ pc) : mm_c99 pc = none := mm_ct (mm_cl9 (K := 28) h rfl) (mm_ct (mm_cl9 (K := 42) h rfl) (mm_ct (mm_cl9 (K := 46) h rfl) (mm_ct (mm_cl9 (K := 52) h rfl) (mm_ct (mm_cl9 (K := 53) h rfl) (mm_ce (X := 53) (Nat.lt_of_lt_of_le (Nat.le_of_ble_eq_true rfl) h))))))
theorem mm_ck99 : (List.range 54).all (mm_okP 99) = true := by decide +kernel
theorem mm_kk99 (pc : Nat) : mm_okP 99 pc = true := mm_okA mm_ck99 (fun h => mm_cb99 pc h)
theorem mm_cb100 (pc : Nat) (h : 33 ≤ pc) : mm_c100 pc = none := mm_ct (mm_cl9 (K := 19) h rfl) (mm_ct (mm_cl9 (K := 26) h rfl) (mm_ct (mm_cl9 (K := 31) h rfl) (mm_ct (mm_cl9 (K := 32) h rfl) (mm_ce (X := 32) (Nat.lt_of_lt_of_le (Nat.le_of_ble_eq_true rfl) h)))))
theorem mm_ck100 : (List.range 33).all (mm_okP 100) = true := by decide +kernel
theorem mm_kk100 (pc : Nat) : mm_okP 100 pc = true := mm_okA mm_ck100 (fun h => mm_cb100 pc h)
theorem mm_cb101 (pc : Nat) (h : 44 ≤ pc) : mm_c101 pc = none := mm_ct (mm_cl9 (K := 20) h rfl) (mm_ct (mm_cl9 (K := 32) h rfl) (mm_ct (mm_cl9 (K := 39) h rfl) (mm_ct (mm_cl9 (K := 43) h rfl) (mm_ce (X := 43) (Nat.lt_of_lt_of_le (Nat.le_of_ble_eq_true rfl) h)))))
theorem mm_ck101 : (List.range 44).all (mm_okP 101) = true := by decide +kernel
theorem mm_kk101 (pc : Nat) : mm_okP 101 pc = true := mm_okA mm_ck101 (fun h => mm_cb101 pc h)
theorem mm_cb102 (pc : Nat) (h : 134 ≤ pc) : mm_c102 pc = none := mm_ct (mm_cl9 (K := 70) h rfl) (mm_ct (mm_cl9 (K := 102) h rfl) (mm_ct (mm_cl9 (K := 121) h rfl) (mm_ct (mm_cl9 (K := 128) h rfl) (mm_ct (mm_cl9 (K := 132) h rfl) (mm_ct (mm_cl9 (K := 133) h rfl) (mm_ce (X := 133) (Nat.lt_of_lt_of_le (Nat.le_of_ble_eq_true rfl) h)))))))
theorem mm_ck102 : (List.range 134).all (mm_okP 102) = true := by decide +kernel
theorem mm_kk102 (pc : Nat) : mm_okP 102 pc = true := mm_okA mm_ck102 (fun h => mm_cb102 pc h)
theorem mm_cb103 (pc : Nat) (h : 98 ≤ pc) : mm_c103 pc = none := mm_ct (mm_cl9 (K := 61) h rfl) (mm_ct (mm_cl9 (K := 80) h rfl) (mm_ct (mm_cl9 (K := 91) h rfl) (mm_ct (mm_cl9 (K := 96) h rfl) (mm_ct (mm_cl9 (K := 97) h rfl) (mm_ce (X := 97) (Nat.lt_of_lt_of_le (Nat.le_of_ble_eq_true rfl) h))))))
theorem mm_ck103 : (List.range 98).all (mm_okP 103) = true := by decide +kernel
theorem mm_kk103 (pc : Nat) : mm_okP 103 pc = true := mm_okA mm_ck103 (fun h => mm_cb103 pc h)
theorem mm_cb104 (pc : Nat) (h : 31 ≤ pc) : mm_c104 pc = none := mm_ct (mm_cl9 (K := 16) h rfl) (mm_ct (mm_cl9 (K := 25) h rfl) (mm_ct (mm_cl9 (K := 29) h rfl) (mm_ct (mm_cl9 (K := 30) h rfl) (mm_ce (X := 30) (Nat.lt_of_lt_of_le (Nat.le_of_ble_eq_true rfl) h)))))
theorem mm_ck104 : (List.range 31).all (mm_okP 104) = true := by decide +kernel
theorem mm_kk104 (pc : Nat) : mm_okP 104 pc = true := mm_okA mm_ck104 (fun h => mm_cb104 pc h)
theorem mm_cb105 (pc : Nat) (h : 33 ≤ pc) : mm_c105 pc = none := mm_ct (mm_cl9 (K := 16) h rfl) (mm_ct (mm_cl9 (K := 25) h rfl) (mm_ct (mm_cl9 (K := 31) h rfl) (mm_ct (mm_cl9 (K := 32) h rfl) (mm_ce (X := 32) (Nat.lt_of_lt_of_le (Nat.le_of_ble_eq_true rfl) h)))))
theorem mm_ck105 : (List.range 33).all (mm_okP 105) = true := by decide +kernel
theorem mm_kk105 (pc : Nat) : mm_okP 105 pc = true := mm_okA mm_ck105 (fun h => mm_cb105 pc h)
theorem mm_cb106 (pc : Nat) (h : 122 ≤ pc) : mm_c106 pc = none := mm_ct (mm_cl9 (K := 77) h rfl) (mm_ct (mm_cl9 (K := 99) h rfl) (mm_ct (mm_cl9 (K := 112) h rfl) (mm_ct (mm_cl9 (K := 117) h rfl) (mm_ct (mm_cl9 (K := 121) h rfl) (mm_ce (X := 121) (Nat.lt_of_lt_of_le (Nat.le_of_ble_eq_true rfl) h))))))
theorem mm_ck106 : (List.range 122).all (mm_okP 106) = true := by decide +kernel
theorem mm_kk106 (pc : Nat) : mm_okP 106 pc = true := mm_okA mm_ck106 (fun h => mm_cb106 pc h)
theorem mm_cb107 (pc : Nat) (h : 187 ≤ pc) : mm_c107 pc = none := mm_ct (mm_cl9 (K := 92) h rfl) (mm_ct (mm_cl9 (K := 140) h rfl) (mm_ct (mm_cl9 (K := 163) h rfl) (mm_ct (mm_cl9 (K := 176) h rfl) (mm_ct (mm_cl9 (K := 182) h rfl) (mm_ct (mm_cl9 (K := 186) h rfl) (mm_ce (X := 186) (Nat.lt_of_lt_of_le (Nat.le_of_ble_eq_true rfl) h)))))))
theorem mm_ck107 : (List.range 187).all (mm_okP 107) = true := by decide +kernel
theorem mm_kk107 (pc : Nat) : mm_okP 107 pc = true := mm_okA mm_ck107 (fun h => mm_cb107 pc h)
theorem mm_cb108 (pc : Nat) (h : 108 ≤ pc) : mm_c108 pc = none := mm_ct (mm_cl9 (K := 57) h rfl) (mm_ct (mm_cl9 (K := 85) h rfl) (mm_ct (mm_cl9 (K := 97) h rfl) (mm_ct (mm_cl9 (K := 104) h rfl) (mm_ct (mm_cl9 (K := 107) h rfl) (mm_ce (X := 107) (Nat.lt_of_lt_of_le (Nat.le_of_ble_eq_true rfl) h))))))
theorem mm_ck108 : (List.range 108).all (mm_okP 108) = true := by decide +kernel
theorem mm_kk108 (pc : Nat) : mm_okP 108 pc = true := mm_okA mm_ck108 (fun h => mm_cb108 pc h)
theorem mm_cb109 (pc : Nat) (h : 62 ≤ pc) : mm_c109 pc = none := mm_ct (mm_cl9 (K := 32) h rfl) (mm_ct (mm_cl9 (K := 49) h rfl) (mm_ct (mm_cl9 (K := 55) h rfl) (mm_ct (mm_cl9 (K := 59) h rfl) (mm_ct (mm_cl9 (K := 61) h rfl) (mm_ce (X := 61) (Nat.lt_of_lt_of_le (Nat.le_of_ble_eq_true rfl) h))))))
theorem mm_ck109 : (List.range 62).all (mm_okP 109) = true := by decide +kernel
theorem mm_kk109 (pc : Nat) : mm_okP 109 pc = true := mm_okA mm_ck109 (fun h => mm_cb109 pc h)
theorem mm_cb110 (pc : Nat) (h : 37 ≤ pc) : mm_c110 pc = none := mm_ct (mm_cl9 (K := 21) h rfl) (mm_ct (mm_cl9 (K := 28) h rfl) (mm_ct (mm_cl9 (K := 33) h rfl) (mm_ct (mm_cl9 (K := 36) h rfl) (mm_ce (X := 36) (Nat.lt_of_lt_of_le (Nat.le_of_ble_eq_true rfl) h)))))
theorem mm_ck110 : (List.range 37).all (mm_okP 110) = true := by decide +kernel
theorem mm_kk110 (pc : Nat) : mm_okP 110 pc = true := mm_okA mm_ck110 (fun h => mm_cb110 pc h)
theorem mm_cb111 (pc : Nat) (h : 57 ≤ pc) : mm_c111 pc = none := mm_ct (mm_cl9 (K := 26) h rfl) (mm_ct (mm_cl9 (K := 40) h rfl) (mm_ct (mm_cl9 (K := 47) h rfl) (mm_ct (mm_cl9 (K := 53) h rfl) (mm_ct (mm_cl9 (K := 56) h rfl) (mm_ce (X := 56) (Nat.lt_of_lt_of_le (Nat.le_of_ble_eq_true rfl) h))))))
theorem mm_ck111 : (List.range 57).all (mm_okP 111) = true := by decide +kernel
theorem mm_kk111 (pc : Nat) : mm_okP 111 pc = true := mm_okA mm_ck111 (fun h => mm_cb111 pc h)
theorem mm_cb112 (pc : Nat) (h : 45 ≤ pc) : mm_c112 pc = none := mm_ct (mm_cl9 (K := 24) h rfl) (mm_ct (mm_cl9 (K := 35) h rfl) (mm_ct (mm_cl9 (K := 40) h rfl) (mm_ct (mm_cl9 (K := 44) h rfl) (mm_ce (X := 44) (Nat.lt_of_lt_of_le (Nat.le_of_ble_eq_true rfl) h)))))
theorem mm_ck112 : (List.range 45).all (mm_okP 112) = true := by decide +kernel
theorem mm_kk112 (pc : Nat) : mm_okP 112 pc = true := mm_okA mm_ck112 (fun h => mm_cb112 pc h)
theorem mm_cb113 (pc : Nat) (h : 28 ≤ pc) : mm_c113 pc = none := mm_ct (mm_cl9 (K := 14) h rfl) (mm_ct (mm_cl9 (K := 20) h rfl) (mm_ct (mm_cl9 (K := 26) h rfl) (mm_ct (mm_cl9 (K := 27) h rfl) (mm_ce (X := 27) (Nat.lt_of_lt_of_le (Nat.le_of_ble_eq_true rfl) h)))))
theorem mm_ck113 : (List.range 28).all (mm_okP 113) = true := by decide +kernel
theorem mm_kk113 (pc : Nat) : mm_okP 113 pc = true := mm_okA mm_ck113 (fun h => mm_cb113 pc h)
theorem mm_cb114 (pc : Nat) (h : 109 ≤ pc) : mm_c114 pc = none := mm_ct (mm_cl9 (K := 58) h rfl) (mm_ct (mm_cl9 (K := 84) h rfl) (mm_ct (mm_cl9 (K := 97) h rfl) (mm_ct (mm_cl9 (K := 103) h rfl) (mm_ct (mm_cl9 (K := 105) h rfl) (mm_ct (mm_cl9 (K := 108) h rfl) (mm_ce (X := 108) (Nat.lt_of_lt_of_le (Nat.le_of_ble_eq_true rfl) h)))))))
theorem mm_ck114 : (List.range 109).all (mm_okP 114) = true := by decide +kernel
theorem mm_kk114 (pc : Nat) : mm_okP 114 pc = true := mm_okA mm_ck114 (fun h => mm_cb114 pc h)
theorem mm_cb115 (pc : Nat) (h : 45 ≤ pc) : mm_c115 pc = none := mm_ct (mm_cl9 (K := 22) h rfl) (mm_ct (mm_cl9 (K := 33) h rfl) (mm_ct (mm_cl9 (K := 38) h rfl) (mm_ct (mm_cl9 (K := 44) h rfl) (mm_ce (X := 44) (Nat.lt_of_lt_of_le (Nat.le_of_ble_eq_true rfl) h)))))
theorem mm_ck115 : (List.range 45).all (mm_okP 115) = true := by decide +kernel
theorem mm_kk115 (pc : Nat) : mm_okP 115 pc = true := mm_okA mm_ck115 (fun h => mm_cb115 pc h)
theorem mm_cb116 (pc : Nat) (h : 60 ≤ pc) : mm_c116 pc = none := mm_ct (mm_cl9 (K := 29) h rfl) (mm_ct (mm_cl9 (K := 42) h rfl) (mm_ct (mm_cl9 (K := 50) h rfl) (mm_ct (mm_cl9 (K := 56) h rfl) (mm_ct (mm_cl9 (K := 59) h rfl) (mm_ce (X := 59) (Nat.lt_of_lt_of_le (Nat.le_of_ble_eq_true rfl) h))))))
theorem mm_ck116 : (List.range 60).all (mm_okP 116) = true := by decide +kernel
theorem mm_kk116 (pc : Nat) : mm_okP 116 pc = true := mm_okA mm_ck116 (fun h => mm_cb116 pc h)
theorem mm_cb117 (pc : Nat) (h : 63 ≤ pc) : mm_c117 pc = none := mm_ct (mm_cl9 (K := 33) h rfl) (mm_ct (mm_cl9 (K := 48) h rfl) (mm_ct (mm_cl9 (K := 55) h rfl) (mm_ct (mm_cl9 (K := 61) h rfl) (mm_ct (mm_cl9 (K := 62) h rfl) (mm_ce (X := 62) (Nat.lt_of_lt_of_le (Nat.le_of_ble_eq_true rfl) h))))))
theorem mm_ck117 : (List.range 63).all (mm_okP 117) = true := by decide +kernel
theorem mm_kk117 (pc : Nat) : mm_okP 117 pc = true := mm_okA mm_ck117 (fun h => mm_cb117 pc h)
theorem mm_cb118 (pc : Nat) (h : 27 ≤ pc) : mm_c118 pc = none := mm_ct (mm_cl9 (K := 14) h rfl) (mm_ct (mm_cl9 (K := 22) h rfl) (mm_ct (mm_cl9 (K := 26) h rfl) (mm_ce (X := 26) (Nat.lt_of_lt_of_le (Nat.le_of_ble_eq_true rfl) h))))
theorem mm_ck118 : (List.range 27).all (mm_okP 118) = true := by decide +kernel
theorem mm_kk118 (pc : Nat) : mm_okP 118 pc = true := mm_okA mm_ck118 (fun h => mm_cb118 pc h)
theorem mm_cb119 (pc : Nat) (h : 54 ≤ pc) : mm_c119 pc = none := mm_ct (mm_cl9 (K := 29) h rfl) (mm_ct (mm_cl9 (K := 41) h rfl) (mm_ct (mm_cl9 (K := 49) h rfl) (mm_ct (mm_cl9 (K := 53) h rfl) (mm_ce (X := 53) (Nat.lt_of_lt_of_le (Nat.le_of_ble_eq_true rfl) h)))))
theorem mm_ck119 : (List.range 54).all (mm_okP 119) = true := by decide +kernel
theorem mm_kk119 (pc : Nat) : mm_okP 119 pc = true := mm_okA mm_ck119 (fun h => mm_cb119 pc h)
theorem mm_cb120 (pc : Nat) (h : 30 ≤ pc) : mm_c120 pc = none := mm_ct (mm_cl9 (K := 15) h rfl) (mm_ct (mm_cl9 (K := 22) h rfl) (mm_ct (mm_cl9 (K := 28) h rfl) (mm_ct (mm_cl9 (K := 29) h rfl) (mm_ce (X := 29) (Nat.lt_of_lt_of_le (Nat.le_of_ble_eq_true rfl) h)))))
theorem mm_ck120 : (List.range 30).all (mm_okP 120) = true := by decide +kernel
theorem mm_kk120 (pc : Nat) : mm_okP 120 pc = true := mm_okA mm_ck120 (fun h => mm_cb120 pc h)
theorem mm_cb121 (pc : Nat) (h : 16 ≤ pc) : mm_c121 pc = none := mm_ct (mm_cl9 (K := 8) h rfl) (mm_ct (mm_cl9 (K := 12) h rfl) (mm_ct (mm_cl9 (K := 15) h rfl) (mm_ce (X := 15) (Nat.lt_of_lt_of_le (Nat.le_of_ble_eq_true rfl) h))))
theorem mm_ck121 : (List.range 16).all (mm_okP 121) = true := by decide +kernel
theorem mm_kk121 (pc : Nat) : mm_okP 121 pc = true := mm_okA mm_ck121 (fun h => mm_cb121 pc h)
theorem mm_cb122 (pc : Nat) (h : 74 ≤ pc) : mm_c122 pc = none := mm_ct (mm_cl9 (K := 34) h rfl) (mm_ct (mm_cl9 (K := 51) h rfl) (mm_ct (mm_cl9 (K := 63) h rfl) (mm_ct (mm_cl9 (K := 70) h rfl) (mm_ct (mm_cl9 (K := 73) h rfl) (mm_ce (X := 73) (Nat.lt_of_lt_of_le (Nat.le_of_ble_eq_true rfl) h))))))
theorem mm_ck122 : (List.range 74).all (mm_okP 122) = true := by decide +kernel
theorem mm_kk122 (pc : Nat) : mm_okP 122 pc = true := mm_okA mm_ck122 (fun h => mm_cb122 pc h)
theorem mm_cb123 (pc : Nat) (h : 47 ≤ pc) : mm_c123 pc = none := mm_ct (mm_cl9 (K := 23) h rfl) (mm_ct (mm_cl9 (K := 34) h rfl) (mm_ct (mm_cl9 (K := 40) h rfl) (mm_ct (mm_cl9 (K := 46) h rfl) (mm_ce (X := 46) (Nat.lt_of_lt_of_le (Nat.le_of_ble_eq_true rfl) h)))))
theorem mm_ck123 : (List.range 47).all (mm_okP 123) = true := by decide +kernel
theorem mm_kk123 (pc : Nat) : mm_okP 123 pc = true := mm_okA mm_ck123 (fun h => mm_cb123 pc h)
theorem mm_cb124 (pc : Nat) (h : 38 ≤ pc) : mm_c124 pc = none := mm_ct (mm_cl9 (K := 19) h rfl) (mm_ct (mm_cl9 (K := 28) h rfl) (mm_ct (mm_cl9 (K := 34) h rfl) (mm_ct (mm_cl9 (K := 37) h rfl) (mm_ce (X := 37) (Nat.lt_of_lt_of_le (Nat.le_of_ble_eq_true rfl) h)))))
theorem mm_ck124 : (List.range 38).all (mm_okP 124) = true := by decide +kernel
theorem mm_kk124 (pc : Nat) : mm_okP 124 pc = true := mm_okA mm_ck124 (fun h => mm_cb124 pc h)
theorem mm_cb125 (pc : Nat) (h : 48 ≤ pc) : mm_c125 pc = none := mm_ct (mm_cl9 (K := 24) h rfl) (mm_ct (mm_cl9 (K := 37) h rfl) (mm_ct (mm_cl9 (K := 43) h rfl) (mm_ct (mm_cl9 (K := 47) h rfl) (mm_ce (X := 47) (Nat.lt_of_lt_of_le (Nat.le_of_ble_eq_true rfl) h)))))
theorem mm_ck125 : (List.range 48).all (mm_okP 125) = true := by decide +kernel
theorem mm_kk125 (pc : Nat) : mm_okP 125 pc = true := mm_okA mm_ck125 (fun h => mm_cb125 pc h)
theorem mm_cb126 (pc : Nat) (h : 30 ≤ pc) : mm_c126 pc = none := mm_ct (mm_cl9 (K := 15) h rfl) (mm_ct (mm_cl9 (K := 22) h rfl) (mm_ct (mm_cl9 (K := 28) h rfl) (mm_ct (mm_cl9 (K := 29) h rfl) (mm_ce (X := 29) (Nat.lt_of_lt_of_le (Nat.le_of_ble_eq_true rfl) h)))))
theorem mm_ck126 : (List.range 30).all (mm_okP 126) = true := by decide +kernel
theorem mm_kk126 (pc : Nat) : mm_okP 126 pc = true := mm_okA mm_ck126 (fun h => mm_cb126 pc h)
theorem mm_cb127 (pc : Nat) (h : 44 ≤ pc) : mm_c127 pc = none := mm_ct (mm_cl9 (K := 22) h rfl) (mm_ct (mm_cl9 (K := 32) h rfl) (mm_ct (mm_cl9 (K := 37) h rfl) (mm_ct (mm_cl9 (K := 43) h rfl) (mm_ce (X := 43) (Nat.lt_of_lt_of_le (Nat.le_of_ble_eq_true rfl) h)))))
theorem mm_ck127 : (List.range 44).all (mm_okP 127) = true := by decide +kernel
theorem mm_kk127 (pc : Nat) : mm_okP 127 pc = true := mm_okA mm_ck127 (fun h => mm_cb127 pc h)
theorem mm_cb128 (pc : Nat) (h : 109 ≤ pc) : mm_c128 pc = none := mm_ct (mm_cl9 (K := 50) h rfl) (mm_ct (mm_cl9 (K := 82) h rfl) (mm_ct (mm_cl9 (K := 96) h rfl) (mm_ct (mm_cl9 (K := 104) h rfl) (mm_ct (mm_cl9 (K := 108) h rfl) (mm_ce (X := 108) (Nat.lt_of_lt_of_le (Nat.le_of_ble_eq_true rfl) h))))))
theorem mm_ck128 : (List.range 109).all (mm_okP 128) = true := by decide +kernel
theorem mm_kk128 (pc : Nat) : mm_okP 128 pc = true := mm_okA mm_ck128 (fun h => mm_cb128 pc h)
theorem mm_cb129 (pc : Nat) (h : 52 ≤ pc) : mm_c129 pc = none := mm_ct (mm_cl9 (K := 25) h rfl) (mm_ct (mm_cl9 (K := 38) h rfl) (mm_ct (mm_cl9 (K := 43) h rfl) (mm_ct (mm_cl9 (K := 49) h rfl) (mm_ct (mm_cl9 (K := 51) h rfl) (mm_ce (X := 51) (Nat.lt_of_lt_of_le (Nat.le_of_ble_eq_true rfl) h))))))
theorem mm_ck129 : (List.range 52).all (mm_okP 129) = true := by decide +kernel
theorem mm_kk129 (pc : Nat) : mm_okP 129 pc = true := mm_okA mm_ck129 (fun h => mm_cb129 pc h)
theorem mm_cb130 (pc : Nat) (h : 55 ≤ pc) : mm_c130 pc = none := mm_ct (mm_cl9 (K := 23) h rfl) (mm_ct (mm_cl9 (K := 40) h rfl) (mm_ct (mm_cl9 (K := 47) h rfl) (mm_ct (mm_cl9 (K := 53) h rfl) (mm_ct (mm_cl9 (K := 54) h rfl) (mm_ce (X := 54) (Nat.lt_of_lt_of_le (Nat.le_of_ble_eq_true rfl) h))))))
theorem mm_ck130 : (List.range 55).all (mm_okP 130) = true := by decide +kernel
theorem mm_kk130 (pc : Nat) : mm_okP 130 pc = true := mm_okA mm_ck130 (fun h => mm_cb130 pc h)
theorem mm_cb131 (pc : Nat) (h : 46 ≤ pc) : mm_c131 pc = none := mm_ct (mm_cl9 (K := 24) h rfl) (mm_ct (mm_cl9 (K := 35) h rfl) (mm_ct (mm_cl9 (K := 41) h rfl) (mm_ct (mm_cl9 (K := 45) h rfl) (mm_ce (X := 45) (Nat.lt_of_lt_of_le (Nat.le_of_ble_eq_true rfl) h)))))
theorem mm_ck131 : (List.range 46).all (mm_okP 131) = true := by decide +kernel
theorem mm_kk131 (pc : Nat) : mm_okP 131 pc = true := mm_okA mm_ck131 (fun h => mm_cb131 pc h)
theorem mm_cb132 (pc : Nat) (h : 69 ≤ pc) : mm_c132 pc = none := mm_ct (mm_cl9 (K := 36) h rfl) (mm_ct (mm_cl9 (K := 53) h rfl) (mm_ct (mm_cl9 (K := 62) h rfl) (mm_ct (mm_cl9 (K := 67) h rfl) (mm_ct (mm_cl9 (K := 68) h rfl) (mm_ce (X := 68) (Nat.lt_of_lt_of_le (Nat.le_of_ble_eq_true rfl) h))))))
theorem mm_ck132 : (List.range 69).all (mm_okP 132) = true := by decide +kernel
theorem mm_kk132 (pc : Nat) : mm_okP 132 pc = true := mm_okA mm_ck132 (fun h => mm_cb132 pc h)
theorem mm_cb133 (pc : Nat) (h : 48 ≤ pc) : mm_c133 pc = none := mm_ct (mm_cl9 (K := 26) h rfl) (mm_ct (mm_cl9 (K := 37) h rfl) (mm_ct (mm_cl9 (K := 45) h rfl) (mm_ct (mm_cl9 (K := 47) h rfl) (mm_ce (X := 47) (Nat.lt_of_lt_of_le (Nat.le_of_ble_eq_true rfl) h)))))
theorem mm_ck133 : (List.range 48).all (mm_okP 133) = true := by decide +kernel
theorem mm_kk133 (pc : Nat) : mm_okP 133 pc = true := mm_okA mm_ck133 (fun h => mm_cb133 pc h)
theorem mm_cb134 (pc : Nat) (h : 88 ≤ pc) : mm_c134 pc = none := mm_ct (mm_cl9 (K := 43) h rfl) (mm_ct (mm_cl9 (K := 63) h rfl) (mm_ct (mm_cl9 (K := 75) h rfl) (mm_ct (mm_cl9 (K := 81) h rfl) (mm_ct (mm_cl9 (K := 87) h rfl) (mm_ce (X := 87) (Nat.lt_of_lt_of_le (Nat.le_of_ble_eq_true rfl) h))))))
theorem mm_ck134 : (List.range 88).all (mm_okP 134) = true := by decide +kernel
theorem mm_kk134 (pc : Nat) : mm_okP 134 pc = true := mm_okA mm_ck134 (fun h => mm_cb134 pc h)
theorem mm_cb135 (pc : Nat) (h : 38 ≤ pc) : mm_c135 pc = none := mm_ct (mm_cl9 (K := 16) h rfl) (mm_ct (mm_cl9 (K := 27) h rfl) (mm_ct (mm_cl9 (K := 34) h rfl) (mm_ct (mm_cl9 (K := 37) h rfl) (mm_ce (X := 37) (Nat.lt_of_lt_of_le (Nat.le_of_ble_eq_true rfl) h)))))
theorem mm_ck135 : (List.range 38).all (mm_okP 135) = true := by decide +kernel
theorem mm_kk135 (pc : Nat) : mm_okP 135 pc = true := mm_okA mm_ck135 (fun h => mm_cb135 pc h)
theorem mm_cb136 (pc : Nat) (h : 42 ≤ pc) : mm_c136 pc = none := mm_ct (mm_cl9 (K := 20) h rfl) (mm_ct (mm_cl9 (K := 32) h rfl) (mm_ct (mm_cl9 (K := 37) h rfl) (mm_ct (mm_cl9 (K := 41) h rfl) (mm_ce (X := 41) (Nat.lt_of_lt_of_le (Nat.le_of_ble_eq_true rfl) h)))))
theorem mm_ck136 : (List.range 42).all (mm_okP 136) = true := by decide +kernel
theorem mm_kk136 (pc : Nat) : mm_okP 136 pc = true := mm_okA mm_ck136 (fun h => mm_cb136 pc h)
theorem mm_cb137 (pc : Nat) (h : 157 ≤ pc) : mm_c137 pc = none := mm_ct (mm_cl9 (K := 82) h rfl) (mm_ct (mm_cl9 (K := 121) h rfl) (mm_ct (mm_cl9 (K := 136) h rfl) (mm_ct (mm_cl9 (K := 146) h rfl) (mm_ct (mm_cl9 (K := 153) h rfl) (mm_ct (mm_cl9 (K := 156) h rfl) (mm_ce (X := 156) (Nat.lt_of_lt_of_le (Nat.le_of_ble_eq_true rfl) h)))))))
theorem mm_ck137 : (List.range 157).all (mm_okP 137) = true := by decide +kernel
theorem mm_kk137 (pc : Nat) : mm_okP 137 pc = true := mm_okA mm_ck137 (fun h => mm_cb137 pc h)
theorem mm_cb138 (pc : Nat) (h : 38 ≤ pc) : mm_c138 pc = none := mm_ct (mm_cl9 (K := 18) h rfl) (mm_ct (mm_cl9 (K := 28) h rfl) (mm_ct (mm_cl9 (K := 33) h rfl) (mm_ct (mm_cl9 (K := 37) h rfl) (mm_ce (X := 37) (Nat.lt_of_lt_of_le (Nat.le_of_ble_eq_true rfl) h)))))
theorem mm_ck138 : (List.range 38).all (mm_okP 138) = true := by decide +kernel
theorem mm_kk138 (pc : Nat) : mm_okP 138 pc = true := mm_okA mm_ck138 (fun h => mm_cb138 pc h)
theorem mm_cb139 (pc : Nat) (h : 27 ≤ pc) : mm_c139 pc = none := mm_ct (mm_cl9 (K := 15) h rfl) (mm_ct (mm_cl9 (K := 19) h rfl) (mm_ct (mm_cl9 (K := 23) h rfl) (mm_ct (mm_cl9 (K := 26) h rfl) (mm_ce (X := 26) (Nat.lt_of_lt_of_le (Nat.le_of_ble_eq_true rfl) h)))))
theorem mm_ck139 : (List.range 27).all (mm_okP 139) = true := by decide +kernel
theorem mm_kk139 (pc : Nat) : mm_okP 139 pc = true := mm_okA mm_ck139 (fun h => mm_cb139 pc h)
theorem mm_cb140 (pc : Nat) (h : 171 ≤ pc) : mm_c140 pc = none := mm_ct (mm_cl9 (K := 91) h rfl) (mm_ct (mm_cl9 (K := 132) h rfl) (mm_ct (mm_cl9 (K := 150) h rfl) (mm_ct (mm_cl9 (K := 160) h rfl) (mm_ct (mm_cl9 (K := 167) h rfl) (mm_ct (mm_cl9 (K := 170) h rfl) (mm_ce (X := 170) (Nat.lt_of_lt_of_le (Nat.le_of_ble_eq_true rfl) h)))))))
theorem mm_ck140 : (List.range 171).all (mm_okP 140) = true := by decide +kernel
theorem mm_kk140 (pc : Nat) : mm_okP 140 pc = true := mm_okA mm_ck140 (fun h => mm_cb140 pc h)
