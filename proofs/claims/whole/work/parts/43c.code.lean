/-! the bytes of the methods 141 to 190 say what the tables say (by program: wip/gen/gen_code.py) -/
theorem mm_cb141 (pc : Nat) (h : 66 ≤ pc) : mm_c141 pc = none := mm_ct (mm_cl9 (K := 33) h rfl) (mm_ct (mm_cl9 (K := 52) h rfl) (mm_ct (mm_cl9 (K := 58) h rfl) (mm_ct (mm_cl9 (K := 62) h rfl) (mm_ct (mm_cl9 (K := 65) h rfl) (mm_ce (X := 65) (Nat.lt_of_lt_of_le (Nat.le_of_ble_eq_true rfl) h))))))
theorem mm_ck141 : (List.range 66).all (mm_okP 141) = true := by decide +kernel
theorem mm_kk141 (pc : Nat) : mm_okP 141 pc = true := mm_okA mm_ck141 (fun h => mm_cb141 pc h)
theorem mm_cb142 (pc : Nat) (h : 103 ≤ pc) : mm_c142 pc = none := mm_ct (mm_cl9 (K := 51) h rfl) (mm_ct (mm_cl9 (K := 77) h rfl) (mm_ct (mm_cl9 (K := 90) h rfl) (mm_ct (mm_cl9 (K := 98) h rfl) (mm_ct (mm_cl9 (K := 102) h rfl) (mm_ce (X := 102) (Nat.lt_of_lt_of_le (Nat.le_of_ble_eq_true rfl) h))))))
theorem mm_ck142 : (List.range 103).all (mm_okP 142) = true := by decide +kernel
theorem mm_kk142 (pc : Nat) : mm_okP 142 pc = true := mm_okA mm_ck142 (fun h => mm_cb142 pc h)
theorem mm_cb143 (pc : Nat) (h : 73 ≤ pc) : mm_c143 pc = none := mm_ct (mm_cl9 (K := 36) h rfl) (mm_ct (mm_cl9 (K := 55) h rfl) (mm_ct (mm_cl9 (K := 64) h rfl) (mm_ct (mm_cl9 (K := 71) h rfl) (mm_ct (mm_cl9 (K := 72) h rfl) (mm_ce (X := 72) (Nat.lt_of_lt_of_le (Nat.le_of_ble_eq_true rfl) h))))))
theorem mm_ck143 : (List.range 73).all (mm_okP 143) = true := by decide +kernel
theorem mm_kk143 (pc : Nat) : mm_okP 143 pc = true := mm_okA mm_ck143 (fun h => mm_cb143 pc h)
theorem mm_cb144 (pc : Nat) (h : 41 ≤ pc) : mm_c144 pc = none := mm_ct (mm_cl9 (K := 18) h rfl) (mm_ct (mm_cl9 (K := 29) h rfl) (mm_ct (mm_cl9 (K := 36) h rfl) (mm_ct (mm_cl9 (K := 40) h rfl) (mm_ce (X := 40) (Nat.lt_of_lt_of_le (Nat.le_of_ble_eq_true rfl) h)))))
theorem mm_ck144 : (List.range 41).all (mm_okP 144) = true := by decide +kernel
theorem mm_kk144 (pc : Nat) : mm_okP 144 pc = true := mm_okA mm_ck144 (fun h => mm_cb144 pc h)
theorem mm_cb145 (pc : Nat) (h : 43 ≤ pc) : mm_c145 pc = none := mm_ct (mm_cl9 (K := 22) h rfl) (mm_ct (mm_cl9 (K := 33) h rfl) (mm_ct (mm_cl9 (K := 38) h rfl) (mm_ct (mm_cl9 (K := 42) h rfl) (mm_ce (X := 42) (Nat.lt_of_lt_of_le (Nat.le_of_ble_eq_true rfl) h)))))
theorem mm_ck145 : (List.range 43).all (mm_okP 145) = true := by decide +kernel
theorem mm_kk145 (pc : Nat) : mm_okP 145 pc = true := mm_okA mm_ck145 (fun h => mm_cb145 pc h)
theorem mm_cb146 (pc : Nat) (h : 66 ≤ pc) : mm_c146 pc = none := mm_ct (mm_cl9 (K := 33) h rfl) (mm_ct (mm_cl9 (K := 52) h rfl) (mm_ct (mm_cl9 (K := 57) h rfl) (mm_ct (mm_cl9 (K := 64) h rfl) (mm_ct (mm_cl9 (K := 65) h rfl) (mm_ce (X := 65) (Nat.lt_of_lt_of_le (Nat.le_of_ble_eq_true rfl) h))))))
theorem mm_ck146 : (List.range 66).all (mm_okP 146) = true := by decide +kernel
theorem mm_kk146 (pc : Nat) : mm_okP 146 pc = true := mm_okA mm_ck146 (fun h => mm_cb146 pc h)
theorem mm_cb147 (pc : Nat) (h : 100 ≤ pc) : mm_c147 pc = none := mm_ct (mm_cl9 (K := 48) h rfl) (mm_ct (mm_cl9 (K := 75) h rfl) (mm_ct (mm_cl9 (K := 89) h rfl) (mm_ct (mm_cl9 (K := 95) h rfl) (mm_ct (mm_cl9 (K := 99) h rfl) (mm_ce (X := 99) (Nat.lt_of_lt_of_le (Nat.le_of_ble_eq_true rfl) h))))))
theorem mm_ck147 : (List.range 100).all (mm_okP 147) = true := by decide +kernel
theorem mm_kk147 (pc : Nat) : mm_okP 147 pc = true := mm_okA mm_ck147 (fun h => mm_cb147 pc h)
theorem mm_cb148 (pc : Nat) (h : 109 ≤ pc) : mm_c148 pc = none := mm_ct (mm_cl9 (K := 52) h rfl) (mm_ct (mm_cl9 (K := 78) h rfl) (mm_ct (mm_cl9 (K := 94) h rfl) (mm_ct (mm_cl9 (K := 104) h rfl) (mm_ct (mm_cl9 (K := 108) h rfl) (mm_ce (X := 108) (Nat.lt_of_lt_of_le (Nat.le_of_ble_eq_true rfl) h))))))
theorem mm_ck148 : (List.range 109).all (mm_okP 148) = true := by decide +kernel
theorem mm_kk148 (pc : Nat) : mm_okP 148 pc = true := mm_okA mm_ck148 (fun h => mm_cb148 pc h)
theorem mm_cb149 (pc : Nat) (h : 16 ≤ pc) : mm_c149 pc = none := mm_ct (mm_cl9 (K := 7) h rfl) (mm_ct (mm_cl9 (K := 12) h rfl) (mm_ct (mm_cl9 (K := 15) h rfl) (mm_ce (X := 15) (Nat.lt_of_lt_of_le (Nat.le_of_ble_eq_true rfl) h))))
theorem mm_ck149 : (List.range 16).all (mm_okP 149) = true := by decide +kernel
theorem mm_kk149 (pc : Nat) : mm_okP 149 pc = true := mm_okA mm_ck149 (fun h => mm_cb149 pc h)
theorem mm_cb150 (pc : Nat) (h : 55 ≤ pc) : mm_c150 pc = none := mm_ct (mm_cl9 (K := 29) h rfl) (mm_ct (mm_cl9 (K := 43) h rfl) (mm_ct (mm_cl9 (K := 49) h rfl) (mm_ct (mm_cl9 (K := 51) h rfl) (mm_ct (mm_cl9 (K := 54) h rfl) (mm_ce (X := 54) (Nat.lt_of_lt_of_le (Nat.le_of_ble_eq_true rfl) h))))))
theorem mm_ck150 : (List.range 55).all (mm_okP 150) = true := by decide +kernel
theorem mm_kk150 (pc : Nat) : mm_okP 150 pc = true := mm_okA mm_ck150 (fun h => mm_cb150 pc h)
theorem mm_cb151 (pc : Nat) (h : 50 ≤ pc) : mm_c151 pc = none := mm_ct (mm_cl9 (K := 27) h rfl) (mm_ct (mm_cl9 (K := 41) h rfl) (mm_ct (mm_cl9 (K := 45) h rfl) (mm_ct (mm_cl9 (K := 49) h rfl) (mm_ce (X := 49) (Nat.lt_of_lt_of_le (Nat.le_of_ble_eq_true rfl) h)))))
theorem mm_ck151 : (List.range 50).all (mm_okP 151) = true := by decide +kernel
theorem mm_kk151 (pc : Nat) : mm_okP 151 pc = true := mm_okA mm_ck151 (fun h => mm_cb151 pc h)
theorem mm_cb152 (pc : Nat) (h : 40 ≤ pc) : mm_c152 pc = none := mm_ct (mm_cl9 (K := 20) h rfl) (mm_ct (mm_cl9 (K := 31) h rfl) (mm_ct (mm_cl9 (K := 36) h rfl) (mm_ct (mm_cl9 (K := 39) h rfl) (mm_ce (X := 39) (Nat.lt_of_lt_of_le (Nat.le_of_ble_eq_true rfl) h)))))
theorem mm_ck152 : (List.range 40).all (mm_okP 152) = true := by decide +kernel
theorem mm_kk152 (pc : Nat) : mm_okP 152 pc = true := mm_okA mm_ck152 (fun h => mm_cb152 pc h)
theorem mm_cb153 (pc : Nat) (h : 39 ≤ pc) : mm_c153 pc = none := mm_ct (mm_cl9 (K := 22) h rfl) (mm_ct (mm_cl9 (K := 33) h rfl) (mm_ct (mm_cl9 (K := 37) h rfl) (mm_ct (mm_cl9 (K := 38) h rfl) (mm_ce (X := 38) (Nat.lt_of_lt_of_le (Nat.le_of_ble_eq_true rfl) h)))))
theorem mm_ck153 : (List.range 39).all (mm_okP 153) = true := by decide +kernel
theorem mm_kk153 (pc : Nat) : mm_okP 153 pc = true := mm_okA mm_ck153 (fun h => mm_cb153 pc h)
theorem mm_cb154 (pc : Nat) (h : 58 ≤ pc) : mm_c154 pc = none := mm_ct (mm_cl9 (K := 44) h rfl) (mm_ct (mm_cl9 (K := 51) h rfl) (mm_ct (mm_cl9 (K := 56) h rfl) (mm_ct (mm_cl9 (K := 57) h rfl) (mm_ce (X := 57) (Nat.lt_of_lt_of_le (Nat.le_of_ble_eq_true rfl) h)))))
theorem mm_ck154 : (List.range 58).all (mm_okP 154) = true := by decide +kernel
theorem mm_kk154 (pc : Nat) : mm_okP 154 pc = true := mm_okA mm_ck154 (fun h => mm_cb154 pc h)
theorem mm_cb155 (pc : Nat) (h : 32 ≤ pc) : mm_c155 pc = none := mm_ct (mm_cl9 (K := 17) h rfl) (mm_ct (mm_cl9 (K := 26) h rfl) (mm_ct (mm_cl9 (K := 30) h rfl) (mm_ct (mm_cl9 (K := 31) h rfl) (mm_ce (X := 31) (Nat.lt_of_lt_of_le (Nat.le_of_ble_eq_true rfl) h)))))
theorem mm_ck155 : (List.range 32).all (mm_okP 155) = true := by decide +kernel
theorem mm_kk155 (pc : Nat) : mm_okP 155 pc = true := mm_okA mm_ck155 (fun h => mm_cb155 pc h)
theorem mm_cb156 (pc : Nat) (h : 81 ≤ pc) : mm_c156 pc = none := mm_ct (mm_cl9 (K := 37) h rfl) (mm_ct (mm_cl9 (K := 59) h rfl) (mm_ct (mm_cl9 (K := 70) h rfl) (mm_ct (mm_cl9 (K := 76) h rfl) (mm_ct (mm_cl9 (K := 80) h rfl) (mm_ce (X := 80) (Nat.lt_of_lt_of_le (Nat.le_of_ble_eq_true rfl) h))))))
theorem mm_ck156 : (List.range 81).all (mm_okP 156) = true := by decide +kernel
theorem mm_kk156 (pc : Nat) : mm_okP 156 pc = true := mm_okA mm_ck156 (fun h => mm_cb156 pc h)
theorem mm_cb157 (pc : Nat) (h : 5 ≤ pc) : mm_c157 pc = none := mm_ct (mm_cl9 (K := 4) h rfl) (mm_ce (X := 4) (Nat.lt_of_lt_of_le (Nat.le_of_ble_eq_true rfl) h))
theorem mm_ck157 : (List.range 5).all (mm_okP 157) = true := by decide +kernel
theorem mm_kk157 (pc : Nat) : mm_okP 157 pc = true := mm_okA mm_ck157 (fun h => mm_cb157 pc h)
theorem mm_cb158 (pc : Nat) (h : 7 ≤ pc) : mm_c158 pc = none := mm_ct (mm_cl9 (K := 5) h rfl) (mm_ct (mm_cl9 (K := 6) h rfl) (mm_ce (X := 6) (Nat.lt_of_lt_of_le (Nat.le_of_ble_eq_true rfl) h)))
theorem mm_ck158 : (List.range 7).all (mm_okP 158) = true := by decide +kernel
theorem mm_kk158 (pc : Nat) : mm_okP 158 pc = true := mm_okA mm_ck158 (fun h => mm_cb158 pc h)
theorem mm_cb159 (pc : Nat) (h : 7 ≤ pc) : mm_c159 pc = none := mm_ct (mm_cl9 (K := 5) h rfl) (mm_ct (mm_cl9 (K := 6) h rfl) (mm_ce (X := 6) (Nat.lt_of_lt_of_le (Nat.le_of_ble_eq_true rfl) h)))
theorem mm_ck159 : (List.range 7).all (mm_okP 159) = true := by decide +kernel
theorem mm_kk159 (pc : Nat) : mm_okP 159 pc = true := mm_okA mm_ck159 (fun h => mm_cb159 pc h)
theorem mm_cb160 (pc : Nat) (h : 16 ≤ pc) : mm_c160 pc = none := mm_ct (mm_cl9 (K := 7) h rfl) (mm_ct (mm_cl9 (K := 14) h rfl) (mm_ct (mm_cl9 (K := 15) h rfl) (mm_ce (X := 15) (Nat.lt_of_lt_of_le (Nat.le_of_ble_eq_true rfl) h))))
theorem mm_ck160 : (List.range 16).all (mm_okP 160) = true := by decide +kernel
theorem mm_kk160 (pc : Nat) : mm_okP 160 pc = true := mm_okA mm_ck160 (fun h => mm_cb160 pc h)
theorem mm_cb161 (pc : Nat) (h : 125 ≤ pc) : mm_c161 pc = none := mm_ct (mm_cl9 (K := 66) h rfl) (mm_ct (mm_cl9 (K := 97) h rfl) (mm_ct (mm_cl9 (K := 109) h rfl) (mm_ct (mm_cl9 (K := 117) h rfl) (mm_ct (mm_cl9 (K := 121) h rfl) (mm_ct (mm_cl9 (K := 124) h rfl) (mm_ce (X := 124) (Nat.lt_of_lt_of_le (Nat.le_of_ble_eq_true rfl) h)))))))
theorem mm_ck161 : (List.range 125).all (mm_okP 161) = true := by decide +kernel
theorem mm_kk161 (pc : Nat) : mm_okP 161 pc = true := mm_okA mm_ck161 (fun h => mm_cb161 pc h)
theorem mm_cb162 (pc : Nat) (h : 19 ≤ pc) : mm_c162 pc = none := mm_ct (mm_cl9 (K := 12) h rfl) (mm_ct (mm_cl9 (K := 17) h rfl) (mm_ct (mm_cl9 (K := 18) h rfl) (mm_ce (X := 18) (Nat.lt_of_lt_of_le (Nat.le_of_ble_eq_true rfl) h))))
theorem mm_ck162 : (List.range 19).all (mm_okP 162) = true := by decide +kernel
theorem mm_kk162 (pc : Nat) : mm_okP 162 pc = true := mm_okA mm_ck162 (fun h => mm_cb162 pc h)
theorem mm_cb163 (pc : Nat) (h : 18 ≤ pc) : mm_c163 pc = none := mm_ct (mm_cl9 (K := 9) h rfl) (mm_ct (mm_cl9 (K := 16) h rfl) (mm_ct (mm_cl9 (K := 17) h rfl) (mm_ce (X := 17) (Nat.lt_of_lt_of_le (Nat.le_of_ble_eq_true rfl) h))))
theorem mm_ck163 : (List.range 18).all (mm_okP 163) = true := by decide +kernel
theorem mm_kk163 (pc : Nat) : mm_okP 163 pc = true := mm_okA mm_ck163 (fun h => mm_cb163 pc h)
theorem mm_cb164 (pc : Nat) (h : 18 ≤ pc) : mm_c164 pc = none := mm_ct (mm_cl9 (K := 9) h rfl) (mm_ct (mm_cl9 (K := 16) h rfl) (mm_ct (mm_cl9 (K := 17) h rfl) (mm_ce (X := 17) (Nat.lt_of_lt_of_le (Nat.le_of_ble_eq_true rfl) h))))
theorem mm_ck164 : (List.range 18).all (mm_okP 164) = true := by decide +kernel
theorem mm_kk164 (pc : Nat) : mm_okP 164 pc = true := mm_okA mm_ck164 (fun h => mm_cb164 pc h)
theorem mm_cb165 (pc : Nat) (h : 289 ≤ pc) : mm_c165 pc = none := mm_ct (mm_cl9 (K := 149) h rfl) (mm_ct (mm_cl9 (K := 220) h rfl) (mm_ct (mm_cl9 (K := 257) h rfl) (mm_ct (mm_cl9 (K := 272) h rfl) (mm_ct (mm_cl9 (K := 281) h rfl) (mm_ct (mm_cl9 (K := 285) h rfl) (mm_ct (mm_cl9 (K := 288) h rfl) (mm_ce (X := 288) (Nat.lt_of_lt_of_le (Nat.le_of_ble_eq_true rfl) h))))))))
theorem mm_ck165 : (List.range 289).all (mm_okP 165) = true := by decide +kernel
theorem mm_kk165 (pc : Nat) : mm_okP 165 pc = true := mm_okA mm_ck165 (fun h => mm_cb165 pc h)
theorem mm_cb166 (pc : Nat) (h : 30 ≤ pc) : mm_c166 pc = none := mm_ct (mm_cl9 (K := 15) h rfl) (mm_ct (mm_cl9 (K := 22) h rfl) (mm_ct (mm_cl9 (K := 26) h rfl) (mm_ct (mm_cl9 (K := 29) h rfl) (mm_ce (X := 29) (Nat.lt_of_lt_of_le (Nat.le_of_ble_eq_true rfl) h)))))
theorem mm_ck166 : (List.range 30).all (mm_okP 166) = true := by decide +kernel
theorem mm_kk166 (pc : Nat) : mm_okP 166 pc = true := mm_okA mm_ck166 (fun h => mm_cb166 pc h)
theorem mm_cb167 (pc : Nat) (h : 22 ≤ pc) : mm_c167 pc = none := mm_ct (mm_cl9 (K := 10) h rfl) (mm_ct (mm_cl9 (K := 15) h rfl) (mm_ct (mm_cl9 (K := 21) h rfl) (mm_ce (X := 21) (Nat.lt_of_lt_of_le (Nat.le_of_ble_eq_true rfl) h))))
theorem mm_ck167 : (List.range 22).all (mm_okP 167) = true := by decide +kernel
theorem mm_kk167 (pc : Nat) : mm_okP 167 pc = true := mm_okA mm_ck167 (fun h => mm_cb167 pc h)
theorem mm_cb168 (pc : Nat) (h : 29 ≤ pc) : mm_c168 pc = none := mm_ct (mm_cl9 (K := 16) h rfl) (mm_ct (mm_cl9 (K := 24) h rfl) (mm_ct (mm_cl9 (K := 28) h rfl) (mm_ce (X := 28) (Nat.lt_of_lt_of_le (Nat.le_of_ble_eq_true rfl) h))))
theorem mm_ck168 : (List.range 29).all (mm_okP 168) = true := by decide +kernel
theorem mm_kk168 (pc : Nat) : mm_okP 168 pc = true := mm_okA mm_ck168 (fun h => mm_cb168 pc h)
theorem mm_cb169 (pc : Nat) (h : 84 ≤ pc) : mm_c169 pc = none := mm_ct (mm_cl9 (K := 43) h rfl) (mm_ct (mm_cl9 (K := 65) h rfl) (mm_ct (mm_cl9 (K := 75) h rfl) (mm_ct (mm_cl9 (K := 82) h rfl) (mm_ct (mm_cl9 (K := 83) h rfl) (mm_ce (X := 83) (Nat.lt_of_lt_of_le (Nat.le_of_ble_eq_true rfl) h))))))
theorem mm_ck169 : (List.range 84).all (mm_okP 169) = true := by decide +kernel
theorem mm_kk169 (pc : Nat) : mm_okP 169 pc = true := mm_okA mm_ck169 (fun h => mm_cb169 pc h)
theorem mm_cb170 (pc : Nat) (h : 28 ≤ pc) : mm_c170 pc = none := mm_ct (mm_cl9 (K := 11) h rfl) (mm_ct (mm_cl9 (K := 20) h rfl) (mm_ct (mm_cl9 (K := 26) h rfl) (mm_ct (mm_cl9 (K := 27) h rfl) (mm_ce (X := 27) (Nat.lt_of_lt_of_le (Nat.le_of_ble_eq_true rfl) h)))))
theorem mm_ck170 : (List.range 28).all (mm_okP 170) = true := by decide +kernel
theorem mm_kk170 (pc : Nat) : mm_okP 170 pc = true := mm_okA mm_ck170 (fun h => mm_cb170 pc h)
theorem mm_cb171 (pc : Nat) (h : 32 ≤ pc) : mm_c171 pc = none := mm_ct (mm_cl9 (K := 16) h rfl) (mm_ct (mm_cl9 (K := 24) h rfl) (mm_ct (mm_cl9 (K := 28) h rfl) (mm_ct (mm_cl9 (K := 31) h rfl) (mm_ce (X := 31) (Nat.lt_of_lt_of_le (Nat.le_of_ble_eq_true rfl) h)))))
theorem mm_ck171 : (List.range 32).all (mm_okP 171) = true := by decide +kernel
theorem mm_kk171 (pc : Nat) : mm_okP 171 pc = true := mm_okA mm_ck171 (fun h => mm_cb171 pc h)
theorem mm_cb172 (pc : Nat) (h : 77 ≤ pc) : mm_c172 pc = none := mm_ct (mm_cl9 (K := 39) h rfl) (mm_ct (mm_cl9 (K := 59) h rfl) (mm_ct (mm_cl9 (K := 68) h rfl) (mm_ct (mm_cl9 (K := 75) h rfl) (mm_ct (mm_cl9 (K := 76) h rfl) (mm_ce (X := 76) (Nat.lt_of_lt_of_le (Nat.le_of_ble_eq_true rfl) h))))))
theorem mm_ck172 : (List.range 77).all (mm_okP 172) = true := by decide +kernel
theorem mm_kk172 (pc : Nat) : mm_okP 172 pc = true := mm_okA mm_ck172 (fun h => mm_cb172 pc h)
theorem mm_cb173 (pc : Nat) (h : 231 ≤ pc) : mm_c173 pc = none := mm_ct (mm_cl9 (K := 118) h rfl) (mm_ct (mm_cl9 (K := 176) h rfl) (mm_ct (mm_cl9 (K := 203) h rfl) (mm_ct (mm_cl9 (K := 220) h rfl) (mm_ct (mm_cl9 (K := 227) h rfl) (mm_ct (mm_cl9 (K := 229) h rfl) (mm_ct (mm_cl9 (K := 230) h rfl) (mm_ce (X := 230) (Nat.lt_of_lt_of_le (Nat.le_of_ble_eq_true rfl) h))))))))
theorem mm_ck173 : (List.range 231).all (mm_okP 173) = true := by decide +kernel
theorem mm_kk173 (pc : Nat) : mm_okP 173 pc = true := mm_okA mm_ck173 (fun h => mm_cb173 pc h)
theorem mm_cb174 (pc : Nat) (h : 298 ≤ pc) : mm_c174 pc = none := mm_ct (mm_cl9 (K := 159) h rfl) (mm_ct (mm_cl9 (K := 227) h rfl) (mm_ct (mm_cl9 (K := 263) h rfl) (mm_ct (mm_cl9 (K := 282) h rfl) (mm_ct (mm_cl9 (K := 291) h rfl) (mm_ct (mm_cl9 (K := 296) h rfl) (mm_ct (mm_cl9 (K := 297) h rfl) (mm_ce (X := 297) (Nat.lt_of_lt_of_le (Nat.le_of_ble_eq_true rfl) h))))))))
theorem mm_ck174 : (List.range 298).all (mm_okP 174) = true := by decide +kernel
theorem mm_kk174 (pc : Nat) : mm_okP 174 pc = true := mm_okA mm_ck174 (fun h => mm_cb174 pc h)
theorem mm_cb175 (pc : Nat) (h : 33 ≤ pc) : mm_c175 pc = none := mm_ct (mm_cl9 (K := 20) h rfl) (mm_ct (mm_cl9 (K := 27) h rfl) (mm_ct (mm_cl9 (K := 29) h rfl) (mm_ct (mm_cl9 (K := 32) h rfl) (mm_ce (X := 32) (Nat.lt_of_lt_of_le (Nat.le_of_ble_eq_true rfl) h)))))
theorem mm_ck175 : (List.range 33).all (mm_okP 175) = true := by decide +kernel
theorem mm_kk175 (pc : Nat) : mm_okP 175 pc = true := mm_okA mm_ck175 (fun h => mm_cb175 pc h)
theorem mm_cb176 (pc : Nat) (h : 122 ≤ pc) : mm_c176 pc = none := mm_ct (mm_cl9 (K := 61) h rfl) (mm_ct (mm_cl9 (K := 93) h rfl) (mm_ct (mm_cl9 (K := 107) h rfl) (mm_ct (mm_cl9 (K := 116) h rfl) (mm_ct (mm_cl9 (K := 118) h rfl) (mm_ct (mm_cl9 (K := 121) h rfl) (mm_ce (X := 121) (Nat.lt_of_lt_of_le (Nat.le_of_ble_eq_true rfl) h)))))))
theorem mm_ck176 : (List.range 122).all (mm_okP 176) = true := by decide +kernel
theorem mm_kk176 (pc : Nat) : mm_okP 176 pc = true := mm_okA mm_ck176 (fun h => mm_cb176 pc h)
theorem mm_cb177 (pc : Nat) (h : 56 ≤ pc) : mm_c177 pc = none := mm_ct (mm_cl9 (K := 32) h rfl) (mm_ct (mm_cl9 (K := 43) h rfl) (mm_ct (mm_cl9 (K := 49) h rfl) (mm_ct (mm_cl9 (K := 55) h rfl) (mm_ce (X := 55) (Nat.lt_of_lt_of_le (Nat.le_of_ble_eq_true rfl) h)))))
theorem mm_ck177 : (List.range 56).all (mm_okP 177) = true := by decide +kernel
theorem mm_kk177 (pc : Nat) : mm_okP 177 pc = true := mm_okA mm_ck177 (fun h => mm_cb177 pc h)
theorem mm_cb178 (pc : Nat) (h : 56 ≤ pc) : mm_c178 pc = none := mm_ct (mm_cl9 (K := 32) h rfl) (mm_ct (mm_cl9 (K := 43) h rfl) (mm_ct (mm_cl9 (K := 49) h rfl) (mm_ct (mm_cl9 (K := 55) h rfl) (mm_ce (X := 55) (Nat.lt_of_lt_of_le (Nat.le_of_ble_eq_true rfl) h)))))
theorem mm_ck178 : (List.range 56).all (mm_okP 178) = true := by decide +kernel
theorem mm_kk178 (pc : Nat) : mm_okP 178 pc = true := mm_okA mm_ck178 (fun h => mm_cb178 pc h)
theorem mm_cb179 (pc : Nat) (h : 107 ≤ pc) : mm_c179 pc = none := mm_ct (mm_cl9 (K := 57) h rfl) (mm_ct (mm_cl9 (K := 83) h rfl) (mm_ct (mm_cl9 (K := 94) h rfl) (mm_ct (mm_cl9 (K := 100) h rfl) (mm_ct (mm_cl9 (K := 106) h rfl) (mm_ce (X := 106) (Nat.lt_of_lt_of_le (Nat.le_of_ble_eq_true rfl) h))))))
theorem mm_ck179 : (List.range 107).all (mm_okP 179) = true := by decide +kernel
theorem mm_kk179 (pc : Nat) : mm_okP 179 pc = true := mm_okA mm_ck179 (fun h => mm_cb179 pc h)
theorem mm_cb180 (pc : Nat) (h : 34 ≤ pc) : mm_c180 pc = none := mm_ct (mm_cl9 (K := 19) h rfl) (mm_ct (mm_cl9 (K := 25) h rfl) (mm_ct (mm_cl9 (K := 30) h rfl) (mm_ct (mm_cl9 (K := 33) h rfl) (mm_ce (X := 33) (Nat.lt_of_lt_of_le (Nat.le_of_ble_eq_true rfl) h)))))
theorem mm_ck180 : (List.range 34).all (mm_okP 180) = true := by decide +kernel
theorem mm_kk180 (pc : Nat) : mm_okP 180 pc = true := mm_okA mm_ck180 (fun h => mm_cb180 pc h)
theorem mm_cb181 (pc : Nat) (h : 96 ≤ pc) : mm_c181 pc = none := mm_ct (mm_cl9 (K := 48) h rfl) (mm_ct (mm_cl9 (K := 71) h rfl) (mm_ct (mm_cl9 (K := 83) h rfl) (mm_ct (mm_cl9 (K := 89) h rfl) (mm_ct (mm_cl9 (K := 95) h rfl) (mm_ce (X := 95) (Nat.lt_of_lt_of_le (Nat.le_of_ble_eq_true rfl) h))))))
theorem mm_ck181 : (List.range 96).all (mm_okP 181) = true := by decide +kernel
theorem mm_kk181 (pc : Nat) : mm_okP 181 pc = true := mm_okA mm_ck181 (fun h => mm_cb181 pc h)
theorem mm_cb182 (pc : Nat) (h : 277 ≤ pc) : mm_c182 pc = none := mm_ct (mm_cl9 (K := 145) h rfl) (mm_ct (mm_cl9 (K := 213) h rfl) (mm_ct (mm_cl9 (K := 243) h rfl) (mm_ct (mm_cl9 (K := 259) h rfl) (mm_ct (mm_cl9 (K := 268) h rfl) (mm_ct (mm_cl9 (K := 275) h rfl) (mm_ct (mm_cl9 (K := 276) h rfl) (mm_ce (X := 276) (Nat.lt_of_lt_of_le (Nat.le_of_ble_eq_true rfl) h))))))))
theorem mm_ck182 : (List.range 277).all (mm_okP 182) = true := by decide +kernel
theorem mm_kk182 (pc : Nat) : mm_okP 182 pc = true := mm_okA mm_ck182 (fun h => mm_cb182 pc h)
theorem mm_cb183 (pc : Nat) (h : 10 ≤ pc) : mm_c183 pc = none := mm_ct (mm_cl9 (K := 5) h rfl) (mm_ct (mm_cl9 (K := 9) h rfl) (mm_ce (X := 9) (Nat.lt_of_lt_of_le (Nat.le_of_ble_eq_true rfl) h)))
theorem mm_ck183 : (List.range 10).all (mm_okP 183) = true := by decide +kernel
theorem mm_kk183 (pc : Nat) : mm_okP 183 pc = true := mm_okA mm_ck183 (fun h => mm_cb183 pc h)
theorem mm_cb184 (pc : Nat) (h : 118 ≤ pc) : mm_c184 pc = none := mm_ct (mm_cl9 (K := 74) h rfl) (mm_ct (mm_cl9 (K := 95) h rfl) (mm_ct (mm_cl9 (K := 108) h rfl) (mm_ct (mm_cl9 (K := 113) h rfl) (mm_ct (mm_cl9 (K := 117) h rfl) (mm_ce (X := 117) (Nat.lt_of_lt_of_le (Nat.le_of_ble_eq_true rfl) h))))))
theorem mm_ck184 : (List.range 118).all (mm_okP 184) = true := by decide +kernel
theorem mm_kk184 (pc : Nat) : mm_okP 184 pc = true := mm_okA mm_ck184 (fun h => mm_cb184 pc h)
theorem mm_cb185 (pc : Nat) (h : 159 ≤ pc) : mm_c185 pc = none := mm_ct (mm_cl9 (K := 82) h rfl) (mm_ct (mm_cl9 (K := 123) h rfl) (mm_ct (mm_cl9 (K := 140) h rfl) (mm_ct (mm_cl9 (K := 152) h rfl) (mm_ct (mm_cl9 (K := 157) h rfl) (mm_ct (mm_cl9 (K := 158) h rfl) (mm_ce (X := 158) (Nat.lt_of_lt_of_le (Nat.le_of_ble_eq_true rfl) h)))))))
theorem mm_ck185 : (List.range 159).all (mm_okP 185) = true := by decide +kernel
theorem mm_kk185 (pc : Nat) : mm_okP 185 pc = true := mm_okA mm_ck185 (fun h => mm_cb185 pc h)
theorem mm_cb186 (pc : Nat) (h : 153 ≤ pc) : mm_c186 pc = none := mm_ct (mm_cl9 (K := 79) h rfl) (mm_ct (mm_cl9 (K := 117) h rfl) (mm_ct (mm_cl9 (K := 134) h rfl) (mm_ct (mm_cl9 (K := 141) h rfl) (mm_ct (mm_cl9 (K := 149) h rfl) (mm_ct (mm_cl9 (K := 152) h rfl) (mm_ce (X := 152) (Nat.lt_of_lt_of_le (Nat.le_of_ble_eq_true rfl) h)))))))
theorem mm_ck186 : (List.range 153).all (mm_okP 186) = true := by decide +kernel
theorem mm_kk186 (pc : Nat) : mm_okP 186 pc = true := mm_okA mm_ck186 (fun h => mm_cb186 pc h)
theorem mm_cb187 (pc : Nat) (h : 12 ≤ pc) : mm_c187 pc = none := mm_ct (mm_cl9 (K := 6) h rfl) (mm_ct (mm_cl9 (K := 8) h rfl) (mm_ct (mm_cl9 (K := 11) h rfl) (mm_ce (X := 11) (Nat.lt_of_lt_of_le (Nat.le_of_ble_eq_true rfl) h))))
theorem mm_ck187 : (List.range 12).all (mm_okP 187) = true := by decide +kernel
theorem mm_kk187 (pc : Nat) : mm_okP 187 pc = true := mm_okA mm_ck187 (fun h => mm_cb187 pc h)
theorem mm_cb188 (pc : Nat) (h : 30 ≤ pc) : mm_c188 pc = none := mm_ct (mm_cl9 (K := 15) h rfl) (mm_ct (mm_cl9 (K := 24) h rfl) (mm_ct (mm_cl9 (K := 28) h rfl) (mm_ct (mm_cl9 (K := 29) h rfl) (mm_ce (X := 29) (Nat.lt_of_lt_of_le (Nat.le_of_ble_eq_true rfl) h)))))
theorem mm_ck188 : (List.range 30).all (mm_okP 188) = true := by decide +kernel
theorem mm_kk188 (pc : Nat) : mm_okP 188 pc = true := mm_okA mm_ck188 (fun h => mm_cb188 pc h)
theorem mm_cb189 (pc : Nat) (h : 8 ≤ pc) : mm_c189 pc = none := mm_ct (mm_cl9 (K := 4) h rfl) (mm_ct (mm_cl9 (K := 7) h rfl) (mm_ce (X := 7) (Nat.lt_of_lt_of_le (Nat.le_of_ble_eq_true rfl) h)))
theorem mm_ck189 : (List.range 8).all (mm_okP 189) = true := by decide +kernel
theorem mm_kk189 (pc : Nat) : mm_okP 189 pc = true := mm_okA mm_ck189 (fun h => mm_cb189 pc h)
theorem mm_cb190 (pc : Nat) (h : 106 ≤ pc) : mm_c190 pc = none := mm_ct (mm_cl9 (K := 55) h rfl) (mm_ct (mm_cl9 (K := 79) h rfl) (mm_ct (mm_cl9 (K := 94) h rfl) (mm_ct (mm_cl9 (K := 102) h rfl) (mm_ct (mm_cl9 (K := 105) h rfl) (mm_ce (X := 105) (Nat.lt_of_lt_of_le (Nat.le_of_ble_eq_true rfl) h))))))
theorem mm_ck190 : (List.range 106).all (mm_okP 190) = true := by decide +kernel
theorem mm_kk190 (pc : Nat) : mm_okP 190 pc = true := mm_okA mm_ck190 (fun h => mm_cb190 pc h)
