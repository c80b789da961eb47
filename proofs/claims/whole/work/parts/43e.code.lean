/-! the bytes of the methods 229 to 280 say what the tables say (by program: wip/gen/gen_code.py) -/
theorem mm_cb229 (pc : Nat) (h : 37 ≤ pc) : mm_c229 pc = none := mm_ct (mm_cl9 (K := 19) h rfl) (mm_ct (mm_cl9 (K := 30) h rfl) (mm_ct (mm_cl9 (K := 35) h rfl) (mm_ct (mm_cl9 (K := 36) h rfl) (mm_ce (X := 36) (Nat.lt_of_lt_of_le (Nat.le_of_ble_eq_true rfl) h)))))
theorem mm_ck229 : (List.range 37).all (mm_okP 229) = true := by decide +kernel
theorem mm_kk229 (pc : Nat) : mm_okP 229 pc = true := mm_okA mm_ck229 (fun h => mm_cb229 pc h)
theorem mm_cb230 (pc : Nat) (h : 8 ≤ pc) : mm_c230 pc = none := mm_ct (mm_cl9 (K := 4) h rfl) (mm_ct (mm_cl9 (K := 7) h rfl) (mm_ce (X := 7) (Nat.lt_of_lt_of_le (Nat.le_of_ble_eq_true rfl) h)))
theorem mm_ck230 : (List.range 8).all (mm_okP 230) = true := by decide +kernel
theorem mm_kk230 (pc : Nat) : mm_okP 230 pc = true := mm_okA mm_ck230 (fun h => mm_cb230 pc h)
theorem mm_cb231 (pc : Nat) (h : 118 ≤ pc) : mm_c231 pc = none := mm_ct (mm_cl9 (K := 64) h rfl) (mm_ct (mm_cl9 (K := 91) h rfl) (mm_ct (mm_cl9 (K := 106) h rfl) (mm_ct (mm_cl9 (K := 112) h rfl) (mm_ct (mm_cl9 (K := 116) h rfl) (mm_ct (mm_cl9 (K := 117) h rfl) (mm_ce (X := 117) (Nat.lt_of_lt_of_le (Nat.le_of_ble_eq_true rfl) h)))))))
theorem mm_ck231 : (List.range 118).all (mm_okP 231) = true := by decide +kernel
theorem mm_kk231 (pc : Nat) : mm_okP 231 pc = true := mm_okA mm_ck231 (fun h => mm_cb231 pc h)
theorem mm_cb232 (pc : Nat) (h : 78 ≤ pc) : mm_c232 pc = none := mm_ct (mm_cl9 (K := 42) h rfl) (mm_ct (mm_cl9 (K := 61) h rfl) (mm_ct (mm_cl9 (K := 71) h rfl) (mm_ct (mm_cl9 (K := 76) h rfl) (mm_ct (mm_cl9 (K := 77) h rfl) (mm_ce (X := 77) (Nat.lt_of_lt_of_le (Nat.le_of_ble_eq_true rfl) h))))))
theorem mm_ck232 : (List.range 78).all (mm_okP 232) = true := by decide +kernel
theorem mm_kk232 (pc : Nat) : mm_okP 232 pc = true := mm_okA mm_ck232 (fun h => mm_cb232 pc h)
theorem mm_cb233 (pc : Nat) (h : 93 ≤ pc) : mm_c233 pc = none := mm_ct (mm_cl9 (K := 45) h rfl) (mm_ct (mm_cl9 (K := 67) h rfl) (mm_ct (mm_cl9 (K := 80) h rfl) (mm_ct (mm_cl9 (K := 86) h rfl) (mm_ct (mm_cl9 (K := 92) h rfl) (mm_ce (X := 92) (Nat.lt_of_lt_of_le (Nat.le_of_ble_eq_true rfl) h))))))
theorem mm_ck233 : (List.range 93).all (mm_okP 233) = true := by decide +kernel
theorem mm_kk233 (pc : Nat) : mm_okP 233 pc = true := mm_okA mm_ck233 (fun h => mm_cb233 pc h)
theorem mm_cb234 (pc : Nat) (h : 256 ≤ pc) : mm_c234 pc = none := mm_ct (mm_cl9 (K := 125) h rfl) (mm_ct (mm_cl9 (K := 193) h rfl) (mm_ct (mm_cl9 (K := 227) h rfl) (mm_ct (mm_cl9 (K := 239) h rfl) (mm_ct (mm_cl9 (K := 246) h rfl) (mm_ct (mm_cl9 (K := 252) h rfl) (mm_ct (mm_cl9 (K := 255) h rfl) (mm_ce (X := 255) (Nat.lt_of_lt_of_le (Nat.le_of_ble_eq_true rfl) h))))))))
theorem mm_ck234 : (List.range 256).all (mm_okP 234) = true := by decide +kernel
theorem mm_kk234 (pc : Nat) : mm_okP 234 pc = true := mm_okA mm_ck234 (fun h => mm_cb234 pc h)
theorem mm_cb235 (pc : Nat) (h : 17 ≤ pc) : mm_c235 pc = none := mm_ct (mm_cl9 (K := 9) h rfl) (mm_ct (mm_cl9 (K := 12) h rfl) (mm_ct (mm_cl9 (K := 16) h rfl) (mm_ce (X := 16) (Nat.lt_of_lt_of_le (Nat.le_of_ble_eq_true rfl) h))))
theorem mm_ck235 : (List.range 17).all (mm_okP 235) = true := by decide +kernel
theorem mm_kk235 (pc : Nat) : mm_okP 235 pc = true := mm_okA mm_ck235 (fun h => mm_cb235 pc h)
theorem mm_cb236 (pc : Nat) (h : 85 ≤ pc) : mm_c236 pc = none := mm_ct (mm_cl9 (K := 42) h rfl) (mm_ct (mm_cl9 (K := 63) h rfl) (mm_ct (mm_cl9 (K := 75) h rfl) (mm_ct (mm_cl9 (K := 80) h rfl) (mm_ct (mm_cl9 (K := 84) h rfl) (mm_ce (X := 84) (Nat.lt_of_lt_of_le (Nat.le_of_ble_eq_true rfl) h))))))
theorem mm_ck236 : (List.range 85).all (mm_okP 236) = true := by decide +kernel
theorem mm_kk236 (pc : Nat) : mm_okP 236 pc = true := mm_okA mm_ck236 (fun h => mm_cb236 pc h)
theorem mm_cb237 (pc : Nat) (h : 36 ≤ pc) : mm_c237 pc = none := mm_ct (mm_cl9 (K := 17) h rfl) (mm_ct (mm_cl9 (K := 27) h rfl) (mm_ct (mm_cl9 (K := 34) h rfl) (mm_ct (mm_cl9 (K := 35) h rfl) (mm_ce (X := 35) (Nat.lt_of_lt_of_le (Nat.le_of_ble_eq_true rfl) h)))))
theorem mm_ck237 : (List.range 36).all (mm_okP 237) = true := by decide +kernel
theorem mm_kk237 (pc : Nat) : mm_okP 237 pc = true := mm_okA mm_ck237 (fun h => mm_cb237 pc h)
theorem mm_cb238 (pc : Nat) (h : 102 ≤ pc) : mm_c238 pc = none := mm_ct (mm_cl9 (K := 50) h rfl) (mm_ct (mm_cl9 (K := 80) h rfl) (mm_ct (mm_cl9 (K := 89) h rfl) (mm_ct (mm_cl9 (K := 99) h rfl) (mm_ct (mm_cl9 (K := 101) h rfl) (mm_ce (X := 101) (Nat.lt_of_lt_of_le (Nat.le_of_ble_eq_true rfl) h))))))
theorem mm_ck238 : (List.range 102).all (mm_okP 238) = true := by decide +kernel
theorem mm_kk238 (pc : Nat) : mm_okP 238 pc = true := mm_okA mm_ck238 (fun h => mm_cb238 pc h)
theorem mm_cb239 (pc : Nat) (h : 358 ≤ pc) : mm_c239 pc = none := mm_ct (mm_cl9 (K := 179) h rfl) (mm_ct (mm_cl9 (K := 273) h rfl) (mm_ct (mm_cl9 (K := 319) h rfl) (mm_ct (mm_cl9 (K := 337) h rfl) (mm_ct (mm_cl9 (K := 349) h rfl) (mm_ct (mm_cl9 (K := 355) h rfl) (mm_ct (mm_cl9 (K := 357) h rfl) (mm_ce (X := 357) (Nat.lt_of_lt_of_le (Nat.le_of_ble_eq_true rfl) h))))))))
theorem mm_ck239 : (List.range 358).all (mm_okP 239) = true := by decide +kernel
theorem mm_kk239 (pc : Nat) : mm_okP 239 pc = true := mm_okA mm_ck239 (fun h => mm_cb239 pc h)
theorem mm_cb240 (pc : Nat) (h : 44 ≤ pc) : mm_c240 pc = none := mm_ct (mm_cl9 (K := 21) h rfl) (mm_ct (mm_cl9 (K := 34) h rfl) (mm_ct (mm_cl9 (K := 39) h rfl) (mm_ct (mm_cl9 (K := 43) h rfl) (mm_ce (X := 43) (Nat.lt_of_lt_of_le (Nat.le_of_ble_eq_true rfl) h)))))
theorem mm_ck240 : (List.range 44).all (mm_okP 240) = true := by decide +kernel
theorem mm_kk240 (pc : Nat) : mm_okP 240 pc = true := mm_okA mm_ck240 (fun h => mm_cb240 pc h)
theorem mm_cb241 (pc : Nat) (h : 128 ≤ pc) : mm_c241 pc = none := mm_ct (mm_cl9 (K := 64) h rfl) (mm_ct (mm_cl9 (K := 91) h rfl) (mm_ct (mm_cl9 (K := 109) h rfl) (mm_ct (mm_cl9 (K := 118) h rfl) (mm_ct (mm_cl9 (K := 124) h rfl) (mm_ct (mm_cl9 (K := 127) h rfl) (mm_ce (X := 127) (Nat.lt_of_lt_of_le (Nat.le_of_ble_eq_true rfl) h)))))))
theorem mm_ck241 : (List.range 128).all (mm_okP 241) = true := by decide +kernel
theorem mm_kk241 (pc : Nat) : mm_okP 241 pc = true := mm_okA mm_ck241 (fun h => mm_cb241 pc h)
theorem mm_cb242 (pc : Nat) (h : 118 ≤ pc) : mm_c242 pc = none := mm_ct (mm_cl9 (K := 59) h rfl) (mm_ct (mm_cl9 (K := 90) h rfl) (mm_ct (mm_cl9 (K := 102) h rfl) (mm_ct (mm_cl9 (K := 110) h rfl) (mm_ct (mm_cl9 (K := 116) h rfl) (mm_ct (mm_cl9 (K := 117) h rfl) (mm_ce (X := 117) (Nat.lt_of_lt_of_le (Nat.le_of_ble_eq_true rfl) h)))))))
theorem mm_ck242 : (List.range 118).all (mm_okP 242) = true := by decide +kernel
theorem mm_kk242 (pc : Nat) : mm_okP 242 pc = true := mm_okA mm_ck242 (fun h => mm_cb242 pc h)
theorem mm_cb243 (pc : Nat) (h : 117 ≤ pc) : mm_c243 pc = none := mm_ct (mm_cl9 (K := 58) h rfl) (mm_ct (mm_cl9 (K := 89) h rfl) (mm_ct (mm_cl9 (K := 103) h rfl) (mm_ct (mm_cl9 (K := 109) h rfl) (mm_ct (mm_cl9 (K := 115) h rfl) (mm_ct (mm_cl9 (K := 116) h rfl) (mm_ce (X := 116) (Nat.lt_of_lt_of_le (Nat.le_of_ble_eq_true rfl) h)))))))
theorem mm_ck243 : (List.range 117).all (mm_okP 243) = true := by decide +kernel
theorem mm_kk243 (pc : Nat) : mm_okP 243 pc = true := mm_okA mm_ck243 (fun h => mm_cb243 pc h)
theorem mm_cb244 (pc : Nat) (h : 44 ≤ pc) : mm_c244 pc = none := mm_ct (mm_cl9 (K := 21) h rfl) (mm_ct (mm_cl9 (K := 34) h rfl) (mm_ct (mm_cl9 (K := 39) h rfl) (mm_ct (mm_cl9 (K := 43) h rfl) (mm_ce (X := 43) (Nat.lt_of_lt_of_le (Nat.le_of_ble_eq_true rfl) h)))))
theorem mm_ck244 : (List.range 44).all (mm_okP 244) = true := by decide +kernel
theorem mm_kk244 (pc : Nat) : mm_okP 244 pc = true := mm_okA mm_ck244 (fun h => mm_cb244 pc h)
theorem mm_cb245 (pc : Nat) (h : 78 ≤ pc) : mm_c245 pc = none := mm_ct (mm_cl9 (K := 38) h rfl) (mm_ct (mm_cl9 (K := 58) h rfl) (mm_ct (mm_cl9 (K := 68) h rfl) (mm_ct (mm_cl9 (K := 73) h rfl) (mm_ct (mm_cl9 (K := 77) h rfl) (mm_ce (X := 77) (Nat.lt_of_lt_of_le (Nat.le_of_ble_eq_true rfl) h))))))
theorem mm_ck245 : (List.range 78).all (mm_okP 245) = true := by decide +kernel
theorem mm_kk245 (pc : Nat) : mm_okP 245 pc = true := mm_okA mm_ck245 (fun h => mm_cb245 pc h)
theorem mm_cb246 (pc : Nat) (h : 24 ≤ pc) : mm_c246 pc = none := mm_ct (mm_cl9 (K := 12) h rfl) (mm_ct (mm_cl9 (K := 18) h rfl) (mm_ct (mm_cl9 (K := 20) h rfl) (mm_ct (mm_cl9 (K := 23) h rfl) (mm_ce (X := 23) (Nat.lt_of_lt_of_le (Nat.le_of_ble_eq_true rfl) h)))))
theorem mm_ck246 : (List.range 24).all (mm_okP 246) = true := by decide +kernel
theorem mm_kk246 (pc : Nat) : mm_okP 246 pc = true := mm_okA mm_ck246 (fun h => mm_cb246 pc h)
theorem mm_cb247 (pc : Nat) (h : 26 ≤ pc) : mm_c247 pc = none := mm_ct (mm_cl9 (K := 13) h rfl) (mm_ct (mm_cl9 (K := 18) h rfl) (mm_ct (mm_cl9 (K := 24) h rfl) (mm_ct (mm_cl9 (K := 25) h rfl) (mm_ce (X := 25) (Nat.lt_of_lt_of_le (Nat.le_of_ble_eq_true rfl) h)))))
theorem mm_ck247 : (List.range 26).all (mm_okP 247) = true := by decide +kernel
theorem mm_kk247 (pc : Nat) : mm_okP 247 pc = true := mm_okA mm_ck247 (fun h => mm_cb247 pc h)
theorem mm_cb248 (pc : Nat) (h : 129 ≤ pc) : mm_c248 pc = none := mm_ct (mm_cl9 (K := 60) h rfl) (mm_ct (mm_cl9 (K := 90) h rfl) (mm_ct (mm_cl9 (K := 111) h rfl) (mm_ct (mm_cl9 (K := 121) h rfl) (mm_ct (mm_cl9 (K := 127) h rfl) (mm_ct (mm_cl9 (K := 128) h rfl) (mm_ce (X := 128) (Nat.lt_of_lt_of_le (Nat.le_of_ble_eq_true rfl) h)))))))
theorem mm_ck248 : (List.range 129).all (mm_okP 248) = true := by decide +kernel
theorem mm_kk248 (pc : Nat) : mm_okP 248 pc = true := mm_okA mm_ck248 (fun h => mm_cb248 pc h)
theorem mm_cb249 (pc : Nat) (h : 12 ≤ pc) : mm_c249 pc = none := mm_ct (mm_cl9 (K := 6) h rfl) (mm_ct (mm_cl9 (K := 8) h rfl) (mm_ct (mm_cl9 (K := 11) h rfl) (mm_ce (X := 11) (Nat.lt_of_lt_of_le (Nat.le_of_ble_eq_true rfl) h))))
theorem mm_ck249 : (List.range 12).all (mm_okP 249) = true := by decide +kernel
theorem mm_kk249 (pc : Nat) : mm_okP 249 pc = true := mm_okA mm_ck249 (fun h => mm_cb249 pc h)
theorem mm_cb250 (pc : Nat) (h : 105 ≤ pc) : mm_c250 pc = none := mm_ct (mm_cl9 (K := 54) h rfl) (mm_ct (mm_cl9 (K := 80) h rfl) (mm_ct (mm_cl9 (K := 94) h rfl) (mm_ct (mm_cl9 (K := 102) h rfl) (mm_ct (mm_cl9 (K := 104) h rfl) (mm_ce (X := 104) (Nat.lt_of_lt_of_le (Nat.le_of_ble_eq_true rfl) h))))))
theorem mm_ck250 : (List.range 105).all (mm_okP 250) = true := by decide +kernel
theorem mm_kk250 (pc : Nat) : mm_okP 250 pc = true := mm_okA mm_ck250 (fun h => mm_cb250 pc h)
theorem mm_cb251 (pc : Nat) (h : 123 ≤ pc) : mm_c251 pc = none := mm_ct (mm_cl9 (K := 58) h rfl) (mm_ct (mm_cl9 (K := 96) h rfl) (mm_ct (mm_cl9 (K := 113) h rfl) (mm_ct (mm_cl9 (K := 119) h rfl) (mm_ct (mm_cl9 (K := 121) h rfl) (mm_ct (mm_cl9 (K := 122) h rfl) (mm_ce (X := 122) (Nat.lt_of_lt_of_le (Nat.le_of_ble_eq_true rfl) h)))))))
theorem mm_ck251 : (List.range 123).all (mm_okP 251) = true := by decide +kernel
theorem mm_kk251 (pc : Nat) : mm_okP 251 pc = true := mm_okA mm_ck251 (fun h => mm_cb251 pc h)
theorem mm_cb252 (pc : Nat) (h : 36 ≤ pc) : mm_c252 pc = none := mm_ct (mm_cl9 (K := 19) h rfl) (mm_ct (mm_cl9 (K := 27) h rfl) (mm_ct (mm_cl9 (K := 34) h rfl) (mm_ct (mm_cl9 (K := 35) h rfl) (mm_ce (X := 35) (Nat.lt_of_lt_of_le (Nat.le_of_ble_eq_true rfl) h)))))
theorem mm_ck252 : (List.range 36).all (mm_okP 252) = true := by decide +kernel
theorem mm_kk252 (pc : Nat) : mm_okP 252 pc = true := mm_okA mm_ck252 (fun h => mm_cb252 pc h)
theorem mm_cb253 (pc : Nat) (h : 166 ≤ pc) : mm_c253 pc = none := mm_ct (mm_cl9 (K := 81) h rfl) (mm_ct (mm_cl9 (K := 123) h rfl) (mm_ct (mm_cl9 (K := 146) h rfl) (mm_ct (mm_cl9 (K := 156) h rfl) (mm_ct (mm_cl9 (K := 161) h rfl) (mm_ct (mm_cl9 (K := 165) h rfl) (mm_ce (X := 165) (Nat.lt_of_lt_of_le (Nat.le_of_ble_eq_true rfl) h)))))))
theorem mm_ck253 : (List.range 166).all (mm_okP 253) = true := by decide +kernel
theorem mm_kk253 (pc : Nat) : mm_okP 253 pc = true := mm_okA mm_ck253 (fun h => mm_cb253 pc h)
theorem mm_cb254 (pc : Nat) (h : 247 ≤ pc) : mm_c254 pc = none := mm_ct (mm_cl9 (K := 123) h rfl) (mm_ct (mm_cl9 (K := 186) h rfl) (mm_ct (mm_cl9 (K := 219) h rfl) (mm_ct (mm_cl9 (K := 233) h rfl) (mm_ct (mm_cl9 (K := 239) h rfl) (mm_ct (mm_cl9 (K := 245) h rfl) (mm_ct (mm_cl9 (K := 246) h rfl) (mm_ce (X := 246) (Nat.lt_of_lt_of_le (Nat.le_of_ble_eq_true rfl) h))))))))
theorem mm_ck254 : (List.range 247).all (mm_okP 254) = true := by decide +kernel
theorem mm_kk254 (pc : Nat) : mm_okP 254 pc = true := mm_okA mm_ck254 (fun h => mm_cb254 pc h)
theorem mm_cb255 (pc : Nat) (h : 98 ≤ pc) : mm_c255 pc = none := mm_ct (mm_cl9 (K := 72) h rfl) (mm_ct (mm_cl9 (K := 86) h rfl) (mm_ct (mm_cl9 (K := 92) h rfl) (mm_ct (mm_cl9 (K := 94) h rfl) (mm_ct (mm_cl9 (K := 97) h rfl) (mm_ce (X := 97) (Nat.lt_of_lt_of_le (Nat.le_of_ble_eq_true rfl) h))))))
theorem mm_ck255 : (List.range 98).all (mm_okP 255) = true := by decide +kernel
theorem mm_kk255 (pc : Nat) : mm_okP 255 pc = true := mm_okA mm_ck255 (fun h => mm_cb255 pc h)
theorem mm_cb256 (pc : Nat) (h : 19 ≤ pc) : mm_c256 pc = none := mm_ct (mm_cl9 (K := 9) h rfl) (mm_ct (mm_cl9 (K := 16) h rfl) (mm_ct (mm_cl9 (K := 18) h rfl) (mm_ce (X := 18) (Nat.lt_of_lt_of_le (Nat.le_of_ble_eq_true rfl) h))))
theorem mm_ck256 : (List.range 19).all (mm_okP 256) = true := by decide +kernel
theorem mm_kk256 (pc : Nat) : mm_okP 256 pc = true := mm_okA mm_ck256 (fun h => mm_cb256 pc h)
theorem mm_cb257 (pc : Nat) (h : 17 ≤ pc) : mm_c257 pc = none := mm_ct (mm_cl9 (K := 9) h rfl) (mm_ct (mm_cl9 (K := 14) h rfl) (mm_ct (mm_cl9 (K := 16) h rfl) (mm_ce (X := 16) (Nat.lt_of_lt_of_le (Nat.le_of_ble_eq_true rfl) h))))
theorem mm_ck257 : (List.range 17).all (mm_okP 257) = true := by decide +kernel
theorem mm_kk257 (pc : Nat) : mm_okP 257 pc = true := mm_okA mm_ck257 (fun h => mm_cb257 pc h)
theorem mm_cb258 (pc : Nat) (h : 21 ≤ pc) : mm_c258 pc = none := mm_ct (mm_cl9 (K := 11) h rfl) (mm_ct (mm_cl9 (K := 18) h rfl) (mm_ct (mm_cl9 (K := 20) h rfl) (mm_ce (X := 20) (Nat.lt_of_lt_of_le (Nat.le_of_ble_eq_true rfl) h))))
theorem mm_ck258 : (List.range 21).all (mm_okP 258) = true := by decide +kernel
theorem mm_kk258 (pc : Nat) : mm_okP 258 pc = true := mm_okA mm_ck258 (fun h => mm_cb258 pc h)
theorem mm_cb259 (pc : Nat) (h : 27 ≤ pc) : mm_c259 pc = none := mm_ct (mm_cl9 (K := 14) h rfl) (mm_ct (mm_cl9 (K := 23) h rfl) (mm_ct (mm_cl9 (K := 25) h rfl) (mm_ct (mm_cl9 (K := 26) h rfl) (mm_ce (X := 26) (Nat.lt_of_lt_of_le (Nat.le_of_ble_eq_true rfl) h)))))
theorem mm_ck259 : (List.range 27).all (mm_okP 259) = true := by decide +kernel
theorem mm_kk259 (pc : Nat) : mm_okP 259 pc = true := mm_okA mm_ck259 (fun h => mm_cb259 pc h)
theorem mm_cb260 (pc : Nat) (h : 17 ≤ pc) : mm_c260 pc = none := mm_ct (mm_cl9 (K := 9) h rfl) (mm_ct (mm_cl9 (K := 14) h rfl) (mm_ct (mm_cl9 (K := 16) h rfl) (mm_ce (X := 16) (Nat.lt_of_lt_of_le (Nat.le_of_ble_eq_true rfl) h))))
theorem mm_ck260 : (List.range 17).all (mm_okP 260) = true := by decide +kernel
theorem mm_kk260 (pc : Nat) : mm_okP 260 pc = true := mm_okA mm_ck260 (fun h => mm_cb260 pc h)
theorem mm_cb261 (pc : Nat) (h : 25 ≤ pc) : mm_c261 pc = none := mm_ct (mm_cl9 (K := 14) h rfl) (mm_ct (mm_cl9 (K := 21) h rfl) (mm_ct (mm_cl9 (K := 23) h rfl) (mm_ct (mm_cl9 (K := 24) h rfl) (mm_ce (X := 24) (Nat.lt_of_lt_of_le (Nat.le_of_ble_eq_true rfl) h)))))
theorem mm_ck261 : (List.range 25).all (mm_okP 261) = true := by decide +kernel
theorem mm_kk261 (pc : Nat) : mm_okP 261 pc = true := mm_okA mm_ck261 (fun h => mm_cb261 pc h)
theorem mm_cb262 (pc : Nat) (h : 24 ≤ pc) : mm_c262 pc = none := mm_ct (mm_cl9 (K := 14) h rfl) (mm_ct (mm_cl9 (K := 20) h rfl) (mm_ct (mm_cl9 (K := 22) h rfl) (mm_ct (mm_cl9 (K := 23) h rfl) (mm_ce (X := 23) (Nat.lt_of_lt_of_le (Nat.le_of_ble_eq_true rfl) h)))))
theorem mm_ck262 : (List.range 24).all (mm_okP 262) = true := by decide +kernel
theorem mm_kk262 (pc : Nat) : mm_okP 262 pc = true := mm_okA mm_ck262 (fun h => mm_cb262 pc h)
theorem mm_cb263 (pc : Nat) (h : 33 ≤ pc) : mm_c263 pc = none := mm_ct (mm_cl9 (K := 18) h rfl) (mm_ct (mm_cl9 (K := 27) h rfl) (mm_ct (mm_cl9 (K := 31) h rfl) (mm_ct (mm_cl9 (K := 32) h rfl) (mm_ce (X := 32) (Nat.lt_of_lt_of_le (Nat.le_of_ble_eq_true rfl) h)))))
theorem mm_ck263 : (List.range 33).all (mm_okP 263) = true := by decide +kernel
theorem mm_kk263 (pc : Nat) : mm_okP 263 pc = true := mm_okA mm_ck263 (fun h => mm_cb263 pc h)
theorem mm_cb264 (pc : Nat) (h : 31 ≤ pc) : mm_c264 pc = none := mm_ct (mm_cl9 (K := 17) h rfl) (mm_ct (mm_cl9 (K := 25) h rfl) (mm_ct (mm_cl9 (K := 29) h rfl) (mm_ct (mm_cl9 (K := 30) h rfl) (mm_ce (X := 30) (Nat.lt_of_lt_of_le (Nat.le_of_ble_eq_true rfl) h)))))
theorem mm_ck264 : (List.range 31).all (mm_okP 264) = true := by decide +kernel
theorem mm_kk264 (pc : Nat) : mm_okP 264 pc = true := mm_okA mm_ck264 (fun h => mm_cb264 pc h)
theorem mm_cb265 (pc : Nat) (h : 27 ≤ pc) : mm_c265 pc = none := mm_ct (mm_cl9 (K := 14) h rfl) (mm_ct (mm_cl9 (K := 23) h rfl) (mm_ct (mm_cl9 (K := 25) h rfl) (mm_ct (mm_cl9 (K := 26) h rfl) (mm_ce (X := 26) (Nat.lt_of_lt_of_le (Nat.le_of_ble_eq_true rfl) h)))))
theorem mm_ck265 : (List.range 27).all (mm_okP 265) = true := by decide +kernel
theorem mm_kk265 (pc : Nat) : mm_okP 265 pc = true := mm_okA mm_ck265 (fun h => mm_cb265 pc h)
theorem mm_cb266 (pc : Nat) (h : 17 ≤ pc) : mm_c266 pc = none := mm_ct (mm_cl9 (K := 9) h rfl) (mm_ct (mm_cl9 (K := 14) h rfl) (mm_ct (mm_cl9 (K := 16) h rfl) (mm_ce (X := 16) (Nat.lt_of_lt_of_le (Nat.le_of_ble_eq_true rfl) h))))
theorem mm_ck266 : (List.range 17).all (mm_okP 266) = true := by decide +kernel
theorem mm_kk266 (pc : Nat) : mm_okP 266 pc = true := mm_okA mm_ck266 (fun h => mm_cb266 pc h)
theorem mm_cb267 (pc : Nat) (h : 29 ≤ pc) : mm_c267 pc = none := mm_ct (mm_cl9 (K := 15) h rfl) (mm_ct (mm_cl9 (K := 23) h rfl) (mm_ct (mm_cl9 (K := 27) h rfl) (mm_ct (mm_cl9 (K := 28) h rfl) (mm_ce (X := 28) (Nat.lt_of_lt_of_le (Nat.le_of_ble_eq_true rfl) h)))))
theorem mm_ck267 : (List.range 29).all (mm_okP 267) = true := by decide +kernel
theorem mm_kk267 (pc : Nat) : mm_okP 267 pc = true := mm_okA mm_ck267 (fun h => mm_cb267 pc h)
theorem mm_cb268 (pc : Nat) (h : 19 ≤ pc) : mm_c268 pc = none := mm_ct (mm_cl9 (K := 9) h rfl) (mm_ct (mm_cl9 (K := 16) h rfl) (mm_ct (mm_cl9 (K := 18) h rfl) (mm_ce (X := 18) (Nat.lt_of_lt_of_le (Nat.le_of_ble_eq_true rfl) h))))
theorem mm_ck268 : (List.range 19).all (mm_okP 268) = true := by decide +kernel
theorem mm_kk268 (pc : Nat) : mm_okP 268 pc = true := mm_okA mm_ck268 (fun h => mm_cb268 pc h)
theorem mm_cb269 (pc : Nat) (h : 13 ≤ pc) : mm_c269 pc = none := mm_ct (mm_cl9 (K := 9) h rfl) (mm_ct (mm_cl9 (K := 11) h rfl) (mm_ct (mm_cl9 (K := 12) h rfl) (mm_ce (X := 12) (Nat.lt_of_lt_of_le (Nat.le_of_ble_eq_true rfl) h))))
theorem mm_ck269 : (List.range 13).all (mm_okP 269) = true := by decide +kernel
theorem mm_kk269 (pc : Nat) : mm_okP 269 pc = true := mm_okA mm_ck269 (fun h => mm_cb269 pc h)
theorem mm_cb270 (pc : Nat) (h : 19 ≤ pc) : mm_c270 pc = none := mm_ct (mm_cl9 (K := 9) h rfl) (mm_ct (mm_cl9 (K := 16) h rfl) (mm_ct (mm_cl9 (K := 18) h rfl) (mm_ce (X := 18) (Nat.lt_of_lt_of_le (Nat.le_of_ble_eq_true rfl) h))))
theorem mm_ck270 : (List.range 19).all (mm_okP 270) = true := by decide +kernel
theorem mm_kk270 (pc : Nat) : mm_okP 270 pc = true := mm_okA mm_ck270 (fun h => mm_cb270 pc h)
theorem mm_cb271 (pc : Nat) (h : 24 ≤ pc) : mm_c271 pc = none := mm_ct (mm_cl9 (K := 14) h rfl) (mm_ct (mm_cl9 (K := 20) h rfl) (mm_ct (mm_cl9 (K := 22) h rfl) (mm_ct (mm_cl9 (K := 23) h rfl) (mm_ce (X := 23) (Nat.lt_of_lt_of_le (Nat.le_of_ble_eq_true rfl) h)))))
theorem mm_ck271 : (List.range 24).all (mm_okP 271) = true := by decide +kernel
theorem mm_kk271 (pc : Nat) : mm_okP 271 pc = true := mm_okA mm_ck271 (fun h => mm_cb271 pc h)
theorem mm_cb272 (pc : Nat) (h : 17 ≤ pc) : mm_c272 pc = none := mm_ct (mm_cl9 (K := 9) h rfl) (mm_ct (mm_cl9 (K := 14) h rfl) (mm_ct (mm_cl9 (K := 16) h rfl) (mm_ce (X := 16) (Nat.lt_of_lt_of_le (Nat.le_of_ble_eq_true rfl) h))))
theorem mm_ck272 : (List.range 17).all (mm_okP 272) = true := by decide +kernel
theorem mm_kk272 (pc : Nat) : mm_okP 272 pc = true := mm_okA mm_ck272 (fun h => mm_cb272 pc h)
theorem mm_cb273 (pc : Nat) (h : 17 ≤ pc) : mm_c273 pc = none := mm_ct (mm_cl9 (K := 9) h rfl) (mm_ct (mm_cl9 (K := 14) h rfl) (mm_ct (mm_cl9 (K := 16) h rfl) (mm_ce (X := 16) (Nat.lt_of_lt_of_le (Nat.le_of_ble_eq_true rfl) h))))
theorem mm_ck273 : (List.range 17).all (mm_okP 273) = true := by decide +kernel
theorem mm_kk273 (pc : Nat) : mm_okP 273 pc = true := mm_okA mm_ck273 (fun h => mm_cb273 pc h)
theorem mm_cb274 (pc : Nat) (h : 27 ≤ pc) : mm_c274 pc = none := mm_ct (mm_cl9 (K := 14) h rfl) (mm_ct (mm_cl9 (K := 23) h rfl) (mm_ct (mm_cl9 (K := 25) h rfl) (mm_ct (mm_cl9 (K := 26) h rfl) (mm_ce (X := 26) (Nat.lt_of_lt_of_le (Nat.le_of_ble_eq_true rfl) h)))))
theorem mm_ck274 : (List.range 27).all (mm_okP 274) = true := by decide +kernel
theorem mm_kk274 (pc : Nat) : mm_okP 274 pc = true := mm_okA mm_ck274 (fun h => mm_cb274 pc h)
theorem mm_cb275 (pc : Nat) (h : 31 ≤ pc) : mm_c275 pc = none := mm_ct (mm_cl9 (K := 17) h rfl) (mm_ct (mm_cl9 (K := 25) h rfl) (mm_ct (mm_cl9 (K := 29) h rfl) (mm_ct (mm_cl9 (K := 30) h rfl) (mm_ce (X := 30) (Nat.lt_of_lt_of_le (Nat.le_of_ble_eq_true rfl) h)))))
theorem mm_ck275 : (List.range 31).all (mm_okP 275) = true := by decide +kernel
theorem mm_kk275 (pc : Nat) : mm_okP 275 pc = true := mm_okA mm_ck275 (fun h => mm_cb275 pc h)
theorem mm_cb276 (pc : Nat) (h : 35 ≤ pc) : mm_c276 pc = none := mm_ct (mm_cl9 (K := 20) h rfl) (mm_ct (mm_cl9 (K := 29) h rfl) (mm_ct (mm_cl9 (K := 33) h rfl) (mm_ct (mm_cl9 (K := 34) h rfl) (mm_ce (X := 34) (Nat.lt_of_lt_of_le (Nat.le_of_ble_eq_true rfl) h)))))
theorem mm_ck276 : (List.range 35).all (mm_okP 276) = true := by decide +kernel
theorem mm_kk276 (pc : Nat) : mm_okP 276 pc = true := mm_okA mm_ck276 (fun h => mm_cb276 pc h)
theorem mm_cb277 (pc : Nat) (h : 17 ≤ pc) : mm_c277 pc = none := mm_ct (mm_cl9 (K := 9) h rfl) (mm_ct (mm_cl9 (K := 14) h rfl) (mm_ct (mm_cl9 (K := 16) h rfl) (mm_ce (X := 16) (Nat.lt_of_lt_of_le (Nat.le_of_ble_eq_true rfl) h))))
theorem mm_ck277 : (List.range 17).all (mm_okP 277) = true := by decide +kernel
theorem mm_kk277 (pc : Nat) : mm_okP 277 pc = true := mm_okA mm_ck277 (fun h => mm_cb277 pc h)
theorem mm_cb278 (pc : Nat) (h : 23 ≤ pc) : mm_c278 pc = none := mm_ct (mm_cl9 (K := 12) h rfl) (mm_ct (mm_cl9 (K := 19) h rfl) (mm_ct (mm_cl9 (K := 21) h rfl) (mm_ct (mm_cl9 (K := 22) h rfl) (mm_ce (X := 22) (Nat.lt_of_lt_of_le (Nat.le_of_ble_eq_true rfl) h)))))
theorem mm_ck278 : (List.range 23).all (mm_okP 278) = true := by decide +kernel
theorem mm_kk278 (pc : Nat) : mm_okP 278 pc = true := mm_okA mm_ck278 (fun h => mm_cb278 pc h)
theorem mm_cb279 (pc : Nat) (h : 19 ≤ pc) : mm_c279 pc = none := mm_ct (mm_cl9 (K := 9) h rfl) (mm_ct (mm_cl9 (K := 16) h rfl) (mm_ct (mm_cl9 (K := 18) h rfl) (mm_ce (X := 18) (Nat.lt_of_lt_of_le (Nat.le_of_ble_eq_true rfl) h))))
theorem mm_ck279 : (List.range 19).all (mm_okP 279) = true := by decide +kernel
theorem mm_kk279 (pc : Nat) : mm_okP 279 pc = true := mm_okA mm_ck279 (fun h => mm_cb279 pc h)
theorem mm_cb280 (pc : Nat) (h : 19 ≤ pc) : mm_c280 pc = none := mm_ct (mm_cl9 (K := 9) h rfl) (mm_ct (mm_cl9 (K := 16) h rfl) (mm_ct (mm_cl9 (K := 18) h rfl) (mm_ce (X := 18) (Nat.lt_of_lt_of_le (Nat.le_of_ble_eq_true rfl) h))))
theorem mm_ck280 : (List.range 19).all (mm_okP 280) = true := by decide +kernel
theorem mm_kk280 (pc : Nat) : mm_okP 280 pc = true := mm_okA mm_ck280 (fun h => mm_cb280 pc h)
