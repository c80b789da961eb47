/-! the bytes of the methods 191 to 228 say what the tables say (by program: wip/gen/gen_code.py) -/
theorem mm_cb191 (pc : Nat) (h : 58 ≤ pc) : mm_c191 pc = none := mm_ct (mm_cl9 (K := 30) h rfl) (mm_ct (mm_cl9 (K := 47) h rfl) (mm_ct (mm_cl9 (K := 51) h rfl) (mm_ct (mm_cl9 (K := 54) h rfl) (mm_ct (mm_cl9 (K := 57) h rfl) (mm_ce (X := 57) (Nat.lt_of_lt_of_le (Nat.le_of_ble_eq_true rfl) h))))))
theorem mm_ck191 : (List.range 58).all (mm_okP 191) = true := by decide +kernel
theorem mm_kk191 (pc : Nat) : mm_okP 191 pc = true := mm_okA mm_ck191 (fun h => mm_cb191 pc h)
theorem mm_cb192 (pc : Nat) (h : 49 ≤ pc) : mm_c192 pc = none := mm_ct (mm_cl9 (K := 28) h rfl) (mm_ct (mm_cl9 (K := 39) h rfl) (mm_ct (mm_cl9 (K := 44) h rfl) (mm_ct (mm_cl9 (K := 48) h rfl) (mm_ce (X := 48) (Nat.lt_of_lt_of_le (Nat.le_of_ble_eq_true rfl) h)))))
theorem mm_ck192 : (List.range 49).all (mm_okP 192) = true := by decide +kernel
theorem mm_kk192 (pc : Nat) : mm_okP 192 pc = true := mm_okA mm_ck192 (fun h => mm_cb192 pc h)
theorem mm_cb193 (pc : Nat) (h : 113 ≤ pc) : mm_c193 pc = none := mm_ct (mm_cl9 (K := 70) h rfl) (mm_ct (mm_cl9 (K := 93) h rfl) (mm_ct (mm_cl9 (K := 103) h rfl) (mm_ct (mm_cl9 (K := 108) h rfl) (mm_ct (mm_cl9 (K := 112) h rfl) (mm_ce (X := 112) (Nat.lt_of_lt_of_le (Nat.le_of_ble_eq_true rfl) h))))))
theorem mm_ck193 : (List.range 113).all (mm_okP 193) = true := by decide +kernel
theorem mm_kk193 (pc : Nat) : mm_okP 193 pc = true := mm_okA mm_ck193 (fun h => mm_cb193 pc h)
theorem mm_cb194 (pc : Nat) (h : 160 ≤ pc) : mm_c194 pc = none := mm_ct (mm_cl9 (K := 82) h rfl) (mm_ct (mm_cl9 (K := 121) h rfl) (mm_ct (mm_cl9 (K := 143) h rfl) (mm_ct (mm_cl9 (K := 153) h rfl) (mm_ct (mm_cl9 (K := 158) h rfl) (mm_ct (mm_cl9 (K := 159) h rfl) (mm_ce (X := 159) (Nat.lt_of_lt_of_le (Nat.le_of_ble_eq_true rfl) h)))))))
theorem mm_ck194 : (List.range 160).all (mm_okP 194) = true := by decide +kernel
theorem mm_kk194 (pc : Nat) : mm_okP 194 pc = true := mm_okA mm_ck194 (fun h => mm_cb194 pc h)
theorem mm_cb195 (pc : Nat) (h : 49 ≤ pc) : mm_c195 pc = none := mm_ct (mm_cl9 (K := 26) h rfl) (mm_ct (mm_cl9 (K := 38) h rfl) (mm_ct (mm_cl9 (K := 46) h rfl) (mm_ct (mm_cl9 (K := 48) h rfl) (mm_ce (X := 48) (Nat.lt_of_lt_of_le (Nat.le_of_ble_eq_true rfl) h)))))
theorem mm_ck195 : (List.range 49).all (mm_okP 195) = true := by decide +kernel
theorem mm_kk195 (pc : Nat) : mm_okP 195 pc = true := mm_okA mm_ck195 (fun h => mm_cb195 pc h)
theorem mm_cb196 (pc : Nat) (h : 36 ≤ pc) : mm_c196 pc = none := mm_ct (mm_cl9 (K := 19) h rfl) (mm_ct (mm_cl9 (K := 27) h rfl) (mm_ct (mm_cl9 (K := 32) h rfl) (mm_ct (mm_cl9 (K := 35) h rfl) (mm_ce (X := 35) (Nat.lt_of_lt_of_le (Nat.le_of_ble_eq_true rfl) h)))))
theorem mm_ck196 : (List.range 36).all (mm_okP 196) = true := by decide +kernel
theorem mm_kk196 (pc : Nat) : mm_okP 196 pc = true := mm_okA mm_ck196 (fun h => mm_cb196 pc h)
theorem mm_cb197 (pc : Nat) (h : 36 ≤ pc) : mm_c197 pc = none := mm_ct (mm_cl9 (K := 17) h rfl) (mm_ct (mm_cl9 (K := 27) h rfl) (mm_ct (mm_cl9 (K := 34) h rfl) (mm_ct (mm_cl9 (K := 35) h rfl) (mm_ce (X := 35) (Nat.lt_of_lt_of_le (Nat.le_of_ble_eq_true rfl) h)))))
theorem mm_ck197 : (List.range 36).all (mm_okP 197) = true := by decide +kernel
theorem mm_kk197 (pc : Nat) : mm_okP 197 pc = true := mm_okA mm_ck197 (fun h => mm_cb197 pc h)
theorem mm_cb198 (pc : Nat) (h : 109 ≤ pc) : mm_c198 pc = none := mm_ct (mm_cl9 (K := 52) h rfl) (mm_ct (mm_cl9 (K := 80) h rfl) (mm_ct (mm_cl9 (K := 93) h rfl) (mm_ct (mm_cl9 (K := 103) h rfl) (mm_ct (mm_cl9 (K := 108) h rfl) (mm_ce (X := 108) (Nat.lt_of_lt_of_le (Nat.le_of_ble_eq_true rfl) h))))))
theorem mm_ck198 : (List.range 109).all (mm_okP 198) = true := by decide +kernel
theorem mm_kk198 (pc : Nat) : mm_okP 198 pc = true := mm_okA mm_ck198 (fun h => mm_cb198 pc h)
theorem mm_cb199 (pc : Nat) (h : 259 ≤ pc) : mm_c199 pc = none := mm_ct (mm_cl9 (K := 130) h rfl) (mm_ct (mm_cl9 (K := 196) h rfl) (mm_ct (mm_cl9 (K := 226) h rfl) (mm_ct (mm_cl9 (K := 243) h rfl) (mm_ct (mm_cl9 (K := 251) h rfl) (mm_ct (mm_cl9 (K := 255) h rfl) (mm_ct (mm_cl9 (K := 258) h rfl) (mm_ce (X := 258) (Nat.lt_of_lt_of_le (Nat.le_of_ble_eq_true rfl) h))))))))
theorem mm_ck199 : (List.range 259).all (mm_okP 199) = true := by decide +kernel
theorem mm_kk199 (pc : Nat) : mm_okP 199 pc = true := mm_okA mm_ck199 (fun h => mm_cb199 pc h)
theorem mm_cb200 (pc : Nat) (h : 17 ≤ pc) : mm_c200 pc = none := mm_ct (mm_cl9 (K := 10) h rfl) (mm_ct (mm_cl9 (K := 13) h rfl) (mm_ct (mm_cl9 (K := 16) h rfl) (mm_ce (X := 16) (Nat.lt_of_lt_of_le (Nat.le_of_ble_eq_true rfl) h))))
theorem mm_ck200 : (List.range 17).all (mm_okP 200) = true := by decide +kernel
theorem mm_kk200 (pc : Nat) : mm_okP 200 pc = true := mm_okA mm_ck200 (fun h => mm_cb200 pc h)
theorem mm_cb201 (pc : Nat) (h : 158 ≤ pc) : mm_c201 pc = none := mm_ct (mm_cl9 (K := 74) h rfl) (mm_ct (mm_cl9 (K := 118) h rfl) (mm_ct (mm_cl9 (K := 137) h rfl) (mm_ct (mm_cl9 (K := 147) h rfl) (mm_ct (mm_cl9 (K := 155) h rfl) (mm_ct (mm_cl9 (K := 157) h rfl) (mm_ce (X := 157) (Nat.lt_of_lt_of_le (Nat.le_of_ble_eq_true rfl) h)))))))
theorem mm_ck201 : (List.range 158).all (mm_okP 201) = true := by decide +kernel
theorem mm_kk201 (pc : Nat) : mm_okP 201 pc = true := mm_okA mm_ck201 (fun h => mm_cb201 pc h)
theorem mm_cb202 (pc : Nat) (h : 48 ≤ pc) : mm_c202 pc = none := mm_ct (mm_cl9 (K := 24) h rfl) (mm_ct (mm_cl9 (K := 35) h rfl) (mm_ct (mm_cl9 (K := 43) h rfl) (mm_ct (mm_cl9 (K := 47) h rfl) (mm_ce (X := 47) (Nat.lt_of_lt_of_le (Nat.le_of_ble_eq_true rfl) h)))))
theorem mm_ck202 : (List.range 48).all (mm_okP 202) = true := by decide +kernel
theorem mm_kk202 (pc : Nat) : mm_okP 202 pc = true := mm_okA mm_ck202 (fun h => mm_cb202 pc h)
theorem mm_cb203 (pc : Nat) (h : 11 ≤ pc) : mm_c203 pc = none := mm_ct (mm_cl9 (K := 7) h rfl) (mm_ct (mm_cl9 (K := 10) h rfl) (mm_ce (X := 10) (Nat.lt_of_lt_of_le (Nat.le_of_ble_eq_true rfl) h)))
theorem mm_ck203 : (List.range 11).all (mm_okP 203) = true := by decide +kernel
theorem mm_kk203 (pc : Nat) : mm_okP 203 pc = true := mm_okA mm_ck203 (fun h => mm_cb203 pc h)
theorem mm_cb204 (pc : Nat) (h : 112 ≤ pc) : mm_c204 pc = none := mm_ct (mm_cl9 (K := 62) h rfl) (mm_ct (mm_cl9 (K := 88) h rfl) (mm_ct (mm_cl9 (K := 99) h rfl) (mm_ct (mm_cl9 (K := 105) h rfl) (mm_ct (mm_cl9 (K := 111) h rfl) (mm_ce (X := 111) (Nat.lt_of_lt_of_le (Nat.le_of_ble_eq_true rfl) h))))))
theorem mm_ck204 : (List.range 112).all (mm_okP 204) = true := by decide +kernel
theorem mm_kk204 (pc : Nat) : mm_okP 204 pc = true := mm_okA mm_ck204 (fun h => mm_cb204 pc h)
theorem mm_cb205 (pc : Nat) (h : 70 ≤ pc) : mm_c205 pc = none := mm_ct (mm_cl9 (K := 34) h rfl) (mm_ct (mm_cl9 (K := 52) h rfl) (mm_ct (mm_cl9 (K := 59) h rfl) (mm_ct (mm_cl9 (K := 67) h rfl) (mm_ct (mm_cl9 (K := 69) h rfl) (mm_ce (X := 69) (Nat.lt_of_lt_of_le (Nat.le_of_ble_eq_true rfl) h))))))
theorem mm_ck205 : (List.range 70).all (mm_okP 205) = true := by decide +kernel
theorem mm_kk205 (pc : Nat) : mm_okP 205 pc = true := mm_okA mm_ck205 (fun h => mm_cb205 pc h)
theorem mm_cb206 (pc : Nat) (h : 48 ≤ pc) : mm_c206 pc = none := mm_ct (mm_cl9 (K := 26) h rfl) (mm_ct (mm_cl9 (K := 38) h rfl) (mm_ct (mm_cl9 (K := 43) h rfl) (mm_ct (mm_cl9 (K := 47) h rfl) (mm_ce (X := 47) (Nat.lt_of_lt_of_le (Nat.le_of_ble_eq_true rfl) h)))))
theorem mm_ck206 : (List.range 48).all (mm_okP 206) = true := by decide +kernel
theorem mm_kk206 (pc : Nat) : mm_okP 206 pc = true := mm_okA mm_ck206 (fun h => mm_cb206 pc h)
theorem mm_cb207 (pc : Nat) (h : 98 ≤ pc) : mm_c207 pc = none := mm_ct (mm_cl9 (K := 55) h rfl) (mm_ct (mm_cl9 (K := 78) h rfl) (mm_ct (mm_cl9 (K := 87) h rfl) (mm_ct (mm_cl9 (K := 91) h rfl) (mm_ct (mm_cl9 (K := 97) h rfl) (mm_ce (X := 97) (Nat.lt_of_lt_of_le (Nat.le_of_ble_eq_true rfl) h))))))
theorem mm_ck207 : (List.range 98).all (mm_okP 207) = true := by decide +kernel
theorem mm_kk207 (pc : Nat) : mm_okP 207 pc = true := mm_okA mm_ck207 (fun h => mm_cb207 pc h)
theorem mm_cb208 (pc : Nat) (h : 98 ≤ pc) : mm_c208 pc = none := mm_ct (mm_cl9 (K := 52) h rfl) (mm_ct (mm_cl9 (K := 74) h rfl) (mm_ct (mm_cl9 (K := 87) h rfl) (mm_ct (mm_cl9 (K := 93) h rfl) (mm_ct (mm_cl9 (K := 97) h rfl) (mm_ce (X := 97) (Nat.lt_of_lt_of_le (Nat.le_of_ble_eq_true rfl) h))))))
theorem mm_ck208 : (List.range 98).all (mm_okP 208) = true := by decide +kernel
theorem mm_kk208 (pc : Nat) : mm_okP 208 pc = true := mm_okA mm_ck208 (fun h => mm_cb208 pc h)
theorem mm_cb209 (pc : Nat) (h : 33 ≤ pc) : mm_c209 pc = none := mm_ct (mm_cl9 (K := 17) h rfl) (mm_ct (mm_cl9 (K := 26) h rfl) (mm_ct (mm_cl9 (K := 31) h rfl) (mm_ct (mm_cl9 (K := 32) h rfl) (mm_ce (X := 32) (Nat.lt_of_lt_of_le (Nat.le_of_ble_eq_true rfl) h)))))
theorem mm_ck209 : (List.range 33).all (mm_okP 209) = true := by decide +kernel
theorem mm_kk209 (pc : Nat) : mm_okP 209 pc = true := mm_okA mm_ck209 (fun h => mm_cb209 pc h)
theorem mm_cb210 (pc : Nat) (h : 52 ≤ pc) : mm_c210 pc = none := mm_ct (mm_cl9 (K := 28) h rfl) (mm_ct (mm_cl9 (K := 41) h rfl) (mm_ct (mm_cl9 (K := 47) h rfl) (mm_ct (mm_cl9 (K := 51) h rfl) (mm_ce (X := 51) (Nat.lt_of_lt_of_le (Nat.le_of_ble_eq_true rfl) h)))))
theorem mm_ck210 : (List.range 52).all (mm_okP 210) = true := by decide +kernel
theorem mm_kk210 (pc : Nat) : mm_okP 210 pc = true := mm_okA mm_ck210 (fun h => mm_cb210 pc h)
theorem mm_cb211 (pc : Nat) (h : 279 ≤ pc) : mm_c211 pc = none := mm_ct (mm_cl9 (K := 138) h rfl) (mm_ct (mm_cl9 (K := 210) h rfl) (mm_ct (mm_cl9 (K := 245) h rfl) (mm_ct (mm_cl9 (K := 261) h rfl) (mm_ct (mm_cl9 (K := 269) h rfl) (mm_ct (mm_cl9 (K := 275) h rfl) (mm_ct (mm_cl9 (K := 278) h rfl) (mm_ce (X := 278) (Nat.lt_of_lt_of_le (Nat.le_of_ble_eq_true rfl) h))))))))
theorem mm_ck211 : (List.range 279).all (mm_okP 211) = true := by decide +kernel
theorem mm_kk211 (pc : Nat) : mm_okP 211 pc = true := mm_okA mm_ck211 (fun h => mm_cb211 pc h)
theorem mm_cb212 (pc : Nat) (h : 113 ≤ pc) : mm_c212 pc = none := mm_ct (mm_cl9 (K := 57) h rfl) (mm_ct (mm_cl9 (K := 87) h rfl) (mm_ct (mm_cl9 (K := 101) h rfl) (mm_ct (mm_cl9 (K := 107) h rfl) (mm_ct (mm_cl9 (K := 109) h rfl) (mm_ct (mm_cl9 (K := 112) h rfl) (mm_ce (X := 112) (Nat.lt_of_lt_of_le (Nat.le_of_ble_eq_true rfl) h)))))))
theorem mm_ck212 : (List.range 113).all (mm_okP 212) = true := by decide +kernel
theorem mm_kk212 (pc : Nat) : mm_okP 212 pc = true := mm_okA mm_ck212 (fun h => mm_cb212 pc h)
theorem mm_cb213 (pc : Nat) (h : 326 ≤ pc) : mm_c213 pc = none := mm_ct (mm_cl9 (K := 161) h rfl) (mm_ct (mm_cl9 (K := 242) h rfl) (mm_ct (mm_cl9 (K := 284) h rfl) (mm_ct (mm_cl9 (K := 309) h rfl) (mm_ct (mm_cl9 (K := 315) h rfl) (mm_ct (mm_cl9 (K := 322) h rfl) (mm_ct (mm_cl9 (K := 325) h rfl) (mm_ce (X := 325) (Nat.lt_of_lt_of_le (Nat.le_of_ble_eq_true rfl) h))))))))
theorem mm_ck213 : (List.range 326).all (mm_okP 213) = true := by decide +kernel
theorem mm_kk213 (pc : Nat) : mm_okP 213 pc = true := mm_okA mm_ck213 (fun h => mm_cb213 pc h)
theorem mm_cb214 (pc : Nat) (h : 158 ≤ pc) : mm_c214 pc = none := mm_ct (mm_cl9 (K := 80) h rfl) (mm_ct (mm_cl9 (K := 119) h rfl) (mm_ct (mm_cl9 (K := 139) h rfl) (mm_ct (mm_cl9 (K := 147) h rfl) (mm_ct (mm_cl9 (K := 154) h rfl) (mm_ct (mm_cl9 (K := 157) h rfl) (mm_ce (X := 157) (Nat.lt_of_lt_of_le (Nat.le_of_ble_eq_true rfl) h)))))))
theorem mm_ck214 : (List.range 158).all (mm_okP 214) = true := by decide +kernel
theorem mm_kk214 (pc : Nat) : mm_okP 214 pc = true := mm_okA mm_ck214 (fun h => mm_cb214 pc h)
theorem mm_cb215 (pc : Nat) (h : 75 ≤ pc) : mm_c215 pc = none := mm_ct (mm_cl9 (K := 40) h rfl) (mm_ct (mm_cl9 (K := 59) h rfl) (mm_ct (mm_cl9 (K := 68) h rfl) (mm_ct (mm_cl9 (K := 73) h rfl) (mm_ct (mm_cl9 (K := 74) h rfl) (mm_ce (X := 74) (Nat.lt_of_lt_of_le (Nat.le_of_ble_eq_true rfl) h))))))
theorem mm_ck215 : (List.range 75).all (mm_okP 215) = true := by decide +kernel
theorem mm_kk215 (pc : Nat) : mm_okP 215 pc = true := mm_okA mm_ck215 (fun h => mm_cb215 pc h)
theorem mm_cb216 (pc : Nat) (h : 45 ≤ pc) : mm_c216 pc = none := mm_ct (mm_cl9 (K := 25) h rfl) (mm_ct (mm_cl9 (K := 36) h rfl) (mm_ct (mm_cl9 (K := 42) h rfl) (mm_ct (mm_cl9 (K := 44) h rfl) (mm_ce (X := 44) (Nat.lt_of_lt_of_le (Nat.le_of_ble_eq_true rfl) h)))))
theorem mm_ck216 : (List.range 45).all (mm_okP 216) = true := by decide +kernel
theorem mm_kk216 (pc : Nat) : mm_okP 216 pc = true := mm_okA mm_ck216 (fun h => mm_cb216 pc h)
theorem mm_cb217 (pc : Nat) (h : 154 ≤ pc) : mm_c217 pc = none := mm_ct (mm_cl9 (K := 79) h rfl) (mm_ct (mm_cl9 (K := 119) h rfl) (mm_ct (mm_cl9 (K := 138) h rfl) (mm_ct (mm_cl9 (K := 145) h rfl) (mm_ct (mm_cl9 (K := 150) h rfl) (mm_ct (mm_cl9 (K := 153) h rfl) (mm_ce (X := 153) (Nat.lt_of_lt_of_le (Nat.le_of_ble_eq_true rfl) h)))))))
theorem mm_ck217 : (List.range 154).all (mm_okP 217) = true := by decide +kernel
theorem mm_kk217 (pc : Nat) : mm_okP 217 pc = true := mm_okA mm_ck217 (fun h => mm_cb217 pc h)
theorem mm_cb218 (pc : Nat) (h : 100 ≤ pc) : mm_c218 pc = none := mm_ct (mm_cl9 (K := 51) h rfl) (mm_ct (mm_cl9 (K := 76) h rfl) (mm_ct (mm_cl9 (K := 89) h rfl) (mm_ct (mm_cl9 (K := 95) h rfl) (mm_ct (mm_cl9 (K := 99) h rfl) (mm_ce (X := 99) (Nat.lt_of_lt_of_le (Nat.le_of_ble_eq_true rfl) h))))))
theorem mm_ck218 : (List.range 100).all (mm_okP 218) = true := by decide +kernel
theorem mm_kk218 (pc : Nat) : mm_okP 218 pc = true := mm_okA mm_ck218 (fun h => mm_cb218 pc h)
theorem mm_cb219 (pc : Nat) (h : 87 ≤ pc) : mm_c219 pc = none := mm_ct (mm_cl9 (K := 44) h rfl) (mm_ct (mm_cl9 (K := 64) h rfl) (mm_ct (mm_cl9 (K := 77) h rfl) (mm_ct (mm_cl9 (K := 82) h rfl) (mm_ct (mm_cl9 (K := 86) h rfl) (mm_ce (X := 86) (Nat.lt_of_lt_of_le (Nat.le_of_ble_eq_true rfl) h))))))
theorem mm_ck219 : (List.range 87).all (mm_okP 219) = true := by decide +kernel
theorem mm_kk219 (pc : Nat) : mm_okP 219 pc = true := mm_okA mm_ck219 (fun h => mm_cb219 pc h)
theorem mm_cb220 (pc : Nat) (h : 256 ≤ pc) : mm_c220 pc = none := mm_ct (mm_cl9 (K := 119) h rfl) (mm_ct (mm_cl9 (K := 192) h rfl) (mm_ct (mm_cl9 (K := 225) h rfl) (mm_ct (mm_cl9 (K := 240) h rfl) (mm_ct (mm_cl9 (K := 250) h rfl) (mm_ct (mm_cl9 (K := 254) h rfl) (mm_ct (mm_cl9 (K := 255) h rfl) (mm_ce (X := 255) (Nat.lt_of_lt_of_le (Nat.le_of_ble_eq_true rfl) h))))))))
theorem mm_ck220 : (List.range 256).all (mm_okP 220) = true := by decide +kernel
theorem mm_kk220 (pc : Nat) : mm_okP 220 pc = true := mm_okA mm_ck220 (fun h => mm_cb220 pc h)
theorem mm_cb221 (pc : Nat) (h : 62 ≤ pc) : mm_c221 pc = none := mm_ct (mm_cl9 (K := 31) h rfl) (mm_ct (mm_cl9 (K := 50) h rfl) (mm_ct (mm_cl9 (K := 58) h rfl) (mm_ct (mm_cl9 (K := 60) h rfl) (mm_ct (mm_cl9 (K := 61) h rfl) (mm_ce (X := 61) (Nat.lt_of_lt_of_le (Nat.le_of_ble_eq_true rfl) h))))))
theorem mm_ck221 : (List.range 62).all (mm_okP 221) = true := by decide +kernel
theorem mm_kk221 (pc : Nat) : mm_okP 221 pc = true := mm_okA mm_ck221 (fun h => mm_cb221 pc h)
theorem mm_cb222 (pc : Nat) (h : 12 ≤ pc) : mm_c222 pc = none := mm_ct (mm_cl9 (K := 8) h rfl) (mm_ct (mm_cl9 (K := 10) h rfl) (mm_ct (mm_cl9 (K := 11) h rfl) (mm_ce (X := 11) (Nat.lt_of_lt_of_le (Nat.le_of_ble_eq_true rfl) h))))
theorem mm_ck222 : (List.range 12).all (mm_okP 222) = true := by decide +kernel
theorem mm_kk222 (pc : Nat) : mm_okP 222 pc = true := mm_okA mm_ck222 (fun h => mm_cb222 pc h)
theorem mm_cb223 (pc : Nat) (h : 18 ≤ pc) : mm_c223 pc = none := mm_ct (mm_cl9 (K := 10) h rfl) (mm_ct (mm_cl9 (K := 15) h rfl) (mm_ct (mm_cl9 (K := 17) h rfl) (mm_ce (X := 17) (Nat.lt_of_lt_of_le (Nat.le_of_ble_eq_true rfl) h))))
theorem mm_ck223 : (List.range 18).all (mm_okP 223) = true := by decide +kernel
theorem mm_kk223 (pc : Nat) : mm_okP 223 pc = true := mm_okA mm_ck223 (fun h => mm_cb223 pc h)
theorem mm_cb224 (pc : Nat) (h : 33 ≤ pc) : mm_c224 pc = none := mm_ct (mm_cl9 (K := 17) h rfl) (mm_ct (mm_cl9 (K := 27) h rfl) (mm_ct (mm_cl9 (K := 31) h rfl) (mm_ct (mm_cl9 (K := 32) h rfl) (mm_ce (X := 32) (Nat.lt_of_lt_of_le (Nat.le_of_ble_eq_true rfl) h)))))
theorem mm_ck224 : (List.range 33).all (mm_okP 224) = true := by decide +kernel
theorem mm_kk224 (pc : Nat) : mm_okP 224 pc = true := mm_okA mm_ck224 (fun h => mm_cb224 pc h)
theorem mm_cb225 (pc : Nat) (h : 56 ≤ pc) : mm_c225 pc = none := mm_ct (mm_cl9 (K := 28) h rfl) (mm_ct (mm_cl9 (K := 43) h rfl) (mm_ct (mm_cl9 (K := 51) h rfl) (mm_ct (mm_cl9 (K := 55) h rfl) (mm_ce (X := 55) (Nat.lt_of_lt_of_le (Nat.le_of_ble_eq_true rfl) h)))))
theorem mm_ck225 : (List.range 56).all (mm_okP 225) = true := by decide +kernel
theorem mm_kk225 (pc : Nat) : mm_okP 225 pc = true := mm_okA mm_ck225 (fun h => mm_cb225 pc h)
theorem mm_cb226 (pc : Nat) (h : 123 ≤ pc) : mm_c226 pc = none := mm_ct (mm_cl9 (K := 61) h rfl) (mm_ct (mm_cl9 (K := 90) h rfl) (mm_ct (mm_cl9 (K := 107) h rfl) (mm_ct (mm_cl9 (K := 117) h rfl) (mm_ct (mm_cl9 (K := 122) h rfl) (mm_ce (X := 122) (Nat.lt_of_lt_of_le (Nat.le_of_ble_eq_true rfl) h))))))
theorem mm_ck226 : (List.range 123).all (mm_okP 226) = true := by decide +kernel
theorem mm_kk226 (pc : Nat) : mm_okP 226 pc = true := mm_okA mm_ck226 (fun h => mm_cb226 pc h)
theorem mm_cb227 (pc : Nat) (h : 46 ≤ pc) : mm_c227 pc = none := mm_ct (mm_cl9 (K := 24) h rfl) (mm_ct (mm_cl9 (K := 35) h rfl) (mm_ct (mm_cl9 (K := 41) h rfl) (mm_ct (mm_cl9 (K := 45) h rfl) (mm_ce (X := 45) (Nat.lt_of_lt_of_le (Nat.le_of_ble_eq_true rfl) h)))))
theorem mm_ck227 : (List.range 46).all (mm_okP 227) = true := by decide +kernel
theorem mm_kk227 (pc : Nat) : mm_okP 227 pc = true := mm_okA mm_ck227 (fun h => mm_cb227 pc h)
theorem mm_cb228 (pc : Nat) (h : 472 ≤ pc) : mm_c228 pc = none := mm_ct (mm_cl9 (K := 234) h rfl) (mm_ct (mm_cl9 (K := 346) h rfl) (mm_ct (mm_cl9 (K := 412) h rfl) (mm_ct (mm_cl9 (K := 442) h rfl) (mm_ct (mm_cl9 (K := 458) h rfl) (mm_ct (mm_cl9 (K := 466) h rfl) (mm_ct (mm_cl9 (K := 471) h rfl) (mm_ce (X := 471) (Nat.lt_of_lt_of_le (Nat.le_of_ble_eq_true rfl) h))))))))
theorem mm_ck228 : (List.range 472).all (mm_okP 228) = true := by decide +kernel
theorem mm_kk228 (pc : Nat) : mm_okP 228 pc = true := mm_okA mm_ck228 (fun h => mm_cb228 pc h)
