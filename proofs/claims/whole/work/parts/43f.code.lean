/-! the bytes of the methods 281 to 291 say what the tables say (by program: wip/gen/gen_code.py) -/
theorem mm_cb281 (pc : Nat) (h : 19 ≤ pc) : mm_c281 pc = none := mm_ct (mm_cl9 (K := 9) h rfl) (mm_ct (mm_cl9 (K := 16) h rfl) (mm_ct (mm_cl9 (K := 18) h rfl) (mm_ce (X := 18) (Nat.lt_of_lt_of_le (Nat.le_of_ble_eq_true rfl) h))))
theorem mm_ck281 : (List.range 19).all (mm_okP 281) = true := by decide +kernel
theorem mm_kk281 (pc : Nat) : mm_okP 281 pc = true := mm_okA mm_ck281 (fun h => mm_cb281 pc h)
theorem mm_cb282 (pc : Nat) (h : 17 ≤ pc) : mm_c282 pc = none := mm_ct (mm_cl9 (K := 9) h rfl) (mm_ct (mm_cl9 (K := 14) h rfl) (mm_ct (mm_cl9 (K := 16) h rfl) (mm_ce (X := 16) (Nat.lt_of_lt_of_le (Nat.le_of_ble_eq_true rfl) h))))
theorem mm_ck282 : (List.range 17).all (mm_okP 282) = true := by decide +kernel
theorem mm_kk282 (pc : Nat) : mm_okP 282 pc = true := mm_okA mm_ck282 (fun h => mm_cb282 pc h)
theorem mm_cb283 (pc : Nat) (h : 17 ≤ pc) : mm_c283 pc = none := mm_ct (mm_cl9 (K := 9) h rfl) (mm_ct (mm_cl9 (K := 14) h rfl) (mm_ct (mm_cl9 (K := 16) h rfl) (mm_ce (X := 16) (Nat.lt_of_lt_of_le (Nat.le_of_ble_eq_true rfl) h))))
theorem mm_ck283 : (List.range 17).all (mm_okP 283) = true := by decide +kernel
theorem mm_kk283 (pc : Nat) : mm_okP 283 pc = true := mm_okA mm_ck283 (fun h => mm_cb283 pc h)
theorem mm_cb284 (pc : Nat) (h : 17 ≤ pc) : mm_c284 pc = none := mm_ct (mm_cl9 (K := 9) h rfl) (mm_ct (mm_cl9 (K := 14) h rfl) (mm_ct (mm_cl9 (K := 16) h rfl) (mm_ce (X := 16) (Nat.lt_of_lt_of_le (Nat.le_of_ble_eq_true rfl) h))))
theorem mm_ck284 : (List.range 17).all (mm_okP 284) = true := by decide +kernel
theorem mm_kk284 (pc : Nat) : mm_okP 284 pc = true := mm_okA mm_ck284 (fun h => mm_cb284 pc h)
theorem mm_cb285 (pc : Nat) (h : 21 ≤ pc) : mm_c285 pc = none := mm_ct (mm_cl9 (K := 11) h rfl) (mm_ct (mm_cl9 (K := 18) h rfl) (mm_ct (mm_cl9 (K := 20) h rfl) (mm_ce (X := 20) (Nat.lt_of_lt_of_le (Nat.le_of_ble_eq_true rfl) h))))
theorem mm_ck285 : (List.range 21).all (mm_okP 285) = true := by decide +kernel
theorem mm_kk285 (pc : Nat) : mm_okP 285 pc = true := mm_okA mm_ck285 (fun h => mm_cb285 pc h)
theorem mm_cb286 (pc : Nat) (h : 25 ≤ pc) : mm_c286 pc = none := mm_ct (mm_cl9 (K := 14) h rfl) (mm_ct (mm_cl9 (K := 21) h rfl) (mm_ct (mm_cl9 (K := 23) h rfl) (mm_ct (mm_cl9 (K := 24) h rfl) (mm_ce (X := 24) (Nat.lt_of_lt_of_le (Nat.le_of_ble_eq_true rfl) h)))))
theorem mm_ck286 : (List.range 25).all (mm_okP 286) = true := by decide +kernel
theorem mm_kk286 (pc : Nat) : mm_okP 286 pc = true := mm_okA mm_ck286 (fun h => mm_cb286 pc h)
theorem mm_cb287 (pc : Nat) (h : 25 ≤ pc) : mm_c287 pc = none := mm_ct (mm_cl9 (K := 12) h rfl) (mm_ct (mm_cl9 (K := 21) h rfl) (mm_ct (mm_cl9 (K := 23) h rfl) (mm_ct (mm_cl9 (K := 24) h rfl) (mm_ce (X := 24) (Nat.lt_of_lt_of_le (Nat.le_of_ble_eq_true rfl) h)))))
theorem mm_ck287 : (List.range 25).all (mm_okP 287) = true := by decide +kernel
theorem mm_kk287 (pc : Nat) : mm_okP 287 pc = true := mm_okA mm_ck287 (fun h => mm_cb287 pc h)
theorem mm_cb288 (pc : Nat) (h : 17 ≤ pc) : mm_c288 pc = none := mm_ct (mm_cl9 (K := 9) h rfl) (mm_ct (mm_cl9 (K := 14) h rfl) (mm_ct (mm_cl9 (K := 16) h rfl) (mm_ce (X := 16) (Nat.lt_of_lt_of_le (Nat.le_of_ble_eq_true rfl) h))))
theorem mm_ck288 : (List.range 17).all (mm_okP 288) = true := by decide +kernel
theorem mm_kk288 (pc : Nat) : mm_okP 288 pc = true := mm_okA mm_ck288 (fun h => mm_cb288 pc h)
theorem mm_cb289 (pc : Nat) (h : 2989 ≤ pc) : mm_c289 pc = none := mm_ct (mm_cl9 (K := 1579) h rfl) (mm_ct (mm_cl9 (K := 2273) h rfl) (mm_ct (mm_cl9 (K := 2642) h rfl) (mm_ct (mm_cl9 (K := 2804) h rfl) (mm_ct (mm_cl9 (K := 2889) h rfl) (mm_ct (mm_cl9 (K := 2939) h rfl) (mm_ct (mm_cl9 (K := 2966) h rfl) (mm_ct (mm_cl9 (K := 2976) h rfl) (mm_ct (mm_cl9 (K := 2984) h rfl) (mm_ct (mm_cl9 (K := 2988) h rfl) (mm_ce (X := 2988) (Nat.lt_of_lt_of_le (Nat.le_of_ble_eq_true rfl) h)))))))))))
theorem mm_ck289 : (List.range 2989).all (mm_okP 289) = true := by decide +kernel
theorem mm_kk289 (pc : Nat) : mm_okP 289 pc = true := mm_okA mm_ck289 (fun h => mm_cb289 pc h)
theorem mm_cb290 (pc : Nat) (h : 53 ≤ pc) : mm_c290 pc = none := mm_ct (mm_cl9 (K := 27) h rfl) (mm_ct (mm_cl9 (K := 41) h rfl) (mm_ct (mm_cl9 (K := 47) h rfl) (mm_ct (mm_cl9 (K := 51) h rfl) (mm_ct (mm_cl9 (K := 52) h rfl) (mm_ce (X := 52) (Nat.lt_of_lt_of_le (Nat.le_of_ble_eq_true rfl) h))))))
theorem mm_ck290 : (List.range 53).all (mm_okP 290) = true := by decide +kernel
theorem mm_kk290 (pc : Nat) : mm_okP 290 pc = true := mm_okA mm_ck290 (fun h => mm_cb290 pc h)
theorem mm_cb291 (pc : Nat) (h : 21 ≤ pc) : mm_c291 pc = none := mm_ct (mm_cl9 (K := 10) h rfl) (mm_ct (mm_cl9 (K := 14) h rfl) (mm_ct (mm_cl9 (K := 20) h rfl) (mm_ce (X := 20) (Nat.lt_of_lt_of_le (Nat.le_of_ble_eq_true rfl) h))))
theorem mm_ck291 : (List.range 21).all (mm_okP 291) = true := by decide +kernel
theorem mm_kk291 (pc : Nat) : mm_okP 291 pc = true := mm_okA mm_ck291 (fun h => mm_cb291 pc h)
