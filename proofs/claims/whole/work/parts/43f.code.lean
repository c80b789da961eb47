/-! the bytes of the methods 281 to 291 say what the tables say (by program: wip/gen/gen_code.py) -/
theorem mm_cb281 (pc : Nat) (h : 19 ≤ pc) : mm_c281 pc = none := mm_ct (mm_cl9 (K := 9) h rfl) (mm_ct (mm_cl9 (K := 16) h rfl) (mm_ct (mm_cl9 (K := 18) h rfl) (mm_ce (X := 18) (Nat.lt_of_lt_of_le (Nat.le_of_ble_eq_true rfl) h))))
theorem mm_ck281 : (List.range 19).all (mm_okP 281) = true := by decide +kernel
theorem mm_kk281 (pc : Nat) : mm_okP 281 pc = true := mm_okA mm_ck281 (fun h => mm_cb281 pc h)
theorem mm_cb282 (pc : Nat) (h : 17 ≤ pc) : mm_c282 pc = none := mm_ct (mm_cl9 (K := 9) h rfl) (mm_ct (mm_cl9 (K := 14) h rfl) (mm_ct (mm_cl9 (K := 16) h rfl) (mm_ce (X := 16) (Nat.lt_of_lt_of_le (Nat.le_of_ble_eq_true rfl) h))))
theorem mm_ck282 : (List.range 17).all (mm_okP 282) = true := by decide +kernel
theorem mm_kk282 (pc : Nat) : mm_okP 282 pc = true := mm_okA mm_ck282 (fun h => mm_cb282 pc h)
theorem mm_cb283 (pc : Nat) (h : 17 ≤ pc) : mm_c283 pc = none := mm_ct (mm_cl9 (K := 9) h rfl) (mm_ct (mm_cl9 (K := 14) h rfl) (mm_ct (mm_cl9 (K := 16) h rfl) (mm_ce (X := 16) (Nat.lt_of_lt_of_le (Nat.le_of_ble_eq_true rfl) h))))
theorem mm_ck283 : (List.range 17).all (mm_okP 283) = true := by decide +kernel
theorem mm_kk283 (pc : Nat) : mm_okP 283 pc = true := mm_okA mm_ck283 (fun h => mm_cb283 pc h)
theorem mm_cb284 (pc : Nat) (h : 17 ≤ pc) : mm_c284 pc = none := mm_ct (mm_cl9 (K := 9) h rfl) (mm_ct (mm_cl9 (K := 14) h rfl) (mm_ct (mm_cl9 (K := 16) h rfl) (mm_ce (X := 16) (Nat.lt_of_lt_of_le (Nat.le_of_ble_eq_true rfl) h))))
theorem mm_ck284 : (List.range 17).all (mm_okP 284) = true := by decide +kernel
theorem mm_kk284 (pc : Nat) : mm_okP 284 pc = true := mm_okA mm_ck284 (fun h => mm_cb284 pc h)
theorem mm_cb285 (pc : Nat) (h : 21 ≤ pc) : mm_c285 pc = none := mm_ct (mm_cl9 (K := 11) h rfl) (mm_ct (mm_cl9 (K := 18) h rfl) (mm_ct (mm_cl9 (K := 20) h rfl) (mm_ce (X := 20) (Nat.lt_of_lt_of_le (Nat.le_of_ble_eq_true rfl) h))))
theorem mm_ck285 : (List.range 21).all (mm_okP 285) = true := by decide +kernel
theorem mm_kk285 (pc : Nat) : mm_okP 285 pc = true := mm_okA mm_ck285 (fun h => mm_cb285 pc h)
theorem mm_cb286 (pc : Nat) (h : 25 ≤ pc) : mm_c286 pc = none := mm_ct (mm_cl9 (K := 14) h rfl) (mm_ct (mm_cl9 (K := 21) h rfl) (mm_ct (mm_cl9 (K := 23) h rfl) (mm_ct (mm_cl9 (K := 24) h rfl) (mm_ce (X := 24) (Nat.lt_of_lt_of_le (Nat.le_of_ble_eq_true rfl) h)))))
theorem mm_ck286 : (List.range 25).all (mm_okP 286) = true := by decide +kernel
theorem mm_kk286 (pc : Nat) : mm_okP 286 pc = true := mm_okA mm_ck286 (fun h => mm_cb286 pc h)
theorem mm_cb287 (pc : Nat) (h : 25 ≤ pc) : mm_c287 pc = none := mm_ct (mm_cl9 (K := 12) h rfl) (mm_ct (mm_cl9 (K := 21) h rfl) (mm_ct (mm_cl9 (K := 23) h rfl) (mm_ct (mm_cl9 (K := 24) h rfl) (mm_ce (X := 24) (Nat.lt_of_lt_of_le (Nat.le_of_ble_eq_true rfl) h)))))
theorem mm_ck287 : (List.range 25).all (mm_okP 287) = true := by decide +kernel
theorem mm_kk287 (pc : Nat) : mm_okP 287 pc = true := mm_okA mm_ck287 (fun h => mm_cb287 pc h)
theorem mm_cb288 (pc : Nat) (h : 17 ≤ pc) : mm_c288 pc = none := mm_ct (mm_cl9 (K := 9) h rfl) (mm_ct (mm_cl9 (K := 14) h rfl) (mm_ct (mm_cl9 (K := 16) h rfl) (mm_ce (X := 16) (Nat.lt_of_lt_of_le (Nat.le_of_ble_eq_true rfl) h))))
theorem mm_ck288 : (List.range 17).all (mm_okP 288) = true := by decide +kernel
theorem mm_kk288 (pc : Nat) : mm_okP 288 pc = true := mm_okA mm_ck288 (fun h => mm_cb288 pc h)
theorem mm_cb289 (pc : Nat) (h : 2989 ≤ pc) : mm_c289 pc = none := mm_ct (mm_cl9 (K := 1579) h rfl) (mm_ct (mm_cl9 (K := 2273) h rfl) (mm_ct (mm_cl9 (K := 2642) h rfl) (mm_ct (mm_cl9 (K := 2804) h rfl) (mm_ct (mm_cl9 (K := 2889) h rfl) (mm_ct (mm_cl9 (K := 2939) h rfl) (mm_ct (mm_cl9 (K := 2966) h rfl) (mm_ct (mm_cl9 (K := 2976) h rfl) (mm_ct (mm_cl9 (K := 2984) h rfl) (mm_ct (mm_cl9 (K := 2988) h rfl) (mm_ce (X := 2988) (Nat.lt_of_lt_of_le (Nat.le_of_ble_eq_true rfl) h)))))))))))
theorem mm_ck289_0 : (List.range' 0 60).all (mm_okP 289) = true := by decide +kernel
theorem mm_ck289_1 : (List.range' 60 60).all (mm_okP 289) = true := by decide +kernel
theorem mm_ck289_2 : (List.range' 120 60).all (mm_okP 289) = true := by decide +kernel
theorem mm_ck289_3 : (List.range' 180 60).all (mm_okP 289) = true := by decide +kernel
theorem mm_ck289_4 : (List.range' 240 60).all (mm_okP 289) = true := by decide +kernel
theorem mm_ck289_5 : (List.range' 300 60).all (mm_okP 289) = true := by decide +kernel
theorem mm_ck289_6 : (List.range' 360 60).all (mm_okP 289) = true := by decide +kernel
theorem mm_ck289_7 : (List.range' 420 60).all (mm_okP 289) = true := by decide +kernel
theorem mm_ck289_8 : (List.range' 480 60).all (mm_okP 289) = true := by decide +kernel
theorem mm_ck289_9 : (List.range' 540 60).all (mm_okP 289) = true := by decide +kernel
theorem mm_ck289_10 : (List.range' 600 60).all (mm_okP 289) = true := by decide +kernel
theorem mm_ck289_11 : (List.range' 660 60).all (mm_okP 289) = true := by decide +kernel
theorem mm_ck289_12 : (List.range' 720 60).all (mm_okP 289) = true := by decide +kernel
theorem mm_ck289_13 : (List.range' 780 60).all (mm_okP 289) = true := by decide +kernel
theorem mm_ck289_14 : (List.range' 840 60).all (mm_okP 289) = true := by decide +kernel
theorem mm_ck289_15 : (List.range' 900 60).all (mm_okP 289) = true := by decide +kernel
theorem mm_ck289_16 : (List.range' 960 60).all (mm_okP 289) = true := by decide +kernel
theorem mm_ck289_17 : (List.range' 1020 60).all (mm_okP 289) = true := by decide +kernel
theorem mm_ck289_18 : (List.range' 1080 60).all (mm_okP 289) = true := by decide +kernel
theorem mm_ck289_19 : (List.range' 1140 60).all (mm_okP 289) = true := by decide +kernel
theorem mm_ck289_20 : (List.range' 1200 60).all (mm_okP 289) = true := by decide +kernel
theorem mm_ck289_21 : (List.range' 1260 60).all (mm_okP 289) = true := by decide +kernel
theorem mm_ck289_22 : (List.range' 1320 60).all (mm_okP 289) = true := by decide +kernel
theorem mm_ck289_23 : (List.range' 1380 60).all (mm_okP 289) = true := by decide +kernel
theorem mm_ck289_24 : (List.range' 1440 60).all (mm_okP 289) = true := by decide +kernel
theorem mm_ck289_25 : (List.range' 1500 60).all (mm_okP 289) = true := by decide +kernel
theorem mm_ck289_26 : (List.range' 1560 60).all (mm_okP 289) = true := by decide +kernel
theorem mm_ck289_27 : (List.range' 1620 60).all (mm_okP 289) = true := by decide +kernel
theorem mm_ck289_28 : (List.range' 1680 60).all (mm_okP 289) = true := by decide +kernel
theorem mm_ck289_29 : (List.range' 1740 60).all (mm_okP 289) = true := by decide +kernel
theorem mm_ck289_30 : (List.range' 1800 60).all (mm_okP 289) = true := by decide +kernel
theorem mm_ck289_31 : (List.range' 1860 60).all (mm_okP 289) = true := by decide +kernel
theorem mm_ck289_32 : (List.range' 1920 60).all (mm_okP 289) = true := by decide +kernel
theorem mm_ck289_33 : (List.range' 1980 60).all (mm_okP 289) = true := by decide +kernel
theorem mm_ck289_34 : (List.range' 2040 60).all (mm_okP 289) = true := by decide +kernel
theorem mm_ck289_35 : (List.range' 2100 60).all (mm_okP 289) = true := by decide +kernel
theorem mm_ck289_36 : (List.range' 2160 60).all (mm_okP 289) = true := by decide +kernel
theorem mm_ck289_37 : (List.range' 2220 60).all (mm_okP 289) = true := by decide +kernel
theorem mm_ck289_38 : (List.range' 2280 60).all (mm_okP 289) = true := by decide +kernel
theorem mm_ck289_39 : (List.range' 2340 60).all (mm_okP 289) = true := by decide +kernel
theorem mm_ck289_40 : (List.range' 2400 60).all (mm_okP 289) = true := by decide +kernel
theorem mm_ck289_41 : (List.range' 2460 60).all (mm_okP 289) = true := by decide +kernel
theorem mm_ck289_42 : (List.range' 2520 60).all (mm_okP 289) = true := by decide +kernel
theorem mm_ck289_43 : (List.range' 2580 60).all (mm_okP 289) = true := by decide +kernel
theorem mm_ck289_44 : (List.range' 2640 60).all (mm_okP 289) = true := by decide +kernel
theorem mm_ck289_45 : (List.range' 2700 60).all (mm_okP 289) = true := by decide +kernel
theorem mm_ck289_46 : (List.range' 2760 60).all (mm_okP 289) = true := by decide +kernel
theorem mm_ck289_47 : (List.range' 2820 60).all (mm_okP 289) = true := by decide +kernel
theorem mm_ck289_48 : (List.range' 2880 60).all (mm_okP 289) = true := by decide +kernel
theorem mm_ck289_49 : (List.range' 2940 60).all (mm_okP 289) = true := by decide +kernel
theorem mm_okB {k a n pc : Nat} (h : (List.range' a n).all (mm_okP k) = true) (h1 : a ≤ pc) (h2 : pc < a + n) : mm_okP k pc = true := List.all_eq_true.mp h pc (List.mem_range'_1.mpr ⟨h1, h2⟩)
theorem mm_kk289 (pc : Nat) : mm_okP 289 pc = true := by
  by_cases h0 : pc < 60
  · exact mm_okB mm_ck289_0 (by omega) (by omega)
  by_cases h1 : pc < 120
  · exact mm_okB mm_ck289_1 (by omega) (by omega)
  by_cases h2 : pc < 180
  · exact mm_okB mm_ck289_2 (by omega) (by omega)
  by_cases h3 : pc < 240
  · exact mm_okB mm_ck289_3 (by omega) (by omega)
  by_cases h4 : pc < 300
  · exact mm_okB mm_ck289_4 (by omega) (by omega)
  by_cases h5 : pc < 360
  · exact mm_okB mm_ck289_5 (by omega) (by omega)
  by_cases h6 : pc < 420
  · exact mm_okB mm_ck289_6 (by omega) (by omega)
  by_cases h7 : pc < 480
  · exact mm_okB mm_ck289_7 (by omega) (by omega)
  by_cases h8 : pc < 540
  · exact mm_okB mm_ck289_8 (by omega) (by omega)
  by_cases h9 : pc < 600
  · exact mm_okB mm_ck289_9 (by omega) (by omega)
  by_cases h10 : pc < 660
  · exact mm_okB mm_ck289_10 (by omega) (by omega)
  by_cases h11 : pc < 720
  · exact mm_okB mm_ck289_11 (by omega) (by omega)
  by_cases h12 : pc < 780
  · exact mm_okB mm_ck289_12 (by omega) (by omega)
  by_cases h13 : pc < 840
  · exact mm_okB mm_ck289_13 (by omega) (by omega)
  by_cases h14 : pc < 900
  · exact mm_okB mm_ck289_14 (by omega) (by omega)
  by_cases h15 : pc < 960
  · exact mm_okB mm_ck289_15 (by omega) (by omega)
  by_cases h16 : pc < 1020
  · exact mm_okB mm_ck289_16 (by omega) (by omega)
  by_cases h17 : pc < 1080
  · exact mm_okB mm_ck289_17 (by omega) (by omega)
  by_cases h18 : pc < 1140
  · exact mm_okB mm_ck289_18 (by omega) (by omega)
  by_cases h19 : pc < 1200
  · exact mm_okB mm_ck289_19 (by omega) (by omega)
  by_cases h20 : pc < 1260
  · exact mm_okB mm_ck289_20 (by omega) (by omega)
  by_cases h21 : pc < 1320
  · exact mm_okB mm_ck289_21 (by omega) (by omega)
  by_cases h22 : pc < 1380
  · exact mm_okB mm_ck289_22 (by omega) (by omega)
  by_cases h23 : pc < 1440
  · exact mm_okB mm_ck289_23 (by omega) (by omega)
  by_cases h24 : pc < 1500
  · exact mm_okB mm_ck289_24 (by omega) (by omega)
  by_cases h25 : pc < 1560
  · exact mm_okB mm_ck289_25 (by omega) (by omega)
  by_cases h26 : pc < 1620
  · exact mm_okB mm_ck289_26 (by omega) (by omega)
  by_cases h27 : pc < 1680
  · exact mm_okB mm_ck289_27 (by omega) (by omega)
  by_cases h28 : pc < 1740
  · exact mm_okB mm_ck289_28 (by omega) (by omega)
  by_cases h29 : pc < 1800
  · exact mm_okB mm_ck289_29 (by omega) (by omega)
  by_cases h30 : pc < 1860
  · exact mm_okB mm_ck289_30 (by omega) (by omega)
  by_cases h31 : pc < 1920
  · exact mm_okB mm_ck289_31 (by omega) (by omega)
  by_cases h32 : pc < 1980
  · exact mm_okB mm_ck289_32 (by omega) (by omega)
  by_cases h33 : pc < 2040
  · exact mm_okB mm_ck289_33 (by omega) (by omega)
  by_cases h34 : pc < 2100
  · exact mm_okB mm_ck289_34 (by omega) (by omega)
  by_cases h35 : pc < 2160
  · exact mm_okB mm_ck289_35 (by omega) (by omega)
  by_cases h36 : pc < 2220
  · exact mm_okB mm_ck289_36 (by omega) (by omega)
  by_cases h37 : pc < 2280
  · exact mm_okB mm_ck289_37 (by omega) (by omega)
  by_cases h38 : pc < 2340
  · exact mm_okB mm_ck289_38 (by omega) (by omega)
  by_cases h39 : pc < 2400
  · exact mm_okB mm_ck289_39 (by omega) (by omega)
  by_cases h40 : pc < 2460
  · exact mm_okB mm_ck289_40 (by omega) (by omega)
  by_cases h41 : pc < 2520
  · exact mm_okB mm_ck289_41 (by omega) (by omega)
  by_cases h42 : pc < 2580
  · exact mm_okB mm_ck289_42 (by omega) (by omega)
  by_cases h43 : pc < 2640
  · exact mm_okB mm_ck289_43 (by omega) (by omega)
  by_cases h44 : pc < 2700
  · exact mm_okB mm_ck289_44 (by omega) (by omega)
  by_cases h45 : pc < 2760
  · exact mm_okB mm_ck289_45 (by omega) (by omega)
  by_cases h46 : pc < 2820
  · exact mm_okB mm_ck289_46 (by omega) (by omega)
  by_cases h47 : pc < 2880
  · exact mm_okB mm_ck289_47 (by omega) (by omega)
  by_cases h48 : pc < 2940
  · exact mm_okB mm_ck289_48 (by omega) (by omega)
  by_cases h49 : pc < 3000
  · exact mm_okB mm_ck289_49 (by omega) (by omega)
  · unfold mm_okP
    rw [show mm_cd 289 pc = none from mm_cb289 pc (by omega)]
theorem mm_cb290 (pc : Nat) (h : 53 ≤ pc) : mm_c290 pc = none := mm_ct (mm_cl9 (K := 27) h rfl) (mm_ct (mm_cl9 (K := 41) h rfl) (mm_ct (mm_cl9 (K := 47) h rfl) (mm_ct (mm_cl9 (K := 51) h rfl) (mm_ct (mm_cl9 (K := 52) h rfl) (mm_ce (X := 52) (Nat.lt_of_lt_of_le (Nat.le_of_ble_eq_true rfl) h))))))
theorem mm_ck290 : (List.range 53).all (mm_okP 290) = true := by decide +kernel
theorem mm_kk290 (pc : Nat) : mm_okP 290 pc = true := mm_okA mm_ck290 (fun h => mm_cb290 pc h)
theorem mm_cb291 (pc : Nat) (h : 21 ≤ pc) : mm_c291 pc = none := mm_ct (mm_cl9 (K := 10) h rfl) (mm_ct (mm_cl9 (K := 14) h rfl) (mm_ct (mm_cl9 (K := 20) h rfl) (mm_ce (X := 20) (Nat.lt_of_lt_of_le (Nat.le_of_ble_eq_true rfl) h))))
theorem mm_ck291 : (List.range 21).all (mm_okP 291) = true := by decide +kernel
theorem mm_kk291 (pc : Nat) : mm_okP 291 pc = true := mm_okA mm_ck291 (fun h => mm_cb291 pc h)
