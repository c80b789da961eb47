/-! the bytes of the methods 0 to 80 say what the tables say (by program: wip/gen/gen_code.py) -/
theorem mm_ct {α : Type} {b : Bool} {A B : Option α} (hb : b = true) (h : A = none) : (bif b then A else B) = none := by rw [hb]; exact h
theorem mm_ce {α : Type} {pc X : Nat} {A : Option α} (h : X < pc) : (bif Nat.beq pc X then A else none) = none := by
  have e : Nat.beq pc X = false := by
    rw [Bool.eq_false_iff]
    intro z
    have := Nat.eq_of_beq_eq_true z
    omega
  rw [e]
  rfl
theorem mm_cl9 {n pc K : Nat} (h : n ≤ pc) (hk : Nat.ble K n = true) : Nat.ble K pc = true := Nat.ble_eq_true_of_le (Nat.le_trans (Nat.le_of_ble_eq_true hk) h)
theorem mm_okA {k n pc : Nat} (h : (List.range n).all (mm_okP k) = true) (hc : n ≤ pc → mm_cd k pc = none) : mm_okP k pc = true := by
  by_cases hp : n ≤ pc
  · unfold mm_okP
    rw [hc hp]
  · exact List.all_eq_true.mp h pc (List.mem_range.mpr (Nat.lt_of_not_le hp))
theorem mm_cb0 (pc : Nat) (h : 65 ≤ pc) : mm_c0 pc = none := mm_ct (mm_cl9 (K := 32) h rfl) (mm_ct (mm_cl9 (K := 49) h rfl) (mm_ct (mm_cl9 (K := 58) h rfl) (mm_ct (mm_cl9 (K := 64) h rfl) (mm_ce (X := 64) (Nat.lt_of_lt_of_le (Nat.le_of_ble_eq_true rfl) h)))))
theorem mm_ck0 : (List.range 65).all (mm_okP 0) = true := by decide +kernel
theorem mm_kk0 (pc : Nat) : mm_okP 0 pc = true := mm_okA mm_ck0 (fun h => mm_cb0 pc h)
theorem mm_cb1 (pc : Nat) (h : 104 ≤ pc) : mm_c1 pc = none := mm_ct (mm_cl9 (K := 52) h rfl) (mm_ct (mm_cl9 (K := 82) h rfl) (mm_ct (mm_cl9 (K := 93) h rfl) (mm_ct (mm_cl9 (K := 101) h rfl) (mm_ct (mm_cl9 (K := 103) h rfl) (mm_ce (X := 103) (Nat.lt_of_lt_of_le (Nat.le_of_ble_eq_true rfl) h))))))
theorem mm_ck1 : (List.range 104).all (mm_okP 1) = true := by decide +kernel
theorem mm_kk1 (pc : Nat) : mm_okP 1 pc = true := mm_okA mm_ck1 (fun h => mm_cb1 pc h)
theorem mm_cb2 (pc : Nat) (h : 71 ≤ pc) : mm_c2 pc = none := mm_ct (mm_cl9 (K := 37) h rfl) (mm_ct (mm_cl9 (K := 56) h rfl) (mm_ct (mm_cl9 (K := 65) h rfl) (mm_ct (mm_cl9 (K := 69) h rfl) (mm_ct (mm_cl9 (K := 70) h rfl) (mm_ce (X := 70) (Nat.lt_of_lt_of_le (Nat.le_of_ble_eq_true rfl) h))))))
theorem mm_ck2 : (List.range 71).all (mm_okP 2) = true := by decide +kernel
theorem mm_kk2 (pc : Nat) : mm_okP 2 pc = true := mm_okA mm_ck2 (fun h => mm_cb2 pc h)
theorem mm_cb3 (pc : Nat) (h : 5 ≤ pc) : mm_c3 pc = none := mm_ct (mm_cl9 (K := 4) h rfl) (mm_ce (X := 4) (Nat.lt_of_lt_of_le (Nat.le_of_ble_eq_true rfl) h))
theorem mm_ck3 : (List.range 5).all (mm_okP 3) = true := by decide +kernel
theorem mm_kk3 (pc : Nat) : mm_okP 3 pc = true := mm_okA mm_ck3 (fun h => mm_cb3 pc h)
theorem mm_cb4 (pc : Nat) (h : 84 ≤ pc) : mm_c4 pc = none := mm_ct (mm_cl9 (K := 56) h rfl) (mm_ct (mm_cl9 (K := 71) h rfl) (mm_ct (mm_cl9 (K := 78) h rfl) (mm_ct (mm_cl9 (K := 80) h rfl) (mm_ct (mm_cl9 (K := 83) h rfl) (mm_ce (X := 83) (Nat.lt_of_lt_of_le (Nat.le_of_ble_eq_true rfl) h))))))
theorem mm_ck4 : (List.range 84).all (mm_okP 4) = true := by decide +kernel
theorem mm_kk4 (pc : Nat) : mm_okP 4 pc = true := mm_okA mm_ck4 (fun h => mm_cb4 pc h)
theorem mm_cb5 (pc : Nat) (h : 53 ≤ pc) : mm_c5 pc = none := mm_ct (mm_cl9 (K := 24) h rfl) (mm_ct (mm_cl9 (K := 43) h rfl) (mm_ct (mm_cl9 (K := 47) h rfl) (mm_ct (mm_cl9 (K := 52) h rfl) (mm_ce (X := 52) (Nat.lt_of_lt_of_le (Nat.le_of_ble_eq_true rfl) h)))))
theorem mm_ck5 : (List.range 53).all (mm_okP 5) = true := by decide +kernel
theorem mm_kk5 (pc : Nat) : mm_okP 5 pc = true := mm_okA mm_ck5 (fun h => mm_cb5 pc h)
theorem mm_cb6 (pc : Nat) (h : 41 ≤ pc) : mm_c6 pc = none := mm_ct (mm_cl9 (K := 26) h rfl) (mm_ct (mm_cl9 (K := 33) h rfl) (mm_ct (mm_cl9 (K := 37) h rfl) (mm_ct (mm_cl9 (K := 40) h rfl) (mm_ce (X := 40) (Nat.lt_of_lt_of_le (Nat.le_of_ble_eq_true rfl) h)))))
theorem mm_ck6 : (List.range 41).all (mm_okP 6) = true := by decide +kernel
theorem mm_kk6 (pc : Nat) : mm_okP 6 pc = true := mm_okA mm_ck6 (fun h => mm_cb6 pc h)
theorem mm_cb7 (pc : Nat) (h : 73 ≤ pc) : mm_c7 pc = none := mm_ct (mm_cl9 (K := 42) h rfl) (mm_ct (mm_cl9 (K := 58) h rfl) (mm_ct (mm_cl9 (K := 65) h rfl) (mm_ct (mm_cl9 (K := 69) h rfl) (mm_ct (mm_cl9 (K := 72) h rfl) (mm_ce (X := 72) (Nat.lt_of_lt_of_le (Nat.le_of_ble_eq_true rfl) h))))))
theorem mm_ck7 : (List.range 73).all (mm_okP 7) = true := by decide +kernel
theorem mm_kk7 (pc : Nat) : mm_okP 7 pc = true := mm_okA mm_ck7 (fun h => mm_cb7 pc h)
theorem mm_cb8 (pc : Nat) (h : 38 ≤ pc) : mm_c8 pc = none := mm_ct (mm_cl9 (K := 18) h rfl) (mm_ct (mm_cl9 (K := 30) h rfl) (mm_ct (mm_cl9 (K := 34) h rfl) (mm_ct (mm_cl9 (K := 37) h rfl) (mm_ce (X := 37) (Nat.lt_of_lt_of_le (Nat.le_of_ble_eq_true rfl) h)))))
theorem mm_ck8 : (List.range 38).all (mm_okP 8) = true := by decide +kernel
theorem mm_kk8 (pc : Nat) : mm_okP 8 pc = true := mm_okA mm_ck8 (fun h => mm_cb8 pc h)
theorem mm_cb9 (pc : Nat) (h : 74 ≤ pc) : mm_c9 pc = none := mm_ct (mm_cl9 (K := 37) h rfl) (mm_ct (mm_cl9 (K := 55) h rfl) (mm_ct (mm_cl9 (K := 66) h rfl) (mm_ct (mm_cl9 (K := 70) h rfl) (mm_ct (mm_cl9 (K := 73) h rfl) (mm_ce (X := 73) (Nat.lt_of_lt_of_le (Nat.le_of_ble_eq_true rfl) h))))))
theorem mm_ck9 : (List.range 74).all (mm_okP 9) = true := by decide +kernel
theorem mm_kk9 (pc : Nat) : mm_okP 9 pc = true := mm_okA mm_ck9 (fun h => mm_cb9 pc h)
theorem mm_cb10 (pc : Nat) (h : 70 ≤ pc) : mm_c10 pc = none := mm_ct (mm_cl9 (K := 35) h rfl) (mm_ct (mm_cl9 (K := 53) h rfl) (mm_ct (mm_cl9 (K := 63) h rfl) (mm_ct (mm_cl9 (K := 66) h rfl) (mm_ct (mm_cl9 (K := 69) h rfl) (mm_ce (X := 69) (Nat.lt_of_lt_of_le (Nat.le_of_ble_eq_true rfl) h))))))
theorem mm_ck10 : (List.range 70).all (mm_okP 10) = true := by decide +kernel
theorem mm_kk10 (pc : Nat) : mm_okP 10 pc = true := mm_okA mm_ck10 (fun h => mm_cb10 pc h)
theorem mm_cb11 (pc : Nat) (h : 87 ≤ pc) : mm_c11 pc = none := mm_ct (mm_cl9 (K := 44) h rfl) (mm_ct (mm_cl9 (K := 67) h rfl) (mm_ct (mm_cl9 (K := 78) h rfl) (mm_ct (mm_cl9 (K := 85) h rfl) (mm_ct (mm_cl9 (K := 86) h rfl) (mm_ce (X := 86) (Nat.lt_of_lt_of_le (Nat.le_of_ble_eq_true rfl) h))))))
theorem mm_ck11 : (List.range 87).all (mm_okP 11) = true := by decide +kernel
theorem mm_kk11 (pc : Nat) : mm_okP 11 pc = true := mm_okA mm_ck11 (fun h => mm_cb11 pc h)
theorem mm_cb12 (pc : Nat) (h : 32 ≤ pc) : mm_c12 pc = none := mm_ct (mm_cl9 (K := 21) h rfl) (mm_ct (mm_cl9 (K := 27) h rfl) (mm_ct (mm_cl9 (K := 31) h rfl) (mm_ce (X := 31) (Nat.lt_of_lt_of_le (Nat.le_of_ble_eq_true rfl) h))))
theorem mm_ck12 : (List.range 32).all (mm_okP 12) = true := by decide +kernel
theorem mm_kk12 (pc : Nat) : mm_okP 12 pc = true := mm_okA mm_ck12 (fun h => mm_cb12 pc h)
theorem mm_cb13 (pc : Nat) (h : 74 ≤ pc) : mm_c13 pc = none := mm_ct (mm_cl9 (K := 36) h rfl) (mm_ct (mm_cl9 (K := 55) h rfl) (mm_ct (mm_cl9 (K := 66) h rfl) (mm_ct (mm_cl9 (K := 70) h rfl) (mm_ct (mm_cl9 (K := 73) h rfl) (mm_ce (X := 73) (Nat.lt_of_lt_of_le (Nat.le_of_ble_eq_true rfl) h))))))
theorem mm_ck13 : (List.range 74).all (mm_okP 13) = true := by decide +kernel
theorem mm_kk13 (pc : Nat) : mm_okP 13 pc = true := mm_okA mm_ck13 (fun h => mm_cb13 pc h)
theorem mm_cb14 (pc : Nat) (h : 86 ≤ pc) : mm_c14 pc = none := mm_ct (mm_cl9 (K := 61) h rfl) (mm_ct (mm_cl9 (K := 73) h rfl) (mm_ct (mm_cl9 (K := 81) h rfl) (mm_ct (mm_cl9 (K := 85) h rfl) (mm_ce (X := 85) (Nat.lt_of_lt_of_le (Nat.le_of_ble_eq_true rfl) h)))))
theorem mm_ck14 : (List.range 86).all (mm_okP 14) = true := by decide +kernel
theorem mm_kk14 (pc : Nat) : mm_okP 14 pc = true := mm_okA mm_ck14 (fun h => mm_cb14 pc h)
theorem mm_cb15 (pc : Nat) (h : 13 ≤ pc) : mm_c15 pc = none := mm_ct (mm_cl9 (K := 6) h rfl) (mm_ct (mm_cl9 (K := 12) h rfl) (mm_ce (X := 12) (Nat.lt_of_lt_of_le (Nat.le_of_ble_eq_true rfl) h)))
theorem mm_ck15 : (List.range 13).all (mm_okP 15) = true := by decide +kernel
theorem mm_kk15 (pc : Nat) : mm_okP 15 pc = true := mm_okA mm_ck15 (fun h => mm_cb15 pc h)
theorem mm_cb16 (pc : Nat) (h : 54 ≤ pc) : mm_c16 pc = none := mm_ct (mm_cl9 (K := 30) h rfl) (mm_ct (mm_cl9 (K := 43) h rfl) (mm_ct (mm_cl9 (K := 49) h rfl) (mm_ct (mm_cl9 (K := 53) h rfl) (mm_ce (X := 53) (Nat.lt_of_lt_of_le (Nat.le_of_ble_eq_true rfl) h)))))
theorem mm_ck16 : (List.range 54).all (mm_okP 16) = true := by decide +kernel
theorem mm_kk16 (pc : Nat) : mm_okP 16 pc = true := mm_okA mm_ck16 (fun h => mm_cb16 pc h)
theorem mm_cb17 (pc : Nat) (h : 34 ≤ pc) : mm_c17 pc = none := mm_ct (mm_cl9 (K := 17) h rfl) (mm_ct (mm_cl9 (K := 26) h rfl) (mm_ct (mm_cl9 (K := 32) h rfl) (mm_ct (mm_cl9 (K := 33) h rfl) (mm_ce (X := 33) (Nat.lt_of_lt_of_le (Nat.le_of_ble_eq_true rfl) h)))))
theorem mm_ck17 : (List.range 34).all (mm_okP 17) = true := by decide +kernel
theorem mm_kk17 (pc : Nat) : mm_okP 17 pc = true := mm_okA mm_ck17 (fun h => mm_cb17 pc h)
theorem mm_cb18 (pc : Nat) (h : 51 ≤ pc) : mm_c18 pc = none := mm_ct (mm_cl9 (K := 27) h rfl) (mm_ct (mm_cl9 (K := 39) h rfl) (mm_ct (mm_cl9 (K := 44) h rfl) (mm_ct (mm_cl9 (K := 50) h rfl) (mm_ce (X := 50) (Nat.lt_of_lt_of_le (Nat.le_of_ble_eq_true rfl) h)))))
theorem mm_ck18 : (List.range 51).all (mm_okP 18) = true := by decide +kernel
theorem mm_kk18 (pc : Nat) : mm_okP 18 pc = true := mm_okA mm_ck18 (fun h => mm_cb18 pc h)
theorem mm_cb19 (pc : Nat) (h : 86 ≤ pc) : mm_c19 pc = none := mm_ct (mm_cl9 (K := 60) h rfl) (mm_ct (mm_cl9 (K := 75) h rfl) (mm_ct (mm_cl9 (K := 81) h rfl) (mm_ct (mm_cl9 (K := 85) h rfl) (mm_ce (X := 85) (Nat.lt_of_lt_of_le (Nat.le_of_ble_eq_true rfl) h)))))
theorem mm_ck19 : (List.range 86).all (mm_okP 19) = true := by decide +kernel
theorem mm_kk19 (pc : Nat) : mm_okP 19 pc = true := mm_okA mm_ck19 (fun h => mm_cb19 pc h)
theorem mm_cb20 (pc : Nat) (h : 33 ≤ pc) : mm_c20 pc = none := mm_ct (mm_cl9 (K := 19) h rfl) (mm_ct (mm_cl9 (K := 27) h rfl) (mm_ct (mm_cl9 (K := 29) h rfl) (mm_ct (mm_cl9 (K := 32) h rfl) (mm_ce (X := 32) (Nat.lt_of_lt_of_le (Nat.le_of_ble_eq_true rfl) h)))))
theorem mm_ck20 : (List.range 33).all (mm_okP 20) = true := by decide +kernel
theorem mm_kk20 (pc : Nat) : mm_okP 20 pc = true := mm_okA mm_ck20 (fun h => mm_cb20 pc h)
theorem mm_cb21 (pc : Nat) (h : 84 ≤ pc) : mm_c21 pc = none := mm_ct (mm_cl9 (K := 43) h rfl) (mm_ct (mm_cl9 (K := 64) h rfl) (mm_ct (mm_cl9 (K := 73) h rfl) (mm_ct (mm_cl9 (K := 81) h rfl) (mm_ct (mm_cl9 (K := 83) h rfl) (mm_ce (X := 83) (Nat.lt_of_lt_of_le (Nat.le_of_ble_eq_true rfl) h))))))
theorem mm_ck21 : (List.range 84).all (mm_okP 21) = true := by decide +kernel
theorem mm_kk21 (pc : Nat) : mm_okP 21 pc = true := mm_okA mm_ck21 (fun h => mm_cb21 pc h)
theorem mm_cb22 (pc : Nat) (h : 165 ≤ pc) : mm_c22 pc = none := mm_ct (mm_cl9 (K := 88) h rfl) (mm_ct (mm_cl9 (K := 126) h rfl) (mm_ct (mm_cl9 (K := 146) h rfl) (mm_ct (mm_cl9 (K := 157) h rfl) (mm_ct (mm_cl9 (K := 161) h rfl) (mm_ct (mm_cl9 (K := 164) h rfl) (mm_ce (X := 164) (Nat.lt_of_lt_of_le (Nat.le_of_ble_eq_true rfl) h)))))))
theorem mm_ck22 : (List.range 165).all (mm_okP 22) = true := by decide +kernel
theorem mm_kk22 (pc : Nat) : mm_okP 22 pc = true := mm_okA mm_ck22 (fun h => mm_cb22 pc h)
theorem mm_cb23 (pc : Nat) (h : 29 ≤ pc) : mm_c23 pc = none := mm_ct (mm_cl9 (K := 16) h rfl) (mm_ct (mm_cl9 (K := 24) h rfl) (mm_ct (mm_cl9 (K := 28) h rfl) (mm_ce (X := 28) (Nat.lt_of_lt_of_le (Nat.le_of_ble_eq_true rfl) h))))
theorem mm_ck23 : (List.range 29).all (mm_okP 23) = true := by decide +kernel
theorem mm_kk23 (pc : Nat) : mm_okP 23 pc = true := mm_okA mm_ck23 (fun h => mm_cb23 pc h)
theorem mm_cb24 (pc : Nat) (h : 47 ≤ pc) : mm_c24 pc = none := mm_ct (mm_cl9 (K := 25) h rfl) (mm_ct (mm_cl9 (K := 38) h rfl) (mm_ct (mm_cl9 (K := 41) h rfl) (mm_ct (mm_cl9 (K := 46) h rfl) (mm_ce (X := 46) (Nat.lt_of_lt_of_le (Nat.le_of_ble_eq_true rfl) h)))))
theorem mm_ck24 : (List.range 47).all (mm_okP 24) = true := by decide +kernel
theorem mm_kk24 (pc : Nat) : mm_okP 24 pc = true := mm_okA mm_ck24 (fun h => mm_cb24 pc h)
theorem mm_cb25 (pc : Nat) (h : 27 ≤ pc) : mm_c25 pc = none := mm_ct (mm_cl9 (K := 14) h rfl) (mm_ct (mm_cl9 (K := 22) h rfl) (mm_ct (mm_cl9 (K := 26) h rfl) (mm_ce (X := 26) (Nat.lt_of_lt_of_le (Nat.le_of_ble_eq_true rfl) h))))
theorem mm_ck25 : (List.range 27).all (mm_okP 25) = true := by decide +kernel
theorem mm_kk25 (pc : Nat) : mm_okP 25 pc = true := mm_okA mm_ck25 (fun h => mm_cb25 pc h)
theorem mm_cb26 (pc : Nat) (h : 33 ≤ pc) : mm_c26 pc = none := mm_ct (mm_cl9 (K := 17) h rfl) (mm_ct (mm_cl9 (K := 27) h rfl) (mm_ct (mm_cl9 (K := 29) h rfl) (mm_ct (mm_cl9 (K := 32) h rfl) (mm_ce (X := 32) (Nat.lt_of_lt_of_le (Nat.le_of_ble_eq_true rfl) h)))))
theorem mm_ck26 : (List.range 33).all (mm_okP 26) = true := by decide +kernel
theorem mm_kk26 (pc : Nat) : mm_okP 26 pc = true := mm_okA mm_ck26 (fun h => mm_cb26 pc h)
theorem mm_cb27 (pc : Nat) (h : 40 ≤ pc) : mm_c27 pc = none := mm_ct (mm_cl9 (K := 19) h rfl) (mm_ct (mm_cl9 (K := 31) h rfl) (mm_ct (mm_cl9 (K := 36) h rfl) (mm_ct (mm_cl9 (K := 39) h rfl) (mm_ce (X := 39) (Nat.lt_of_lt_of_le (Nat.le_of_ble_eq_true rfl) h)))))
theorem mm_ck27 : (List.range 40).all (mm_okP 27) = true := by decide +kernel
theorem mm_kk27 (pc : Nat) : mm_okP 27 pc = true := mm_okA mm_ck27 (fun h => mm_cb27 pc h)
theorem mm_cb28 (pc : Nat) (h : 86 ≤ pc) : mm_c28 pc = none := mm_ct (mm_cl9 (K := 40) h rfl) (mm_ct (mm_cl9 (K := 68) h rfl) (mm_ct (mm_cl9 (K := 81) h rfl) (mm_ct (mm_cl9 (K := 84) h rfl) (mm_ct (mm_cl9 (K := 85) h rfl) (mm_ce (X := 85) (Nat.lt_of_lt_of_le (Nat.le_of_ble_eq_true rfl) h))))))
theorem mm_ck28 : (List.range 86).all (mm_okP 28) = true := by decide +kernel
theorem mm_kk28 (pc : Nat) : mm_okP 28 pc = true := mm_okA mm_ck28 (fun h => mm_cb28 pc h)
theorem mm_cb29 (pc : Nat) (h : 23 ≤ pc) : mm_c29 pc = none := mm_ct (mm_cl9 (K := 12) h rfl) (mm_ct (mm_cl9 (K := 19) h rfl) (mm_ct (mm_cl9 (K := 22) h rfl) (mm_ce (X := 22) (Nat.lt_of_lt_of_le (Nat.le_of_ble_eq_true rfl) h))))
theorem mm_ck29 : (List.range 23).all (mm_okP 29) = true := by decide +kernel
theorem mm_kk29 (pc : Nat) : mm_okP 29 pc = true := mm_okA mm_ck29 (fun h => mm_cb29 pc h)
theorem mm_cb30 (pc : Nat) (h : 51 ≤ pc) : mm_c30 pc = none := mm_ct (mm_cl9 (K := 28) h rfl) (mm_ct (mm_cl9 (K := 44) h rfl) (mm_ct (mm_cl9 (K := 49) h rfl) (mm_ct (mm_cl9 (K := 50) h rfl) (mm_ce (X := 50) (Nat.lt_of_lt_of_le (Nat.le_of_ble_eq_true rfl) h)))))
theorem mm_ck30 : (List.range 51).all (mm_okP 30) = true := by decide +kernel
theorem mm_kk30 (pc : Nat) : mm_okP 30 pc = true := mm_okA mm_ck30 (fun h => mm_cb30 pc h)
theorem mm_cb31 (pc : Nat) (h : 9 ≤ pc) : mm_c31 pc = none := mm_ct (mm_cl9 (K := 5) h rfl) (mm_ct (mm_cl9 (K := 8) h rfl) (mm_ce (X := 8) (Nat.lt_of_lt_of_le (Nat.le_of_ble_eq_true rfl) h)))
theorem mm_ck31 : (List.range 9).all (mm_okP 31) = true := by decide +kernel
theorem mm_kk31 (pc : Nat) : mm_okP 31 pc = true := mm_okA mm_ck31 (fun h => mm_cb31 pc h)
theorem mm_cb32 (pc : Nat) (h : 30 ≤ pc) : mm_c32 pc = none := mm_ct (mm_cl9 (K := 13) h rfl) (mm_ct (mm_cl9 (K := 25) h rfl) (mm_ct (mm_cl9 (K := 29) h rfl) (mm_ce (X := 29) (Nat.lt_of_lt_of_le (Nat.le_of_ble_eq_true rfl) h))))
theorem mm_ck32 : (List.range 30).all (mm_okP 32) = true := by decide +kernel
theorem mm_kk32 (pc : Nat) : mm_okP 32 pc = true := mm_okA mm_ck32 (fun h => mm_cb32 pc h)
theorem mm_cb33 (pc : Nat) (h : 77 ≤ pc) : mm_c33 pc = none := mm_ct (mm_cl9 (K := 39) h rfl) (mm_ct (mm_cl9 (K := 60) h rfl) (mm_ct (mm_cl9 (K := 70) h rfl) (mm_ct (mm_cl9 (K := 75) h rfl) (mm_ct (mm_cl9 (K := 76) h rfl) (mm_ce (X := 76) (Nat.lt_of_lt_of_le (Nat.le_of_ble_eq_true rfl) h))))))
theorem mm_ck33 : (List.range 77).all (mm_okP 33) = true := by decide +kernel
theorem mm_kk33 (pc : Nat) : mm_okP 33 pc = true := mm_okA mm_ck33 (fun h => mm_cb33 pc h)
theorem mm_cb34 (pc : Nat) (h : 54 ≤ pc) : mm_c34 pc = none := mm_ct (mm_cl9 (K := 31) h rfl) (mm_ct (mm_cl9 (K := 44) h rfl) (mm_ct (mm_cl9 (K := 51) h rfl) (mm_ct (mm_cl9 (K := 53) h rfl) (mm_ce (X := 53) (Nat.lt_of_lt_of_le (Nat.le_of_ble_eq_true rfl) h)))))
theorem mm_ck34 : (List.range 54).all (mm_okP 34) = true := by decide +kernel
theorem mm_kk34 (pc : Nat) : mm_okP 34 pc = true := mm_okA mm_ck34 (fun h => mm_cb34 pc h)
theorem mm_cb35 (pc : Nat) (h : 94 ≤ pc) : mm_c35 pc = none := mm_ct (mm_cl9 (K := 48) h rfl) (mm_ct (mm_cl9 (K := 73) h rfl) (mm_ct (mm_cl9 (K := 85) h rfl) (mm_ct (mm_cl9 (K := 92) h rfl) (mm_ct (mm_cl9 (K := 93) h rfl) (mm_ce (X := 93) (Nat.lt_of_lt_of_le (Nat.le_of_ble_eq_true rfl) h))))))
theorem mm_ck35 : (List.range 94).all (mm_okP 35) = true := by decide +kernel
theorem mm_kk35 (pc : Nat) : mm_okP 35 pc = true := mm_okA mm_ck35 (fun h => mm_cb35 pc h)
theorem mm_cb36 (pc : Nat) (h : 78 ≤ pc) : mm_c36 pc = none := mm_ct (mm_cl9 (K := 44) h rfl) (mm_ct (mm_cl9 (K := 63) h rfl) (mm_ct (mm_cl9 (K := 71) h rfl) (mm_ct (mm_cl9 (K := 76) h rfl) (mm_ct (mm_cl9 (K := 77) h rfl) (mm_ce (X := 77) (Nat.lt_of_lt_of_le (Nat.le_of_ble_eq_true rfl) h))))))
theorem mm_ck36 : (List.range 78).all (mm_okP 36) = true := by decide +kernel
theorem mm_kk36 (pc : Nat) : mm_okP 36 pc = true := mm_okA mm_ck36 (fun h => mm_cb36 pc h)
theorem mm_cb37 (pc : Nat) (h : 107 ≤ pc) : mm_c37 pc = none := mm_ct (mm_cl9 (K := 75) h rfl) (mm_ct (mm_cl9 (K := 91) h rfl) (mm_ct (mm_cl9 (K := 99) h rfl) (mm_ct (mm_cl9 (K := 103) h rfl) (mm_ct (mm_cl9 (K := 106) h rfl) (mm_ce (X := 106) (Nat.lt_of_lt_of_le (Nat.le_of_ble_eq_true rfl) h))))))
theorem mm_ck37 : (List.range 107).all (mm_okP 37) = true := by decide +kernel
theorem mm_kk37 (pc : Nat) : mm_okP 37 pc = true := mm_okA mm_ck37 (fun h => mm_cb37 pc h)
theorem mm_cb38 (pc : Nat) (h : 30 ≤ pc) : mm_c38 pc = none := mm_ct (mm_cl9 (K := 15) h rfl) (mm_ct (mm_cl9 (K := 27) h rfl) (mm_ct (mm_cl9 (K := 29) h rfl) (mm_ce (X := 29) (Nat.lt_of_lt_of_le (Nat.le_of_ble_eq_true rfl) h))))
theorem mm_ck38 : (List.range 30).all (mm_okP 38) = true := by decide +kernel
theorem mm_kk38 (pc : Nat) : mm_okP 38 pc = true := mm_okA mm_ck38 (fun h => mm_cb38 pc h)
theorem mm_cb39 (pc : Nat) (h : 30 ≤ pc) : mm_c39 pc = none := mm_ct (mm_cl9 (K := 15) h rfl) (mm_ct (mm_cl9 (K := 27) h rfl) (mm_ct (mm_cl9 (K := 29) h rfl) (mm_ce (X := 29) (Nat.lt_of_lt_of_le (Nat.le_of_ble_eq_true rfl) h))))
theorem mm_ck39 : (List.range 30).all (mm_okP 39) = true := by decide +kernel
theorem mm_kk39 (pc : Nat) : mm_okP 39 pc = true := mm_okA mm_ck39 (fun h => mm_cb39 pc h)
theorem mm_cb40 (pc : Nat) (h : 27 ≤ pc) : mm_c40 pc = none := mm_ct (mm_cl9 (K := 9) h rfl) (mm_ct (mm_cl9 (K := 18) h rfl) (mm_ct (mm_cl9 (K := 26) h rfl) (mm_ce (X := 26) (Nat.lt_of_lt_of_le (Nat.le_of_ble_eq_true rfl) h))))
theorem mm_ck40 : (List.range 27).all (mm_okP 40) = true := by decide +kernel
theorem mm_kk40 (pc : Nat) : mm_okP 40 pc = true := mm_okA mm_ck40 (fun h => mm_cb40 pc h)
theorem mm_cb41 (pc : Nat) (h : 24 ≤ pc) : mm_c41 pc = none := mm_ct (mm_cl9 (K := 9) h rfl) (mm_ct (mm_cl9 (K := 15) h rfl) (mm_ct (mm_cl9 (K := 23) h rfl) (mm_ce (X := 23) (Nat.lt_of_lt_of_le (Nat.le_of_ble_eq_true rfl) h))))
theorem mm_ck41 : (List.range 24).all (mm_okP 41) = true := by decide +kernel
theorem mm_kk41 (pc : Nat) : mm_okP 41 pc = true := mm_okA mm_ck41 (fun h => mm_cb41 pc h)
theorem mm_cb42 (pc : Nat) (h : 22 ≤ pc) : mm_c42 pc = none := mm_ct (mm_cl9 (K := 10) h rfl) (mm_ct (mm_cl9 (K := 21) h rfl) (mm_ce (X := 21) (Nat.lt_of_lt_of_le (Nat.le_of_ble_eq_true rfl) h)))
theorem mm_ck42 : (List.range 22).all (mm_okP 42) = true := by decide +kernel
theorem mm_kk42 (pc : Nat) : mm_okP 42 pc = true := mm_okA mm_ck42 (fun h => mm_cb42 pc h)
theorem mm_cb43 (pc : Nat) (h : 24 ≤ pc) : mm_c43 pc = none := mm_ct (mm_cl9 (K := 9) h rfl) (mm_ct (mm_cl9 (K := 15) h rfl) (mm_ct (mm_cl9 (K := 23) h rfl) (mm_ce (X := 23) (Nat.lt_of_lt_of_le (Nat.le_of_ble_eq_true rfl) h))))
theorem mm_ck43 : (List.range 24).all (mm_okP 43) = true := by decide +kernel
theorem mm_kk43 (pc : Nat) : mm_okP 43 pc = true := mm_okA mm_ck43 (fun h => mm_cb43 pc h)
theorem mm_cb44 (pc : Nat) (h : 22 ≤ pc) : mm_c44 pc = none := mm_ct (mm_cl9 (K := 7) h rfl) (mm_ct (mm_cl9 (K := 13) h rfl) (mm_ct (mm_cl9 (K := 21) h rfl) (mm_ce (X := 21) (Nat.lt_of_lt_of_le (Nat.le_of_ble_eq_true rfl) h))))
theorem mm_ck44 : (List.range 22).all (mm_okP 44) = true := by decide +kernel
theorem mm_kk44 (pc : Nat) : mm_okP 44 pc = true := mm_okA mm_ck44 (fun h => mm_cb44 pc h)
theorem mm_cb45 (pc : Nat) (h : 19 ≤ pc) : mm_c45 pc = none := mm_ct (mm_cl9 (K := 7) h rfl) (mm_ct (mm_cl9 (K := 18) h rfl) (mm_ce (X := 18) (Nat.lt_of_lt_of_le (Nat.le_of_ble_eq_true rfl) h)))
theorem mm_ck45 : (List.range 19).all (mm_okP 45) = true := by decide +kernel
theorem mm_kk45 (pc : Nat) : mm_okP 45 pc = true := mm_okA mm_ck45 (fun h => mm_cb45 pc h)
theorem mm_cb46 (pc : Nat) (h : 22 ≤ pc) : mm_c46 pc = none := mm_ct (mm_cl9 (K := 7) h rfl) (mm_ct (mm_cl9 (K := 13) h rfl) (mm_ct (mm_cl9 (K := 21) h rfl) (mm_ce (X := 21) (Nat.lt_of_lt_of_le (Nat.le_of_ble_eq_true rfl) h))))
theorem mm_ck46 : (List.range 22).all (mm_okP 46) = true := by decide +kernel
theorem mm_kk46 (pc : Nat) : mm_okP 46 pc = true := mm_okA mm_ck46 (fun h => mm_cb46 pc h)
theorem mm_cb47 (pc : Nat) (h : 21 ≤ pc) : mm_c47 pc = none := mm_ct (mm_cl9 (K := 6) h rfl) (mm_ct (mm_cl9 (K := 12) h rfl) (mm_ct (mm_cl9 (K := 20) h rfl) (mm_ce (X := 20) (Nat.lt_of_lt_of_le (Nat.le_of_ble_eq_true rfl) h))))
theorem mm_ck47 : (List.range 21).all (mm_okP 47) = true := by decide +kernel
theorem mm_kk47 (pc : Nat) : mm_okP 47 pc = true := mm_okA mm_ck47 (fun h => mm_cb47 pc h)
theorem mm_cb48 (pc : Nat) (h : 26 ≤ pc) : mm_c48 pc = none := mm_ct (mm_cl9 (K := 11) h rfl) (mm_ct (mm_cl9 (K := 17) h rfl) (mm_ct (mm_cl9 (K := 25) h rfl) (mm_ce (X := 25) (Nat.lt_of_lt_of_le (Nat.le_of_ble_eq_true rfl) h))))
theorem mm_ck48 : (List.range 26).all (mm_okP 48) = true := by decide +kernel
theorem mm_kk48 (pc : Nat) : mm_okP 48 pc = true := mm_okA mm_ck48 (fun h => mm_cb48 pc h)
theorem mm_cb49 (pc : Nat) (h : 23 ≤ pc) : mm_c49 pc = none := mm_ct (mm_cl9 (K := 8) h rfl) (mm_ct (mm_cl9 (K := 14) h rfl) (mm_ct (mm_cl9 (K := 22) h rfl) (mm_ce (X := 22) (Nat.lt_of_lt_of_le (Nat.le_of_ble_eq_true rfl) h))))
theorem mm_ck49 : (List.range 23).all (mm_okP 49) = true := by decide +kernel
theorem mm_kk49 (pc : Nat) : mm_okP 49 pc = true := mm_okA mm_ck49 (fun h => mm_cb49 pc h)
theorem mm_cb50 (pc : Nat) (h : 28 ≤ pc) : mm_c50 pc = none := mm_ct (mm_cl9 (K := 12) h rfl) (mm_ct (mm_cl9 (K := 19) h rfl) (mm_ct (mm_cl9 (K := 27) h rfl) (mm_ce (X := 27) (Nat.lt_of_lt_of_le (Nat.le_of_ble_eq_true rfl) h))))
theorem mm_ck50 : (List.range 28).all (mm_okP 50) = true := by decide +kernel
theorem mm_kk50 (pc : Nat) : mm_okP 50 pc = true := mm_okA mm_ck50 (fun h => mm_cb50 pc h)
theorem mm_cb51 (pc : Nat) (h : 17 ≤ pc) : mm_c51 pc = none := mm_ct (mm_cl9 (K := 11) h rfl) (mm_ct (mm_cl9 (K := 15) h rfl) (mm_ct (mm_cl9 (K := 16) h rfl) (mm_ce (X := 16) (Nat.lt_of_lt_of_le (Nat.le_of_ble_eq_true rfl) h))))
theorem mm_ck51 : (List.range 17).all (mm_okP 51) = true := by decide +kernel
theorem mm_kk51 (pc : Nat) : mm_okP 51 pc = true := mm_okA mm_ck51 (fun h => mm_cb51 pc h)
theorem mm_cb52 (pc : Nat) (h : 15 ≤ pc) : mm_c52 pc = none := mm_ct (mm_cl9 (K := 7) h rfl) (mm_ct (mm_cl9 (K := 11) h rfl) (mm_ct (mm_cl9 (K := 14) h rfl) (mm_ce (X := 14) (Nat.lt_of_lt_of_le (Nat.le_of_ble_eq_true rfl) h))))
theorem mm_ck52 : (List.range 15).all (mm_okP 52) = true := by decide +kernel
theorem mm_kk52 (pc : Nat) : mm_okP 52 pc = true := mm_okA mm_ck52 (fun h => mm_cb52 pc h)
theorem mm_cb53 (pc : Nat) (h : 27 ≤ pc) : mm_c53 pc = none := mm_ct (mm_cl9 (K := 16) h rfl) (mm_ct (mm_cl9 (K := 22) h rfl) (mm_ct (mm_cl9 (K := 26) h rfl) (mm_ce (X := 26) (Nat.lt_of_lt_of_le (Nat.le_of_ble_eq_true rfl) h))))
theorem mm_ck53 : (List.range 27).all (mm_okP 53) = true := by decide +kernel
theorem mm_kk53 (pc : Nat) : mm_okP 53 pc = true := mm_okA mm_ck53 (fun h => mm_cb53 pc h)
theorem mm_cb54 (pc : Nat) (h : 12 ≤ pc) : mm_c54 pc = none := mm_ct (mm_cl9 (K := 8) h rfl) (mm_ct (mm_cl9 (K := 10) h rfl) (mm_ct (mm_cl9 (K := 11) h rfl) (mm_ce (X := 11) (Nat.lt_of_lt_of_le (Nat.le_of_ble_eq_true rfl) h))))
theorem mm_ck54 : (List.range 12).all (mm_okP 54) = true := by decide +kernel
theorem mm_kk54 (pc : Nat) : mm_okP 54 pc = true := mm_okA mm_ck54 (fun h => mm_cb54 pc h)
theorem mm_cb55 (pc : Nat) (h : 18 ≤ pc) : mm_c55 pc = none := mm_ct (mm_cl9 (K := 11) h rfl) (mm_ct (mm_cl9 (K := 15) h rfl) (mm_ct (mm_cl9 (K := 17) h rfl) (mm_ce (X := 17) (Nat.lt_of_lt_of_le (Nat.le_of_ble_eq_true rfl) h))))
theorem mm_ck55 : (List.range 18).all (mm_okP 55) = true := by decide +kernel
theorem mm_kk55 (pc : Nat) : mm_okP 55 pc = true := mm_okA mm_ck55 (fun h => mm_cb55 pc h)
theorem mm_cb56 (pc : Nat) (h : 49 ≤ pc) : mm_c56 pc = none := mm_ct (mm_cl9 (K := 27) h rfl) (mm_ct (mm_cl9 (K := 34) h rfl) (mm_ct (mm_cl9 (K := 42) h rfl) (mm_ct (mm_cl9 (K := 48) h rfl) (mm_ce (X := 48) (Nat.lt_of_lt_of_le (Nat.le_of_ble_eq_true rfl) h)))))
theorem mm_ck56 : (List.range 49).all (mm_okP 56) = true := by decide +kernel
theorem mm_kk56 (pc : Nat) : mm_okP 56 pc = true := mm_okA mm_ck56 (fun h => mm_cb56 pc h)
theorem mm_cb57 (pc : Nat) (h : 93 ≤ pc) : mm_c57 pc = none := mm_ct (mm_cl9 (K := 48) h rfl) (mm_ct (mm_cl9 (K := 70) h rfl) (mm_ct (mm_cl9 (K := 83) h rfl) (mm_ct (mm_cl9 (K := 88) h rfl) (mm_ct (mm_cl9 (K := 92) h rfl) (mm_ce (X := 92) (Nat.lt_of_lt_of_le (Nat.le_of_ble_eq_true rfl) h))))))
theorem mm_ck57 : (List.range 93).all (mm_okP 57) = true := by decide +kernel
theorem mm_kk57 (pc : Nat) : mm_okP 57 pc = true := mm_okA mm_ck57 (fun h => mm_cb57 pc h)
theorem mm_cb58 (pc : Nat) (h : 138 ≤ pc) : mm_c58 pc = none := mm_ct (mm_cl9 (K := 69) h rfl) (mm_ct (mm_cl9 (K := 106) h rfl) (mm_ct (mm_cl9 (K := 124) h rfl) (mm_ct (mm_cl9 (K := 131) h rfl) (mm_ct (mm_cl9 (K := 136) h rfl) (mm_ct (mm_cl9 (K := 137) h rfl) (mm_ce (X := 137) (Nat.lt_of_lt_of_le (Nat.le_of_ble_eq_true rfl) h)))))))
theorem mm_ck58 : (List.range 138).all (mm_okP 58) = true := by decide +kernel
theorem mm_kk58 (pc : Nat) : mm_okP 58 pc = true := mm_okA mm_ck58 (fun h => mm_cb58 pc h)
theorem mm_cb59 (pc : Nat) (h : 53 ≤ pc) : mm_c59 pc = none := mm_ct (mm_cl9 (K := 30) h rfl) (mm_ct (mm_cl9 (K := 42) h rfl) (mm_ct (mm_cl9 (K := 48) h rfl) (mm_ct (mm_cl9 (K := 52) h rfl) (mm_ce (X := 52) (Nat.lt_of_lt_of_le (Nat.le_of_ble_eq_true rfl) h)))))
theorem mm_ck59 : (List.range 53).all (mm_okP 59) = true := by decide +kernel
theorem mm_kk59 (pc : Nat) : mm_okP 59 pc = true := mm_okA mm_ck59 (fun h => mm_cb59 pc h)
theorem mm_cb60 (pc : Nat) (h : 50 ≤ pc) : mm_c60 pc = none := mm_ct (mm_cl9 (K := 24) h rfl) (mm_ct (mm_cl9 (K := 37) h rfl) (mm_ct (mm_cl9 (K := 45) h rfl) (mm_ct (mm_cl9 (K := 49) h rfl) (mm_ce (X := 49) (Nat.lt_of_lt_of_le (Nat.le_of_ble_eq_true rfl) h)))))
theorem mm_ck60 : (List.range 50).all (mm_okP 60) = true := by decide +kernel
theorem mm_kk60 (pc : Nat) : mm_okP 60 pc = true := mm_okA mm_ck60 (fun h => mm_cb60 pc h)
theorem mm_cb61 (pc : Nat) (h : 45 ≤ pc) : mm_c61 pc = none := mm_ct (mm_cl9 (K := 22) h rfl) (mm_ct (mm_cl9 (K := 33) h rfl) (mm_ct (mm_cl9 (K := 40) h rfl) (mm_ct (mm_cl9 (K := 44) h rfl) (mm_ce (X := 44) (Nat.lt_of_lt_of_le (Nat.le_of_ble_eq_true rfl) h)))))
theorem mm_ck61 : (List.range 45).all (mm_okP 61) = true := by decide +kernel
theorem mm_kk61 (pc : Nat) : mm_okP 61 pc = true := mm_okA mm_ck61 (fun h => mm_cb61 pc h)
theorem mm_cb62 (pc : Nat) (h : 197 ≤ pc) : mm_c62 pc = none := mm_ct (mm_cl9 (K := 98) h rfl) (mm_ct (mm_cl9 (K := 150) h rfl) (mm_ct (mm_cl9 (K := 173) h rfl) (mm_ct (mm_cl9 (K := 185) h rfl) (mm_ct (mm_cl9 (K := 194) h rfl) (mm_ct (mm_cl9 (K := 196) h rfl) (mm_ce (X := 196) (Nat.lt_of_lt_of_le (Nat.le_of_ble_eq_true rfl) h)))))))
theorem mm_ck62 : (List.range 197).all (mm_okP 62) = true := by decide +kernel
theorem mm_kk62 (pc : Nat) : mm_okP 62 pc = true := mm_okA mm_ck62 (fun h => mm_cb62 pc h)
theorem mm_cb63 (pc : Nat) (h : 49 ≤ pc) : mm_c63 pc = none := mm_ct (mm_cl9 (K := 25) h rfl) (mm_ct (mm_cl9 (K := 36) h rfl) (mm_ct (mm_cl9 (K := 44) h rfl) (mm_ct (mm_cl9 (K := 48) h rfl) (mm_ce (X := 48) (Nat.lt_of_lt_of_le (Nat.le_of_ble_eq_true rfl) h)))))
theorem mm_ck63 : (List.range 49).all (mm_okP 63) = true := by decide +kernel
theorem mm_kk63 (pc : Nat) : mm_okP 63 pc = true := mm_okA mm_ck63 (fun h => mm_cb63 pc h)
theorem mm_cb64 (pc : Nat) (h : 30 ≤ pc) : mm_c64 pc = none := mm_ct (mm_cl9 (K := 16) h rfl) (mm_ct (mm_cl9 (K := 24) h rfl) (mm_ct (mm_cl9 (K := 28) h rfl) (mm_ct (mm_cl9 (K := 29) h rfl) (mm_ce (X := 29) (Nat.lt_of_lt_of_le (Nat.le_of_ble_eq_true rfl) h)))))
theorem mm_ck64 : (List.range 30).all (mm_okP 64) = true := by decide +kernel
theorem mm_kk64 (pc : Nat) : mm_okP 64 pc = true := mm_okA mm_ck64 (fun h => mm_cb64 pc h)
theorem mm_cb65 (pc : Nat) (h : 31 ≤ pc) : mm_c65 pc = none := mm_ct (mm_cl9 (K := 17) h rfl) (mm_ct (mm_cl9 (K := 25) h rfl) (mm_ct (mm_cl9 (K := 29) h rfl) (mm_ct (mm_cl9 (K := 30) h rfl) (mm_ce (X := 30) (Nat.lt_of_lt_of_le (Nat.le_of_ble_eq_true rfl) h)))))
theorem mm_ck65 : (List.range 31).all (mm_okP 65) = true := by decide +kernel
theorem mm_kk65 (pc : Nat) : mm_okP 65 pc = true := mm_okA mm_ck65 (fun h => mm_cb65 pc h)
theorem mm_cb66 (pc : Nat) (h : 18 ≤ pc) : mm_c66 pc = none := mm_ct (mm_cl9 (K := 9) h rfl) (mm_ct (mm_cl9 (K := 14) h rfl) (mm_ct (mm_cl9 (K := 17) h rfl) (mm_ce (X := 17) (Nat.lt_of_lt_of_le (Nat.le_of_ble_eq_true rfl) h))))
theorem mm_ck66 : (List.range 18).all (mm_okP 66) = true := by decide +kernel
theorem mm_kk66 (pc : Nat) : mm_okP 66 pc = true := mm_okA mm_ck66 (fun h => mm_cb66 pc h)
theorem mm_cb67 (pc : Nat) (h : 20 ≤ pc) : mm_c67 pc = none := mm_ct (mm_cl9 (K := 10) h rfl) (mm_ct (mm_cl9 (K := 15) h rfl) (mm_ct (mm_cl9 (K := 19) h rfl) (mm_ce (X := 19) (Nat.lt_of_lt_of_le (Nat.le_of_ble_eq_true rfl) h))))
theorem mm_ck67 : (List.range 20).all (mm_okP 67) = true := by decide +kernel
theorem mm_kk67 (pc : Nat) : mm_okP 67 pc = true := mm_okA mm_ck67 (fun h => mm_cb67 pc h)
theorem mm_cb68 (pc : Nat) (h : 18 ≤ pc) : mm_c68 pc = none := mm_ct (mm_cl9 (K := 9) h rfl) (mm_ct (mm_cl9 (K := 16) h rfl) (mm_ct (mm_cl9 (K := 17) h rfl) (mm_ce (X := 17) (Nat.lt_of_lt_of_le (Nat.le_of_ble_eq_true rfl) h))))
theorem mm_ck68 : (List.range 18).all (mm_okP 68) = true := by decide +kernel
theorem mm_kk68 (pc : Nat) : mm_okP 68 pc = true := mm_okA mm_ck68 (fun h => mm_cb68 pc h)
theorem mm_cb69 (pc : Nat) (h : 18 ≤ pc) : mm_c69 pc = none := mm_ct (mm_cl9 (K := 9) h rfl) (mm_ct (mm_cl9 (K := 16) h rfl) (mm_ct (mm_cl9 (K := 17) h rfl) (mm_ce (X := 17) (Nat.lt_of_lt_of_le (Nat.le_of_ble_eq_true rfl) h))))
theorem mm_ck69 : (List.range 18).all (mm_okP 69) = true := by decide +kernel
theorem mm_kk69 (pc : Nat) : mm_okP 69 pc = true := mm_okA mm_ck69 (fun h => mm_cb69 pc h)
theorem mm_cb70 (pc : Nat) (h : 18 ≤ pc) : mm_c70 pc = none := mm_ct (mm_cl9 (K := 9) h rfl) (mm_ct (mm_cl9 (K := 16) h rfl) (mm_ct (mm_cl9 (K := 17) h rfl) (mm_ce (X := 17) (Nat.lt_of_lt_of_le (Nat.le_of_ble_eq_true rfl) h))))
theorem mm_ck70 : (List.range 18).all (mm_okP 70) = true := by decide +kernel
theorem mm_kk70 (pc : Nat) : mm_okP 70 pc = true := mm_okA mm_ck70 (fun h => mm_cb70 pc h)
theorem mm_cb71 (pc : Nat) (h : 18 ≤ pc) : mm_c71 pc = none := mm_ct (mm_cl9 (K := 9) h rfl) (mm_ct (mm_cl9 (K := 16) h rfl) (mm_ct (mm_cl9 (K := 17) h rfl) (mm_ce (X := 17) (Nat.lt_of_lt_of_le (Nat.le_of_ble_eq_true rfl) h))))
theorem mm_ck71 : (List.range 18).all (mm_okP 71) = true := by decide +kernel
theorem mm_kk71 (pc : Nat) : mm_okP 71 pc = true := mm_okA mm_ck71 (fun h => mm_cb71 pc h)
theorem mm_cb72 (pc : Nat) (h : 60 ≤ pc) : mm_c72 pc = none := mm_ct (mm_cl9 (K := 31) h rfl) (mm_ct (mm_cl9 (K := 48) h rfl) (mm_ct (mm_cl9 (K := 55) h rfl) (mm_ct (mm_cl9 (K := 59) h rfl) (mm_ce (X := 59) (Nat.lt_of_lt_of_le (Nat.le_of_ble_eq_true rfl) h)))))
theorem mm_ck72 : (List.range 60).all (mm_okP 72) = true := by decide +kernel
theorem mm_kk72 (pc : Nat) : mm_okP 72 pc = true := mm_okA mm_ck72 (fun h => mm_cb72 pc h)
theorem mm_cb73 (pc : Nat) (h : 49 ≤ pc) : mm_c73 pc = none := mm_ct (mm_cl9 (K := 23) h rfl) (mm_ct (mm_cl9 (K := 36) h rfl) (mm_ct (mm_cl9 (K := 44) h rfl) (mm_ct (mm_cl9 (K := 48) h rfl) (mm_ce (X := 48) (Nat.lt_of_lt_of_le (Nat.le_of_ble_eq_true rfl) h)))))
theorem mm_ck73 : (List.range 49).all (mm_okP 73) = true := by decide +kernel
theorem mm_kk73 (pc : Nat) : mm_okP 73 pc = true := mm_okA mm_ck73 (fun h => mm_cb73 pc h)
theorem mm_cb74 (pc : Nat) (h : 81 ≤ pc) : mm_c74 pc = none := mm_ct (mm_cl9 (K := 42) h rfl) (mm_ct (mm_cl9 (K := 65) h rfl) (mm_ct (mm_cl9 (K := 74) h rfl) (mm_ct (mm_cl9 (K := 79) h rfl) (mm_ct (mm_cl9 (K := 80) h rfl) (mm_ce (X := 80) (Nat.lt_of_lt_of_le (Nat.le_of_ble_eq_true rfl) h))))))
theorem mm_ck74 : (List.range 81).all (mm_okP 74) = true := by decide +kernel
theorem mm_kk74 (pc : Nat) : mm_okP 74 pc = true := mm_okA mm_ck74 (fun h => mm_cb74 pc h)
theorem mm_cb75 (pc : Nat) (h : 34 ≤ pc) : mm_c75 pc = none := mm_ct (mm_cl9 (K := 21) h rfl) (mm_ct (mm_cl9 (K := 28) h rfl) (mm_ct (mm_cl9 (K := 30) h rfl) (mm_ct (mm_cl9 (K := 33) h rfl) (mm_ce (X := 33) (Nat.lt_of_lt_of_le (Nat.le_of_ble_eq_true rfl) h)))))
theorem mm_ck75 : (List.range 34).all (mm_okP 75) = true := by decide +kernel
theorem mm_kk75 (pc : Nat) : mm_okP 75 pc = true := mm_okA mm_ck75 (fun h => mm_cb75 pc h)
theorem mm_cb76 (pc : Nat) (h : 124 ≤ pc) : mm_c76 pc = none := mm_ct (mm_cl9 (K := 57) h rfl) (mm_ct (mm_cl9 (K := 90) h rfl) (mm_ct (mm_cl9 (K := 108) h rfl) (mm_ct (mm_cl9 (K := 115) h rfl) (mm_ct (mm_cl9 (K := 121) h rfl) (mm_ct (mm_cl9 (K := 123) h rfl) (mm_ce (X := 123) (Nat.lt_of_lt_of_le (Nat.le_of_ble_eq_true rfl) h)))))))
theorem mm_ck76 : (List.range 124).all (mm_okP 76) = true := by decide +kernel
theorem mm_kk76 (pc : Nat) : mm_okP 76 pc = true := mm_okA mm_ck76 (fun h => mm_cb76 pc h)
theorem mm_cb77 (pc : Nat) (h : 86 ≤ pc) : mm_c77 pc = none := mm_ct (mm_cl9 (K := 45) h rfl) (mm_ct (mm_cl9 (K := 64) h rfl) (mm_ct (mm_cl9 (K := 75) h rfl) (mm_ct (mm_cl9 (K := 83) h rfl) (mm_ct (mm_cl9 (K := 85) h rfl) (mm_ce (X := 85) (Nat.lt_of_lt_of_le (Nat.le_of_ble_eq_true rfl) h))))))
theorem mm_ck77 : (List.range 86).all (mm_okP 77) = true := by decide +kernel
theorem mm_kk77 (pc : Nat) : mm_okP 77 pc = true := mm_okA mm_ck77 (fun h => mm_cb77 pc h)
theorem mm_cb78 (pc : Nat) (h : 111 ≤ pc) : mm_c78 pc = none := mm_ct (mm_cl9 (K := 54) h rfl) (mm_ct (mm_cl9 (K := 87) h rfl) (mm_ct (mm_cl9 (K := 98) h rfl) (mm_ct (mm_cl9 (K := 106) h rfl) (mm_ct (mm_cl9 (K := 110) h rfl) (mm_ce (X := 110) (Nat.lt_of_lt_of_le (Nat.le_of_ble_eq_true rfl) h))))))
theorem mm_ck78 : (List.range 111).all (mm_okP 78) = true := by decide +kernel
theorem mm_kk78 (pc : Nat) : mm_okP 78 pc = true := mm_okA mm_ck78 (fun h => mm_cb78 pc h)
theorem mm_cb79 (pc : Nat) (h : 46 ≤ pc) : mm_c79 pc = none := mm_ct (mm_cl9 (K := 24) h rfl) (mm_ct (mm_cl9 (K := 35) h rfl) (mm_ct (mm_cl9 (K := 41) h rfl) (mm_ct (mm_cl9 (K := 45) h rfl) (mm_ce (X := 45) (Nat.lt_of_lt_of_le (Nat.le_of_ble_eq_true rfl) h)))))
theorem mm_ck79 : (List.range 46).all (mm_okP 79) = true := by decide +kernel
theorem mm_kk79 (pc : Nat) : mm_okP 79 pc = true := mm_okA mm_ck79 (fun h => mm_cb79 pc h)
theorem mm_cb80 (pc : Nat) (h : 128 ≤ pc) : mm_c80 pc = none := mm_ct (mm_cl9 (K := 65) h rfl) (mm_ct (mm_cl9 (K := 95) h rfl) (mm_ct (mm_cl9 (K := 110) h rfl) (mm_ct (mm_cl9 (K := 119) h rfl) (mm_ct (mm_cl9 (K := 124) h rfl) (mm_ct (mm_cl9 (K := 127) h rfl) (mm_ce (X := 127) (Nat.lt_of_lt_of_le (Nat.le_of_ble_eq_true rfl) h)))))))
theorem mm_ck80 : (List.range 128).all (mm_okP 80) = true := by decide +kernel
theorem mm_kk80 (pc : Nat) : mm_okP 80 pc = true := mm_okA mm_ck80 (fun h => mm_cb80 pc h)
