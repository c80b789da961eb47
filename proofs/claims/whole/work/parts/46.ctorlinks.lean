/-! what the constructors rest on: words of the tables, by their places (by program: wip/gen/gen_cc.py) -/
def cc_FLs (o : Nat) : List (Nat × Nat × Nat) := match o with
  | 0 => [(11, 0, 0), (15, 0, 1), (18, 0, 2), (21, 0, 3), (24, 0, 4), (27, 0, 5), (30, 0, 6), (33, 0, 7), (36, 0, 8)]
  | 1 => [(9, 1, 0), (15, 1, 1), (19, 1, 2), (22, 1, 3), (29, 1, 4), (33, 1, 5), (36, 1, 6), (39, 1, 7), (42, 1, 8), (45, 1, 9), (48, 1, 10)]
  | 2 => [(11, 2, 0), (17, 2, 1), (20, 2, 2), (23, 2, 3), (26, 2, 4)]
  | 3 => [(9, 3, 0), (15, 3, 1), (18, 3, 2), (22, 3, 3), (25, 3, 4), (28, 3, 5), (31, 3, 6)]
  | 4 => [(11, 4, 0), (15, 4, 1), (18, 4, 2), (21, 4, 3), (24, 4, 4), (27, 4, 5), (31, 4, 6), (34, 4, 7), (37, 4, 8), (43, 4, 9), (47, 4, 10), (50, 4, 11), (53, 4, 12), (56, 4, 13), (59, 4, 14), (62, 4, 15), (65, 4, 16), (68, 4, 17), (71, 4, 18)]
  | 5 => [(11, 5, 0), (15, 5, 1), (18, 5, 2), (21, 5, 3), (25, 5, 4), (28, 5, 5)]
  | 6 => [(9, 6, 0), (15, 6, 1), (18, 6, 2), (22, 6, 3), (28, 6, 4)]
  | 7 => [(11, 7, 0), (15, 7, 1), (19, 7, 2)]
  | 8 => [(9, 8, 0), (15, 8, 1), (18, 8, 2), (21, 8, 3), (24, 8, 4), (28, 8, 5)]
  | 9 => [(9, 9, 0), (15, 9, 1), (19, 9, 2), (23, 9, 3), (26, 9, 4), (29, 9, 5), (32, 9, 6), (35, 9, 7), (38, 9, 8), (41, 9, 9), (44, 9, 10)]
  | 10 => [(9, 10, 0), (15, 10, 1), (19, 10, 2), (22, 10, 3)]
  | 11 => [(10, 11, 0), (18, 11, 1), (22, 11, 2), (29, 11, 3), (33, 11, 4), (36, 11, 5), (39, 11, 6), (45, 11, 7), (52, 11, 8), (56, 11, 9), (62, 11, 10), (69, 11, 11), (76, 11, 12), (83, 11, 13), (89, 11, 14), (93, 11, 15)]
  | 12 => [(19, 12, 0), (33, 12, 1), (38, 12, 2), (41, 12, 7), (45, 12, 8), (48, 12, 9), (51, 12, 10), (54, 12, 11), (57, 12, 12), (59, 12, 13), (62, 12, 14), (65, 12, 15), (68, 12, 16), (71, 12, 17), (74, 12, 18), (77, 12, 19), (80, 12, 20), (83, 12, 31), (87, 12, 33), (90, 12, 34), (93, 12, 35), (96, 12, 36), (99, 12, 37), (102, 12, 38), (106, 12, 39), (109, 12, 40), (112, 12, 41), (115, 12, 42), (118, 12, 43), (121, 12, 47), (124, 12, 48), (127, 12, 49), (130, 12, 50), (133, 12, 51), (136, 12, 52), (139, 12, 53), (142, 12, 54), (145, 12, 55), (148, 12, 56), (151, 12, 59), (154, 12, 60), (157, 12, 61), (160, 12, 67), (163, 12, 68), (166, 12, 69), (169, 12, 70), (172, 12, 71), (175, 12, 73), (178, 12, 74), (181, 12, 75), (184, 12, 76), (187, 12, 81), (190, 12, 82), (193, 12, 83), (196, 12, 84), (199, 12, 85), (202, 12, 86), (205, 12, 87), (208, 12, 88), (211, 12, 89), (214, 12, 90), (217, 12, 91), (220, 12, 92), (223, 12, 93), (226, 12, 95), (229, 12, 96), (232, 12, 97), (234, 12, 98), (237, 12, 100), (240, 12, 101), (243, 12, 102), (246, 12, 103)]
  | _ => []
def cc_flk (o idx ci y : Nat) : Prop := ∃ (C : String) (T : u_T) (N : Nat), vwCl[ci]? = some (C, T, N) ∧ y < N ∧ (T y).1 = C ∧ Cond.fieldLink (cc_rn o) idx C (T y).2.1 (T y).2.2.1 ∈ lw_tbl
theorem cc_f0_11 : cc_flk 0 11 0 0 := ⟨RX0, TX0, 9, rfl, Nat.le_of_ble_eq_true rfl, rfl, List.mem_of_getElem? (i := 268) (by decide +kernel)⟩
theorem cc_f0_15 : cc_flk 0 15 0 1 := ⟨RX0, TX0, 9, rfl, Nat.le_of_ble_eq_true rfl, rfl, List.mem_of_getElem? (i := 269) (by decide +kernel)⟩
theorem cc_f0_18 : cc_flk 0 18 0 2 := ⟨RX0, TX0, 9, rfl, Nat.le_of_ble_eq_true rfl, rfl, List.mem_of_getElem? (i := 270) (by decide +kernel)⟩
theorem cc_f0_21 : cc_flk 0 21 0 3 := ⟨RX0, TX0, 9, rfl, Nat.le_of_ble_eq_true rfl, rfl, List.mem_of_getElem? (i := 271) (by decide +kernel)⟩
theorem cc_f0_24 : cc_flk 0 24 0 4 := ⟨RX0, TX0, 9, rfl, Nat.le_of_ble_eq_true rfl, rfl, List.mem_of_getElem? (i := 272) (by decide +kernel)⟩
theorem cc_f0_27 : cc_flk 0 27 0 5 := ⟨RX0, TX0, 9, rfl, Nat.le_of_ble_eq_true rfl, rfl, List.mem_of_getElem? (i := 273) (by decide +kernel)⟩
theorem cc_f0_30 : cc_flk 0 30 0 6 := ⟨RX0, TX0, 9, rfl, Nat.le_of_ble_eq_true rfl, rfl, List.mem_of_getElem? (i := 274) (by decide +kernel)⟩
theorem cc_f0_33 : cc_flk 0 33 0 7 := ⟨RX0, TX0, 9, rfl, Nat.le_of_ble_eq_true rfl, rfl, List.mem_of_getElem? (i := 275) (by decide +kernel)⟩
theorem cc_f0_36 : cc_flk 0 36 0 8 := ⟨RX0, TX0, 9, rfl, Nat.le_of_ble_eq_true rfl, rfl, List.mem_of_getElem? (i := 276) (by decide +kernel)⟩
theorem cc_f1_9 : cc_flk 1 9 1 0 := ⟨RX1, TX1, 11, rfl, Nat.le_of_ble_eq_true rfl, rfl, List.mem_of_getElem? (i := 405) (by decide +kernel)⟩
theorem cc_f1_15 : cc_flk 1 15 1 1 := ⟨RX1, TX1, 11, rfl, Nat.le_of_ble_eq_true rfl, rfl, List.mem_of_getElem? (i := 407) (by decide +kernel)⟩
theorem cc_f1_19 : cc_flk 1 19 1 2 := ⟨RX1, TX1, 11, rfl, Nat.le_of_ble_eq_true rfl, rfl, List.mem_of_getElem? (i := 408) (by decide +kernel)⟩
theorem cc_f1_22 : cc_flk 1 22 1 3 := ⟨RX1, TX1, 11, rfl, Nat.le_of_ble_eq_true rfl, rfl, List.mem_of_getElem? (i := 409) (by decide +kernel)⟩
theorem cc_f1_29 : cc_flk 1 29 1 4 := ⟨RX1, TX1, 11, rfl, Nat.le_of_ble_eq_true rfl, rfl, List.mem_of_getElem? (i := 411) (by decide +kernel)⟩
theorem cc_f1_33 : cc_flk 1 33 1 5 := ⟨RX1, TX1, 11, rfl, Nat.le_of_ble_eq_true rfl, rfl, List.mem_of_getElem? (i := 412) (by decide +kernel)⟩
theorem cc_f1_36 : cc_flk 1 36 1 6 := ⟨RX1, TX1, 11, rfl, Nat.le_of_ble_eq_true rfl, rfl, List.mem_of_getElem? (i := 413) (by decide +kernel)⟩
theorem cc_f1_39 : cc_flk 1 39 1 7 := ⟨RX1, TX1, 11, rfl, Nat.le_of_ble_eq_true rfl, rfl, List.mem_of_getElem? (i := 414) (by decide +kernel)⟩
theorem cc_f1_42 : cc_flk 1 42 1 8 := ⟨RX1, TX1, 11, rfl, Nat.le_of_ble_eq_true rfl, rfl, List.mem_of_getElem? (i := 416) (by decide +kernel)⟩
theorem cc_f1_45 : cc_flk 1 45 1 9 := ⟨RX1, TX1, 11, rfl, Nat.le_of_ble_eq_true rfl, rfl, List.mem_of_getElem? (i := 418) (by decide +kernel)⟩
theorem cc_f1_48 : cc_flk 1 48 1 10 := ⟨RX1, TX1, 11, rfl, Nat.le_of_ble_eq_true rfl, rfl, List.mem_of_getElem? (i := 420) (by decide +kernel)⟩
theorem cc_f2_11 : cc_flk 2 11 2 0 := ⟨RX2, TX2, 5, rfl, Nat.le_of_ble_eq_true rfl, rfl, List.mem_of_getElem? (i := 453) (by decide +kernel)⟩
theorem cc_f2_17 : cc_flk 2 17 2 1 := ⟨RX2, TX2, 5, rfl, Nat.le_of_ble_eq_true rfl, rfl, List.mem_of_getElem? (i := 454) (by decide +kernel)⟩
theorem cc_f2_20 : cc_flk 2 20 2 2 := ⟨RX2, TX2, 5, rfl, Nat.le_of_ble_eq_true rfl, rfl, List.mem_of_getElem? (i := 455) (by decide +kernel)⟩
theorem cc_f2_23 : cc_flk 2 23 2 3 := ⟨RX2, TX2, 5, rfl, Nat.le_of_ble_eq_true rfl, rfl, List.mem_of_getElem? (i := 456) (by decide +kernel)⟩
theorem cc_f2_26 : cc_flk 2 26 2 4 := ⟨RX2, TX2, 5, rfl, Nat.le_of_ble_eq_true rfl, rfl, List.mem_of_getElem? (i := 458) (by decide +kernel)⟩
theorem cc_f3_9 : cc_flk 3 9 3 0 := ⟨RX3, TX3, 7, rfl, Nat.le_of_ble_eq_true rfl, rfl, List.mem_of_getElem? (i := 240) (by decide +kernel)⟩
theorem cc_f3_15 : cc_flk 3 15 3 1 := ⟨RX3, TX3, 7, rfl, Nat.le_of_ble_eq_true rfl, rfl, List.mem_of_getElem? (i := 241) (by decide +kernel)⟩
theorem cc_f3_18 : cc_flk 3 18 3 2 := ⟨RX3, TX3, 7, rfl, Nat.le_of_ble_eq_true rfl, rfl, List.mem_of_getElem? (i := 242) (by decide +kernel)⟩
theorem cc_f3_22 : cc_flk 3 22 3 3 := ⟨RX3, TX3, 7, rfl, Nat.le_of_ble_eq_true rfl, rfl, List.mem_of_getElem? (i := 243) (by decide +kernel)⟩
theorem cc_f3_25 : cc_flk 3 25 3 4 := ⟨RX3, TX3, 7, rfl, Nat.le_of_ble_eq_true rfl, rfl, List.mem_of_getElem? (i := 244) (by decide +kernel)⟩
theorem cc_f3_28 : cc_flk 3 28 3 5 := ⟨RX3, TX3, 7, rfl, Nat.le_of_ble_eq_true rfl, rfl, List.mem_of_getElem? (i := 245) (by decide +kernel)⟩
theorem cc_f3_31 : cc_flk 3 31 3 6 := ⟨RX3, TX3, 7, rfl, Nat.le_of_ble_eq_true rfl, rfl, List.mem_of_getElem? (i := 246) (by decide +kernel)⟩
theorem cc_f4_11 : cc_flk 4 11 4 0 := ⟨RX4, TX4, 19, rfl, Nat.le_of_ble_eq_true rfl, rfl, List.mem_of_getElem? (i := 501) (by decide +kernel)⟩
theorem cc_f4_15 : cc_flk 4 15 4 1 := ⟨RX4, TX4, 19, rfl, Nat.le_of_ble_eq_true rfl, rfl, List.mem_of_getElem? (i := 502) (by decide +kernel)⟩
theorem cc_f4_18 : cc_flk 4 18 4 2 := ⟨RX4, TX4, 19, rfl, Nat.le_of_ble_eq_true rfl, rfl, List.mem_of_getElem? (i := 503) (by decide +kernel)⟩
theorem cc_f4_21 : cc_flk 4 21 4 3 := ⟨RX4, TX4, 19, rfl, Nat.le_of_ble_eq_true rfl, rfl, List.mem_of_getElem? (i := 504) (by decide +kernel)⟩
theorem cc_f4_24 : cc_flk 4 24 4 4 := ⟨RX4, TX4, 19, rfl, Nat.le_of_ble_eq_true rfl, rfl, List.mem_of_getElem? (i := 505) (by decide +kernel)⟩
theorem cc_f4_27 : cc_flk 4 27 4 5 := ⟨RX4, TX4, 19, rfl, Nat.le_of_ble_eq_true rfl, rfl, List.mem_of_getElem? (i := 506) (by decide +kernel)⟩
theorem cc_f4_31 : cc_flk 4 31 4 6 := ⟨RX4, TX4, 19, rfl, Nat.le_of_ble_eq_true rfl, rfl, List.mem_of_getElem? (i := 508) (by decide +kernel)⟩
theorem cc_f4_34 : cc_flk 4 34 4 7 := ⟨RX4, TX4, 19, rfl, Nat.le_of_ble_eq_true rfl, rfl, List.mem_of_getElem? (i := 509) (by decide +kernel)⟩
theorem cc_f4_37 : cc_flk 4 37 4 8 := ⟨RX4, TX4, 19, rfl, Nat.le_of_ble_eq_true rfl, rfl, List.mem_of_getElem? (i := 510) (by decide +kernel)⟩
theorem cc_f4_43 : cc_flk 4 43 4 9 := ⟨RX4, TX4, 19, rfl, Nat.le_of_ble_eq_true rfl, rfl, List.mem_of_getElem? (i := 512) (by decide +kernel)⟩
theorem cc_f4_47 : cc_flk 4 47 4 10 := ⟨RX4, TX4, 19, rfl, Nat.le_of_ble_eq_true rfl, rfl, List.mem_of_getElem? (i := 513) (by decide +kernel)⟩
theorem cc_f4_50 : cc_flk 4 50 4 11 := ⟨RX4, TX4, 19, rfl, Nat.le_of_ble_eq_true rfl, rfl, List.mem_of_getElem? (i := 514) (by decide +kernel)⟩
theorem cc_f4_53 : cc_flk 4 53 4 12 := ⟨RX4, TX4, 19, rfl, Nat.le_of_ble_eq_true rfl, rfl, List.mem_of_getElem? (i := 515) (by decide +kernel)⟩
theorem cc_f4_56 : cc_flk 4 56 4 13 := ⟨RX4, TX4, 19, rfl, Nat.le_of_ble_eq_true rfl, rfl, List.mem_of_getElem? (i := 517) (by decide +kernel)⟩
theorem cc_f4_59 : cc_flk 4 59 4 14 := ⟨RX4, TX4, 19, rfl, Nat.le_of_ble_eq_true rfl, rfl, List.mem_of_getElem? (i := 519) (by decide +kernel)⟩
theorem cc_f4_62 : cc_flk 4 62 4 15 := ⟨RX4, TX4, 19, rfl, Nat.le_of_ble_eq_true rfl, rfl, List.mem_of_getElem? (i := 520) (by decide +kernel)⟩
theorem cc_f4_65 : cc_flk 4 65 4 16 := ⟨RX4, TX4, 19, rfl, Nat.le_of_ble_eq_true rfl, rfl, List.mem_of_getElem? (i := 521) (by decide +kernel)⟩
theorem cc_f4_68 : cc_flk 4 68 4 17 := ⟨RX4, TX4, 19, rfl, Nat.le_of_ble_eq_true rfl, rfl, List.mem_of_getElem? (i := 522) (by decide +kernel)⟩
theorem cc_f4_71 : cc_flk 4 71 4 18 := ⟨RX4, TX4, 19, rfl, Nat.le_of_ble_eq_true rfl, rfl, List.mem_of_getElem? (i := 524) (by decide +kernel)⟩
theorem cc_f5_11 : cc_flk 5 11 5 0 := ⟨RX5, TX5, 6, rfl, Nat.le_of_ble_eq_true rfl, rfl, List.mem_of_getElem? (i := 373) (by decide +kernel)⟩
theorem cc_f5_15 : cc_flk 5 15 5 1 := ⟨RX5, TX5, 6, rfl, Nat.le_of_ble_eq_true rfl, rfl, List.mem_of_getElem? (i := 375) (by decide +kernel)⟩
theorem cc_f5_18 : cc_flk 5 18 5 2 := ⟨RX5, TX5, 6, rfl, Nat.le_of_ble_eq_true rfl, rfl, List.mem_of_getElem? (i := 377) (by decide +kernel)⟩
theorem cc_f5_21 : cc_flk 5 21 5 3 := ⟨RX5, TX5, 6, rfl, Nat.le_of_ble_eq_true rfl, rfl, List.mem_of_getElem? (i := 379) (by decide +kernel)⟩
theorem cc_f5_25 : cc_flk 5 25 5 4 := ⟨RX5, TX5, 6, rfl, Nat.le_of_ble_eq_true rfl, rfl, List.mem_of_getElem? (i := 382) (by decide +kernel)⟩
theorem cc_f5_28 : cc_flk 5 28 5 5 := ⟨RX5, TX5, 6, rfl, Nat.le_of_ble_eq_true rfl, rfl, List.mem_of_getElem? (i := 383) (by decide +kernel)⟩
theorem cc_f6_9 : cc_flk 6 9 6 0 := ⟨RX6, TX6, 5, rfl, Nat.le_of_ble_eq_true rfl, rfl, List.mem_of_getElem? (i := 346) (by decide +kernel)⟩
theorem cc_f6_15 : cc_flk 6 15 6 1 := ⟨RX6, TX6, 5, rfl, Nat.le_of_ble_eq_true rfl, rfl, List.mem_of_getElem? (i := 349) (by decide +kernel)⟩
theorem cc_f6_18 : cc_flk 6 18 6 2 := ⟨RX6, TX6, 5, rfl, Nat.le_of_ble_eq_true rfl, rfl, List.mem_of_getElem? (i := 351) (by decide +kernel)⟩
theorem cc_f6_22 : cc_flk 6 22 6 3 := ⟨RX6, TX6, 5, rfl, Nat.le_of_ble_eq_true rfl, rfl, List.mem_of_getElem? (i := 352) (by decide +kernel)⟩
theorem cc_f6_28 : cc_flk 6 28 6 4 := ⟨RX6, TX6, 5, rfl, Nat.le_of_ble_eq_true rfl, rfl, List.mem_of_getElem? (i := 354) (by decide +kernel)⟩
theorem cc_f7_11 : cc_flk 7 11 7 0 := ⟨RX7, TX7, 3, rfl, Nat.le_of_ble_eq_true rfl, rfl, List.mem_of_getElem? (i := 573) (by decide +kernel)⟩
theorem cc_f7_15 : cc_flk 7 15 7 1 := ⟨RX7, TX7, 3, rfl, Nat.le_of_ble_eq_true rfl, rfl, List.mem_of_getElem? (i := 576) (by decide +kernel)⟩
theorem cc_f7_19 : cc_flk 7 19 7 2 := ⟨RX7, TX7, 3, rfl, Nat.le_of_ble_eq_true rfl, rfl, List.mem_of_getElem? (i := 578) (by decide +kernel)⟩
theorem cc_f8_9 : cc_flk 8 9 8 0 := ⟨RX8, TX8, 6, rfl, Nat.le_of_ble_eq_true rfl, rfl, List.mem_of_getElem? (i := 309) (by decide +kernel)⟩
theorem cc_f8_15 : cc_flk 8 15 8 1 := ⟨RX8, TX8, 6, rfl, Nat.le_of_ble_eq_true rfl, rfl, List.mem_of_getElem? (i := 315) (by decide +kernel)⟩
theorem cc_f8_18 : cc_flk 8 18 8 2 := ⟨RX8, TX8, 6, rfl, Nat.le_of_ble_eq_true rfl, rfl, List.mem_of_getElem? (i := 320) (by decide +kernel)⟩
theorem cc_f8_21 : cc_flk 8 21 8 3 := ⟨RX8, TX8, 6, rfl, Nat.le_of_ble_eq_true rfl, rfl, List.mem_of_getElem? (i := 323) (by decide +kernel)⟩
theorem cc_f8_24 : cc_flk 8 24 8 4 := ⟨RX8, TX8, 6, rfl, Nat.le_of_ble_eq_true rfl, rfl, List.mem_of_getElem? (i := 325) (by decide +kernel)⟩
theorem cc_f8_28 : cc_flk 8 28 8 5 := ⟨RX8, TX8, 6, rfl, Nat.le_of_ble_eq_true rfl, rfl, List.mem_of_getElem? (i := 330) (by decide +kernel)⟩
theorem cc_f9_9 : cc_flk 9 9 9 0 := ⟨RX9, TX9, 11, rfl, Nat.le_of_ble_eq_true rfl, rfl, List.mem_of_getElem? (i := 186) (by decide +kernel)⟩
theorem cc_f9_15 : cc_flk 9 15 9 1 := ⟨RX9, TX9, 11, rfl, Nat.le_of_ble_eq_true rfl, rfl, List.mem_of_getElem? (i := 187) (by decide +kernel)⟩
theorem cc_f9_19 : cc_flk 9 19 9 2 := ⟨RX9, TX9, 11, rfl, Nat.le_of_ble_eq_true rfl, rfl, List.mem_of_getElem? (i := 189) (by decide +kernel)⟩
theorem cc_f9_23 : cc_flk 9 23 9 3 := ⟨RX9, TX9, 11, rfl, Nat.le_of_ble_eq_true rfl, rfl, List.mem_of_getElem? (i := 190) (by decide +kernel)⟩
theorem cc_f9_26 : cc_flk 9 26 9 4 := ⟨RX9, TX9, 11, rfl, Nat.le_of_ble_eq_true rfl, rfl, List.mem_of_getElem? (i := 191) (by decide +kernel)⟩
theorem cc_f9_29 : cc_flk 9 29 9 5 := ⟨RX9, TX9, 11, rfl, Nat.le_of_ble_eq_true rfl, rfl, List.mem_of_getElem? (i := 192) (by decide +kernel)⟩
theorem cc_f9_32 : cc_flk 9 32 9 6 := ⟨RX9, TX9, 11, rfl, Nat.le_of_ble_eq_true rfl, rfl, List.mem_of_getElem? (i := 193) (by decide +kernel)⟩
theorem cc_f9_35 : cc_flk 9 35 9 7 := ⟨RX9, TX9, 11, rfl, Nat.le_of_ble_eq_true rfl, rfl, List.mem_of_getElem? (i := 194) (by decide +kernel)⟩
theorem cc_f9_38 : cc_flk 9 38 9 8 := ⟨RX9, TX9, 11, rfl, Nat.le_of_ble_eq_true rfl, rfl, List.mem_of_getElem? (i := 197) (by decide +kernel)⟩
theorem cc_f9_41 : cc_flk 9 41 9 9 := ⟨RX9, TX9, 11, rfl, Nat.le_of_ble_eq_true rfl, rfl, List.mem_of_getElem? (i := 200) (by decide +kernel)⟩
theorem cc_f9_44 : cc_flk 9 44 9 10 := ⟨RX9, TX9, 11, rfl, Nat.le_of_ble_eq_true rfl, rfl, List.mem_of_getElem? (i := 202) (by decide +kernel)⟩
theorem cc_f10_9 : cc_flk 10 9 10 0 := ⟨RX10, TX10, 4, rfl, Nat.le_of_ble_eq_true rfl, rfl, List.mem_of_getElem? (i := 483) (by decide +kernel)⟩
theorem cc_f10_15 : cc_flk 10 15 10 1 := ⟨RX10, TX10, 4, rfl, Nat.le_of_ble_eq_true rfl, rfl, List.mem_of_getElem? (i := 485) (by decide +kernel)⟩
theorem cc_f10_19 : cc_flk 10 19 10 2 := ⟨RX10, TX10, 4, rfl, Nat.le_of_ble_eq_true rfl, rfl, List.mem_of_getElem? (i := 488) (by decide +kernel)⟩
theorem cc_f10_22 : cc_flk 10 22 10 3 := ⟨RX10, TX10, 4, rfl, Nat.le_of_ble_eq_true rfl, rfl, List.mem_of_getElem? (i := 490) (by decide +kernel)⟩
theorem cc_f11_10 : cc_flk 11 10 11 0 := ⟨RX11, TX11, 16, rfl, Nat.le_of_ble_eq_true rfl, rfl, List.mem_of_getElem? (i := 587) (by decide +kernel)⟩
theorem cc_f11_18 : cc_flk 11 18 11 1 := ⟨RX11, TX11, 16, rfl, Nat.le_of_ble_eq_true rfl, rfl, List.mem_of_getElem? (i := 588) (by decide +kernel)⟩
theorem cc_f11_22 : cc_flk 11 22 11 2 := ⟨RX11, TX11, 16, rfl, Nat.le_of_ble_eq_true rfl, rfl, List.mem_of_getElem? (i := 589) (by decide +kernel)⟩
theorem cc_f11_29 : cc_flk 11 29 11 3 := ⟨RX11, TX11, 16, rfl, Nat.le_of_ble_eq_true rfl, rfl, List.mem_of_getElem? (i := 590) (by decide +kernel)⟩
theorem cc_f11_33 : cc_flk 11 33 11 4 := ⟨RX11, TX11, 16, rfl, Nat.le_of_ble_eq_true rfl, rfl, List.mem_of_getElem? (i := 591) (by decide +kernel)⟩
theorem cc_f11_36 : cc_flk 11 36 11 5 := ⟨RX11, TX11, 16, rfl, Nat.le_of_ble_eq_true rfl, rfl, List.mem_of_getElem? (i := 592) (by decide +kernel)⟩
theorem cc_f11_39 : cc_flk 11 39 11 6 := ⟨RX11, TX11, 16, rfl, Nat.le_of_ble_eq_true rfl, rfl, List.mem_of_getElem? (i := 593) (by decide +kernel)⟩
theorem cc_f11_45 : cc_flk 11 45 11 7 := ⟨RX11, TX11, 16, rfl, Nat.le_of_ble_eq_true rfl, rfl, List.mem_of_getElem? (i := 594) (by decide +kernel)⟩
theorem cc_f11_52 : cc_flk 11 52 11 8 := ⟨RX11, TX11, 16, rfl, Nat.le_of_ble_eq_true rfl, rfl, List.mem_of_getElem? (i := 595) (by decide +kernel)⟩
theorem cc_f11_56 : cc_flk 11 56 11 9 := ⟨RX11, TX11, 16, rfl, Nat.le_of_ble_eq_true rfl, rfl, List.mem_of_getElem? (i := 596) (by decide +kernel)⟩
theorem cc_f11_62 : cc_flk 11 62 11 10 := ⟨RX11, TX11, 16, rfl, Nat.le_of_ble_eq_true rfl, rfl, List.mem_of_getElem? (i := 597) (by decide +kernel)⟩
theorem cc_f11_69 : cc_flk 11 69 11 11 := ⟨RX11, TX11, 16, rfl, Nat.le_of_ble_eq_true rfl, rfl, List.mem_of_getElem? (i := 598) (by decide +kernel)⟩
theorem cc_f11_76 : cc_flk 11 76 11 12 := ⟨RX11, TX11, 16, rfl, Nat.le_of_ble_eq_true rfl, rfl, List.mem_of_getElem? (i := 599) (by decide +kernel)⟩
theorem cc_f11_83 : cc_flk 11 83 11 13 := ⟨RX11, TX11, 16, rfl, Nat.le_of_ble_eq_true rfl, rfl, List.mem_of_getElem? (i := 600) (by decide +kernel)⟩
theorem cc_f11_89 : cc_flk 11 89 11 14 := ⟨RX11, TX11, 16, rfl, Nat.le_of_ble_eq_true rfl, rfl, List.mem_of_getElem? (i := 601) (by decide +kernel)⟩
theorem cc_f11_93 : cc_flk 11 93 11 15 := ⟨RX11, TX11, 16, rfl, Nat.le_of_ble_eq_true rfl, rfl, List.mem_of_getElem? (i := 602) (by decide +kernel)⟩
theorem cc_f12_19 : cc_flk 12 19 12 0 := ⟨RX12, TX12, 104, rfl, Nat.le_of_ble_eq_true rfl, rfl, List.mem_of_getElem? (i := 1583) (by decide +kernel)⟩
theorem cc_f12_33 : cc_flk 12 33 12 1 := ⟨RX12, TX12, 104, rfl, Nat.le_of_ble_eq_true rfl, rfl, List.mem_of_getElem? (i := 1584) (by decide +kernel)⟩
theorem cc_f12_38 : cc_flk 12 38 12 2 := ⟨RX12, TX12, 104, rfl, Nat.le_of_ble_eq_true rfl, rfl, List.mem_of_getElem? (i := 1585) (by decide +kernel)⟩
theorem cc_f12_41 : cc_flk 12 41 12 7 := ⟨RX12, TX12, 104, rfl, Nat.le_of_ble_eq_true rfl, rfl, List.mem_of_getElem? (i := 1590) (by decide +kernel)⟩
theorem cc_f12_45 : cc_flk 12 45 12 8 := ⟨RX12, TX12, 104, rfl, Nat.le_of_ble_eq_true rfl, rfl, List.mem_of_getElem? (i := 1591) (by decide +kernel)⟩
theorem cc_f12_48 : cc_flk 12 48 12 9 := ⟨RX12, TX12, 104, rfl, Nat.le_of_ble_eq_true rfl, rfl, List.mem_of_getElem? (i := 1592) (by decide +kernel)⟩
theorem cc_f12_51 : cc_flk 12 51 12 10 := ⟨RX12, TX12, 104, rfl, Nat.le_of_ble_eq_true rfl, rfl, List.mem_of_getElem? (i := 1593) (by decide +kernel)⟩
theorem cc_f12_54 : cc_flk 12 54 12 11 := ⟨RX12, TX12, 104, rfl, Nat.le_of_ble_eq_true rfl, rfl, List.mem_of_getElem? (i := 1594) (by decide +kernel)⟩
theorem cc_f12_57 : cc_flk 12 57 12 12 := ⟨RX12, TX12, 104, rfl, Nat.le_of_ble_eq_true rfl, rfl, List.mem_of_getElem? (i := 1595) (by decide +kernel)⟩
theorem cc_f12_59 : cc_flk 12 59 12 13 := ⟨RX12, TX12, 104, rfl, Nat.le_of_ble_eq_true rfl, rfl, List.mem_of_getElem? (i := 1596) (by decide +kernel)⟩
theorem cc_f12_62 : cc_flk 12 62 12 14 := ⟨RX12, TX12, 104, rfl, Nat.le_of_ble_eq_true rfl, rfl, List.mem_of_getElem? (i := 1597) (by decide +kernel)⟩
theorem cc_f12_65 : cc_flk 12 65 12 15 := ⟨RX12, TX12, 104, rfl, Nat.le_of_ble_eq_true rfl, rfl, List.mem_of_getElem? (i := 1598) (by decide +kernel)⟩
theorem cc_f12_68 : cc_flk 12 68 12 16 := ⟨RX12, TX12, 104, rfl, Nat.le_of_ble_eq_true rfl, rfl, List.mem_of_getElem? (i := 1599) (by decide +kernel)⟩
theorem cc_f12_71 : cc_flk 12 71 12 17 := ⟨RX12, TX12, 104, rfl, Nat.le_of_ble_eq_true rfl, rfl, List.mem_of_getElem? (i := 1600) (by decide +kernel)⟩
theorem cc_f12_74 : cc_flk 12 74 12 18 := ⟨RX12, TX12, 104, rfl, Nat.le_of_ble_eq_true rfl, rfl, List.mem_of_getElem? (i := 1601) (by decide +kernel)⟩
theorem cc_f12_77 : cc_flk 12 77 12 19 := ⟨RX12, TX12, 104, rfl, Nat.le_of_ble_eq_true rfl, rfl, List.mem_of_getElem? (i := 1602) (by decide +kernel)⟩
theorem cc_f12_80 : cc_flk 12 80 12 20 := ⟨RX12, TX12, 104, rfl, Nat.le_of_ble_eq_true rfl, rfl, List.mem_of_getElem? (i := 1603) (by decide +kernel)⟩
theorem cc_f12_83 : cc_flk 12 83 12 31 := ⟨RX12, TX12, 104, rfl, Nat.le_of_ble_eq_true rfl, rfl, List.mem_of_getElem? (i := 1614) (by decide +kernel)⟩
theorem cc_f12_87 : cc_flk 12 87 12 33 := ⟨RX12, TX12, 104, rfl, Nat.le_of_ble_eq_true rfl, rfl, List.mem_of_getElem? (i := 1616) (by decide +kernel)⟩
theorem cc_f12_90 : cc_flk 12 90 12 34 := ⟨RX12, TX12, 104, rfl, Nat.le_of_ble_eq_true rfl, rfl, List.mem_of_getElem? (i := 1617) (by decide +kernel)⟩
theorem cc_f12_93 : cc_flk 12 93 12 35 := ⟨RX12, TX12, 104, rfl, Nat.le_of_ble_eq_true rfl, rfl, List.mem_of_getElem? (i := 1618) (by decide +kernel)⟩
theorem cc_f12_96 : cc_flk 12 96 12 36 := ⟨RX12, TX12, 104, rfl, Nat.le_of_ble_eq_true rfl, rfl, List.mem_of_getElem? (i := 1619) (by decide +kernel)⟩
theorem cc_f12_99 : cc_flk 12 99 12 37 := ⟨RX12, TX12, 104, rfl, Nat.le_of_ble_eq_true rfl, rfl, List.mem_of_getElem? (i := 1620) (by decide +kernel)⟩
theorem cc_f12_102 : cc_flk 12 102 12 38 := ⟨RX12, TX12, 104, rfl, Nat.le_of_ble_eq_true rfl, rfl, List.mem_of_getElem? (i := 1621) (by decide +kernel)⟩
theorem cc_f12_106 : cc_flk 12 106 12 39 := ⟨RX12, TX12, 104, rfl, Nat.le_of_ble_eq_true rfl, rfl, List.mem_of_getElem? (i := 1622) (by decide +kernel)⟩
theorem cc_f12_109 : cc_flk 12 109 12 40 := ⟨RX12, TX12, 104, rfl, Nat.le_of_ble_eq_true rfl, rfl, List.mem_of_getElem? (i := 1623) (by decide +kernel)⟩
theorem cc_f12_112 : cc_flk 12 112 12 41 := ⟨RX12, TX12, 104, rfl, Nat.le_of_ble_eq_true rfl, rfl, List.mem_of_getElem? (i := 1624) (by decide +kernel)⟩
theorem cc_f12_115 : cc_flk 12 115 12 42 := ⟨RX12, TX12, 104, rfl, Nat.le_of_ble_eq_true rfl, rfl, List.mem_of_getElem? (i := 1625) (by decide +kernel)⟩
theorem cc_f12_118 : cc_flk 12 118 12 43 := ⟨RX12, TX12, 104, rfl, Nat.le_of_ble_eq_true rfl, rfl, List.mem_of_getElem? (i := 1626) (by decide +kernel)⟩
theorem cc_f12_121 : cc_flk 12 121 12 47 := ⟨RX12, TX12, 104, rfl, Nat.le_of_ble_eq_true rfl, rfl, List.mem_of_getElem? (i := 1630) (by decide +kernel)⟩
theorem cc_f12_124 : cc_flk 12 124 12 48 := ⟨RX12, TX12, 104, rfl, Nat.le_of_ble_eq_true rfl, rfl, List.mem_of_getElem? (i := 1631) (by decide +kernel)⟩
theorem cc_f12_127 : cc_flk 12 127 12 49 := ⟨RX12, TX12, 104, rfl, Nat.le_of_ble_eq_true rfl, rfl, List.mem_of_getElem? (i := 1632) (by decide +kernel)⟩
theorem cc_f12_130 : cc_flk 12 130 12 50 := ⟨RX12, TX12, 104, rfl, Nat.le_of_ble_eq_true rfl, rfl, List.mem_of_getElem? (i := 1633) (by decide +kernel)⟩
theorem cc_f12_133 : cc_flk 12 133 12 51 := ⟨RX12, TX12, 104, rfl, Nat.le_of_ble_eq_true rfl, rfl, List.mem_of_getElem? (i := 1634) (by decide +kernel)⟩
theorem cc_f12_136 : cc_flk 12 136 12 52 := ⟨RX12, TX12, 104, rfl, Nat.le_of_ble_eq_true rfl, rfl, List.mem_of_getElem? (i := 1635) (by decide +kernel)⟩
theorem cc_f12_139 : cc_flk 12 139 12 53 := ⟨RX12, TX12, 104, rfl, Nat.le_of_ble_eq_true rfl, rfl, List.mem_of_getElem? (i := 1636) (by decide +kernel)⟩
theorem cc_f12_142 : cc_flk 12 142 12 54 := ⟨RX12, TX12, 104, rfl, Nat.le_of_ble_eq_true rfl, rfl, List.mem_of_getElem? (i := 1637) (by decide +kernel)⟩
theorem cc_f12_145 : cc_flk 12 145 12 55 := ⟨RX12, TX12, 104, rfl, Nat.le_of_ble_eq_true rfl, rfl, List.mem_of_getElem? (i := 1638) (by decide +kernel)⟩
theorem cc_f12_148 : cc_flk 12 148 12 56 := ⟨RX12, TX12, 104, rfl, Nat.le_of_ble_eq_true rfl, rfl, List.mem_of_getElem? (i := 1639) (by decide +kernel)⟩
theorem cc_f12_151 : cc_flk 12 151 12 59 := ⟨RX12, TX12, 104, rfl, Nat.le_of_ble_eq_true rfl, rfl, List.mem_of_getElem? (i := 1642) (by decide +kernel)⟩
theorem cc_f12_154 : cc_flk 12 154 12 60 := ⟨RX12, TX12, 104, rfl, Nat.le_of_ble_eq_true rfl, rfl, List.mem_of_getElem? (i := 1643) (by decide +kernel)⟩
theorem cc_f12_157 : cc_flk 12 157 12 61 := ⟨RX12, TX12, 104, rfl, Nat.le_of_ble_eq_true rfl, rfl, List.mem_of_getElem? (i := 1644) (by decide +kernel)⟩
theorem cc_f12_160 : cc_flk 12 160 12 67 := ⟨RX12, TX12, 104, rfl, Nat.le_of_ble_eq_true rfl, rfl, List.mem_of_getElem? (i := 1650) (by decide +kernel)⟩
theorem cc_f12_163 : cc_flk 12 163 12 68 := ⟨RX12, TX12, 104, rfl, Nat.le_of_ble_eq_true rfl, rfl, List.mem_of_getElem? (i := 1651) (by decide +kernel)⟩
theorem cc_f12_166 : cc_flk 12 166 12 69 := ⟨RX12, TX12, 104, rfl, Nat.le_of_ble_eq_true rfl, rfl, List.mem_of_getElem? (i := 1652) (by decide +kernel)⟩
theorem cc_f12_169 : cc_flk 12 169 12 70 := ⟨RX12, TX12, 104, rfl, Nat.le_of_ble_eq_true rfl, rfl, List.mem_of_getElem? (i := 1653) (by decide +kernel)⟩
theorem cc_f12_172 : cc_flk 12 172 12 71 := ⟨RX12, TX12, 104, rfl, Nat.le_of_ble_eq_true rfl, rfl, List.mem_of_getElem? (i := 1654) (by decide +kernel)⟩
theorem cc_f12_175 : cc_flk 12 175 12 73 := ⟨RX12, TX12, 104, rfl, Nat.le_of_ble_eq_true rfl, rfl, List.mem_of_getElem? (i := 1656) (by decide +kernel)⟩
theorem cc_f12_178 : cc_flk 12 178 12 74 := ⟨RX12, TX12, 104, rfl, Nat.le_of_ble_eq_true rfl, rfl, List.mem_of_getElem? (i := 1657) (by decide +kernel)⟩
theorem cc_f12_181 : cc_flk 12 181 12 75 := ⟨RX12, TX12, 104, rfl, Nat.le_of_ble_eq_true rfl, rfl, List.mem_of_getElem? (i := 1658) (by decide +kernel)⟩
theorem cc_f12_184 : cc_flk 12 184 12 76 := ⟨RX12, TX12, 104, rfl, Nat.le_of_ble_eq_true rfl, rfl, List.mem_of_getElem? (i := 1659) (by decide +kernel)⟩
theorem cc_f12_187 : cc_flk 12 187 12 81 := ⟨RX12, TX12, 104, rfl, Nat.le_of_ble_eq_true rfl, rfl, List.mem_of_getElem? (i := 1664) (by decide +kernel)⟩
theorem cc_f12_190 : cc_flk 12 190 12 82 := ⟨RX12, TX12, 104, rfl, Nat.le_of_ble_eq_true rfl, rfl, List.mem_of_getElem? (i := 1665) (by decide +kernel)⟩
theorem cc_f12_193 : cc_flk 12 193 12 83 := ⟨RX12, TX12, 104, rfl, Nat.le_of_ble_eq_true rfl, rfl, List.mem_of_getElem? (i := 1666) (by decide +kernel)⟩
theorem cc_f12_196 : cc_flk 12 196 12 84 := ⟨RX12, TX12, 104, rfl, Nat.le_of_ble_eq_true rfl, rfl, List.mem_of_getElem? (i := 1667) (by decide +kernel)⟩
theorem cc_f12_199 : cc_flk 12 199 12 85 := ⟨RX12, TX12, 104, rfl, Nat.le_of_ble_eq_true rfl, rfl, List.mem_of_getElem? (i := 1668) (by decide +kernel)⟩
theorem cc_f12_202 : cc_flk 12 202 12 86 := ⟨RX12, TX12, 104, rfl, Nat.le_of_ble_eq_true rfl, rfl, List.mem_of_getElem? (i := 1669) (by decide +kernel)⟩
theorem cc_f12_205 : cc_flk 12 205 12 87 := ⟨RX12, TX12, 104, rfl, Nat.le_of_ble_eq_true rfl, rfl, List.mem_of_getElem? (i := 1670) (by decide +kernel)⟩
theorem cc_f12_208 : cc_flk 12 208 12 88 := ⟨RX12, TX12, 104, rfl, Nat.le_of_ble_eq_true rfl, rfl, List.mem_of_getElem? (i := 1671) (by decide +kernel)⟩
theorem cc_f12_211 : cc_flk 12 211 12 89 := ⟨RX12, TX12, 104, rfl, Nat.le_of_ble_eq_true rfl, rfl, List.mem_of_getElem? (i := 1672) (by decide +kernel)⟩
theorem cc_f12_214 : cc_flk 12 214 12 90 := ⟨RX12, TX12, 104, rfl, Nat.le_of_ble_eq_true rfl, rfl, List.mem_of_getElem? (i := 1673) (by decide +kernel)⟩
theorem cc_f12_217 : cc_flk 12 217 12 91 := ⟨RX12, TX12, 104, rfl, Nat.le_of_ble_eq_true rfl, rfl, List.mem_of_getElem? (i := 1674) (by decide +kernel)⟩
theorem cc_f12_220 : cc_flk 12 220 12 92 := ⟨RX12, TX12, 104, rfl, Nat.le_of_ble_eq_true rfl, rfl, List.mem_of_getElem? (i := 1675) (by decide +kernel)⟩
theorem cc_f12_223 : cc_flk 12 223 12 93 := ⟨RX12, TX12, 104, rfl, Nat.le_of_ble_eq_true rfl, rfl, List.mem_of_getElem? (i := 1676) (by decide +kernel)⟩
theorem cc_f12_226 : cc_flk 12 226 12 95 := ⟨RX12, TX12, 104, rfl, Nat.le_of_ble_eq_true rfl, rfl, List.mem_of_getElem? (i := 1678) (by decide +kernel)⟩
theorem cc_f12_229 : cc_flk 12 229 12 96 := ⟨RX12, TX12, 104, rfl, Nat.le_of_ble_eq_true rfl, rfl, List.mem_of_getElem? (i := 1679) (by decide +kernel)⟩
theorem cc_f12_232 : cc_flk 12 232 12 97 := ⟨RX12, TX12, 104, rfl, Nat.le_of_ble_eq_true rfl, rfl, List.mem_of_getElem? (i := 1680) (by decide +kernel)⟩
theorem cc_f12_234 : cc_flk 12 234 12 98 := ⟨RX12, TX12, 104, rfl, Nat.le_of_ble_eq_true rfl, rfl, List.mem_of_getElem? (i := 1681) (by decide +kernel)⟩
theorem cc_f12_237 : cc_flk 12 237 12 100 := ⟨RX12, TX12, 104, rfl, Nat.le_of_ble_eq_true rfl, rfl, List.mem_of_getElem? (i := 1683) (by decide +kernel)⟩
theorem cc_f12_240 : cc_flk 12 240 12 101 := ⟨RX12, TX12, 104, rfl, Nat.le_of_ble_eq_true rfl, rfl, List.mem_of_getElem? (i := 1684) (by decide +kernel)⟩
theorem cc_f12_243 : cc_flk 12 243 12 102 := ⟨RX12, TX12, 104, rfl, Nat.le_of_ble_eq_true rfl, rfl, List.mem_of_getElem? (i := 1685) (by decide +kernel)⟩
theorem cc_f12_246 : cc_flk 12 246 12 103 := ⟨RX12, TX12, 104, rfl, Nat.le_of_ble_eq_true rfl, rfl, List.mem_of_getElem? (i := 1686) (by decide +kernel)⟩
theorem cc_FL0 : ∀ q ∈ cc_FLs 0, cc_flk 0 q.1 q.2.1 q.2.2 := List.forall_mem_cons.mpr ⟨cc_f0_11, List.forall_mem_cons.mpr ⟨cc_f0_15, List.forall_mem_cons.mpr ⟨cc_f0_18, List.forall_mem_cons.mpr ⟨cc_f0_21, List.forall_mem_cons.mpr ⟨cc_f0_24, List.forall_mem_cons.mpr ⟨cc_f0_27, List.forall_mem_cons.mpr ⟨cc_f0_30, List.forall_mem_cons.mpr ⟨cc_f0_33, List.forall_mem_cons.mpr ⟨cc_f0_36, fun _ h => absurd h List.not_mem_nil⟩⟩⟩⟩⟩⟩⟩⟩⟩
theorem cc_FL1 : ∀ q ∈ cc_FLs 1, cc_flk 1 q.1 q.2.1 q.2.2 := List.forall_mem_cons.mpr ⟨cc_f1_9, List.forall_mem_cons.mpr ⟨cc_f1_15, List.forall_mem_cons.mpr ⟨cc_f1_19, List.forall_mem_cons.mpr ⟨cc_f1_22, List.forall_mem_cons.mpr ⟨cc_f1_29, List.forall_mem_cons.mpr ⟨cc_f1_33, List.forall_mem_cons.mpr ⟨cc_f1_36, List.forall_mem_cons.mpr ⟨cc_f1_39, List.forall_mem_cons.mpr ⟨cc_f1_42, List.forall_mem_cons.mpr ⟨cc_f1_45, List.forall_mem_cons.mpr ⟨cc_f1_48, fun _ h => absurd h List.not_mem_nil⟩⟩⟩⟩⟩⟩⟩⟩⟩⟩⟩
theorem cc_FL2 : ∀ q ∈ cc_FLs 2, cc_flk 2 q.1 q.2.1 q.2.2 := List.forall_mem_cons.mpr ⟨cc_f2_11, List.forall_mem_cons.mpr ⟨cc_f2_17, List.forall_mem_cons.mpr ⟨cc_f2_20, List.forall_mem_cons.mpr ⟨cc_f2_23, List.forall_mem_cons.mpr ⟨cc_f2_26, fun _ h => absurd h List.not_mem_nil⟩⟩⟩⟩⟩
theorem cc_FL3 : ∀ q ∈ cc_FLs 3, cc_flk 3 q.1 q.2.1 q.2.2 := List.forall_mem_cons.mpr ⟨cc_f3_9, List.forall_mem_cons.mpr ⟨cc_f3_15, List.forall_mem_cons.mpr ⟨cc_f3_18, List.forall_mem_cons.mpr ⟨cc_f3_22, List.forall_mem_cons.mpr ⟨cc_f3_25, List.forall_mem_cons.mpr ⟨cc_f3_28, List.forall_mem_cons.mpr ⟨cc_f3_31, fun _ h => absurd h List.not_mem_nil⟩⟩⟩⟩⟩⟩⟩
theorem cc_FL4 : ∀ q ∈ cc_FLs 4, cc_flk 4 q.1 q.2.1 q.2.2 := List.forall_mem_cons.mpr ⟨cc_f4_11, List.forall_mem_cons.mpr ⟨cc_f4_15, List.forall_mem_cons.mpr ⟨cc_f4_18, List.forall_mem_cons.mpr ⟨cc_f4_21, List.forall_mem_cons.mpr ⟨cc_f4_24, List.forall_mem_cons.mpr ⟨cc_f4_27, List.forall_mem_cons.mpr ⟨cc_f4_31, List.forall_mem_cons.mpr ⟨cc_f4_34, List.forall_mem_cons.mpr ⟨cc_f4_37, List.forall_mem_cons.mpr ⟨cc_f4_43, List.forall_mem_cons.mpr ⟨cc_f4_47, List.forall_mem_cons.mpr ⟨cc_f4_50, List.forall_mem_cons.mpr ⟨cc_f4_53, List.forall_mem_cons.mpr ⟨cc_f4_56, List.forall_mem_cons.mpr ⟨cc_f4_59, List.forall_mem_cons.mpr ⟨cc_f4_62, List.forall_mem_cons.mpr ⟨cc_f4_65, List.forall_mem_cons.mpr ⟨cc_f4_68, List.forall_mem_cons.mpr ⟨cc_f4_71, fun _ h => absurd h List.not_mem_nil⟩⟩⟩⟩⟩⟩⟩⟩⟩⟩⟩⟩⟩⟩⟩⟩⟩⟩⟩
theorem cc_FL5 : ∀ q ∈ cc_FLs 5, cc_flk 5 q.1 q.2.1 q.2.2 := List.forall_mem_cons.mpr ⟨cc_f5_11, List.forall_mem_cons.mpr ⟨cc_f5_15, List.forall_mem_cons.mpr ⟨cc_f5_18, List.forall_mem_cons.mpr ⟨cc_f5_21, List.forall_mem_cons.mpr ⟨cc_f5_25, List.forall_mem_cons.mpr ⟨cc_f5_28, fun _ h => absurd h List.not_mem_nil⟩⟩⟩⟩⟩⟩
theorem cc_FL6 : ∀ q ∈ cc_FLs 6, cc_flk 6 q.1 q.2.1 q.2.2 := List.forall_mem_cons.mpr ⟨cc_f6_9, List.forall_mem_cons.mpr ⟨cc_f6_15, List.forall_mem_cons.mpr ⟨cc_f6_18, List.forall_mem_cons.mpr ⟨cc_f6_22, List.forall_mem_cons.mpr ⟨cc_f6_28, fun _ h => absurd h List.not_mem_nil⟩⟩⟩⟩⟩
theorem cc_FL7 : ∀ q ∈ cc_FLs 7, cc_flk 7 q.1 q.2.1 q.2.2 := List.forall_mem_cons.mpr ⟨cc_f7_11, List.forall_mem_cons.mpr ⟨cc_f7_15, List.forall_mem_cons.mpr ⟨cc_f7_19, fun _ h => absurd h List.not_mem_nil⟩⟩⟩
theorem cc_FL8 : ∀ q ∈ cc_FLs 8, cc_flk 8 q.1 q.2.1 q.2.2 := List.forall_mem_cons.mpr ⟨cc_f8_9, List.forall_mem_cons.mpr ⟨cc_f8_15, List.forall_mem_cons.mpr ⟨cc_f8_18, List.forall_mem_cons.mpr ⟨cc_f8_21, List.forall_mem_cons.mpr ⟨cc_f8_24, List.forall_mem_cons.mpr ⟨cc_f8_28, fun _ h => absurd h List.not_mem_nil⟩⟩⟩⟩⟩⟩
theorem cc_FL9 : ∀ q ∈ cc_FLs 9, cc_flk 9 q.1 q.2.1 q.2.2 := List.forall_mem_cons.mpr ⟨cc_f9_9, List.forall_mem_cons.mpr ⟨cc_f9_15, List.forall_mem_cons.mpr ⟨cc_f9_19, List.forall_mem_cons.mpr ⟨cc_f9_23, List.forall_mem_cons.mpr ⟨cc_f9_26, List.forall_mem_cons.mpr ⟨cc_f9_29, List.forall_mem_cons.mpr ⟨cc_f9_32, List.forall_mem_cons.mpr ⟨cc_f9_35, List.forall_mem_cons.mpr ⟨cc_f9_38, List.forall_mem_cons.mpr ⟨cc_f9_41, List.forall_mem_cons.mpr ⟨cc_f9_44, fun _ h => absurd h List.not_mem_nil⟩⟩⟩⟩⟩⟩⟩⟩⟩⟩⟩
theorem cc_FL10 : ∀ q ∈ cc_FLs 10, cc_flk 10 q.1 q.2.1 q.2.2 := List.forall_mem_cons.mpr ⟨cc_f10_9, List.forall_mem_cons.mpr ⟨cc_f10_15, List.forall_mem_cons.mpr ⟨cc_f10_19, List.forall_mem_cons.mpr ⟨cc_f10_22, fun _ h => absurd h List.not_mem_nil⟩⟩⟩⟩
theorem cc_FL11 : ∀ q ∈ cc_FLs 11, cc_flk 11 q.1 q.2.1 q.2.2 := List.forall_mem_cons.mpr ⟨cc_f11_10, List.forall_mem_cons.mpr ⟨cc_f11_18, List.forall_mem_cons.mpr ⟨cc_f11_22, List.forall_mem_cons.mpr ⟨cc_f11_29, List.forall_mem_cons.mpr ⟨cc_f11_33, List.forall_mem_cons.mpr ⟨cc_f11_36, List.forall_mem_cons.mpr ⟨cc_f11_39, List.forall_mem_cons.mpr ⟨cc_f11_45, List.forall_mem_cons.mpr ⟨cc_f11_52, List.forall_mem_cons.mpr ⟨cc_f11_56, List.forall_mem_cons.mpr ⟨cc_f11_62, List.forall_mem_cons.mpr ⟨cc_f11_69, List.forall_mem_cons.mpr ⟨cc_f11_76, List.forall_mem_cons.mpr ⟨cc_f11_83, List.forall_mem_cons.mpr ⟨cc_f11_89, List.forall_mem_cons.mpr ⟨cc_f11_93, fun _ h => absurd h List.not_mem_nil⟩⟩⟩⟩⟩⟩⟩⟩⟩⟩⟩⟩⟩⟩⟩⟩
theorem cc_FL12 : ∀ q ∈ cc_FLs 12, cc_flk 12 q.1 q.2.1 q.2.2 := List.forall_mem_cons.mpr ⟨cc_f12_19, List.forall_mem_cons.mpr ⟨cc_f12_33, List.forall_mem_cons.mpr ⟨cc_f12_38, List.forall_mem_cons.mpr ⟨cc_f12_41, List.forall_mem_cons.mpr ⟨cc_f12_45, List.forall_mem_cons.mpr ⟨cc_f12_48, List.forall_mem_cons.mpr ⟨cc_f12_51, List.forall_mem_cons.mpr ⟨cc_f12_54, List.forall_mem_cons.mpr ⟨cc_f12_57, List.forall_mem_cons.mpr ⟨cc_f12_59, List.forall_mem_cons.mpr ⟨cc_f12_62, List.forall_mem_cons.mpr ⟨cc_f12_65, List.forall_mem_cons.mpr ⟨cc_f12_68, List.forall_mem_cons.mpr ⟨cc_f12_71, List.forall_mem_cons.mpr ⟨cc_f12_74, List.forall_mem_cons.mpr ⟨cc_f12_77, List.forall_mem_cons.mpr ⟨cc_f12_80, List.forall_mem_cons.mpr ⟨cc_f12_83, List.forall_mem_cons.mpr ⟨cc_f12_87, List.forall_mem_cons.mpr ⟨cc_f12_90, List.forall_mem_cons.mpr ⟨cc_f12_93, List.forall_mem_cons.mpr ⟨cc_f12_96, List.forall_mem_cons.mpr ⟨cc_f12_99, List.forall_mem_cons.mpr ⟨cc_f12_102, List.forall_mem_cons.mpr ⟨cc_f12_106, List.forall_mem_cons.mpr ⟨cc_f12_109, List.forall_mem_cons.mpr ⟨cc_f12_112, List.forall_mem_cons.mpr ⟨cc_f12_115, List.forall_mem_cons.mpr ⟨cc_f12_118, List.forall_mem_cons.mpr ⟨cc_f12_121, List.forall_mem_cons.mpr ⟨cc_f12_124, List.forall_mem_cons.mpr ⟨cc_f12_127, List.forall_mem_cons.mpr ⟨cc_f12_130, List.forall_mem_cons.mpr ⟨cc_f12_133, List.forall_mem_cons.mpr ⟨cc_f12_136, List.forall_mem_cons.mpr ⟨cc_f12_139, List.forall_mem_cons.mpr ⟨cc_f12_142, List.forall_mem_cons.mpr ⟨cc_f12_145, List.forall_mem_cons.mpr ⟨cc_f12_148, List.forall_mem_cons.mpr ⟨cc_f12_151, List.forall_mem_cons.mpr ⟨cc_f12_154, List.forall_mem_cons.mpr ⟨cc_f12_157, List.forall_mem_cons.mpr ⟨cc_f12_160, List.forall_mem_cons.mpr ⟨cc_f12_163, List.forall_mem_cons.mpr ⟨cc_f12_166, List.forall_mem_cons.mpr ⟨cc_f12_169, List.forall_mem_cons.mpr ⟨cc_f12_172, List.forall_mem_cons.mpr ⟨cc_f12_175, List.forall_mem_cons.mpr ⟨cc_f12_178, List.forall_mem_cons.mpr ⟨cc_f12_181, List.forall_mem_cons.mpr ⟨cc_f12_184, List.forall_mem_cons.mpr ⟨cc_f12_187, List.forall_mem_cons.mpr ⟨cc_f12_190, List.forall_mem_cons.mpr ⟨cc_f12_193, List.forall_mem_cons.mpr ⟨cc_f12_196, List.forall_mem_cons.mpr ⟨cc_f12_199, List.forall_mem_cons.mpr ⟨cc_f12_202, List.forall_mem_cons.mpr ⟨cc_f12_205, List.forall_mem_cons.mpr ⟨cc_f12_208, List.forall_mem_cons.mpr ⟨cc_f12_211, List.forall_mem_cons.mpr ⟨cc_f12_214, List.forall_mem_cons.mpr ⟨cc_f12_217, List.forall_mem_cons.mpr ⟨cc_f12_220, List.forall_mem_cons.mpr ⟨cc_f12_223, List.forall_mem_cons.mpr ⟨cc_f12_226, List.forall_mem_cons.mpr ⟨cc_f12_229, List.forall_mem_cons.mpr ⟨cc_f12_232, List.forall_mem_cons.mpr ⟨cc_f12_234, List.forall_mem_cons.mpr ⟨cc_f12_237, List.forall_mem_cons.mpr ⟨cc_f12_240, List.forall_mem_cons.mpr ⟨cc_f12_243, List.forall_mem_cons.mpr ⟨cc_f12_246, fun _ h => absurd h List.not_mem_nil⟩⟩⟩⟩⟩⟩⟩⟩⟩⟩⟩⟩⟩⟩⟩⟩⟩⟩⟩⟩⟩⟩⟩⟩⟩⟩⟩⟩⟩⟩⟩⟩⟩⟩⟩⟩⟩⟩⟩⟩⟩⟩⟩⟩⟩⟩⟩⟩⟩⟩⟩⟩⟩⟩⟩⟩⟩⟩⟩⟩⟩⟩⟩⟩⟩⟩⟩⟩⟩⟩⟩⟩
theorem cc_FLok : ∀ (o : Nat), ∀ q ∈ cc_FLs o, cc_flk o q.1 q.2.1 q.2.2
  | 0 => cc_FL0
  | 1 => cc_FL1
  | 2 => cc_FL2
  | 3 => cc_FL3
  | 4 => cc_FL4
  | 5 => cc_FL5
  | 6 => cc_FL6
  | 7 => cc_FL7
  | 8 => cc_FL8
  | 9 => cc_FL9
  | 10 => cc_FL10
  | 11 => cc_FL11
  | 12 => cc_FL12
  | 13 => fun _ h => absurd h List.not_mem_nil
  | _ + 14 => fun _ h => absurd h List.not_mem_nil
def cc_MLs (o : Nat) : List (Nat × Nat) := match o with
  | 0 => [(3, 99)]
  | 1 => [(3, 99), (28, 5)]
  | 2 => [(3, 99)]
  | 3 => [(3, 99), (34, 13)]
  | 4 => [(3, 99), (42, 10)]
  | 5 => [(3, 99)]
  | 6 => [(3, 99), (27, 8)]
  | 7 => [(3, 99)]
  | 8 => [(3, 99)]
  | 9 => [(3, 99)]
  | 10 => [(3, 99)]
  | 11 => [(1, 99), (9, 9), (28, 3), (44, 0), (51, 6), (61, 5), (68, 1), (75, 2), (82, 4), (96, 8), (97, 7)]
  | 12 => [(1, 99)]
  | _ => []
/-- a link to Object's constructor, to a constructor of a nest mate, to Arrays.fill -/
def cc_mlk (o idx x : Nat) : Prop := (x = 99 ∧ Cond.methodLink (cc_rn o) idx Lib.objectInit ∈ lw_tbl) ∨ (x < 13 ∧ ∃ host, Cond.methodLinkNest (cc_rn o) idx (cc_yn x) host ∈ lw_tbl) ∨ (x = 13 ∧ Cond.methodLink (cc_rn o) idx (cc_yn 13) ∈ lw_tbl)
theorem cc_m0_3 : cc_mlk 0 3 99 := Or.inl ⟨rfl, List.mem_of_getElem? (i := 267) (by decide +kernel)⟩
theorem cc_m1_3 : cc_mlk 1 3 99 := Or.inl ⟨rfl, List.mem_of_getElem? (i := 402) (by decide +kernel)⟩
theorem cc_m1_28 : cc_mlk 1 28 5 := Or.inr (Or.inl ⟨by decide, "GlassThreads", List.mem_of_getElem? (i := 404) (by decide +kernel)⟩)
theorem cc_m2_3 : cc_mlk 2 3 99 := Or.inl ⟨rfl, List.mem_of_getElem? (i := 450) (by decide +kernel)⟩
theorem cc_m3_3 : cc_mlk 3 3 99 := Or.inl ⟨rfl, List.mem_of_getElem? (i := 236) (by decide +kernel)⟩
theorem cc_m3_34 : cc_mlk 3 34 13 := Or.inr (Or.inr ⟨rfl, List.mem_of_getElem? (i := 237) (by decide +kernel)⟩)
theorem cc_m4_3 : cc_mlk 4 3 99 := Or.inl ⟨rfl, List.mem_of_getElem? (i := 476) (by decide +kernel)⟩
theorem cc_m4_42 : cc_mlk 4 42 10 := Or.inr (Or.inl ⟨by decide, "GlassThreads", List.mem_of_getElem? (i := 479) (by decide +kernel)⟩)
theorem cc_m5_3 : cc_mlk 5 3 99 := Or.inl ⟨rfl, List.mem_of_getElem? (i := 372) (by decide +kernel)⟩
theorem cc_m6_3 : cc_mlk 6 3 99 := Or.inl ⟨rfl, List.mem_of_getElem? (i := 302) (by decide +kernel)⟩
theorem cc_m6_27 : cc_mlk 6 27 8 := Or.inr (Or.inl ⟨by decide, "GlassThreads", List.mem_of_getElem? (i := 305) (by decide +kernel)⟩)
theorem cc_m7_3 : cc_mlk 7 3 99 := Or.inl ⟨rfl, List.mem_of_getElem? (i := 572) (by decide +kernel)⟩
theorem cc_m8_3 : cc_mlk 8 3 99 := Or.inl ⟨rfl, List.mem_of_getElem? (i := 308) (by decide +kernel)⟩
theorem cc_m9_3 : cc_mlk 9 3 99 := Or.inl ⟨rfl, List.mem_of_getElem? (i := 185) (by decide +kernel)⟩
theorem cc_m10_3 : cc_mlk 10 3 99 := Or.inl ⟨rfl, List.mem_of_getElem? (i := 482) (by decide +kernel)⟩
theorem cc_m11_1 : cc_mlk 11 1 99 := Or.inl ⟨rfl, List.mem_of_getElem? (i := 177) (by decide +kernel)⟩
theorem cc_m11_9 : cc_mlk 11 9 9 := Or.inr (Or.inl ⟨by decide, "GlassThreads", List.mem_of_getElem? (i := 182) (by decide +kernel)⟩)
theorem cc_m11_28 : cc_mlk 11 28 3 := Or.inr (Or.inl ⟨by decide, "GlassThreads", List.mem_of_getElem? (i := 233) (by decide +kernel)⟩)
theorem cc_m11_44 : cc_mlk 11 44 0 := Or.inr (Or.inl ⟨by decide, "GlassThreads", List.mem_of_getElem? (i := 264) (by decide +kernel)⟩)
theorem cc_m11_51 : cc_mlk 11 51 6 := Or.inr (Or.inl ⟨by decide, "GlassThreads", List.mem_of_getElem? (i := 299) (by decide +kernel)⟩)
theorem cc_m11_61 : cc_mlk 11 61 5 := Or.inr (Or.inl ⟨by decide, "GlassThreads", List.mem_of_getElem? (i := 369) (by decide +kernel)⟩)
theorem cc_m11_68 : cc_mlk 11 68 1 := Or.inr (Or.inl ⟨by decide, "GlassThreads", List.mem_of_getElem? (i := 399) (by decide +kernel)⟩)
theorem cc_m11_75 : cc_mlk 11 75 2 := Or.inr (Or.inl ⟨by decide, "GlassThreads", List.mem_of_getElem? (i := 447) (by decide +kernel)⟩)
theorem cc_m11_82 : cc_mlk 11 82 4 := Or.inr (Or.inl ⟨by decide, "GlassThreads", List.mem_of_getElem? (i := 473) (by decide +kernel)⟩)
theorem cc_m11_96 : cc_mlk 11 96 8 := Or.inr (Or.inl ⟨by decide, "GlassThreads", List.mem_of_getElem? (i := 567) (by decide +kernel)⟩)
theorem cc_m11_97 : cc_mlk 11 97 7 := Or.inr (Or.inl ⟨by decide, "GlassThreads", List.mem_of_getElem? (i := 569) (by decide +kernel)⟩)
theorem cc_m12_1 : cc_mlk 12 1 99 := Or.inl ⟨rfl, List.mem_of_getElem? (i := 1570) (by decide +kernel)⟩
theorem cc_ML0 : ∀ q ∈ cc_MLs 0, cc_mlk 0 q.1 q.2 := List.forall_mem_cons.mpr ⟨cc_m0_3, fun _ h => absurd h List.not_mem_nil⟩
theorem cc_ML1 : ∀ q ∈ cc_MLs 1, cc_mlk 1 q.1 q.2 := List.forall_mem_cons.mpr ⟨cc_m1_3, List.forall_mem_cons.mpr ⟨cc_m1_28, fun _ h => absurd h List.not_mem_nil⟩⟩
theorem cc_ML2 : ∀ q ∈ cc_MLs 2, cc_mlk 2 q.1 q.2 := List.forall_mem_cons.mpr ⟨cc_m2_3, fun _ h => absurd h List.not_mem_nil⟩
theorem cc_ML3 : ∀ q ∈ cc_MLs 3, cc_mlk 3 q.1 q.2 := List.forall_mem_cons.mpr ⟨cc_m3_3, List.forall_mem_cons.mpr ⟨cc_m3_34, fun _ h => absurd h List.not_mem_nil⟩⟩
theorem cc_ML4 : ∀ q ∈ cc_MLs 4, cc_mlk 4 q.1 q.2 := List.forall_mem_cons.mpr ⟨cc_m4_3, List.forall_mem_cons.mpr ⟨cc_m4_42, fun _ h => absurd h List.not_mem_nil⟩⟩
theorem cc_ML5 : ∀ q ∈ cc_MLs 5, cc_mlk 5 q.1 q.2 := List.forall_mem_cons.mpr ⟨cc_m5_3, fun _ h => absurd h List.not_mem_nil⟩
theorem cc_ML6 : ∀ q ∈ cc_MLs 6, cc_mlk 6 q.1 q.2 := List.forall_mem_cons.mpr ⟨cc_m6_3, List.forall_mem_cons.mpr ⟨cc_m6_27, fun _ h => absurd h List.not_mem_nil⟩⟩
theorem cc_ML7 : ∀ q ∈ cc_MLs 7, cc_mlk 7 q.1 q.2 := List.forall_mem_cons.mpr ⟨cc_m7_3, fun _ h => absurd h List.not_mem_nil⟩
theorem cc_ML8 : ∀ q ∈ cc_MLs 8, cc_mlk 8 q.1 q.2 := List.forall_mem_cons.mpr ⟨cc_m8_3, fun _ h => absurd h List.not_mem_nil⟩
theorem cc_ML9 : ∀ q ∈ cc_MLs 9, cc_mlk 9 q.1 q.2 := List.forall_mem_cons.mpr ⟨cc_m9_3, fun _ h => absurd h List.not_mem_nil⟩
theorem cc_ML10 : ∀ q ∈ cc_MLs 10, cc_mlk 10 q.1 q.2 := List.forall_mem_cons.mpr ⟨cc_m10_3, fun _ h => absurd h List.not_mem_nil⟩
theorem cc_ML11 : ∀ q ∈ cc_MLs 11, cc_mlk 11 q.1 q.2 := List.forall_mem_cons.mpr ⟨cc_m11_1, List.forall_mem_cons.mpr ⟨cc_m11_9, List.forall_mem_cons.mpr ⟨cc_m11_28, List.forall_mem_cons.mpr ⟨cc_m11_44, List.forall_mem_cons.mpr ⟨cc_m11_51, List.forall_mem_cons.mpr ⟨cc_m11_61, List.forall_mem_cons.mpr ⟨cc_m11_68, List.forall_mem_cons.mpr ⟨cc_m11_75, List.forall_mem_cons.mpr ⟨cc_m11_82, List.forall_mem_cons.mpr ⟨cc_m11_96, List.forall_mem_cons.mpr ⟨cc_m11_97, fun _ h => absurd h List.not_mem_nil⟩⟩⟩⟩⟩⟩⟩⟩⟩⟩⟩
theorem cc_ML12 : ∀ q ∈ cc_MLs 12, cc_mlk 12 q.1 q.2 := List.forall_mem_cons.mpr ⟨cc_m12_1, fun _ h => absurd h List.not_mem_nil⟩
theorem cc_MLok : ∀ (o : Nat), ∀ q ∈ cc_MLs o, cc_mlk o q.1 q.2
  | 0 => cc_ML0
  | 1 => cc_ML1
  | 2 => cc_ML2
  | 3 => cc_ML3
  | 4 => cc_ML4
  | 5 => cc_ML5
  | 6 => cc_ML6
  | 7 => cc_ML7
  | 8 => cc_ML8
  | 9 => cc_ML9
  | 10 => cc_ML10
  | 11 => cc_ML11
  | 12 => cc_ML12
  | 13 => fun _ h => absurd h List.not_mem_nil
  | _ + 14 => fun _ h => absurd h List.not_mem_nil
set_option maxRecDepth 100000 in
theorem cc_q11 : Cond.code (cc_yn 11) (cc_by 11) (cc_ml 11) none ∈ lw_tbl := List.mem_append_right _ (List.mem_append_left _ (List.mem_of_getElem? (i := 31) rfl))
def cc_mf (x : Nat) : Prop := Cond.initialized (cc_rn x) ∈ lw_tbl ∧ (Cond.code (cc_yn x) (cc_by x) (cc_ml x) none ∈ lw_tbl ∧ cc_ml x ≤ 40) ∧ Cond.instanceMethod (cc_yn x) ∈ lw_tbl ∧ Cond.instantiable (cc_rn x) (cc_df x).length ∈ lw_tbl ∧
  ((cc_yn x).cls = cc_rn x ∧ (cc_yn x).name = "<init>" ∧ (cc_yn x).cls ≠ "java/lang/invoke/MethodHandle" ∧ (cc_yn x).cls ≠ "java/lang/invoke/VarHandle" ∧ (parseMethodDescriptor (cc_yn x).desc).map (fun d => d.parameters.length) = some 0)
theorem cc_k11 : cc_mf 11 := ⟨List.mem_of_getElem? (i := 146) (by decide +kernel), ⟨cc_q11, by decide⟩, List.mem_of_getElem? (i := 175) (by decide +kernel), List.mem_of_getElem? (i := 173) (by decide +kernel), by decide +kernel⟩
set_option maxRecDepth 100000 in
theorem cc_q9 : Cond.code (cc_yn 9) (cc_by 9) (cc_ml 9) none ∈ lw_tbl := List.mem_append_right _ (List.mem_append_left _ (List.mem_of_getElem? (i := 39) rfl))
theorem cc_k9 : cc_mf 9 := ⟨List.mem_of_getElem? (i := 147) (by decide +kernel), ⟨cc_q9, by decide⟩, List.mem_of_getElem? (i := 183) (by decide +kernel), List.mem_of_getElem? (i := 181) (by decide +kernel), by decide +kernel⟩
set_option maxRecDepth 100000 in
theorem cc_q3 : Cond.code (cc_yn 3) (cc_by 3) (cc_ml 3) none ∈ lw_tbl := List.mem_append_right _ (List.mem_append_left _ (List.mem_of_getElem? (i := 90) rfl))
theorem cc_k3 : cc_mf 3 := ⟨List.mem_of_getElem? (i := 148) (by decide +kernel), ⟨cc_q3, by decide⟩, List.mem_of_getElem? (i := 234) (by decide +kernel), List.mem_of_getElem? (i := 232) (by decide +kernel), by decide +kernel⟩
set_option maxRecDepth 100000 in
theorem cc_q0 : Cond.code (cc_yn 0) (cc_by 0) (cc_ml 0) none ∈ lw_tbl := List.mem_append_right _ (List.mem_append_left _ (List.mem_of_getElem? (i := 121) rfl))
theorem cc_k0 : cc_mf 0 := ⟨List.mem_of_getElem? (i := 150) (by decide +kernel), ⟨cc_q0, by decide⟩, List.mem_of_getElem? (i := 265) (by decide +kernel), List.mem_of_getElem? (i := 263) (by decide +kernel), by decide +kernel⟩
set_option maxRecDepth 100000 in
theorem cc_q6 : Cond.code (cc_yn 6) (cc_by 6) (cc_ml 6) none ∈ lw_tbl := List.mem_append_right _ (List.mem_append_left _ (List.mem_of_getElem? (i := 156) rfl))
theorem cc_k6 : cc_mf 6 := ⟨List.mem_of_getElem? (i := 151) (by decide +kernel), ⟨cc_q6, by decide⟩, List.mem_of_getElem? (i := 300) (by decide +kernel), List.mem_of_getElem? (i := 298) (by decide +kernel), by decide +kernel⟩
set_option maxRecDepth 100000 in
theorem cc_q8 : Cond.code (cc_yn 8) (cc_by 8) (cc_ml 8) none ∈ lw_tbl := List.mem_append_right _ (List.mem_append_left _ (List.mem_of_getElem? (i := 162) rfl))
theorem cc_k8 : cc_mf 8 := ⟨List.mem_of_getElem? (i := 152) (by decide +kernel), ⟨cc_q8, by decide⟩, List.mem_of_getElem? (i := 306) (by decide +kernel), List.mem_of_getElem? (i := 304) (by decide +kernel), by decide +kernel⟩
set_option maxRecDepth 100000 in
theorem cc_q5 : Cond.code (cc_yn 5) (cc_by 5) (cc_ml 5) none ∈ lw_tbl := List.mem_append_right _ (List.mem_append_left _ (List.mem_of_getElem? (i := 226) rfl))
theorem cc_k5 : cc_mf 5 := ⟨List.mem_of_getElem? (i := 153) (by decide +kernel), ⟨cc_q5, by decide⟩, List.mem_of_getElem? (i := 370) (by decide +kernel), List.mem_of_getElem? (i := 368) (by decide +kernel), by decide +kernel⟩
set_option maxRecDepth 100000 in
theorem cc_q1 : Cond.code (cc_yn 1) (cc_by 1) (cc_ml 1) none ∈ lw_tbl := List.mem_append_right _ (List.mem_append_right _ (List.mem_append_left _ (List.mem_of_getElem? (i := 16) rfl)))
theorem cc_k1 : cc_mf 1 := ⟨List.mem_of_getElem? (i := 154) (by decide +kernel), ⟨cc_q1, by decide⟩, List.mem_of_getElem? (i := 400) (by decide +kernel), List.mem_of_getElem? (i := 398) (by decide +kernel), by decide +kernel⟩
set_option maxRecDepth 100000 in
theorem cc_q2 : Cond.code (cc_yn 2) (cc_by 2) (cc_ml 2) none ∈ lw_tbl := List.mem_append_right _ (List.mem_append_right _ (List.mem_append_left _ (List.mem_of_getElem? (i := 64) rfl)))
theorem cc_k2 : cc_mf 2 := ⟨List.mem_of_getElem? (i := 155) (by decide +kernel), ⟨cc_q2, by decide⟩, List.mem_of_getElem? (i := 448) (by decide +kernel), List.mem_of_getElem? (i := 446) (by decide +kernel), by decide +kernel⟩
set_option maxRecDepth 100000 in
theorem cc_q4 : Cond.code (cc_yn 4) (cc_by 4) (cc_ml 4) none ∈ lw_tbl := List.mem_append_right _ (List.mem_append_right _ (List.mem_append_left _ (List.mem_of_getElem? (i := 90) rfl)))
theorem cc_k4 : cc_mf 4 := ⟨List.mem_of_getElem? (i := 156) (by decide +kernel), ⟨cc_q4, by decide⟩, List.mem_of_getElem? (i := 474) (by decide +kernel), List.mem_of_getElem? (i := 472) (by decide +kernel), by decide +kernel⟩
set_option maxRecDepth 100000 in
theorem cc_q10 : Cond.code (cc_yn 10) (cc_by 10) (cc_ml 10) none ∈ lw_tbl := List.mem_append_right _ (List.mem_append_right _ (List.mem_append_left _ (List.mem_of_getElem? (i := 96) rfl)))
theorem cc_k10 : cc_mf 10 := ⟨List.mem_of_getElem? (i := 157) (by decide +kernel), ⟨cc_q10, by decide⟩, List.mem_of_getElem? (i := 480) (by decide +kernel), List.mem_of_getElem? (i := 478) (by decide +kernel), by decide +kernel⟩
set_option maxRecDepth 100000 in
theorem cc_q7 : Cond.code (cc_yn 7) (cc_by 7) (cc_ml 7) none ∈ lw_tbl := List.mem_append_right _ (List.mem_append_right _ (List.mem_append_left _ (List.mem_of_getElem? (i := 186) rfl)))
theorem cc_k7 : cc_mf 7 := ⟨List.mem_of_getElem? (i := 158) (by decide +kernel), ⟨cc_q7, by decide⟩, List.mem_of_getElem? (i := 570) (by decide +kernel), List.mem_of_getElem? (i := 568) (by decide +kernel), by decide +kernel⟩
set_option maxRecDepth 100000 in
theorem cc_q12 : Cond.code (cc_yn 12) (cc_by 12) (cc_ml 12) none ∈ lw_tbl := List.mem_append_right _ (List.mem_append_right _ (List.mem_append_right _ (List.mem_append_right _ (List.mem_append_right _ (List.mem_append_right _ (List.mem_append_left _ (List.mem_of_getElem? (i := 224) rfl)))))))
theorem cc_k12 : cc_mf 12 := ⟨List.mem_of_getElem? (i := 159) (by decide +kernel), ⟨cc_q12, by decide⟩, List.mem_of_getElem? (i := 1568) (by decide +kernel), List.mem_of_getElem? (i := 1566) (by decide +kernel), by decide +kernel⟩
theorem cc_kok : ∀ (x : Nat), x < 13 → cc_mf x
  | 0, _ => cc_k0
  | 1, _ => cc_k1
  | 2, _ => cc_k2
  | 3, _ => cc_k3
  | 4, _ => cc_k4
  | 5, _ => cc_k5
  | 6, _ => cc_k6
  | 7, _ => cc_k7
  | 8, _ => cc_k8
  | 9, _ => cc_k9
  | 10, _ => cc_k10
  | 11, _ => cc_k11
  | 12, _ => cc_k12
  | n + 13, h => absurd h (by omega)
def cc_CLs (o : Nat) : List (Nat × Nat) := match o with
  | 1 => [(26, 5)]
  | 2 => [(15, 107)]
  | 4 => [(40, 10)]
  | 6 => [(25, 8)]
  | 11 => [(7, 9), (16, 104), (16, 8), (26, 3), (42, 0), (49, 6), (59, 5), (66, 1), (73, 2), (80, 4), (87, 105), (87, 7)]
  | 12 => [(7, 106)]
  | _ => []
def cc_cn (x : Nat) : String := match x with
  | 104 => "GlassThreads$Strand"
  | 105 => "GlassThreads$Sheet"
  | 106 => "java/lang/String"
  | 107 => "[[I"
  | x => cc_rn x
def cc_clk (o idx x : Nat) : Prop := Cond.classLink (cc_rn o) idx (cc_cn x) ∈ lw_tbl
theorem cc_l1_26_5 : cc_clk 1 26 5 := List.mem_of_getElem? (i := 403) (by decide +kernel)
theorem cc_l2_15_107 : cc_clk 2 15 107 := List.mem_of_getElem? (i := 451) (by decide +kernel)
theorem cc_l4_40_10 : cc_clk 4 40 10 := List.mem_of_getElem? (i := 477) (by decide +kernel)
theorem cc_l6_25_8 : cc_clk 6 25 8 := List.mem_of_getElem? (i := 303) (by decide +kernel)
theorem cc_l11_7_9 : cc_clk 11 7 9 := List.mem_of_getElem? (i := 180) (by decide +kernel)
theorem cc_l11_16_104 : cc_clk 11 16 104 := List.mem_of_getElem? (i := 229) (by decide +kernel)
theorem cc_l11_16_8 : cc_clk 11 16 8 := List.mem_of_getElem? (i := 229) (by decide +kernel)
theorem cc_l11_26_3 : cc_clk 11 26 3 := List.mem_of_getElem? (i := 231) (by decide +kernel)
theorem cc_l11_42_0 : cc_clk 11 42 0 := List.mem_of_getElem? (i := 262) (by decide +kernel)
theorem cc_l11_49_6 : cc_clk 11 49 6 := List.mem_of_getElem? (i := 297) (by decide +kernel)
theorem cc_l11_59_5 : cc_clk 11 59 5 := List.mem_of_getElem? (i := 367) (by decide +kernel)
theorem cc_l11_66_1 : cc_clk 11 66 1 := List.mem_of_getElem? (i := 397) (by decide +kernel)
theorem cc_l11_73_2 : cc_clk 11 73 2 := List.mem_of_getElem? (i := 445) (by decide +kernel)
theorem cc_l11_80_4 : cc_clk 11 80 4 := List.mem_of_getElem? (i := 471) (by decide +kernel)
theorem cc_l11_87_105 : cc_clk 11 87 105 := List.mem_of_getElem? (i := 565) (by decide +kernel)
theorem cc_l11_87_7 : cc_clk 11 87 7 := List.mem_of_getElem? (i := 565) (by decide +kernel)
theorem cc_l12_7_106 : cc_clk 12 7 106 := List.mem_of_getElem? (i := 1571) (by decide +kernel)
theorem cc_CL1 : ∀ q ∈ cc_CLs 1, cc_clk 1 q.1 q.2 := List.forall_mem_cons.mpr ⟨cc_l1_26_5, fun _ h => absurd h List.not_mem_nil⟩
theorem cc_CL2 : ∀ q ∈ cc_CLs 2, cc_clk 2 q.1 q.2 := List.forall_mem_cons.mpr ⟨cc_l2_15_107, fun _ h => absurd h List.not_mem_nil⟩
theorem cc_CL4 : ∀ q ∈ cc_CLs 4, cc_clk 4 q.1 q.2 := List.forall_mem_cons.mpr ⟨cc_l4_40_10, fun _ h => absurd h List.not_mem_nil⟩
theorem cc_CL6 : ∀ q ∈ cc_CLs 6, cc_clk 6 q.1 q.2 := List.forall_mem_cons.mpr ⟨cc_l6_25_8, fun _ h => absurd h List.not_mem_nil⟩
theorem cc_CL11 : ∀ q ∈ cc_CLs 11, cc_clk 11 q.1 q.2 := List.forall_mem_cons.mpr ⟨cc_l11_7_9, List.forall_mem_cons.mpr ⟨cc_l11_16_104, List.forall_mem_cons.mpr ⟨cc_l11_16_8, List.forall_mem_cons.mpr ⟨cc_l11_26_3, List.forall_mem_cons.mpr ⟨cc_l11_42_0, List.forall_mem_cons.mpr ⟨cc_l11_49_6, List.forall_mem_cons.mpr ⟨cc_l11_59_5, List.forall_mem_cons.mpr ⟨cc_l11_66_1, List.forall_mem_cons.mpr ⟨cc_l11_73_2, List.forall_mem_cons.mpr ⟨cc_l11_80_4, List.forall_mem_cons.mpr ⟨cc_l11_87_105, List.forall_mem_cons.mpr ⟨cc_l11_87_7, fun _ h => absurd h List.not_mem_nil⟩⟩⟩⟩⟩⟩⟩⟩⟩⟩⟩⟩
theorem cc_CL12 : ∀ q ∈ cc_CLs 12, cc_clk 12 q.1 q.2 := List.forall_mem_cons.mpr ⟨cc_l12_7_106, fun _ h => absurd h List.not_mem_nil⟩
theorem cc_CLok : ∀ (o : Nat), ∀ q ∈ cc_CLs o, cc_clk o q.1 q.2
  | 0 => fun _ h => absurd h List.not_mem_nil
  | 1 => cc_CL1
  | 2 => cc_CL2
  | 3 => fun _ h => absurd h List.not_mem_nil
  | 4 => cc_CL4
  | 5 => fun _ h => absurd h List.not_mem_nil
  | 6 => cc_CL6
  | 7 => fun _ h => absurd h List.not_mem_nil
  | 8 => fun _ h => absurd h List.not_mem_nil
  | 9 => fun _ h => absurd h List.not_mem_nil
  | 10 => fun _ h => absurd h List.not_mem_nil
  | 11 => cc_CL11
  | 12 => cc_CL12
  | 13 => fun _ h => absurd h List.not_mem_nil
  | _ + 14 => fun _ h => absurd h List.not_mem_nil
theorem cc_waI : Cond.arrayClass .int ∈ lw_tbl := List.mem_of_getElem? (i := 228) (by decide +kernel)
theorem cc_waB : Cond.arrayClass .byte ∈ lw_tbl := List.mem_of_getElem? (i := 227) (by decide +kernel)
theorem cc_waZ : Cond.arrayClass .boolean ∈ lw_tbl := List.mem_of_getElem? (i := 345) (by decide +kernel)
theorem cc_waJ : Cond.arrayClass .long ∈ lw_tbl := List.mem_of_getElem? (i := 2296) (by decide +kernel)
theorem cc_woS : Cond.arrayOver (.object "GlassThreads$Strand") ∈ lw_tbl := List.mem_of_getElem? (i := 230) (by decide +kernel)
theorem cc_woH : Cond.arrayOver (.object "GlassThreads$Sheet") ∈ lw_tbl := List.mem_of_getElem? (i := 566) (by decide +kernel)
theorem cc_woT : Cond.arrayOver (.object "java/lang/String") ∈ lw_tbl := List.mem_of_getElem? (i := 1572) (by decide +kernel)
theorem cc_woI : Cond.arrayOver (.array .int) ∈ lw_tbl := List.mem_of_getElem? (i := 452) (by decide +kernel)
theorem cc_wOi : Cond.instanceMethod Lib.objectInit ∈ lw_tbl := List.mem_of_getElem? (i := 178) (by decide +kernel)
theorem cc_wOc : Cond.code Lib.objectInit ⟨#[0xb1]⟩ 1 none ∈ lw_tbl := List.mem_of_getElem? (i := 179) (by decide +kernel)
