/-! what fields, methods, constants rest on: words of the tables, by their places (by program: wip/gen/gen_links.py) -/
def mm_FLs (o : Nat) : List (Nat × Nat × Nat) := match o with
  | 0 => [(11, 0, 0), (15, 0, 1), (18, 0, 2), (21, 0, 3), (24, 0, 4), (27, 0, 5), (30, 0, 6), (33, 0, 7), (36, 0, 8)]
  | 1 => [(9, 1, 0), (15, 1, 1), (19, 1, 2), (22, 1, 3), (29, 1, 4), (33, 1, 5), (36, 1, 6), (39, 1, 7), (42, 1, 8), (45, 1, 9), (48, 1, 10), (51, 5, 3), (70, 6, 0)]
  | 2 => [(11, 2, 0), (17, 2, 1), (20, 2, 2), (23, 2, 3), (26, 2, 4)]
  | 3 => [(9, 3, 0), (15, 3, 1), (18, 3, 2), (22, 3, 3), (25, 3, 4), (28, 3, 5), (31, 3, 6), (40, 9, 7), (101, 9, 8), (104, 8, 0), (109, 8, 1), (116, 8, 3)]
  | 4 => [(11, 4, 0), (15, 4, 1), (18, 4, 2), (21, 4, 3), (24, 4, 4), (27, 4, 5), (31, 4, 6), (34, 4, 7), (37, 4, 8), (43, 4, 9), (47, 4, 10), (50, 4, 11), (53, 4, 12), (56, 4, 13), (59, 4, 14), (62, 4, 15), (65, 4, 16), (68, 4, 17), (71, 4, 18), (74, 8, 4), (79, 8, 0), (105, 10, 2), (116, 10, 1), (133, 10, 3)]
  | 5 => [(11, 5, 0), (15, 5, 1), (18, 5, 2), (21, 5, 3), (25, 5, 4), (28, 5, 5), (31, 6, 4), (37, 8, 4), (42, 8, 0), (47, 6, 3), (54, 8, 1), (61, 6, 1), (68, 6, 0), (90, 7, 0)]
  | 6 => [(9, 6, 0), (15, 6, 1), (18, 6, 2), (22, 6, 3), (28, 6, 4), (36, 8, 4), (51, 8, 0), (54, 8, 2), (57, 8, 1)]
  | 7 => [(11, 7, 0), (15, 7, 1), (19, 7, 2)]
  | 8 => [(9, 8, 0), (15, 8, 1), (18, 8, 2), (21, 8, 3), (24, 8, 4), (35, 9, 7), (72, 9, 8)]
  | 9 => [(9, 9, 0), (15, 9, 1), (19, 9, 2), (23, 9, 3), (26, 9, 4), (29, 9, 5), (32, 9, 6), (35, 9, 7), (38, 9, 8), (41, 9, 9), (44, 9, 10)]
  | 10 => [(9, 10, 0), (15, 10, 1), (19, 10, 2), (22, 10, 3)]
  | 11 => [(10, 11, 0), (18, 11, 1), (22, 11, 2), (29, 11, 3), (33, 11, 4), (36, 11, 5), (39, 11, 6), (45, 11, 7), (52, 11, 8), (56, 11, 9), (62, 11, 10), (69, 11, 11), (76, 11, 12), (83, 11, 13), (89, 11, 14), (93, 11, 15), (98, 9, 1), (115, 9, 10), (116, 9, 9), (119, 8, 5), (127, 8, 4), (134, 8, 0), (138, 8, 1), (141, 8, 2), (179, 0, 8), (227, 5, 3), (230, 5, 0), (233, 5, 1), (236, 5, 2), (245, 1, 0), (264, 1, 7), (269, 1, 8), (272, 1, 9), (275, 1, 10), (324, 2, 4), (325, 2, 3), (347, 4, 12), (351, 10, 1), (354, 4, 13), (359, 10, 0), (366, 4, 8), (371, 4, 18), (374, 4, 17), (385, 7, 1), (388, 7, 2), (396, 7, 0), (416, 4, 5), (418, 1, 3)]
  | 12 => [(19, 12, 0), (33, 12, 1), (38, 12, 2), (41, 12, 7), (45, 12, 8), (48, 12, 9), (51, 12, 10), (54, 12, 11), (57, 12, 12), (59, 12, 13), (62, 12, 14), (65, 12, 15), (68, 12, 16), (71, 12, 17), (74, 12, 18), (77, 12, 19), (80, 12, 20), (83, 12, 31), (87, 12, 33), (90, 12, 34), (93, 12, 35), (96, 12, 36), (99, 12, 37), (102, 12, 38), (106, 12, 39), (109, 12, 40), (112, 12, 41), (115, 12, 42), (118, 12, 43), (121, 12, 47), (124, 12, 48), (127, 12, 49), (130, 12, 50), (133, 12, 51), (136, 12, 52), (139, 12, 53), (142, 12, 54), (145, 12, 55), (148, 12, 56), (151, 12, 59), (154, 12, 60), (157, 12, 61), (160, 12, 67), (163, 12, 68), (166, 12, 69), (169, 12, 70), (172, 12, 71), (175, 12, 73), (178, 12, 74), (181, 12, 75), (184, 12, 76), (187, 12, 81), (190, 12, 82), (193, 12, 83), (196, 12, 84), (199, 12, 85), (202, 12, 86), (205, 12, 87), (208, 12, 88), (211, 12, 89), (214, 12, 90), (217, 12, 91), (220, 12, 92), (223, 12, 93), (226, 12, 95), (229, 12, 96), (232, 12, 97), (234, 12, 98), (237, 12, 100), (240, 12, 101), (243, 12, 102), (246, 12, 103), (249, 12, 3), (252, 12, 21), (255, 12, 23), (257, 12, 22), (264, 12, 27), (267, 12, 25), (270, 12, 24), (280, 12, 26), (290, 12, 28), (293, 12, 29), (299, 12, 30), (337, 12, 4), (347, 12, 32), (401, 12, 5), (404, 12, 6), (451, 12, 44), (454, 12, 58), (461, 12, 45), (477, 12, 46), (481, 12, 57), (484, 12, 62), (487, 12, 63), (490, 12, 64), (493, 12, 65), (499, 12, 66), (514, 12, 72), (520, 12, 77), (523, 12, 78), (526, 12, 79), (545, 12, 80), (554, 12, 94), (563, 12, 99)]
  | _ => []
theorem mm_f0_11 : mm_flk 0 11 0 0 := ⟨RX0, TX0, 9, rfl, Nat.le_of_ble_eq_true rfl, rfl, Or.inl (List.mem_of_getElem? (i := 268) (by decide +kernel))⟩
theorem mm_f0_15 : mm_flk 0 15 0 1 := ⟨RX0, TX0, 9, rfl, Nat.le_of_ble_eq_true rfl, rfl, Or.inl (List.mem_of_getElem? (i := 269) (by decide +kernel))⟩
theorem mm_f0_18 : mm_flk 0 18 0 2 := ⟨RX0, TX0, 9, rfl, Nat.le_of_ble_eq_true rfl, rfl, Or.inl (List.mem_of_getElem? (i := 270) (by decide +kernel))⟩
theorem mm_f0_21 : mm_flk 0 21 0 3 := ⟨RX0, TX0, 9, rfl, Nat.le_of_ble_eq_true rfl, rfl, Or.inl (List.mem_of_getElem? (i := 271) (by decide +kernel))⟩
theorem mm_f0_24 : mm_flk 0 24 0 4 := ⟨RX0, TX0, 9, rfl, Nat.le_of_ble_eq_true rfl, rfl, Or.inl (List.mem_of_getElem? (i := 272) (by decide +kernel))⟩
theorem mm_f0_27 : mm_flk 0 27 0 5 := ⟨RX0, TX0, 9, rfl, Nat.le_of_ble_eq_true rfl, rfl, Or.inl (List.mem_of_getElem? (i := 273) (by decide +kernel))⟩
theorem mm_f0_30 : mm_flk 0 30 0 6 := ⟨RX0, TX0, 9, rfl, Nat.le_of_ble_eq_true rfl, rfl, Or.inl (List.mem_of_getElem? (i := 274) (by decide +kernel))⟩
theorem mm_f0_33 : mm_flk 0 33 0 7 := ⟨RX0, TX0, 9, rfl, Nat.le_of_ble_eq_true rfl, rfl, Or.inl (List.mem_of_getElem? (i := 275) (by decide +kernel))⟩
theorem mm_f0_36 : mm_flk 0 36 0 8 := ⟨RX0, TX0, 9, rfl, Nat.le_of_ble_eq_true rfl, rfl, Or.inl (List.mem_of_getElem? (i := 276) (by decide +kernel))⟩
theorem mm_FL0 : ∀ q ∈ mm_FLs 0, mm_flk 0 q.1 q.2.1 q.2.2 := List.forall_mem_cons.mpr ⟨mm_f0_11, List.forall_mem_cons.mpr ⟨mm_f0_15, List.forall_mem_cons.mpr ⟨mm_f0_18, List.forall_mem_cons.mpr ⟨mm_f0_21, List.forall_mem_cons.mpr ⟨mm_f0_24, List.forall_mem_cons.mpr ⟨mm_f0_27, List.forall_mem_cons.mpr ⟨mm_f0_30, List.forall_mem_cons.mpr ⟨mm_f0_33, List.forall_mem_cons.mpr ⟨mm_f0_36, fun _ h => absurd h List.not_mem_nil⟩⟩⟩⟩⟩⟩⟩⟩⟩
theorem mm_f1_9 : mm_flk 1 9 1 0 := ⟨RX1, TX1, 11, rfl, Nat.le_of_ble_eq_true rfl, rfl, Or.inl (List.mem_of_getElem? (i := 405) (by decide +kernel))⟩
theorem mm_f1_15 : mm_flk 1 15 1 1 := ⟨RX1, TX1, 11, rfl, Nat.le_of_ble_eq_true rfl, rfl, Or.inl (List.mem_of_getElem? (i := 407) (by decide +kernel))⟩
theorem mm_f1_19 : mm_flk 1 19 1 2 := ⟨RX1, TX1, 11, rfl, Nat.le_of_ble_eq_true rfl, rfl, Or.inl (List.mem_of_getElem? (i := 408) (by decide +kernel))⟩
theorem mm_f1_22 : mm_flk 1 22 1 3 := ⟨RX1, TX1, 11, rfl, Nat.le_of_ble_eq_true rfl, rfl, Or.inl (List.mem_of_getElem? (i := 409) (by decide +kernel))⟩
theorem mm_f1_29 : mm_flk 1 29 1 4 := ⟨RX1, TX1, 11, rfl, Nat.le_of_ble_eq_true rfl, rfl, Or.inl (List.mem_of_getElem? (i := 411) (by decide +kernel))⟩
theorem mm_f1_33 : mm_flk 1 33 1 5 := ⟨RX1, TX1, 11, rfl, Nat.le_of_ble_eq_true rfl, rfl, Or.inl (List.mem_of_getElem? (i := 412) (by decide +kernel))⟩
theorem mm_f1_36 : mm_flk 1 36 1 6 := ⟨RX1, TX1, 11, rfl, Nat.le_of_ble_eq_true rfl, rfl, Or.inl (List.mem_of_getElem? (i := 413) (by decide +kernel))⟩
theorem mm_f1_39 : mm_flk 1 39 1 7 := ⟨RX1, TX1, 11, rfl, Nat.le_of_ble_eq_true rfl, rfl, Or.inl (List.mem_of_getElem? (i := 414) (by decide +kernel))⟩
theorem mm_f1_42 : mm_flk 1 42 1 8 := ⟨RX1, TX1, 11, rfl, Nat.le_of_ble_eq_true rfl, rfl, Or.inl (List.mem_of_getElem? (i := 416) (by decide +kernel))⟩
theorem mm_f1_45 : mm_flk 1 45 1 9 := ⟨RX1, TX1, 11, rfl, Nat.le_of_ble_eq_true rfl, rfl, Or.inl (List.mem_of_getElem? (i := 418) (by decide +kernel))⟩
theorem mm_f1_48 : mm_flk 1 48 1 10 := ⟨RX1, TX1, 11, rfl, Nat.le_of_ble_eq_true rfl, rfl, Or.inl (List.mem_of_getElem? (i := 420) (by decide +kernel))⟩
theorem mm_f1_51 : mm_flk 1 51 5 3 := ⟨RX5, TX5, 6, rfl, Nat.le_of_ble_eq_true rfl, rfl, Or.inr ⟨"GlassThreads", List.mem_of_getElem? (i := 380) (by decide +kernel)⟩⟩
theorem mm_f1_70 : mm_flk 1 70 6 0 := ⟨RX6, TX6, 5, rfl, Nat.le_of_ble_eq_true rfl, rfl, Or.inr ⟨"GlassThreads", List.mem_of_getElem? (i := 348) (by decide +kernel)⟩⟩
theorem mm_FL1 : ∀ q ∈ mm_FLs 1, mm_flk 1 q.1 q.2.1 q.2.2 := List.forall_mem_cons.mpr ⟨mm_f1_9, List.forall_mem_cons.mpr ⟨mm_f1_15, List.forall_mem_cons.mpr ⟨mm_f1_19, List.forall_mem_cons.mpr ⟨mm_f1_22, List.forall_mem_cons.mpr ⟨mm_f1_29, List.forall_mem_cons.mpr ⟨mm_f1_33, List.forall_mem_cons.mpr ⟨mm_f1_36, List.forall_mem_cons.mpr ⟨mm_f1_39, List.forall_mem_cons.mpr ⟨mm_f1_42, List.forall_mem_cons.mpr ⟨mm_f1_45, List.forall_mem_cons.mpr ⟨mm_f1_48, List.forall_mem_cons.mpr ⟨mm_f1_51, List.forall_mem_cons.mpr ⟨mm_f1_70, fun _ h => absurd h List.not_mem_nil⟩⟩⟩⟩⟩⟩⟩⟩⟩⟩⟩⟩⟩
theorem mm_f2_11 : mm_flk 2 11 2 0 := ⟨RX2, TX2, 5, rfl, Nat.le_of_ble_eq_true rfl, rfl, Or.inl (List.mem_of_getElem? (i := 453) (by decide +kernel))⟩
theorem mm_f2_17 : mm_flk 2 17 2 1 := ⟨RX2, TX2, 5, rfl, Nat.le_of_ble_eq_true rfl, rfl, Or.inl (List.mem_of_getElem? (i := 454) (by decide +kernel))⟩
theorem mm_f2_20 : mm_flk 2 20 2 2 := ⟨RX2, TX2, 5, rfl, Nat.le_of_ble_eq_true rfl, rfl, Or.inl (List.mem_of_getElem? (i := 455) (by decide +kernel))⟩
theorem mm_f2_23 : mm_flk 2 23 2 3 := ⟨RX2, TX2, 5, rfl, Nat.le_of_ble_eq_true rfl, rfl, Or.inl (List.mem_of_getElem? (i := 456) (by decide +kernel))⟩
theorem mm_f2_26 : mm_flk 2 26 2 4 := ⟨RX2, TX2, 5, rfl, Nat.le_of_ble_eq_true rfl, rfl, Or.inl (List.mem_of_getElem? (i := 458) (by decide +kernel))⟩
theorem mm_FL2 : ∀ q ∈ mm_FLs 2, mm_flk 2 q.1 q.2.1 q.2.2 := List.forall_mem_cons.mpr ⟨mm_f2_11, List.forall_mem_cons.mpr ⟨mm_f2_17, List.forall_mem_cons.mpr ⟨mm_f2_20, List.forall_mem_cons.mpr ⟨mm_f2_23, List.forall_mem_cons.mpr ⟨mm_f2_26, fun _ h => absurd h List.not_mem_nil⟩⟩⟩⟩⟩
theorem mm_f3_9 : mm_flk 3 9 3 0 := ⟨RX3, TX3, 7, rfl, Nat.le_of_ble_eq_true rfl, rfl, Or.inl (List.mem_of_getElem? (i := 240) (by decide +kernel))⟩
theorem mm_f3_15 : mm_flk 3 15 3 1 := ⟨RX3, TX3, 7, rfl, Nat.le_of_ble_eq_true rfl, rfl, Or.inl (List.mem_of_getElem? (i := 241) (by decide +kernel))⟩
theorem mm_f3_18 : mm_flk 3 18 3 2 := ⟨RX3, TX3, 7, rfl, Nat.le_of_ble_eq_true rfl, rfl, Or.inl (List.mem_of_getElem? (i := 242) (by decide +kernel))⟩
theorem mm_f3_22 : mm_flk 3 22 3 3 := ⟨RX3, TX3, 7, rfl, Nat.le_of_ble_eq_true rfl, rfl, Or.inl (List.mem_of_getElem? (i := 243) (by decide +kernel))⟩
theorem mm_f3_25 : mm_flk 3 25 3 4 := ⟨RX3, TX3, 7, rfl, Nat.le_of_ble_eq_true rfl, rfl, Or.inl (List.mem_of_getElem? (i := 244) (by decide +kernel))⟩
theorem mm_f3_28 : mm_flk 3 28 3 5 := ⟨RX3, TX3, 7, rfl, Nat.le_of_ble_eq_true rfl, rfl, Or.inl (List.mem_of_getElem? (i := 245) (by decide +kernel))⟩
theorem mm_f3_31 : mm_flk 3 31 3 6 := ⟨RX3, TX3, 7, rfl, Nat.le_of_ble_eq_true rfl, rfl, Or.inl (List.mem_of_getElem? (i := 246) (by decide +kernel))⟩
theorem mm_f3_40 : mm_flk 3 40 9 7 := ⟨RX9, TX9, 11, rfl, Nat.le_of_ble_eq_true rfl, rfl, Or.inr ⟨"GlassThreads", List.mem_of_getElem? (i := 196) (by decide +kernel)⟩⟩
theorem mm_f3_101 : mm_flk 3 101 9 8 := ⟨RX9, TX9, 11, rfl, Nat.le_of_ble_eq_true rfl, rfl, Or.inr ⟨"GlassThreads", List.mem_of_getElem? (i := 199) (by decide +kernel)⟩⟩
theorem mm_f3_104 : mm_flk 3 104 8 0 := ⟨RX8, TX8, 6, rfl, Nat.le_of_ble_eq_true rfl, rfl, Or.inr ⟨"GlassThreads", List.mem_of_getElem? (i := 314) (by decide +kernel)⟩⟩
theorem mm_f3_109 : mm_flk 3 109 8 1 := ⟨RX8, TX8, 6, rfl, Nat.le_of_ble_eq_true rfl, rfl, Or.inr ⟨"GlassThreads", List.mem_of_getElem? (i := 319) (by decide +kernel)⟩⟩
theorem mm_f3_116 : mm_flk 3 116 8 3 := ⟨RX8, TX8, 6, rfl, Nat.le_of_ble_eq_true rfl, rfl, Or.inr ⟨"GlassThreads", List.mem_of_getElem? (i := 324) (by decide +kernel)⟩⟩
theorem mm_FL3 : ∀ q ∈ mm_FLs 3, mm_flk 3 q.1 q.2.1 q.2.2 := List.forall_mem_cons.mpr ⟨mm_f3_9, List.forall_mem_cons.mpr ⟨mm_f3_15, List.forall_mem_cons.mpr ⟨mm_f3_18, List.forall_mem_cons.mpr ⟨mm_f3_22, List.forall_mem_cons.mpr ⟨mm_f3_25, List.forall_mem_cons.mpr ⟨mm_f3_28, List.forall_mem_cons.mpr ⟨mm_f3_31, List.forall_mem_cons.mpr ⟨mm_f3_40, List.forall_mem_cons.mpr ⟨mm_f3_101, List.forall_mem_cons.mpr ⟨mm_f3_104, List.forall_mem_cons.mpr ⟨mm_f3_109, List.forall_mem_cons.mpr ⟨mm_f3_116, fun _ h => absurd h List.not_mem_nil⟩⟩⟩⟩⟩⟩⟩⟩⟩⟩⟩⟩
theorem mm_f4_11 : mm_flk 4 11 4 0 := ⟨RX4, TX4, 19, rfl, Nat.le_of_ble_eq_true rfl, rfl, Or.inl (List.mem_of_getElem? (i := 501) (by decide +kernel))⟩
theorem mm_f4_15 : mm_flk 4 15 4 1 := ⟨RX4, TX4, 19, rfl, Nat.le_of_ble_eq_true rfl, rfl, Or.inl (List.mem_of_getElem? (i := 502) (by decide +kernel))⟩
theorem mm_f4_18 : mm_flk 4 18 4 2 := ⟨RX4, TX4, 19, rfl, Nat.le_of_ble_eq_true rfl, rfl, Or.inl (List.mem_of_getElem? (i := 503) (by decide +kernel))⟩
theorem mm_f4_21 : mm_flk 4 21 4 3 := ⟨RX4, TX4, 19, rfl, Nat.le_of_ble_eq_true rfl, rfl, Or.inl (List.mem_of_getElem? (i := 504) (by decide +kernel))⟩
theorem mm_f4_24 : mm_flk 4 24 4 4 := ⟨RX4, TX4, 19, rfl, Nat.le_of_ble_eq_true rfl, rfl, Or.inl (List.mem_of_getElem? (i := 505) (by decide +kernel))⟩
theorem mm_f4_27 : mm_flk 4 27 4 5 := ⟨RX4, TX4, 19, rfl, Nat.le_of_ble_eq_true rfl, rfl, Or.inl (List.mem_of_getElem? (i := 506) (by decide +kernel))⟩
theorem mm_f4_31 : mm_flk 4 31 4 6 := ⟨RX4, TX4, 19, rfl, Nat.le_of_ble_eq_true rfl, rfl, Or.inl (List.mem_of_getElem? (i := 508) (by decide +kernel))⟩
theorem mm_f4_34 : mm_flk 4 34 4 7 := ⟨RX4, TX4, 19, rfl, Nat.le_of_ble_eq_true rfl, rfl, Or.inl (List.mem_of_getElem? (i := 509) (by decide +kernel))⟩
theorem mm_f4_37 : mm_flk 4 37 4 8 := ⟨RX4, TX4, 19, rfl, Nat.le_of_ble_eq_true rfl, rfl, Or.inl (List.mem_of_getElem? (i := 510) (by decide +kernel))⟩
theorem mm_f4_43 : mm_flk 4 43 4 9 := ⟨RX4, TX4, 19, rfl, Nat.le_of_ble_eq_true rfl, rfl, Or.inl (List.mem_of_getElem? (i := 512) (by decide +kernel))⟩
theorem mm_f4_47 : mm_flk 4 47 4 10 := ⟨RX4, TX4, 19, rfl, Nat.le_of_ble_eq_true rfl, rfl, Or.inl (List.mem_of_getElem? (i := 513) (by decide +kernel))⟩
theorem mm_f4_50 : mm_flk 4 50 4 11 := ⟨RX4, TX4, 19, rfl, Nat.le_of_ble_eq_true rfl, rfl, Or.inl (List.mem_of_getElem? (i := 514) (by decide +kernel))⟩
theorem mm_f4_53 : mm_flk 4 53 4 12 := ⟨RX4, TX4, 19, rfl, Nat.le_of_ble_eq_true rfl, rfl, Or.inl (List.mem_of_getElem? (i := 515) (by decide +kernel))⟩
theorem mm_f4_56 : mm_flk 4 56 4 13 := ⟨RX4, TX4, 19, rfl, Nat.le_of_ble_eq_true rfl, rfl, Or.inl (List.mem_of_getElem? (i := 517) (by decide +kernel))⟩
theorem mm_f4_59 : mm_flk 4 59 4 14 := ⟨RX4, TX4, 19, rfl, Nat.le_of_ble_eq_true rfl, rfl, Or.inl (List.mem_of_getElem? (i := 519) (by decide +kernel))⟩
theorem mm_f4_62 : mm_flk 4 62 4 15 := ⟨RX4, TX4, 19, rfl, Nat.le_of_ble_eq_true rfl, rfl, Or.inl (List.mem_of_getElem? (i := 520) (by decide +kernel))⟩
theorem mm_f4_65 : mm_flk 4 65 4 16 := ⟨RX4, TX4, 19, rfl, Nat.le_of_ble_eq_true rfl, rfl, Or.inl (List.mem_of_getElem? (i := 521) (by decide +kernel))⟩
theorem mm_f4_68 : mm_flk 4 68 4 17 := ⟨RX4, TX4, 19, rfl, Nat.le_of_ble_eq_true rfl, rfl, Or.inl (List.mem_of_getElem? (i := 522) (by decide +kernel))⟩
theorem mm_f4_71 : mm_flk 4 71 4 18 := ⟨RX4, TX4, 19, rfl, Nat.le_of_ble_eq_true rfl, rfl, Or.inl (List.mem_of_getElem? (i := 524) (by decide +kernel))⟩
theorem mm_f4_74 : mm_flk 4 74 8 4 := ⟨RX8, TX8, 6, rfl, Nat.le_of_ble_eq_true rfl, rfl, Or.inr ⟨"GlassThreads", List.mem_of_getElem? (i := 328) (by decide +kernel)⟩⟩
theorem mm_f4_79 : mm_flk 4 79 8 0 := ⟨RX8, TX8, 6, rfl, Nat.le_of_ble_eq_true rfl, rfl, Or.inr ⟨"GlassThreads", List.mem_of_getElem? (i := 311) (by decide +kernel)⟩⟩
theorem mm_f4_105 : mm_flk 4 105 10 2 := ⟨RX10, TX10, 4, rfl, Nat.le_of_ble_eq_true rfl, rfl, Or.inr ⟨"GlassThreads", List.mem_of_getElem? (i := 489) (by decide +kernel)⟩⟩
theorem mm_f4_116 : mm_flk 4 116 10 1 := ⟨RX10, TX10, 4, rfl, Nat.le_of_ble_eq_true rfl, rfl, Or.inr ⟨"GlassThreads", List.mem_of_getElem? (i := 486) (by decide +kernel)⟩⟩
theorem mm_f4_133 : mm_flk 4 133 10 3 := ⟨RX10, TX10, 4, rfl, Nat.le_of_ble_eq_true rfl, rfl, Or.inr ⟨"GlassThreads", List.mem_of_getElem? (i := 491) (by decide +kernel)⟩⟩
theorem mm_FL4 : ∀ q ∈ mm_FLs 4, mm_flk 4 q.1 q.2.1 q.2.2 := List.forall_mem_cons.mpr ⟨mm_f4_11, List.forall_mem_cons.mpr ⟨mm_f4_15, List.forall_mem_cons.mpr ⟨mm_f4_18, List.forall_mem_cons.mpr ⟨mm_f4_21, List.forall_mem_cons.mpr ⟨mm_f4_24, List.forall_mem_cons.mpr ⟨mm_f4_27, List.forall_mem_cons.mpr ⟨mm_f4_31, List.forall_mem_cons.mpr ⟨mm_f4_34, List.forall_mem_cons.mpr ⟨mm_f4_37, List.forall_mem_cons.mpr ⟨mm_f4_43, List.forall_mem_cons.mpr ⟨mm_f4_47, List.forall_mem_cons.mpr ⟨mm_f4_50, List.forall_mem_cons.mpr ⟨mm_f4_53, List.forall_mem_cons.mpr ⟨mm_f4_56, List.forall_mem_cons.mpr ⟨mm_f4_59, List.forall_mem_cons.mpr ⟨mm_f4_62, List.forall_mem_cons.mpr ⟨mm_f4_65, List.forall_mem_cons.mpr ⟨mm_f4_68, List.forall_mem_cons.mpr ⟨mm_f4_71, List.forall_mem_cons.mpr ⟨mm_f4_74, List.forall_mem_cons.mpr ⟨mm_f4_79, List.forall_mem_cons.mpr ⟨mm_f4_105, List.forall_mem_cons.mpr ⟨mm_f4_116, List.forall_mem_cons.mpr ⟨mm_f4_133, fun _ h => absurd h List.not_mem_nil⟩⟩⟩⟩⟩⟩⟩⟩⟩⟩⟩⟩⟩⟩⟩⟩⟩⟩⟩⟩⟩⟩⟩⟩
theorem mm_f5_11 : mm_flk 5 11 5 0 := ⟨RX5, TX5, 6, rfl, Nat.le_of_ble_eq_true rfl, rfl, Or.inl (List.mem_of_getElem? (i := 373) (by decide +kernel))⟩
theorem mm_f5_15 : mm_flk 5 15 5 1 := ⟨RX5, TX5, 6, rfl, Nat.le_of_ble_eq_true rfl, rfl, Or.inl (List.mem_of_getElem? (i := 375) (by decide +kernel))⟩
theorem mm_f5_18 : mm_flk 5 18 5 2 := ⟨RX5, TX5, 6, rfl, Nat.le_of_ble_eq_true rfl, rfl, Or.inl (List.mem_of_getElem? (i := 377) (by decide +kernel))⟩
theorem mm_f5_21 : mm_flk 5 21 5 3 := ⟨RX5, TX5, 6, rfl, Nat.le_of_ble_eq_true rfl, rfl, Or.inl (List.mem_of_getElem? (i := 379) (by decide +kernel))⟩
theorem mm_f5_25 : mm_flk 5 25 5 4 := ⟨RX5, TX5, 6, rfl, Nat.le_of_ble_eq_true rfl, rfl, Or.inl (List.mem_of_getElem? (i := 382) (by decide +kernel))⟩
theorem mm_f5_28 : mm_flk 5 28 5 5 := ⟨RX5, TX5, 6, rfl, Nat.le_of_ble_eq_true rfl, rfl, Or.inl (List.mem_of_getElem? (i := 383) (by decide +kernel))⟩
theorem mm_f5_31 : mm_flk 5 31 6 4 := ⟨RX6, TX6, 5, rfl, Nat.le_of_ble_eq_true rfl, rfl, Or.inr ⟨"GlassThreads", List.mem_of_getElem? (i := 355) (by decide +kernel)⟩⟩
theorem mm_f5_37 : mm_flk 5 37 8 4 := ⟨RX8, TX8, 6, rfl, Nat.le_of_ble_eq_true rfl, rfl, Or.inr ⟨"GlassThreads", List.mem_of_getElem? (i := 326) (by decide +kernel)⟩⟩
theorem mm_f5_42 : mm_flk 5 42 8 0 := ⟨RX8, TX8, 6, rfl, Nat.le_of_ble_eq_true rfl, rfl, Or.inr ⟨"GlassThreads", List.mem_of_getElem? (i := 310) (by decide +kernel)⟩⟩
theorem mm_f5_47 : mm_flk 5 47 6 3 := ⟨RX6, TX6, 5, rfl, Nat.le_of_ble_eq_true rfl, rfl, Or.inr ⟨"GlassThreads", List.mem_of_getElem? (i := 353) (by decide +kernel)⟩⟩
theorem mm_f5_54 : mm_flk 5 54 8 1 := ⟨RX8, TX8, 6, rfl, Nat.le_of_ble_eq_true rfl, rfl, Or.inr ⟨"GlassThreads", List.mem_of_getElem? (i := 316) (by decide +kernel)⟩⟩
theorem mm_f5_61 : mm_flk 5 61 6 1 := ⟨RX6, TX6, 5, rfl, Nat.le_of_ble_eq_true rfl, rfl, Or.inr ⟨"GlassThreads", List.mem_of_getElem? (i := 350) (by decide +kernel)⟩⟩
theorem mm_f5_68 : mm_flk 5 68 6 0 := ⟨RX6, TX6, 5, rfl, Nat.le_of_ble_eq_true rfl, rfl, Or.inr ⟨"GlassThreads", List.mem_of_getElem? (i := 347) (by decide +kernel)⟩⟩
theorem mm_f5_90 : mm_flk 5 90 7 0 := ⟨RX7, TX7, 3, rfl, Nat.le_of_ble_eq_true rfl, rfl, Or.inr ⟨"GlassThreads", List.mem_of_getElem? (i := 574) (by decide +kernel)⟩⟩
theorem mm_FL5 : ∀ q ∈ mm_FLs 5, mm_flk 5 q.1 q.2.1 q.2.2 := List.forall_mem_cons.mpr ⟨mm_f5_11, List.forall_mem_cons.mpr ⟨mm_f5_15, List.forall_mem_cons.mpr ⟨mm_f5_18, List.forall_mem_cons.mpr ⟨mm_f5_21, List.forall_mem_cons.mpr ⟨mm_f5_25, List.forall_mem_cons.mpr ⟨mm_f5_28, List.forall_mem_cons.mpr ⟨mm_f5_31, List.forall_mem_cons.mpr ⟨mm_f5_37, List.forall_mem_cons.mpr ⟨mm_f5_42, List.forall_mem_cons.mpr ⟨mm_f5_47, List.forall_mem_cons.mpr ⟨mm_f5_54, List.forall_mem_cons.mpr ⟨mm_f5_61, List.forall_mem_cons.mpr ⟨mm_f5_68, List.forall_mem_cons.mpr ⟨mm_f5_90, fun _ h => absurd h List.not_mem_nil⟩⟩⟩⟩⟩⟩⟩⟩⟩⟩⟩⟩⟩⟩
theorem mm_f6_9 : mm_flk 6 9 6 0 := ⟨RX6, TX6, 5, rfl, Nat.le_of_ble_eq_true rfl, rfl, Or.inl (List.mem_of_getElem? (i := 346) (by decide +kernel))⟩
theorem mm_f6_15 : mm_flk 6 15 6 1 := ⟨RX6, TX6, 5, rfl, Nat.le_of_ble_eq_true rfl, rfl, Or.inl (List.mem_of_getElem? (i := 349) (by decide +kernel))⟩
theorem mm_f6_18 : mm_flk 6 18 6 2 := ⟨RX6, TX6, 5, rfl, Nat.le_of_ble_eq_true rfl, rfl, Or.inl (List.mem_of_getElem? (i := 351) (by decide +kernel))⟩
theorem mm_f6_22 : mm_flk 6 22 6 3 := ⟨RX6, TX6, 5, rfl, Nat.le_of_ble_eq_true rfl, rfl, Or.inl (List.mem_of_getElem? (i := 352) (by decide +kernel))⟩
theorem mm_f6_28 : mm_flk 6 28 6 4 := ⟨RX6, TX6, 5, rfl, Nat.le_of_ble_eq_true rfl, rfl, Or.inl (List.mem_of_getElem? (i := 354) (by decide +kernel))⟩
theorem mm_f6_36 : mm_flk 6 36 8 4 := ⟨RX8, TX8, 6, rfl, Nat.le_of_ble_eq_true rfl, rfl, Or.inr ⟨"GlassThreads", List.mem_of_getElem? (i := 327) (by decide +kernel)⟩⟩
theorem mm_f6_51 : mm_flk 6 51 8 0 := ⟨RX8, TX8, 6, rfl, Nat.le_of_ble_eq_true rfl, rfl, Or.inr ⟨"GlassThreads", List.mem_of_getElem? (i := 312) (by decide +kernel)⟩⟩
theorem mm_f6_54 : mm_flk 6 54 8 2 := ⟨RX8, TX8, 6, rfl, Nat.le_of_ble_eq_true rfl, rfl, Or.inr ⟨"GlassThreads", List.mem_of_getElem? (i := 321) (by decide +kernel)⟩⟩
theorem mm_f6_57 : mm_flk 6 57 8 1 := ⟨RX8, TX8, 6, rfl, Nat.le_of_ble_eq_true rfl, rfl, Or.inr ⟨"GlassThreads", List.mem_of_getElem? (i := 318) (by decide +kernel)⟩⟩
theorem mm_FL6 : ∀ q ∈ mm_FLs 6, mm_flk 6 q.1 q.2.1 q.2.2 := List.forall_mem_cons.mpr ⟨mm_f6_9, List.forall_mem_cons.mpr ⟨mm_f6_15, List.forall_mem_cons.mpr ⟨mm_f6_18, List.forall_mem_cons.mpr ⟨mm_f6_22, List.forall_mem_cons.mpr ⟨mm_f6_28, List.forall_mem_cons.mpr ⟨mm_f6_36, List.forall_mem_cons.mpr ⟨mm_f6_51, List.forall_mem_cons.mpr ⟨mm_f6_54, List.forall_mem_cons.mpr ⟨mm_f6_57, fun _ h => absurd h List.not_mem_nil⟩⟩⟩⟩⟩⟩⟩⟩⟩
theorem mm_f7_11 : mm_flk 7 11 7 0 := ⟨RX7, TX7, 3, rfl, Nat.le_of_ble_eq_true rfl, rfl, Or.inl (List.mem_of_getElem? (i := 573) (by decide +kernel))⟩
theorem mm_f7_15 : mm_flk 7 15 7 1 := ⟨RX7, TX7, 3, rfl, Nat.le_of_ble_eq_true rfl, rfl, Or.inl (List.mem_of_getElem? (i := 576) (by decide +kernel))⟩
theorem mm_f7_19 : mm_flk 7 19 7 2 := ⟨RX7, TX7, 3, rfl, Nat.le_of_ble_eq_true rfl, rfl, Or.inl (List.mem_of_getElem? (i := 578) (by decide +kernel))⟩
theorem mm_FL7 : ∀ q ∈ mm_FLs 7, mm_flk 7 q.1 q.2.1 q.2.2 := List.forall_mem_cons.mpr ⟨mm_f7_11, List.forall_mem_cons.mpr ⟨mm_f7_15, List.forall_mem_cons.mpr ⟨mm_f7_19, fun _ h => absurd h List.not_mem_nil⟩⟩⟩
theorem mm_f8_9 : mm_flk 8 9 8 0 := ⟨RX8, TX8, 6, rfl, Nat.le_of_ble_eq_true rfl, rfl, Or.inl (List.mem_of_getElem? (i := 309) (by decide +kernel))⟩
theorem mm_f8_15 : mm_flk 8 15 8 1 := ⟨RX8, TX8, 6, rfl, Nat.le_of_ble_eq_true rfl, rfl, Or.inl (List.mem_of_getElem? (i := 315) (by decide +kernel))⟩
theorem mm_f8_18 : mm_flk 8 18 8 2 := ⟨RX8, TX8, 6, rfl, Nat.le_of_ble_eq_true rfl, rfl, Or.inl (List.mem_of_getElem? (i := 320) (by decide +kernel))⟩
theorem mm_f8_21 : mm_flk 8 21 8 3 := ⟨RX8, TX8, 6, rfl, Nat.le_of_ble_eq_true rfl, rfl, Or.inl (List.mem_of_getElem? (i := 323) (by decide +kernel))⟩
theorem mm_f8_24 : mm_flk 8 24 8 4 := ⟨RX8, TX8, 6, rfl, Nat.le_of_ble_eq_true rfl, rfl, Or.inl (List.mem_of_getElem? (i := 325) (by decide +kernel))⟩
theorem mm_f8_35 : mm_flk 8 35 9 7 := ⟨RX9, TX9, 11, rfl, Nat.le_of_ble_eq_true rfl, rfl, Or.inr ⟨"GlassThreads", List.mem_of_getElem? (i := 195) (by decide +kernel)⟩⟩
theorem mm_f8_72 : mm_flk 8 72 9 8 := ⟨RX9, TX9, 11, rfl, Nat.le_of_ble_eq_true rfl, rfl, Or.inr ⟨"GlassThreads", List.mem_of_getElem? (i := 198) (by decide +kernel)⟩⟩
theorem mm_FL8 : ∀ q ∈ mm_FLs 8, mm_flk 8 q.1 q.2.1 q.2.2 := List.forall_mem_cons.mpr ⟨mm_f8_9, List.forall_mem_cons.mpr ⟨mm_f8_15, List.forall_mem_cons.mpr ⟨mm_f8_18, List.forall_mem_cons.mpr ⟨mm_f8_21, List.forall_mem_cons.mpr ⟨mm_f8_24, List.forall_mem_cons.mpr ⟨mm_f8_35, List.forall_mem_cons.mpr ⟨mm_f8_72, fun _ h => absurd h List.not_mem_nil⟩⟩⟩⟩⟩⟩⟩
theorem mm_f9_9 : mm_flk 9 9 9 0 := ⟨RX9, TX9, 11, rfl, Nat.le_of_ble_eq_true rfl, rfl, Or.inl (List.mem_of_getElem? (i := 186) (by decide +kernel))⟩
theorem mm_f9_15 : mm_flk 9 15 9 1 := ⟨RX9, TX9, 11, rfl, Nat.le_of_ble_eq_true rfl, rfl, Or.inl (List.mem_of_getElem? (i := 187) (by decide +kernel))⟩
theorem mm_f9_19 : mm_flk 9 19 9 2 := ⟨RX9, TX9, 11, rfl, Nat.le_of_ble_eq_true rfl, rfl, Or.inl (List.mem_of_getElem? (i := 189) (by decide +kernel))⟩
theorem mm_f9_23 : mm_flk 9 23 9 3 := ⟨RX9, TX9, 11, rfl, Nat.le_of_ble_eq_true rfl, rfl, Or.inl (List.mem_of_getElem? (i := 190) (by decide +kernel))⟩
theorem mm_f9_26 : mm_flk 9 26 9 4 := ⟨RX9, TX9, 11, rfl, Nat.le_of_ble_eq_true rfl, rfl, Or.inl (List.mem_of_getElem? (i := 191) (by decide +kernel))⟩
theorem mm_f9_29 : mm_flk 9 29 9 5 := ⟨RX9, TX9, 11, rfl, Nat.le_of_ble_eq_true rfl, rfl, Or.inl (List.mem_of_getElem? (i := 192) (by decide +kernel))⟩
theorem mm_f9_32 : mm_flk 9 32 9 6 := ⟨RX9, TX9, 11, rfl, Nat.le_of_ble_eq_true rfl, rfl, Or.inl (List.mem_of_getElem? (i := 193) (by decide +kernel))⟩
theorem mm_f9_35 : mm_flk 9 35 9 7 := ⟨RX9, TX9, 11, rfl, Nat.le_of_ble_eq_true rfl, rfl, Or.inl (List.mem_of_getElem? (i := 194) (by decide +kernel))⟩
theorem mm_f9_38 : mm_flk 9 38 9 8 := ⟨RX9, TX9, 11, rfl, Nat.le_of_ble_eq_true rfl, rfl, Or.inl (List.mem_of_getElem? (i := 197) (by decide +kernel))⟩
theorem mm_f9_41 : mm_flk 9 41 9 9 := ⟨RX9, TX9, 11, rfl, Nat.le_of_ble_eq_true rfl, rfl, Or.inl (List.mem_of_getElem? (i := 200) (by decide +kernel))⟩
theorem mm_f9_44 : mm_flk 9 44 9 10 := ⟨RX9, TX9, 11, rfl, Nat.le_of_ble_eq_true rfl, rfl, Or.inl (List.mem_of_getElem? (i := 202) (by decide +kernel))⟩
theorem mm_FL9 : ∀ q ∈ mm_FLs 9, mm_flk 9 q.1 q.2.1 q.2.2 := List.forall_mem_cons.mpr ⟨mm_f9_9, List.forall_mem_cons.mpr ⟨mm_f9_15, List.forall_mem_cons.mpr ⟨mm_f9_19, List.forall_mem_cons.mpr ⟨mm_f9_23, List.forall_mem_cons.mpr ⟨mm_f9_26, List.forall_mem_cons.mpr ⟨mm_f9_29, List.forall_mem_cons.mpr ⟨mm_f9_32, List.forall_mem_cons.mpr ⟨mm_f9_35, List.forall_mem_cons.mpr ⟨mm_f9_38, List.forall_mem_cons.mpr ⟨mm_f9_41, List.forall_mem_cons.mpr ⟨mm_f9_44, fun _ h => absurd h List.not_mem_nil⟩⟩⟩⟩⟩⟩⟩⟩⟩⟩⟩
theorem mm_f10_9 : mm_flk 10 9 10 0 := ⟨RX10, TX10, 4, rfl, Nat.le_of_ble_eq_true rfl, rfl, Or.inl (List.mem_of_getElem? (i := 483) (by decide +kernel))⟩
theorem mm_f10_15 : mm_flk 10 15 10 1 := ⟨RX10, TX10, 4, rfl, Nat.le_of_ble_eq_true rfl, rfl, Or.inl (List.mem_of_getElem? (i := 485) (by decide +kernel))⟩
theorem mm_f10_19 : mm_flk 10 19 10 2 := ⟨RX10, TX10, 4, rfl, Nat.le_of_ble_eq_true rfl, rfl, Or.inl (List.mem_of_getElem? (i := 488) (by decide +kernel))⟩
theorem mm_f10_22 : mm_flk 10 22 10 3 := ⟨RX10, TX10, 4, rfl, Nat.le_of_ble_eq_true rfl, rfl, Or.inl (List.mem_of_getElem? (i := 490) (by decide +kernel))⟩
theorem mm_FL10 : ∀ q ∈ mm_FLs 10, mm_flk 10 q.1 q.2.1 q.2.2 := List.forall_mem_cons.mpr ⟨mm_f10_9, List.forall_mem_cons.mpr ⟨mm_f10_15, List.forall_mem_cons.mpr ⟨mm_f10_19, List.forall_mem_cons.mpr ⟨mm_f10_22, fun _ h => absurd h List.not_mem_nil⟩⟩⟩⟩
theorem mm_f11_10 : mm_flk 11 10 11 0 := ⟨RX11, TX11, 16, rfl, Nat.le_of_ble_eq_true rfl, rfl, Or.inl (List.mem_of_getElem? (i := 587) (by decide +kernel))⟩
theorem mm_f11_18 : mm_flk 11 18 11 1 := ⟨RX11, TX11, 16, rfl, Nat.le_of_ble_eq_true rfl, rfl, Or.inl (List.mem_of_getElem? (i := 588) (by decide +kernel))⟩
theorem mm_f11_22 : mm_flk 11 22 11 2 := ⟨RX11, TX11, 16, rfl, Nat.le_of_ble_eq_true rfl, rfl, Or.inl (List.mem_of_getElem? (i := 589) (by decide +kernel))⟩
theorem mm_f11_29 : mm_flk 11 29 11 3 := ⟨RX11, TX11, 16, rfl, Nat.le_of_ble_eq_true rfl, rfl, Or.inl (List.mem_of_getElem? (i := 590) (by decide +kernel))⟩
theorem mm_f11_33 : mm_flk 11 33 11 4 := ⟨RX11, TX11, 16, rfl, Nat.le_of_ble_eq_true rfl, rfl, Or.inl (List.mem_of_getElem? (i := 591) (by decide +kernel))⟩
theorem mm_f11_36 : mm_flk 11 36 11 5 := ⟨RX11, TX11, 16, rfl, Nat.le_of_ble_eq_true rfl, rfl, Or.inl (List.mem_of_getElem? (i := 592) (by decide +kernel))⟩
theorem mm_f11_39 : mm_flk 11 39 11 6 := ⟨RX11, TX11, 16, rfl, Nat.le_of_ble_eq_true rfl, rfl, Or.inl (List.mem_of_getElem? (i := 593) (by decide +kernel))⟩
theorem mm_f11_45 : mm_flk 11 45 11 7 := ⟨RX11, TX11, 16, rfl, Nat.le_of_ble_eq_true rfl, rfl, Or.inl (List.mem_of_getElem? (i := 594) (by decide +kernel))⟩
theorem mm_f11_52 : mm_flk 11 52 11 8 := ⟨RX11, TX11, 16, rfl, Nat.le_of_ble_eq_true rfl, rfl, Or.inl (List.mem_of_getElem? (i := 595) (by decide +kernel))⟩
theorem mm_f11_56 : mm_flk 11 56 11 9 := ⟨RX11, TX11, 16, rfl, Nat.le_of_ble_eq_true rfl, rfl, Or.inl (List.mem_of_getElem? (i := 596) (by decide +kernel))⟩
theorem mm_f11_62 : mm_flk 11 62 11 10 := ⟨RX11, TX11, 16, rfl, Nat.le_of_ble_eq_true rfl, rfl, Or.inl (List.mem_of_getElem? (i := 597) (by decide +kernel))⟩
theorem mm_f11_69 : mm_flk 11 69 11 11 := ⟨RX11, TX11, 16, rfl, Nat.le_of_ble_eq_true rfl, rfl, Or.inl (List.mem_of_getElem? (i := 598) (by decide +kernel))⟩
theorem mm_f11_76 : mm_flk 11 76 11 12 := ⟨RX11, TX11, 16, rfl, Nat.le_of_ble_eq_true rfl, rfl, Or.inl (List.mem_of_getElem? (i := 599) (by decide +kernel))⟩
theorem mm_f11_83 : mm_flk 11 83 11 13 := ⟨RX11, TX11, 16, rfl, Nat.le_of_ble_eq_true rfl, rfl, Or.inl (List.mem_of_getElem? (i := 600) (by decide +kernel))⟩
theorem mm_f11_89 : mm_flk 11 89 11 14 := ⟨RX11, TX11, 16, rfl, Nat.le_of_ble_eq_true rfl, rfl, Or.inl (List.mem_of_getElem? (i := 601) (by decide +kernel))⟩
theorem mm_f11_93 : mm_flk 11 93 11 15 := ⟨RX11, TX11, 16, rfl, Nat.le_of_ble_eq_true rfl, rfl, Or.inl (List.mem_of_getElem? (i := 602) (by decide +kernel))⟩
theorem mm_f11_98 : mm_flk 11 98 9 1 := ⟨RX9, TX9, 11, rfl, Nat.le_of_ble_eq_true rfl, rfl, Or.inr ⟨"GlassThreads", List.mem_of_getElem? (i := 188) (by decide +kernel)⟩⟩
theorem mm_f11_115 : mm_flk 11 115 9 10 := ⟨RX9, TX9, 11, rfl, Nat.le_of_ble_eq_true rfl, rfl, Or.inr ⟨"GlassThreads", List.mem_of_getElem? (i := 203) (by decide +kernel)⟩⟩
theorem mm_f11_116 : mm_flk 11 116 9 9 := ⟨RX9, TX9, 11, rfl, Nat.le_of_ble_eq_true rfl, rfl, Or.inr ⟨"GlassThreads", List.mem_of_getElem? (i := 201) (by decide +kernel)⟩⟩
theorem mm_f11_119 : mm_flk 11 119 8 5 := ⟨RX8, TX8, 6, rfl, Nat.le_of_ble_eq_true rfl, rfl, Or.inr ⟨"GlassThreads", List.mem_of_getElem? (i := 331) (by decide +kernel)⟩⟩
theorem mm_f11_127 : mm_flk 11 127 8 4 := ⟨RX8, TX8, 6, rfl, Nat.le_of_ble_eq_true rfl, rfl, Or.inr ⟨"GlassThreads", List.mem_of_getElem? (i := 329) (by decide +kernel)⟩⟩
theorem mm_f11_134 : mm_flk 11 134 8 0 := ⟨RX8, TX8, 6, rfl, Nat.le_of_ble_eq_true rfl, rfl, Or.inr ⟨"GlassThreads", List.mem_of_getElem? (i := 313) (by decide +kernel)⟩⟩
theorem mm_f11_138 : mm_flk 11 138 8 1 := ⟨RX8, TX8, 6, rfl, Nat.le_of_ble_eq_true rfl, rfl, Or.inr ⟨"GlassThreads", List.mem_of_getElem? (i := 317) (by decide +kernel)⟩⟩
theorem mm_f11_141 : mm_flk 11 141 8 2 := ⟨RX8, TX8, 6, rfl, Nat.le_of_ble_eq_true rfl, rfl, Or.inr ⟨"GlassThreads", List.mem_of_getElem? (i := 322) (by decide +kernel)⟩⟩
theorem mm_f11_179 : mm_flk 11 179 0 8 := ⟨RX0, TX0, 9, rfl, Nat.le_of_ble_eq_true rfl, rfl, Or.inr ⟨"GlassThreads", List.mem_of_getElem? (i := 277) (by decide +kernel)⟩⟩
theorem mm_f11_227 : mm_flk 11 227 5 3 := ⟨RX5, TX5, 6, rfl, Nat.le_of_ble_eq_true rfl, rfl, Or.inr ⟨"GlassThreads", List.mem_of_getElem? (i := 381) (by decide +kernel)⟩⟩
theorem mm_f11_230 : mm_flk 11 230 5 0 := ⟨RX5, TX5, 6, rfl, Nat.le_of_ble_eq_true rfl, rfl, Or.inr ⟨"GlassThreads", List.mem_of_getElem? (i := 374) (by decide +kernel)⟩⟩
theorem mm_f11_233 : mm_flk 11 233 5 1 := ⟨RX5, TX5, 6, rfl, Nat.le_of_ble_eq_true rfl, rfl, Or.inr ⟨"GlassThreads", List.mem_of_getElem? (i := 376) (by decide +kernel)⟩⟩
theorem mm_f11_236 : mm_flk 11 236 5 2 := ⟨RX5, TX5, 6, rfl, Nat.le_of_ble_eq_true rfl, rfl, Or.inr ⟨"GlassThreads", List.mem_of_getElem? (i := 378) (by decide +kernel)⟩⟩
theorem mm_f11_245 : mm_flk 11 245 1 0 := ⟨RX1, TX1, 11, rfl, Nat.le_of_ble_eq_true rfl, rfl, Or.inr ⟨"GlassThreads", List.mem_of_getElem? (i := 406) (by decide +kernel)⟩⟩
theorem mm_f11_264 : mm_flk 11 264 1 7 := ⟨RX1, TX1, 11, rfl, Nat.le_of_ble_eq_true rfl, rfl, Or.inr ⟨"GlassThreads", List.mem_of_getElem? (i := 415) (by decide +kernel)⟩⟩
theorem mm_f11_269 : mm_flk 11 269 1 8 := ⟨RX1, TX1, 11, rfl, Nat.le_of_ble_eq_true rfl, rfl, Or.inr ⟨"GlassThreads", List.mem_of_getElem? (i := 417) (by decide +kernel)⟩⟩
theorem mm_f11_272 : mm_flk 11 272 1 9 := ⟨RX1, TX1, 11, rfl, Nat.le_of_ble_eq_true rfl, rfl, Or.inr ⟨"GlassThreads", List.mem_of_getElem? (i := 419) (by decide +kernel)⟩⟩
theorem mm_f11_275 : mm_flk 11 275 1 10 := ⟨RX1, TX1, 11, rfl, Nat.le_of_ble_eq_true rfl, rfl, Or.inr ⟨"GlassThreads", List.mem_of_getElem? (i := 421) (by decide +kernel)⟩⟩
theorem mm_f11_324 : mm_flk 11 324 2 4 := ⟨RX2, TX2, 5, rfl, Nat.le_of_ble_eq_true rfl, rfl, Or.inr ⟨"GlassThreads", List.mem_of_getElem? (i := 459) (by decide +kernel)⟩⟩
theorem mm_f11_325 : mm_flk 11 325 2 3 := ⟨RX2, TX2, 5, rfl, Nat.le_of_ble_eq_true rfl, rfl, Or.inr ⟨"GlassThreads", List.mem_of_getElem? (i := 457) (by decide +kernel)⟩⟩
theorem mm_f11_347 : mm_flk 11 347 4 12 := ⟨RX4, TX4, 19, rfl, Nat.le_of_ble_eq_true rfl, rfl, Or.inr ⟨"GlassThreads", List.mem_of_getElem? (i := 516) (by decide +kernel)⟩⟩
theorem mm_f11_351 : mm_flk 11 351 10 1 := ⟨RX10, TX10, 4, rfl, Nat.le_of_ble_eq_true rfl, rfl, Or.inr ⟨"GlassThreads", List.mem_of_getElem? (i := 487) (by decide +kernel)⟩⟩
theorem mm_f11_354 : mm_flk 11 354 4 13 := ⟨RX4, TX4, 19, rfl, Nat.le_of_ble_eq_true rfl, rfl, Or.inr ⟨"GlassThreads", List.mem_of_getElem? (i := 518) (by decide +kernel)⟩⟩
theorem mm_f11_359 : mm_flk 11 359 10 0 := ⟨RX10, TX10, 4, rfl, Nat.le_of_ble_eq_true rfl, rfl, Or.inr ⟨"GlassThreads", List.mem_of_getElem? (i := 484) (by decide +kernel)⟩⟩
theorem mm_f11_366 : mm_flk 11 366 4 8 := ⟨RX4, TX4, 19, rfl, Nat.le_of_ble_eq_true rfl, rfl, Or.inr ⟨"GlassThreads", List.mem_of_getElem? (i := 511) (by decide +kernel)⟩⟩
theorem mm_f11_371 : mm_flk 11 371 4 18 := ⟨RX4, TX4, 19, rfl, Nat.le_of_ble_eq_true rfl, rfl, Or.inr ⟨"GlassThreads", List.mem_of_getElem? (i := 525) (by decide +kernel)⟩⟩
theorem mm_f11_374 : mm_flk 11 374 4 17 := ⟨RX4, TX4, 19, rfl, Nat.le_of_ble_eq_true rfl, rfl, Or.inr ⟨"GlassThreads", List.mem_of_getElem? (i := 523) (by decide +kernel)⟩⟩
theorem mm_f11_385 : mm_flk 11 385 7 1 := ⟨RX7, TX7, 3, rfl, Nat.le_of_ble_eq_true rfl, rfl, Or.inr ⟨"GlassThreads", List.mem_of_getElem? (i := 577) (by decide +kernel)⟩⟩
theorem mm_f11_388 : mm_flk 11 388 7 2 := ⟨RX7, TX7, 3, rfl, Nat.le_of_ble_eq_true rfl, rfl, Or.inr ⟨"GlassThreads", List.mem_of_getElem? (i := 579) (by decide +kernel)⟩⟩
theorem mm_f11_396 : mm_flk 11 396 7 0 := ⟨RX7, TX7, 3, rfl, Nat.le_of_ble_eq_true rfl, rfl, Or.inr ⟨"GlassThreads", List.mem_of_getElem? (i := 575) (by decide +kernel)⟩⟩
theorem mm_f11_416 : mm_flk 11 416 4 5 := ⟨RX4, TX4, 19, rfl, Nat.le_of_ble_eq_true rfl, rfl, Or.inr ⟨"GlassThreads", List.mem_of_getElem? (i := 507) (by decide +kernel)⟩⟩
theorem mm_f11_418 : mm_flk 11 418 1 3 := ⟨RX1, TX1, 11, rfl, Nat.le_of_ble_eq_true rfl, rfl, Or.inr ⟨"GlassThreads", List.mem_of_getElem? (i := 410) (by decide +kernel)⟩⟩
theorem mm_FL11 : ∀ q ∈ mm_FLs 11, mm_flk 11 q.1 q.2.1 q.2.2 := List.forall_mem_cons.mpr ⟨mm_f11_10, List.forall_mem_cons.mpr ⟨mm_f11_18, List.forall_mem_cons.mpr ⟨mm_f11_22, List.forall_mem_cons.mpr ⟨mm_f11_29, List.forall_mem_cons.mpr ⟨mm_f11_33, List.forall_mem_cons.mpr ⟨mm_f11_36, List.forall_mem_cons.mpr ⟨mm_f11_39, List.forall_mem_cons.mpr ⟨mm_f11_45, List.forall_mem_cons.mpr ⟨mm_f11_52, List.forall_mem_cons.mpr ⟨mm_f11_56, List.forall_mem_cons.mpr ⟨mm_f11_62, List.forall_mem_cons.mpr ⟨mm_f11_69, List.forall_mem_cons.mpr ⟨mm_f11_76, List.forall_mem_cons.mpr ⟨mm_f11_83, List.forall_mem_cons.mpr ⟨mm_f11_89, List.forall_mem_cons.mpr ⟨mm_f11_93, List.forall_mem_cons.mpr ⟨mm_f11_98, List.forall_mem_cons.mpr ⟨mm_f11_115, List.forall_mem_cons.mpr ⟨mm_f11_116, List.forall_mem_cons.mpr ⟨mm_f11_119, List.forall_mem_cons.mpr ⟨mm_f11_127, List.forall_mem_cons.mpr ⟨mm_f11_134, List.forall_mem_cons.mpr ⟨mm_f11_138, List.forall_mem_cons.mpr ⟨mm_f11_141, List.forall_mem_cons.mpr ⟨mm_f11_179, List.forall_mem_cons.mpr ⟨mm_f11_227, List.forall_mem_cons.mpr ⟨mm_f11_230, List.forall_mem_cons.mpr ⟨mm_f11_233, List.forall_mem_cons.mpr ⟨mm_f11_236, List.forall_mem_cons.mpr ⟨mm_f11_245, List.forall_mem_cons.mpr ⟨mm_f11_264, List.forall_mem_cons.mpr ⟨mm_f11_269, List.forall_mem_cons.mpr ⟨mm_f11_272, List.forall_mem_cons.mpr ⟨mm_f11_275, List.forall_mem_cons.mpr ⟨mm_f11_324, List.forall_mem_cons.mpr ⟨mm_f11_325, List.forall_mem_cons.mpr ⟨mm_f11_347, List.forall_mem_cons.mpr ⟨mm_f11_351, List.forall_mem_cons.mpr ⟨mm_f11_354, List.forall_mem_cons.mpr ⟨mm_f11_359, List.forall_mem_cons.mpr ⟨mm_f11_366, List.forall_mem_cons.mpr ⟨mm_f11_371, List.forall_mem_cons.mpr ⟨mm_f11_374, List.forall_mem_cons.mpr ⟨mm_f11_385, List.forall_mem_cons.mpr ⟨mm_f11_388, List.forall_mem_cons.mpr ⟨mm_f11_396, List.forall_mem_cons.mpr ⟨mm_f11_416, List.forall_mem_cons.mpr ⟨mm_f11_418, fun _ h => absurd h List.not_mem_nil⟩⟩⟩⟩⟩⟩⟩⟩⟩⟩⟩⟩⟩⟩⟩⟩⟩⟩⟩⟩⟩⟩⟩⟩⟩⟩⟩⟩⟩⟩⟩⟩⟩⟩⟩⟩⟩⟩⟩⟩⟩⟩⟩⟩⟩⟩⟩⟩
theorem mm_f12_19 : mm_flk 12 19 12 0 := ⟨RX12, TX12, 104, rfl, Nat.le_of_ble_eq_true rfl, rfl, Or.inl (List.mem_of_getElem? (i := 1583) (by decide +kernel))⟩
theorem mm_f12_33 : mm_flk 12 33 12 1 := ⟨RX12, TX12, 104, rfl, Nat.le_of_ble_eq_true rfl, rfl, Or.inl (List.mem_of_getElem? (i := 1584) (by decide +kernel))⟩
theorem mm_f12_38 : mm_flk 12 38 12 2 := ⟨RX12, TX12, 104, rfl, Nat.le_of_ble_eq_true rfl, rfl, Or.inl (List.mem_of_getElem? (i := 1585) (by decide +kernel))⟩
theorem mm_f12_41 : mm_flk 12 41 12 7 := ⟨RX12, TX12, 104, rfl, Nat.le_of_ble_eq_true rfl, rfl, Or.inl (List.mem_of_getElem? (i := 1590) (by decide +kernel))⟩
theorem mm_f12_45 : mm_flk 12 45 12 8 := ⟨RX12, TX12, 104, rfl, Nat.le_of_ble_eq_true rfl, rfl, Or.inl (List.mem_of_getElem? (i := 1591) (by decide +kernel))⟩
theorem mm_f12_48 : mm_flk 12 48 12 9 := ⟨RX12, TX12, 104, rfl, Nat.le_of_ble_eq_true rfl, rfl, Or.inl (List.mem_of_getElem? (i := 1592) (by decide +kernel))⟩
theorem mm_f12_51 : mm_flk 12 51 12 10 := ⟨RX12, TX12, 104, rfl, Nat.le_of_ble_eq_true rfl, rfl, Or.inl (List.mem_of_getElem? (i := 1593) (by decide +kernel))⟩
theorem mm_f12_54 : mm_flk 12 54 12 11 := ⟨RX12, TX12, 104, rfl, Nat.le_of_ble_eq_true rfl, rfl, Or.inl (List.mem_of_getElem? (i := 1594) (by decide +kernel))⟩
theorem mm_f12_57 : mm_flk 12 57 12 12 := ⟨RX12, TX12, 104, rfl, Nat.le_of_ble_eq_true rfl, rfl, Or.inl (List.mem_of_getElem? (i := 1595) (by decide +kernel))⟩
theorem mm_f12_59 : mm_flk 12 59 12 13 := ⟨RX12, TX12, 104, rfl, Nat.le_of_ble_eq_true rfl, rfl, Or.inl (List.mem_of_getElem? (i := 1596) (by decide +kernel))⟩
theorem mm_f12_62 : mm_flk 12 62 12 14 := ⟨RX12, TX12, 104, rfl, Nat.le_of_ble_eq_true rfl, rfl, Or.inl (List.mem_of_getElem? (i := 1597) (by decide +kernel))⟩
theorem mm_f12_65 : mm_flk 12 65 12 15 := ⟨RX12, TX12, 104, rfl, Nat.le_of_ble_eq_true rfl, rfl, Or.inl (List.mem_of_getElem? (i := 1598) (by decide +kernel))⟩
theorem mm_f12_68 : mm_flk 12 68 12 16 := ⟨RX12, TX12, 104, rfl, Nat.le_of_ble_eq_true rfl, rfl, Or.inl (List.mem_of_getElem? (i := 1599) (by decide +kernel))⟩
theorem mm_f12_71 : mm_flk 12 71 12 17 := ⟨RX12, TX12, 104, rfl, Nat.le_of_ble_eq_true rfl, rfl, Or.inl (List.mem_of_getElem? (i := 1600) (by decide +kernel))⟩
theorem mm_f12_74 : mm_flk 12 74 12 18 := ⟨RX12, TX12, 104, rfl, Nat.le_of_ble_eq_true rfl, rfl, Or.inl (List.mem_of_getElem? (i := 1601) (by decide +kernel))⟩
theorem mm_f12_77 : mm_flk 12 77 12 19 := ⟨RX12, TX12, 104, rfl, Nat.le_of_ble_eq_true rfl, rfl, Or.inl (List.mem_of_getElem? (i := 1602) (by decide +kernel))⟩
theorem mm_f12_80 : mm_flk 12 80 12 20 := ⟨RX12, TX12, 104, rfl, Nat.le_of_ble_eq_true rfl, rfl, Or.inl (List.mem_of_getElem? (i := 1603) (by decide +kernel))⟩
theorem mm_f12_83 : mm_flk 12 83 12 31 := ⟨RX12, TX12, 104, rfl, Nat.le_of_ble_eq_true rfl, rfl, Or.inl (List.mem_of_getElem? (i := 1614) (by decide +kernel))⟩
theorem mm_f12_87 : mm_flk 12 87 12 33 := ⟨RX12, TX12, 104, rfl, Nat.le_of_ble_eq_true rfl, rfl, Or.inl (List.mem_of_getElem? (i := 1616) (by decide +kernel))⟩
theorem mm_f12_90 : mm_flk 12 90 12 34 := ⟨RX12, TX12, 104, rfl, Nat.le_of_ble_eq_true rfl, rfl, Or.inl (List.mem_of_getElem? (i := 1617) (by decide +kernel))⟩
theorem mm_f12_93 : mm_flk 12 93 12 35 := ⟨RX12, TX12, 104, rfl, Nat.le_of_ble_eq_true rfl, rfl, Or.inl (List.mem_of_getElem? (i := 1618) (by decide +kernel))⟩
theorem mm_f12_96 : mm_flk 12 96 12 36 := ⟨RX12, TX12, 104, rfl, Nat.le_of_ble_eq_true rfl, rfl, Or.inl (List.mem_of_getElem? (i := 1619) (by decide +kernel))⟩
theorem mm_f12_99 : mm_flk 12 99 12 37 := ⟨RX12, TX12, 104, rfl, Nat.le_of_ble_eq_true rfl, rfl, Or.inl (List.mem_of_getElem? (i := 1620) (by decide +kernel))⟩
theorem mm_f12_102 : mm_flk 12 102 12 38 := ⟨RX12, TX12, 104, rfl, Nat.le_of_ble_eq_true rfl, rfl, Or.inl (List.mem_of_getElem? (i := 1621) (by decide +kernel))⟩
theorem mm_f12_106 : mm_flk 12 106 12 39 := ⟨RX12, TX12, 104, rfl, Nat.le_of_ble_eq_true rfl, rfl, Or.inl (List.mem_of_getElem? (i := 1622) (by decide +kernel))⟩
theorem mm_f12_109 : mm_flk 12 109 12 40 := ⟨RX12, TX12, 104, rfl, Nat.le_of_ble_eq_true rfl, rfl, Or.inl (List.mem_of_getElem? (i := 1623) (by decide +kernel))⟩
theorem mm_f12_112 : mm_flk 12 112 12 41 := ⟨RX12, TX12, 104, rfl, Nat.le_of_ble_eq_true rfl, rfl, Or.inl (List.mem_of_getElem? (i := 1624) (by decide +kernel))⟩
theorem mm_f12_115 : mm_flk 12 115 12 42 := ⟨RX12, TX12, 104, rfl, Nat.le_of_ble_eq_true rfl, rfl, Or.inl (List.mem_of_getElem? (i := 1625) (by decide +kernel))⟩
theorem mm_f12_118 : mm_flk 12 118 12 43 := ⟨RX12, TX12, 104, rfl, Nat.le_of_ble_eq_true rfl, rfl, Or.inl (List.mem_of_getElem? (i := 1626) (by decide +kernel))⟩
theorem mm_f12_121 : mm_flk 12 121 12 47 := ⟨RX12, TX12, 104, rfl, Nat.le_of_ble_eq_true rfl, rfl, Or.inl (List.mem_of_getElem? (i := 1630) (by decide +kernel))⟩
theorem mm_f12_124 : mm_flk 12 124 12 48 := ⟨RX12, TX12, 104, rfl, Nat.le_of_ble_eq_true rfl, rfl, Or.inl (List.mem_of_getElem? (i := 1631) (by decide +kernel))⟩
theorem mm_f12_127 : mm_flk 12 127 12 49 := ⟨RX12, TX12, 104, rfl, Nat.le_of_ble_eq_true rfl, rfl, Or.inl (List.mem_of_getElem? (i := 1632) (by decide +kernel))⟩
theorem mm_f12_130 : mm_flk 12 130 12 50 := ⟨RX12, TX12, 104, rfl, Nat.le_of_ble_eq_true rfl, rfl, Or.inl (List.mem_of_getElem? (i := 1633) (by decide +kernel))⟩
theorem mm_f12_133 : mm_flk 12 133 12 51 := ⟨RX12, TX12, 104, rfl, Nat.le_of_ble_eq_true rfl, rfl, Or.inl (List.mem_of_getElem? (i := 1634) (by decide +kernel))⟩
theorem mm_f12_136 : mm_flk 12 136 12 52 := ⟨RX12, TX12, 104, rfl, Nat.le_of_ble_eq_true rfl, rfl, Or.inl (List.mem_of_getElem? (i := 1635) (by decide +kernel))⟩
theorem mm_f12_139 : mm_flk 12 139 12 53 := ⟨RX12, TX12, 104, rfl, Nat.le_of_ble_eq_true rfl, rfl, Or.inl (List.mem_of_getElem? (i := 1636) (by decide +kernel))⟩
theorem mm_f12_142 : mm_flk 12 142 12 54 := ⟨RX12, TX12, 104, rfl, Nat.le_of_ble_eq_true rfl, rfl, Or.inl (List.mem_of_getElem? (i := 1637) (by decide +kernel))⟩
theorem mm_f12_145 : mm_flk 12 145 12 55 := ⟨RX12, TX12, 104, rfl, Nat.le_of_ble_eq_true rfl, rfl, Or.inl (List.mem_of_getElem? (i := 1638) (by decide +kernel))⟩
theorem mm_f12_148 : mm_flk 12 148 12 56 := ⟨RX12, TX12, 104, rfl, Nat.le_of_ble_eq_true rfl, rfl, Or.inl (List.mem_of_getElem? (i := 1639) (by decide +kernel))⟩
theorem mm_f12_151 : mm_flk 12 151 12 59 := ⟨RX12, TX12, 104, rfl, Nat.le_of_ble_eq_true rfl, rfl, Or.inl (List.mem_of_getElem? (i := 1642) (by decide +kernel))⟩
theorem mm_f12_154 : mm_flk 12 154 12 60 := ⟨RX12, TX12, 104, rfl, Nat.le_of_ble_eq_true rfl, rfl, Or.inl (List.mem_of_getElem? (i := 1643) (by decide +kernel))⟩
theorem mm_f12_157 : mm_flk 12 157 12 61 := ⟨RX12, TX12, 104, rfl, Nat.le_of_ble_eq_true rfl, rfl, Or.inl (List.mem_of_getElem? (i := 1644) (by decide +kernel))⟩
theorem mm_f12_160 : mm_flk 12 160 12 67 := ⟨RX12, TX12, 104, rfl, Nat.le_of_ble_eq_true rfl, rfl, Or.inl (List.mem_of_getElem? (i := 1650) (by decide +kernel))⟩
theorem mm_f12_163 : mm_flk 12 163 12 68 := ⟨RX12, TX12, 104, rfl, Nat.le_of_ble_eq_true rfl, rfl, Or.inl (List.mem_of_getElem? (i := 1651) (by decide +kernel))⟩
theorem mm_f12_166 : mm_flk 12 166 12 69 := ⟨RX12, TX12, 104, rfl, Nat.le_of_ble_eq_true rfl, rfl, Or.inl (List.mem_of_getElem? (i := 1652) (by decide +kernel))⟩
theorem mm_f12_169 : mm_flk 12 169 12 70 := ⟨RX12, TX12, 104, rfl, Nat.le_of_ble_eq_true rfl, rfl, Or.inl (List.mem_of_getElem? (i := 1653) (by decide +kernel))⟩
theorem mm_f12_172 : mm_flk 12 172 12 71 := ⟨RX12, TX12, 104, rfl, Nat.le_of_ble_eq_true rfl, rfl, Or.inl (List.mem_of_getElem? (i := 1654) (by decide +kernel))⟩
theorem mm_f12_175 : mm_flk 12 175 12 73 := ⟨RX12, TX12, 104, rfl, Nat.le_of_ble_eq_true rfl, rfl, Or.inl (List.mem_of_getElem? (i := 1656) (by decide +kernel))⟩
theorem mm_f12_178 : mm_flk 12 178 12 74 := ⟨RX12, TX12, 104, rfl, Nat.le_of_ble_eq_true rfl, rfl, Or.inl (List.mem_of_getElem? (i := 1657) (by decide +kernel))⟩
theorem mm_f12_181 : mm_flk 12 181 12 75 := ⟨RX12, TX12, 104, rfl, Nat.le_of_ble_eq_true rfl, rfl, Or.inl (List.mem_of_getElem? (i := 1658) (by decide +kernel))⟩
theorem mm_f12_184 : mm_flk 12 184 12 76 := ⟨RX12, TX12, 104, rfl, Nat.le_of_ble_eq_true rfl, rfl, Or.inl (List.mem_of_getElem? (i := 1659) (by decide +kernel))⟩
theorem mm_f12_187 : mm_flk 12 187 12 81 := ⟨RX12, TX12, 104, rfl, Nat.le_of_ble_eq_true rfl, rfl, Or.inl (List.mem_of_getElem? (i := 1664) (by decide +kernel))⟩
theorem mm_f12_190 : mm_flk 12 190 12 82 := ⟨RX12, TX12, 104, rfl, Nat.le_of_ble_eq_true rfl, rfl, Or.inl (List.mem_of_getElem? (i := 1665) (by decide +kernel))⟩
theorem mm_f12_193 : mm_flk 12 193 12 83 := ⟨RX12, TX12, 104, rfl, Nat.le_of_ble_eq_true rfl, rfl, Or.inl (List.mem_of_getElem? (i := 1666) (by decide +kernel))⟩
theorem mm_f12_196 : mm_flk 12 196 12 84 := ⟨RX12, TX12, 104, rfl, Nat.le_of_ble_eq_true rfl, rfl, Or.inl (List.mem_of_getElem? (i := 1667) (by decide +kernel))⟩
theorem mm_f12_199 : mm_flk 12 199 12 85 := ⟨RX12, TX12, 104, rfl, Nat.le_of_ble_eq_true rfl, rfl, Or.inl (List.mem_of_getElem? (i := 1668) (by decide +kernel))⟩
theorem mm_f12_202 : mm_flk 12 202 12 86 := ⟨RX12, TX12, 104, rfl, Nat.le_of_ble_eq_true rfl, rfl, Or.inl (List.mem_of_getElem? (i := 1669) (by decide +kernel))⟩
theorem mm_f12_205 : mm_flk 12 205 12 87 := ⟨RX12, TX12, 104, rfl, Nat.le_of_ble_eq_true rfl, rfl, Or.inl (List.mem_of_getElem? (i := 1670) (by decide +kernel))⟩
theorem mm_f12_208 : mm_flk 12 208 12 88 := ⟨RX12, TX12, 104, rfl, Nat.le_of_ble_eq_true rfl, rfl, Or.inl (List.mem_of_getElem? (i := 1671) (by decide +kernel))⟩
theorem mm_f12_211 : mm_flk 12 211 12 89 := ⟨RX12, TX12, 104, rfl, Nat.le_of_ble_eq_true rfl, rfl, Or.inl (List.mem_of_getElem? (i := 1672) (by decide +kernel))⟩
theorem mm_f12_214 : mm_flk 12 214 12 90 := ⟨RX12, TX12, 104, rfl, Nat.le_of_ble_eq_true rfl, rfl, Or.inl (List.mem_of_getElem? (i := 1673) (by decide +kernel))⟩
theorem mm_f12_217 : mm_flk 12 217 12 91 := ⟨RX12, TX12, 104, rfl, Nat.le_of_ble_eq_true rfl, rfl, Or.inl (List.mem_of_getElem? (i := 1674) (by decide +kernel))⟩
theorem mm_f12_220 : mm_flk 12 220 12 92 := ⟨RX12, TX12, 104, rfl, Nat.le_of_ble_eq_true rfl, rfl, Or.inl (List.mem_of_getElem? (i := 1675) (by decide +kernel))⟩
theorem mm_f12_223 : mm_flk 12 223 12 93 := ⟨RX12, TX12, 104, rfl, Nat.le_of_ble_eq_true rfl, rfl, Or.inl (List.mem_of_getElem? (i := 1676) (by decide +kernel))⟩
theorem mm_f12_226 : mm_flk 12 226 12 95 := ⟨RX12, TX12, 104, rfl, Nat.le_of_ble_eq_true rfl, rfl, Or.inl (List.mem_of_getElem? (i := 1678) (by decide +kernel))⟩
theorem mm_f12_229 : mm_flk 12 229 12 96 := ⟨RX12, TX12, 104, rfl, Nat.le_of_ble_eq_true rfl, rfl, Or.inl (List.mem_of_getElem? (i := 1679) (by decide +kernel))⟩
theorem mm_f12_232 : mm_flk 12 232 12 97 := ⟨RX12, TX12, 104, rfl, Nat.le_of_ble_eq_true rfl, rfl, Or.inl (List.mem_of_getElem? (i := 1680) (by decide +kernel))⟩
theorem mm_f12_234 : mm_flk 12 234 12 98 := ⟨RX12, TX12, 104, rfl, Nat.le_of_ble_eq_true rfl, rfl, Or.inl (List.mem_of_getElem? (i := 1681) (by decide +kernel))⟩
theorem mm_f12_237 : mm_flk 12 237 12 100 := ⟨RX12, TX12, 104, rfl, Nat.le_of_ble_eq_true rfl, rfl, Or.inl (List.mem_of_getElem? (i := 1683) (by decide +kernel))⟩
theorem mm_f12_240 : mm_flk 12 240 12 101 := ⟨RX12, TX12, 104, rfl, Nat.le_of_ble_eq_true rfl, rfl, Or.inl (List.mem_of_getElem? (i := 1684) (by decide +kernel))⟩
theorem mm_f12_243 : mm_flk 12 243 12 102 := ⟨RX12, TX12, 104, rfl, Nat.le_of_ble_eq_true rfl, rfl, Or.inl (List.mem_of_getElem? (i := 1685) (by decide +kernel))⟩
theorem mm_f12_246 : mm_flk 12 246 12 103 := ⟨RX12, TX12, 104, rfl, Nat.le_of_ble_eq_true rfl, rfl, Or.inl (List.mem_of_getElem? (i := 1686) (by decide +kernel))⟩
theorem mm_f12_249 : mm_flk 12 249 12 3 := ⟨RX12, TX12, 104, rfl, Nat.le_of_ble_eq_true rfl, rfl, Or.inl (List.mem_of_getElem? (i := 1586) (by decide +kernel))⟩
theorem mm_f12_252 : mm_flk 12 252 12 21 := ⟨RX12, TX12, 104, rfl, Nat.le_of_ble_eq_true rfl, rfl, Or.inl (List.mem_of_getElem? (i := 1604) (by decide +kernel))⟩
theorem mm_f12_255 : mm_flk 12 255 12 23 := ⟨RX12, TX12, 104, rfl, Nat.le_of_ble_eq_true rfl, rfl, Or.inl (List.mem_of_getElem? (i := 1606) (by decide +kernel))⟩
theorem mm_f12_257 : mm_flk 12 257 12 22 := ⟨RX12, TX12, 104, rfl, Nat.le_of_ble_eq_true rfl, rfl, Or.inl (List.mem_of_getElem? (i := 1605) (by decide +kernel))⟩
theorem mm_f12_264 : mm_flk 12 264 12 27 := ⟨RX12, TX12, 104, rfl, Nat.le_of_ble_eq_true rfl, rfl, Or.inl (List.mem_of_getElem? (i := 1610) (by decide +kernel))⟩
theorem mm_f12_267 : mm_flk 12 267 12 25 := ⟨RX12, TX12, 104, rfl, Nat.le_of_ble_eq_true rfl, rfl, Or.inl (List.mem_of_getElem? (i := 1608) (by decide +kernel))⟩
theorem mm_f12_270 : mm_flk 12 270 12 24 := ⟨RX12, TX12, 104, rfl, Nat.le_of_ble_eq_true rfl, rfl, Or.inl (List.mem_of_getElem? (i := 1607) (by decide +kernel))⟩
theorem mm_f12_280 : mm_flk 12 280 12 26 := ⟨RX12, TX12, 104, rfl, Nat.le_of_ble_eq_true rfl, rfl, Or.inl (List.mem_of_getElem? (i := 1609) (by decide +kernel))⟩
theorem mm_f12_290 : mm_flk 12 290 12 28 := ⟨RX12, TX12, 104, rfl, Nat.le_of_ble_eq_true rfl, rfl, Or.inl (List.mem_of_getElem? (i := 1611) (by decide +kernel))⟩
theorem mm_f12_293 : mm_flk 12 293 12 29 := ⟨RX12, TX12, 104, rfl, Nat.le_of_ble_eq_true rfl, rfl, Or.inl (List.mem_of_getElem? (i := 1612) (by decide +kernel))⟩
theorem mm_f12_299 : mm_flk 12 299 12 30 := ⟨RX12, TX12, 104, rfl, Nat.le_of_ble_eq_true rfl, rfl, Or.inl (List.mem_of_getElem? (i := 1613) (by decide +kernel))⟩
theorem mm_f12_337 : mm_flk 12 337 12 4 := ⟨RX12, TX12, 104, rfl, Nat.le_of_ble_eq_true rfl, rfl, Or.inl (List.mem_of_getElem? (i := 1587) (by decide +kernel))⟩
theorem mm_f12_347 : mm_flk 12 347 12 32 := ⟨RX12, TX12, 104, rfl, Nat.le_of_ble_eq_true rfl, rfl, Or.inl (List.mem_of_getElem? (i := 1615) (by decide +kernel))⟩
theorem mm_f12_401 : mm_flk 12 401 12 5 := ⟨RX12, TX12, 104, rfl, Nat.le_of_ble_eq_true rfl, rfl, Or.inl (List.mem_of_getElem? (i := 1588) (by decide +kernel))⟩
theorem mm_f12_404 : mm_flk 12 404 12 6 := ⟨RX12, TX12, 104, rfl, Nat.le_of_ble_eq_true rfl, rfl, Or.inl (List.mem_of_getElem? (i := 1589) (by decide +kernel))⟩
theorem mm_f12_451 : mm_flk 12 451 12 44 := ⟨RX12, TX12, 104, rfl, Nat.le_of_ble_eq_true rfl, rfl, Or.inl (List.mem_of_getElem? (i := 1627) (by decide +kernel))⟩
theorem mm_f12_454 : mm_flk 12 454 12 58 := ⟨RX12, TX12, 104, rfl, Nat.le_of_ble_eq_true rfl, rfl, Or.inl (List.mem_of_getElem? (i := 1641) (by decide +kernel))⟩
theorem mm_f12_461 : mm_flk 12 461 12 45 := ⟨RX12, TX12, 104, rfl, Nat.le_of_ble_eq_true rfl, rfl, Or.inl (List.mem_of_getElem? (i := 1628) (by decide +kernel))⟩
theorem mm_f12_477 : mm_flk 12 477 12 46 := ⟨RX12, TX12, 104, rfl, Nat.le_of_ble_eq_true rfl, rfl, Or.inl (List.mem_of_getElem? (i := 1629) (by decide +kernel))⟩
theorem mm_f12_481 : mm_flk 12 481 12 57 := ⟨RX12, TX12, 104, rfl, Nat.le_of_ble_eq_true rfl, rfl, Or.inl (List.mem_of_getElem? (i := 1640) (by decide +kernel))⟩
theorem mm_f12_484 : mm_flk 12 484 12 62 := ⟨RX12, TX12, 104, rfl, Nat.le_of_ble_eq_true rfl, rfl, Or.inl (List.mem_of_getElem? (i := 1645) (by decide +kernel))⟩
theorem mm_f12_487 : mm_flk 12 487 12 63 := ⟨RX12, TX12, 104, rfl, Nat.le_of_ble_eq_true rfl, rfl, Or.inl (List.mem_of_getElem? (i := 1646) (by decide +kernel))⟩
theorem mm_f12_490 : mm_flk 12 490 12 64 := ⟨RX12, TX12, 104, rfl, Nat.le_of_ble_eq_true rfl, rfl, Or.inl (List.mem_of_getElem? (i := 1647) (by decide +kernel))⟩
theorem mm_f12_493 : mm_flk 12 493 12 65 := ⟨RX12, TX12, 104, rfl, Nat.le_of_ble_eq_true rfl, rfl, Or.inl (List.mem_of_getElem? (i := 1648) (by decide +kernel))⟩
theorem mm_f12_499 : mm_flk 12 499 12 66 := ⟨RX12, TX12, 104, rfl, Nat.le_of_ble_eq_true rfl, rfl, Or.inl (List.mem_of_getElem? (i := 1649) (by decide +kernel))⟩
theorem mm_f12_514 : mm_flk 12 514 12 72 := ⟨RX12, TX12, 104, rfl, Nat.le_of_ble_eq_true rfl, rfl, Or.inl (List.mem_of_getElem? (i := 1655) (by decide +kernel))⟩
theorem mm_f12_520 : mm_flk 12 520 12 77 := ⟨RX12, TX12, 104, rfl, Nat.le_of_ble_eq_true rfl, rfl, Or.inl (List.mem_of_getElem? (i := 1660) (by decide +kernel))⟩
theorem mm_f12_523 : mm_flk 12 523 12 78 := ⟨RX12, TX12, 104, rfl, Nat.le_of_ble_eq_true rfl, rfl, Or.inl (List.mem_of_getElem? (i := 1661) (by decide +kernel))⟩
theorem mm_f12_526 : mm_flk 12 526 12 79 := ⟨RX12, TX12, 104, rfl, Nat.le_of_ble_eq_true rfl, rfl, Or.inl (List.mem_of_getElem? (i := 1662) (by decide +kernel))⟩
theorem mm_f12_545 : mm_flk 12 545 12 80 := ⟨RX12, TX12, 104, rfl, Nat.le_of_ble_eq_true rfl, rfl, Or.inl (List.mem_of_getElem? (i := 1663) (by decide +kernel))⟩
theorem mm_f12_554 : mm_flk 12 554 12 94 := ⟨RX12, TX12, 104, rfl, Nat.le_of_ble_eq_true rfl, rfl, Or.inl (List.mem_of_getElem? (i := 1677) (by decide +kernel))⟩
theorem mm_f12_563 : mm_flk 12 563 12 99 := ⟨RX12, TX12, 104, rfl, Nat.le_of_ble_eq_true rfl, rfl, Or.inl (List.mem_of_getElem? (i := 1682) (by decide +kernel))⟩
theorem mm_FL12 : ∀ q ∈ mm_FLs 12, mm_flk 12 q.1 q.2.1 q.2.2 := List.forall_mem_cons.mpr ⟨mm_f12_19, List.forall_mem_cons.mpr ⟨mm_f12_33, List.forall_mem_cons.mpr ⟨mm_f12_38, List.forall_mem_cons.mpr ⟨mm_f12_41, List.forall_mem_cons.mpr ⟨mm_f12_45, List.forall_mem_cons.mpr ⟨mm_f12_48, List.forall_mem_cons.mpr ⟨mm_f12_51, List.forall_mem_cons.mpr ⟨mm_f12_54, List.forall_mem_cons.mpr ⟨mm_f12_57, List.forall_mem_cons.mpr ⟨mm_f12_59, List.forall_mem_cons.mpr ⟨mm_f12_62, List.forall_mem_cons.mpr ⟨mm_f12_65, List.forall_mem_cons.mpr ⟨mm_f12_68, List.forall_mem_cons.mpr ⟨mm_f12_71, List.forall_mem_cons.mpr ⟨mm_f12_74, List.forall_mem_cons.mpr ⟨mm_f12_77, List.forall_mem_cons.mpr ⟨mm_f12_80, List.forall_mem_cons.mpr ⟨mm_f12_83, List.forall_mem_cons.mpr ⟨mm_f12_87, List.forall_mem_cons.mpr ⟨mm_f12_90, List.forall_mem_cons.mpr ⟨mm_f12_93, List.forall_mem_cons.mpr ⟨mm_f12_96, List.forall_mem_cons.mpr ⟨mm_f12_99, List.forall_mem_cons.mpr ⟨mm_f12_102, List.forall_mem_cons.mpr ⟨mm_f12_106, List.forall_mem_cons.mpr ⟨mm_f12_109, List.forall_mem_cons.mpr ⟨mm_f12_112, List.forall_mem_cons.mpr ⟨mm_f12_115, List.forall_mem_cons.mpr ⟨mm_f12_118, List.forall_mem_cons.mpr ⟨mm_f12_121, List.forall_mem_cons.mpr ⟨mm_f12_124, List.forall_mem_cons.mpr ⟨mm_f12_127, List.forall_mem_cons.mpr ⟨mm_f12_130, List.forall_mem_cons.mpr ⟨mm_f12_133, List.forall_mem_cons.mpr ⟨mm_f12_136, List.forall_mem_cons.mpr ⟨mm_f12_139, List.forall_mem_cons.mpr ⟨mm_f12_142, List.forall_mem_cons.mpr ⟨mm_f12_145, List.forall_mem_cons.mpr ⟨mm_f12_148, List.forall_mem_cons.mpr ⟨mm_f12_151, List.forall_mem_cons.mpr ⟨mm_f12_154, List.forall_mem_cons.mpr ⟨mm_f12_157, List.forall_mem_cons.mpr ⟨mm_f12_160, List.forall_mem_cons.mpr ⟨mm_f12_163, List.forall_mem_cons.mpr ⟨mm_f12_166, List.forall_mem_cons.mpr ⟨mm_f12_169, List.forall_mem_cons.mpr ⟨mm_f12_172, List.forall_mem_cons.mpr ⟨mm_f12_175, List.forall_mem_cons.mpr ⟨mm_f12_178, List.forall_mem_cons.mpr ⟨mm_f12_181, List.forall_mem_cons.mpr ⟨mm_f12_184, List.forall_mem_cons.mpr ⟨mm_f12_187, List.forall_mem_cons.mpr ⟨mm_f12_190, List.forall_mem_cons.mpr ⟨mm_f12_193, List.forall_mem_cons.mpr ⟨mm_f12_196, List.forall_mem_cons.mpr ⟨mm_f12_199, List.forall_mem_cons.mpr ⟨mm_f12_202, List.forall_mem_cons.mpr ⟨mm_f12_205, List.forall_mem_cons.mpr ⟨mm_f12_208, List.forall_mem_cons.mpr ⟨mm_f12_211, List.forall_mem_cons.mpr ⟨mm_f12_214, List.forall_mem_cons.mpr ⟨mm_f12_217, List.forall_mem_cons.mpr ⟨mm_f12_220, List.forall_mem_cons.mpr ⟨mm_f12_223, List.forall_mem_cons.mpr ⟨mm_f12_226, List.forall_mem_cons.mpr ⟨mm_f12_229, List.forall_mem_cons.mpr ⟨mm_f12_232, List.forall_mem_cons.mpr ⟨mm_f12_234, List.forall_mem_cons.mpr ⟨mm_f12_237, List.forall_mem_cons.mpr ⟨mm_f12_240, List.forall_mem_cons.mpr ⟨mm_f12_243, List.forall_mem_cons.mpr ⟨mm_f12_246, List.forall_mem_cons.mpr ⟨mm_f12_249, List.forall_mem_cons.mpr ⟨mm_f12_252, List.forall_mem_cons.mpr ⟨mm_f12_255, List.forall_mem_cons.mpr ⟨mm_f12_257, List.forall_mem_cons.mpr ⟨mm_f12_264, List.forall_mem_cons.mpr ⟨mm_f12_267, List.forall_mem_cons.mpr ⟨mm_f12_270, List.forall_mem_cons.mpr ⟨mm_f12_280, List.forall_mem_cons.mpr ⟨mm_f12_290, List.forall_mem_cons.mpr ⟨mm_f12_293, List.forall_mem_cons.mpr ⟨mm_f12_299, List.forall_mem_cons.mpr ⟨mm_f12_337, List.forall_mem_cons.mpr ⟨mm_f12_347, List.forall_mem_cons.mpr ⟨mm_f12_401, List.forall_mem_cons.mpr ⟨mm_f12_404, List.forall_mem_cons.mpr ⟨mm_f12_451, List.forall_mem_cons.mpr ⟨mm_f12_454, List.forall_mem_cons.mpr ⟨mm_f12_461, List.forall_mem_cons.mpr ⟨mm_f12_477, List.forall_mem_cons.mpr ⟨mm_f12_481, List.forall_mem_cons.mpr ⟨mm_f12_484, List.forall_mem_cons.mpr ⟨mm_f12_487, List.forall_mem_cons.mpr ⟨mm_f12_490, List.forall_mem_cons.mpr ⟨mm_f12_493, List.forall_mem_cons.mpr ⟨mm_f12_499, List.forall_mem_cons.mpr ⟨mm_f12_514, List.forall_mem_cons.mpr ⟨mm_f12_520, List.forall_mem_cons.mpr ⟨mm_f12_523, List.forall_mem_cons.mpr ⟨mm_f12_526, List.forall_mem_cons.mpr ⟨mm_f12_545, List.forall_mem_cons.mpr ⟨mm_f12_554, List.forall_mem_cons.mpr ⟨mm_f12_563, fun _ h => absurd h List.not_mem_nil⟩⟩⟩⟩⟩⟩⟩⟩⟩⟩⟩⟩⟩⟩⟩⟩⟩⟩⟩⟩⟩⟩⟩⟩⟩⟩⟩⟩⟩⟩⟩⟩⟩⟩⟩⟩⟩⟩⟩⟩⟩⟩⟩⟩⟩⟩⟩⟩⟩⟩⟩⟩⟩⟩⟩⟩⟩⟩⟩⟩⟩⟩⟩⟩⟩⟩⟩⟩⟩⟩⟩⟩⟩⟩⟩⟩⟩⟩⟩⟩⟩⟩⟩⟩⟩⟩⟩⟩⟩⟩⟩⟩⟩⟩⟩⟩⟩⟩⟩⟩⟩⟩⟩⟩
theorem mm_FLok : ∀ (o : Nat), ∀ q ∈ mm_FLs o, mm_flk o q.1 q.2.1 q.2.2
  | 0 => mm_FL0
  | 1 => mm_FL1
  | 2 => mm_FL2
  | 3 => mm_FL3
  | 4 => mm_FL4
  | 5 => mm_FL5
  | 6 => mm_FL6
  | 7 => mm_FL7
  | 8 => mm_FL8
  | 9 => mm_FL9
  | 10 => mm_FL10
  | 11 => mm_FL11
  | 12 => mm_FL12
  | 13 => fun _ h => absurd h List.not_mem_nil
  | _ + 14 => fun _ h => absurd h List.not_mem_nil
theorem mm_clw {L : List Cond} {is : List Nat} (h : is.map (fun i : Nat => lw_tbl[i]?) = L.map some) (hg : L.all goodWord = true) : ∀ w ∈ L, w ∈ mm_tsG := by
  intro w hw
  have h1 : some w ∈ is.map (fun i : Nat => lw_tbl[i]?) := by rw [h]; exact List.mem_map.mpr ⟨w, hw, rfl⟩
  obtain ⟨i, -, hi⟩ := List.mem_map.mp h1
  exact mm_tsG_in (List.mem_of_getElem? hi) (List.all_eq_true.mp hg w hw)
theorem mm_cw11 : ([603, 605, 607, 609, 611, 613, 615, 617, 619, 621, 623, 625, 627, 629, 631, 633].map (fun i : Nat => lw_tbl[i]?) : List (Option Cond)) = (u_ws RX11 TX11 16).map some := by decide +kernel
theorem mm_cg11 : (u_ws RX11 TX11 16).all goodWord = true := by decide +kernel
theorem mm_cf11 : mm_clf 11 := ⟨RX11, TX11, 16, tyX11, rfl, tyX11_ok, nmX11, mm_clw mm_cw11 mm_cg11⟩
theorem mm_cw9 : ([204, 206, 208, 210, 212, 214, 216, 218, 220, 222, 224].map (fun i : Nat => lw_tbl[i]?) : List (Option Cond)) = (u_ws RX9 TX9 11).map some := by decide +kernel
theorem mm_cg9 : (u_ws RX9 TX9 11).all goodWord = true := by decide +kernel
theorem mm_cf9 : mm_clf 9 := ⟨RX9, TX9, 11, tyX9, rfl, tyX9_ok, nmX9, mm_clw mm_cw9 mm_cg9⟩
theorem mm_cw3 : ([247, 249, 251, 253, 255, 257, 259].map (fun i : Nat => lw_tbl[i]?) : List (Option Cond)) = (u_ws RX3 TX3 7).map some := by decide +kernel
theorem mm_cg3 : (u_ws RX3 TX3 7).all goodWord = true := by decide +kernel
theorem mm_cf3 : mm_clf 3 := ⟨RX3, TX3, 7, tyX3, rfl, tyX3_ok, nmX3, mm_clw mm_cw3 mm_cg3⟩
theorem mm_cw0 : ([278, 280, 282, 284, 286, 288, 290, 292, 294].map (fun i : Nat => lw_tbl[i]?) : List (Option Cond)) = (u_ws RX0 TX0 9).map some := by decide +kernel
theorem mm_cg0 : (u_ws RX0 TX0 9).all goodWord = true := by decide +kernel
theorem mm_cf0 : mm_clf 0 := ⟨RX0, TX0, 9, tyX0, rfl, tyX0_ok, nmX0, mm_clw mm_cw0 mm_cg0⟩
theorem mm_cw6 : ([356, 358, 360, 362, 364].map (fun i : Nat => lw_tbl[i]?) : List (Option Cond)) = (u_ws RX6 TX6 5).map some := by decide +kernel
theorem mm_cg6 : (u_ws RX6 TX6 5).all goodWord = true := by decide +kernel
theorem mm_cf6 : mm_clf 6 := ⟨RX6, TX6, 5, tyX6, rfl, tyX6_ok, nmX6, mm_clw mm_cw6 mm_cg6⟩
theorem mm_cw8 : ([332, 334, 336, 338, 340, 342].map (fun i : Nat => lw_tbl[i]?) : List (Option Cond)) = (u_ws RX8 TX8 6).map some := by decide +kernel
theorem mm_cg8 : (u_ws RX8 TX8 6).all goodWord = true := by decide +kernel
theorem mm_cf8 : mm_clf 8 := ⟨RX8, TX8, 6, tyX8, rfl, tyX8_ok, nmX8, mm_clw mm_cw8 mm_cg8⟩
theorem mm_cw5 : ([384, 386, 388, 390, 392, 394].map (fun i : Nat => lw_tbl[i]?) : List (Option Cond)) = (u_ws RX5 TX5 6).map some := by decide +kernel
theorem mm_cg5 : (u_ws RX5 TX5 6).all goodWord = true := by decide +kernel
theorem mm_cf5 : mm_clf 5 := ⟨RX5, TX5, 6, tyX5, rfl, tyX5_ok, nmX5, mm_clw mm_cw5 mm_cg5⟩
theorem mm_cw1 : ([422, 424, 426, 428, 430, 432, 434, 436, 438, 440, 442].map (fun i : Nat => lw_tbl[i]?) : List (Option Cond)) = (u_ws RX1 TX1 11).map some := by decide +kernel
theorem mm_cg1 : (u_ws RX1 TX1 11).all goodWord = true := by decide +kernel
theorem mm_cf1 : mm_clf 1 := ⟨RX1, TX1, 11, tyX1, rfl, tyX1_ok, nmX1, mm_clw mm_cw1 mm_cg1⟩
theorem mm_cw2 : ([460, 462, 464, 466, 468].map (fun i : Nat => lw_tbl[i]?) : List (Option Cond)) = (u_ws RX2 TX2 5).map some := by decide +kernel
theorem mm_cg2 : (u_ws RX2 TX2 5).all goodWord = true := by decide +kernel
theorem mm_cf2 : mm_clf 2 := ⟨RX2, TX2, 5, tyX2, rfl, tyX2_ok, nmX2, mm_clw mm_cw2 mm_cg2⟩
theorem mm_cw4 : ([526, 528, 530, 532, 534, 536, 538, 540, 542, 544, 546, 548, 550, 552, 554, 556, 558, 560, 562].map (fun i : Nat => lw_tbl[i]?) : List (Option Cond)) = (u_ws RX4 TX4 19).map some := by decide +kernel
theorem mm_cg4 : (u_ws RX4 TX4 19).all goodWord = true := by decide +kernel
theorem mm_cf4 : mm_clf 4 := ⟨RX4, TX4, 19, tyX4, rfl, tyX4_ok, nmX4, mm_clw mm_cw4 mm_cg4⟩
theorem mm_cw10 : ([492, 494, 496, 498].map (fun i : Nat => lw_tbl[i]?) : List (Option Cond)) = (u_ws RX10 TX10 4).map some := by decide +kernel
theorem mm_cg10 : (u_ws RX10 TX10 4).all goodWord = true := by decide +kernel
theorem mm_cf10 : mm_clf 10 := ⟨RX10, TX10, 4, tyX10, rfl, tyX10_ok, nmX10, mm_clw mm_cw10 mm_cg10⟩
theorem mm_cw7 : ([580, 582, 584].map (fun i : Nat => lw_tbl[i]?) : List (Option Cond)) = (u_ws RX7 TX7 3).map some := by decide +kernel
theorem mm_cg7 : (u_ws RX7 TX7 3).all goodWord = true := by decide +kernel
theorem mm_cf7 : mm_clf 7 := ⟨RX7, TX7, 3, tyX7, rfl, tyX7_ok, nmX7, mm_clw mm_cw7 mm_cg7⟩
theorem mm_cw12 : ([1687, 1689, 1691, 1693, 1695, 1697, 1699, 1701, 1703, 1705, 1707, 1709, 1711, 1713, 1715, 1717, 1719, 1721, 1723, 1725, 1727, 1729, 1731, 1733, 1735, 1737, 1739, 1741, 1743, 1745, 1747, 1749, 1751, 1753, 1755, 1757, 1759, 1761, 1763, 1765, 1767, 1769, 1771, 1773, 1775, 1777, 1779, 1781, 1783, 1785, 1787, 1789, 1791, 1793, 1795, 1797, 1799, 1801, 1803, 1805, 1807, 1809, 1811, 1813, 1815, 1817, 1819, 1821, 1823, 1825, 1827, 1829, 1831, 1833, 1835, 1837, 1839, 1841, 1843, 1845, 1847, 1849, 1851, 1853, 1855, 1857, 1859, 1861, 1863, 1865, 1867, 1869, 1871, 1873, 1875, 1877, 1879, 1881, 1883, 1885, 1887, 1889, 1891, 1893].map (fun i : Nat => lw_tbl[i]?) : List (Option Cond)) = (u_ws RX12 TX12 104).map some := by decide +kernel
theorem mm_cg12 : (u_ws RX12 TX12 104).all goodWord = true := by decide +kernel
theorem mm_cf12 : mm_clf 12 := ⟨RX12, TX12, 104, tyX12, rfl, tyX12_ok, nmX12, mm_clw mm_cw12 mm_cg12⟩
theorem mm_cfok : ∀ (ci : Nat), ci < 13 → mm_clf ci
  | 0, _ => mm_cf0
  | 1, _ => mm_cf1
  | 2, _ => mm_cf2
  | 3, _ => mm_cf3
  | 4, _ => mm_cf4
  | 5, _ => mm_cf5
  | 6, _ => mm_cf6
  | 7, _ => mm_cf7
  | 8, _ => mm_cf8
  | 9, _ => mm_cf9
  | 10, _ => mm_cf10
  | 11, _ => mm_cf11
  | 12, _ => mm_cf12
  | n + 13, h => absurd h (by omega)
def mm_fso (ci : Nat) : List mm_F := match ci with
  | 0 => mm_fs0
  | 1 => mm_fs1
  | 2 => mm_fs2
  | 3 => mm_fs3
  | 4 => mm_fs4
  | 5 => mm_fs5
  | 6 => mm_fs6
  | 7 => mm_fs7
  | 8 => mm_fs8
  | 9 => mm_fs9
  | 10 => mm_fs10
  | 11 => mm_fs11
  | 12 => mm_fs12
  | _ => []
theorem mm_obs : (List.range 13).all (fun g => match mm_ob g with | some (c, fs) => decide (fs = mm_fso c) && Nat.blt c 13 | none => true) = true := by decide +kernel
theorem mm_obn (g : Nat) (h : 13 ≤ g) : mm_ob g = none := by
  unfold mm_ob
  have e : ∀ n, n ≤ 12 → Nat.ble n g = true := fun n hn => Nat.ble_eq_true_of_le (by omega)
  have b : Nat.beq g 12 = false := by
    rw [Bool.eq_false_iff]
    intro z
    have := Nat.eq_of_beq_eq_true z
    omega
  simp [e, b]
theorem mm_obf {g c : Nat} {fs : List mm_F} (h : mm_ob g = some (c, fs)) : fs = mm_fso c ∧ c < 13 := by
  by_cases hg : 13 ≤ g
  · rw [mm_obn g hg] at h; cases h
  · have h1 := List.all_eq_true.mp mm_obs g (List.mem_range.mpr (by omega))
    rw [h] at h1
    simp only [Bool.and_eq_true, decide_eq_true_eq] at h1
    exact ⟨h1.1, Nat.le_of_ble_eq_true h1.2⟩
