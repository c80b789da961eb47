/-! links of methods -/
/-- methods without handlers: entry, method, static, arguments -/
def mm_MLs (o : Nat) : List (Nat × Nat × Bool × Nat) := match o with
  | 0 => [(40, 92, false, 2), (44, 94, false, 3)]
  | 1 => [(54, 120, false, 1), (58, 123, false, 2), (62, 124, false, 3), (66, 125, false, 1), (73, 121, false, 1), (77, 107, false, 3), (81, 117, false, 1)]
  | 2 => [(30, 100, false, 2), (36, 129, false, 2), (39, 130, false, 1), (49, 131, false, 2)]
  | 3 => [(34, 291, true, 2), (45, 74, false, 2), (49, 84, true, 1), (53, 65, false, 1), (57, 60, false, 0), (60, 75, false, 2), (63, 67, false, 1), (67, 86, true, 1), (70, 76, false, 3), (74, 77, false, 2), (77, 78, false, 2), (80, 83, true, 1), (83, 79, false, 2), (88, 64, false, 2), (91, 66, false, 0), (95, 87, true, 1), (98, 68, true, 1), (112, 85, true, 2), (119, 81, false, 2), (130, 88, true, 1), (134, 82, true, 3)]
  | 4 => [(82, 80, false, 4), (94, 136, false, 3), (98, 152, false, 1), (102, 149, false, 0), (108, 137, false, 4), (112, 153, false, 1), (119, 138, false, 2), (122, 150, false, 2), (126, 151, false, 1), (130, 140, false, 4), (136, 141, false, 0), (140, 143, false, 2), (150, 144, false, 1), (157, 145, false, 2), (160, 147, false, 3), (163, 146, false, 1), (166, 290, true, 1)]
  | 5 => [(43, 108, false, 5), (50, 109, false, 4), (57, 110, false, 1), (64, 111, false, 2), (71, 114, false, 4), (75, 112, false, 2), (79, 113, false, 1)]
  | 6 => [(32, 94, false, 3), (40, 80, false, 4), (47, 97, false, 2), (65, 98, false, 0), (70, 96, false, 3), (74, 99, false, 0)]
  | 8 => [(31, 102, false, 1), (40, 65, false, 1), (44, 105, false, 1), (48, 60, false, 0), (51, 103, false, 2), (55, 67, false, 1), (59, 104, false, 4), (64, 64, false, 2), (68, 66, false, 0)]
  | 9 => [(53, 69, true, 1), (57, 58, false, 2), (60, 59, false, 3), (64, 60, false, 0), (67, 70, true, 1), (70, 62, false, 2), (73, 71, true, 1), (76, 61, false, 2), (79, 72, true, 1), (85, 63, false, 3), (121, 65, false, 1)]
  | 11 => [(101, 56, false, 1), (105, 40, false, 1), (108, 57, false, 1), (111, 101, false, 1), (122, 73, false, 1), (123, 38, false, 1), (130, 43, true, 2), (151, 44, true, 1), (159, 80, false, 4), (167, 51, true, 1), (171, 106, false, 3), (175, 89, false, 6), (184, 90, false, 2), (188, 45, true, 1), (191, 48, true, 1), (194, 41, false, 1), (197, 53, false, 3), (201, 52, true, 2), (205, 95, false, 3), (209, 96, false, 3), (213, 100, false, 2), (217, 93, false, 1), (223, 107, false, 3), (239, 118, false, 1), (242, 42, false, 0), (249, 119, false, 2), (252, 121, false, 1), (256, 115, false, 1), (260, 122, false, 2), (280, 49, true, 1), (283, 50, true, 2), (287, 47, true, 1), (290, 54, true, 2), (293, 55, true, 2), (307, 98, false, 0), (312, 126, false, 4), (316, 127, false, 3), (320, 128, false, 1), (328, 46, true, 1), (331, 132, false, 4), (335, 133, false, 2), (338, 134, false, 2), (341, 135, false, 2), (344, 139, false, 2), (362, 142, false, 0), (377, 146, false, 1), (382, 148, false, 1), (389, 39, false, 1), (393, 154, false, 1), (399, 155, false, 2), (410, 156, false, 2), (413, 116, false, 3), (451, 91, false, 4)]
  | 12 => [(260, 162, false, 1), (273, 163, true, 1), (277, 164, true, 1), (296, 165, false, 0), (309, 169, false, 1), (313, 168, false, 1), (316, 167, false, 1), (320, 170, false, 1), (324, 172, false, 2), (328, 171, false, 1), (331, 158, false, 1), (334, 166, false, 1), (340, 160, true, 3), (344, 173, false, 1), (351, 175, false, 1), (354, 181, false, 1), (357, 176, false, 1), (360, 177, false, 1), (365, 178, false, 1), (368, 179, false, 1), (373, 180, false, 1), (378, 184, true, 3), (382, 185, false, 1), (388, 187, false, 1), (391, 188, false, 2), (395, 189, true, 1), (398, 186, false, 3), (408, 193, false, 3), (411, 159, false, 1), (414, 197, false, 2), (417, 196, false, 0), (420, 198, false, 4), (426, 203, true, 1), (429, 199, false, 3), (433, 200, false, 2), (436, 201, false, 6), (440, 202, false, 3), (445, 205, false, 3), (447, 206, false, 5), (457, 210, false, 4), (464, 211, false, 4), (468, 212, false, 3), (474, 213, false, 4), (496, 219, false, 1), (502, 224, true, 3), (505, 222, true, 2), (508, 223, true, 2), (511, 227, false, 2), (517, 230, true, 1), (529, 234, false, 5), (533, 236, false, 2), (536, 233, false, 0), (539, 235, false, 3), (542, 237, false, 0), (548, 242, false, 2), (551, 241, false, 0), (557, 245, false, 1), (560, 247, true, 1), (566, 249, false, 1), (569, 252, false, 3)]
  | 13 => [(7, 1, false, 2), (15, 2, false, 1), (19, 4, false, 3), (25, 5, false, 4), (29, 6, false, 1), (32, 7, false, 5), (36, 8, false, 1), (40, 9, false, 7), (44, 10, false, 6), (48, 11, false, 4), (51, 12, false, 1), (54, 13, false, 5), (58, 14, false, 2), (61, 15, false, 1), (65, 16, false, 2), (68, 17, false, 1), (72, 18, false, 1), (75, 19, false, 1), (78, 20, false, 4), (81, 21, false, 6), (84, 22, false, 8), (88, 23, false, 1), (91, 24, false, 4), (94, 25, false, 2), (97, 26, false, 2), (100, 27, false, 2), (103, 28, false, 1), (106, 30, false, 1), (109, 32, false, 1), (112, 34, false, 3), (115, 35, false, 5), (118, 36, false, 3), (121, 37, false, 1), (128, 0, false, 5), (131, 161, false, 5), (137, 174, false, 2), (138, 157, false, 0), (145, 182, false, 1), (146, 3, false, 0), (149, 183, false, 0), (153, 190, false, 3), (157, 191, false, 4), (160, 192, false, 1), (164, 194, false, 5), (167, 195, false, 1), (171, 204, false, 7), (175, 207, false, 6), (178, 208, false, 4), (181, 209, false, 1), (185, 214, false, 5), (188, 215, false, 2), (192, 216, false, 1), (195, 217, false, 2), (199, 218, false, 1), (202, 220, false, 1), (205, 221, false, 1), (208, 225, false, 4), (211, 226, false, 6), (215, 228, false, 8), (218, 229, false, 1), (221, 231, false, 4), (224, 232, false, 2), (227, 238, false, 2), (230, 239, false, 2), (233, 240, false, 1), (234, 29, false, 0), (237, 243, false, 0), (240, 244, false, 1), (241, 31, false, 1), (244, 246, false, 1), (247, 248, false, 1), (248, 33, false, 2), (251, 250, false, 2), (254, 251, false, 3), (257, 253, false, 5), (260, 254, false, 3), (263, 255, false, 1)]
  | _ => []
theorem mm_ml0_40 : mm_mlk 0 40 92 false 2 := mm_mk mm_m92 (List.mem_of_getElem? (i := 1148) (by decide +kernel))
theorem mm_ml0_44 : mm_mlk 0 44 94 false 3 := mm_mkN (host := "GlassThreads") mm_m94 (List.mem_of_getElem? (i := 1152) (by decide +kernel))
theorem mm_ML0 : ∀ q ∈ mm_MLs 0, mm_mlk 0 q.1 q.2.1 q.2.2.1 q.2.2.2 := List.forall_mem_cons.mpr ⟨mm_ml0_40, List.forall_mem_cons.mpr ⟨mm_ml0_44, fun _ h => absurd h List.not_mem_nil⟩⟩
theorem mm_ml1_54 : mm_mlk 1 54 120 false 1 := mm_mk mm_m120 (List.mem_of_getElem? (i := 1286) (by decide +kernel))
theorem mm_ml1_58 : mm_mlk 1 58 123 false 2 := mm_mk mm_m123 (List.mem_of_getElem? (i := 1316) (by decide +kernel))
theorem mm_ml1_62 : mm_mlk 1 62 124 false 3 := mm_mk mm_m124 (List.mem_of_getElem? (i := 1320) (by decide +kernel))
theorem mm_ml1_66 : mm_mlk 1 66 125 false 1 := mm_mk mm_m125 (List.mem_of_getElem? (i := 1330) (by decide +kernel))
theorem mm_ml1_73 : mm_mlk 1 73 121 false 1 := mm_mk mm_m121 (List.mem_of_getElem? (i := 1324) (by decide +kernel))
theorem mm_ml1_77 : mm_mlk 1 77 107 false 3 := mm_mkN (host := "GlassThreads") mm_m107 (List.mem_of_getElem? (i := 1325) (by decide +kernel))
theorem mm_ml1_81 : mm_mlk 1 81 117 false 1 := mm_mkN (host := "GlassThreads") mm_m117 (List.mem_of_getElem? (i := 1326) (by decide +kernel))
theorem mm_ML1 : ∀ q ∈ mm_MLs 1, mm_mlk 1 q.1 q.2.1 q.2.2.1 q.2.2.2 := List.forall_mem_cons.mpr ⟨mm_ml1_54, List.forall_mem_cons.mpr ⟨mm_ml1_58, List.forall_mem_cons.mpr ⟨mm_ml1_62, List.forall_mem_cons.mpr ⟨mm_ml1_66, List.forall_mem_cons.mpr ⟨mm_ml1_73, List.forall_mem_cons.mpr ⟨mm_ml1_77, List.forall_mem_cons.mpr ⟨mm_ml1_81, fun _ h => absurd h List.not_mem_nil⟩⟩⟩⟩⟩⟩⟩
theorem mm_ml2_30 : mm_mlk 2 30 100 false 2 := mm_mkN (host := "GlassThreads") mm_m100 (List.mem_of_getElem? (i := 1395) (by decide +kernel))
theorem mm_ml2_36 : mm_mlk 2 36 129 false 2 := mm_mk mm_m129 (List.mem_of_getElem? (i := 1400) (by decide +kernel))
theorem mm_ml2_39 : mm_mlk 2 39 130 false 1 := mm_mk mm_m130 (List.mem_of_getElem? (i := 1404) (by decide +kernel))
theorem mm_ml2_49 : mm_mlk 2 49 131 false 2 := mm_mk mm_m131 (List.mem_of_getElem? (i := 1408) (by decide +kernel))
theorem mm_ML2 : ∀ q ∈ mm_MLs 2, mm_mlk 2 q.1 q.2.1 q.2.2.1 q.2.2.2 := List.forall_mem_cons.mpr ⟨mm_ml2_30, List.forall_mem_cons.mpr ⟨mm_ml2_36, List.forall_mem_cons.mpr ⟨mm_ml2_39, List.forall_mem_cons.mpr ⟨mm_ml2_49, fun _ h => absurd h List.not_mem_nil⟩⟩⟩⟩
theorem mm_ml3_34 : mm_mlk 3 34 291 true 2 := mm_mk mm_m291 (List.mem_of_getElem? (i := 237) (by decide +kernel))
theorem mm_ml3_45 : mm_mlk 3 45 74 false 2 := mm_mk mm_m74 (List.mem_of_getElem? (i := 984) (by decide +kernel))
theorem mm_ml3_49 : mm_mlk 3 49 84 true 1 := mm_mk mm_m84 (List.mem_of_getElem? (i := 988) (by decide +kernel))
theorem mm_ml3_53 : mm_mlk 3 53 65 false 1 := mm_mkN (host := "GlassThreads") mm_m65 (List.mem_of_getElem? (i := 991) (by decide +kernel))
theorem mm_ml3_57 : mm_mlk 3 57 60 false 0 := mm_mkN (host := "GlassThreads") mm_m60 (List.mem_of_getElem? (i := 992) (by decide +kernel))
theorem mm_ml3_60 : mm_mlk 3 60 75 false 2 := mm_mk mm_m75 (List.mem_of_getElem? (i := 993) (by decide +kernel))
theorem mm_ml3_63 : mm_mlk 3 63 67 false 1 := mm_mkN (host := "GlassThreads") mm_m67 (List.mem_of_getElem? (i := 1019) (by decide +kernel))
theorem mm_ml3_67 : mm_mlk 3 67 86 true 1 := mm_mk mm_m86 (List.mem_of_getElem? (i := 997) (by decide +kernel))
theorem mm_ml3_70 : mm_mlk 3 70 76 false 3 := mm_mk mm_m76 (List.mem_of_getElem? (i := 1003) (by decide +kernel))
theorem mm_ml3_74 : mm_mlk 3 74 77 false 2 := mm_mk mm_m77 (List.mem_of_getElem? (i := 1007) (by decide +kernel))
theorem mm_ml3_77 : mm_mlk 3 77 78 false 2 := mm_mk mm_m78 (List.mem_of_getElem? (i := 1015) (by decide +kernel))
theorem mm_ml3_80 : mm_mlk 3 80 83 true 1 := mm_mk mm_m83 (List.mem_of_getElem? (i := 1022) (by decide +kernel))
theorem mm_ml3_83 : mm_mlk 3 83 79 false 2 := mm_mk mm_m79 (List.mem_of_getElem? (i := 1011) (by decide +kernel))
theorem mm_ml3_88 : mm_mlk 3 88 64 false 2 := mm_mkN (host := "GlassThreads") mm_m64 (List.mem_of_getElem? (i := 1020) (by decide +kernel))
theorem mm_ml3_91 : mm_mlk 3 91 66 false 0 := mm_mkN (host := "GlassThreads") mm_m66 (List.mem_of_getElem? (i := 1021) (by decide +kernel))
theorem mm_ml3_95 : mm_mlk 3 95 87 true 1 := mm_mk mm_m87 (List.mem_of_getElem? (i := 667) (by decide +kernel))
theorem mm_ml3_98 : mm_mlk 3 98 68 true 1 := mm_mkN (host := "GlassThreads") mm_m68 (List.mem_of_getElem? (i := 1000) (by decide +kernel))
theorem mm_ml3_112 : mm_mlk 3 112 85 true 2 := mm_mk mm_m85 (List.mem_of_getElem? (i := 660) (by decide +kernel))
theorem mm_ml3_119 : mm_mlk 3 119 81 false 2 := mm_mk mm_m81 (List.mem_of_getElem? (i := 663) (by decide +kernel))
theorem mm_ml3_130 : mm_mlk 3 130 88 true 1 := mm_mk mm_m88 (List.mem_of_getElem? (i := 670) (by decide +kernel))
theorem mm_ml3_134 : mm_mlk 3 134 82 true 3 := mm_mk mm_m82 (List.mem_of_getElem? (i := 673) (by decide +kernel))
theorem mm_ML3 : ∀ q ∈ mm_MLs 3, mm_mlk 3 q.1 q.2.1 q.2.2.1 q.2.2.2 := List.forall_mem_cons.mpr ⟨mm_ml3_34, List.forall_mem_cons.mpr ⟨mm_ml3_45, List.forall_mem_cons.mpr ⟨mm_ml3_49, List.forall_mem_cons.mpr ⟨mm_ml3_53, List.forall_mem_cons.mpr ⟨mm_ml3_57, List.forall_mem_cons.mpr ⟨mm_ml3_60, List.forall_mem_cons.mpr ⟨mm_ml3_63, List.forall_mem_cons.mpr ⟨mm_ml3_67, List.forall_mem_cons.mpr ⟨mm_ml3_70, List.forall_mem_cons.mpr ⟨mm_ml3_74, List.forall_mem_cons.mpr ⟨mm_ml3_77, List.forall_mem_cons.mpr ⟨mm_ml3_80, List.forall_mem_cons.mpr ⟨mm_ml3_83, List.forall_mem_cons.mpr ⟨mm_ml3_88, List.forall_mem_cons.mpr ⟨mm_ml3_91, List.forall_mem_cons.mpr ⟨mm_ml3_95, List.forall_mem_cons.mpr ⟨mm_ml3_98, List.forall_mem_cons.mpr ⟨mm_ml3_112, List.forall_mem_cons.mpr ⟨mm_ml3_119, List.forall_mem_cons.mpr ⟨mm_ml3_130, List.forall_mem_cons.mpr ⟨mm_ml3_134, fun _ h => absurd h List.not_mem_nil⟩⟩⟩⟩⟩⟩⟩⟩⟩⟩⟩⟩⟩⟩⟩⟩⟩⟩⟩⟩⟩
theorem mm_ml4_82 : mm_mlk 4 82 80 false 4 := mm_mkN (host := "GlassThreads") mm_m80 (List.mem_of_getElem? (i := 656) (by decide +kernel))
theorem mm_ml4_94 : mm_mlk 4 94 136 false 3 := mm_mk mm_m136 (List.mem_of_getElem? (i := 688) (by decide +kernel))
theorem mm_ml4_98 : mm_mlk 4 98 152 false 1 := mm_mkN (host := "GlassThreads") mm_m152 (List.mem_of_getElem? (i := 704) (by decide +kernel))
theorem mm_ml4_102 : mm_mlk 4 102 149 false 0 := mm_mkN (host := "GlassThreads") mm_m149 (List.mem_of_getElem? (i := 692) (by decide +kernel))
theorem mm_ml4_108 : mm_mlk 4 108 137 false 4 := mm_mk mm_m137 (List.mem_of_getElem? (i := 696) (by decide +kernel))
theorem mm_ml4_112 : mm_mlk 4 112 153 false 1 := mm_mkN (host := "GlassThreads") mm_m153 (List.mem_of_getElem? (i := 700) (by decide +kernel))
theorem mm_ml4_119 : mm_mlk 4 119 138 false 2 := mm_mk mm_m138 (List.mem_of_getElem? (i := 711) (by decide +kernel))
theorem mm_ml4_122 : mm_mlk 4 122 150 false 2 := mm_mkN (host := "GlassThreads") mm_m150 (List.mem_of_getElem? (i := 715) (by decide +kernel))
theorem mm_ml4_126 : mm_mlk 4 126 151 false 1 := mm_mkN (host := "GlassThreads") mm_m151 (List.mem_of_getElem? (i := 719) (by decide +kernel))
theorem mm_ml4_130 : mm_mlk 4 130 140 false 4 := mm_mk mm_m140 (List.mem_of_getElem? (i := 1470) (by decide +kernel))
theorem mm_ml4_136 : mm_mlk 4 136 141 false 0 := mm_mk mm_m141 (List.mem_of_getElem? (i := 1474) (by decide +kernel))
theorem mm_ml4_140 : mm_mlk 4 140 143 false 2 := mm_mk mm_m143 (List.mem_of_getElem? (i := 723) (by decide +kernel))
theorem mm_ml4_150 : mm_mlk 4 150 144 false 1 := mm_mk mm_m144 (List.mem_of_getElem? (i := 727) (by decide +kernel))
theorem mm_ml4_157 : mm_mlk 4 157 145 false 2 := mm_mk mm_m145 (List.mem_of_getElem? (i := 732) (by decide +kernel))
theorem mm_ml4_160 : mm_mlk 4 160 147 false 3 := mm_mk mm_m147 (List.mem_of_getElem? (i := 745) (by decide +kernel))
theorem mm_ml4_163 : mm_mlk 4 163 146 false 1 := mm_mk mm_m146 (List.mem_of_getElem? (i := 1506) (by decide +kernel))
theorem mm_ml4_166 : mm_mlk 4 166 290 true 1 := mm_mk mm_m290 (List.mem_of_getElem? (i := 1507) (by decide +kernel))
theorem mm_ML4 : ∀ q ∈ mm_MLs 4, mm_mlk 4 q.1 q.2.1 q.2.2.1 q.2.2.2 := List.forall_mem_cons.mpr ⟨mm_ml4_82, List.forall_mem_cons.mpr ⟨mm_ml4_94, List.forall_mem_cons.mpr ⟨mm_ml4_98, List.forall_mem_cons.mpr ⟨mm_ml4_102, List.forall_mem_cons.mpr ⟨mm_ml4_108, List.forall_mem_cons.mpr ⟨mm_ml4_112, List.forall_mem_cons.mpr ⟨mm_ml4_119, List.forall_mem_cons.mpr ⟨mm_ml4_122, List.forall_mem_cons.mpr ⟨mm_ml4_126, List.forall_mem_cons.mpr ⟨mm_ml4_130, List.forall_mem_cons.mpr ⟨mm_ml4_136, List.forall_mem_cons.mpr ⟨mm_ml4_140, List.forall_mem_cons.mpr ⟨mm_ml4_150, List.forall_mem_cons.mpr ⟨mm_ml4_157, List.forall_mem_cons.mpr ⟨mm_ml4_160, List.forall_mem_cons.mpr ⟨mm_ml4_163, List.forall_mem_cons.mpr ⟨mm_ml4_166, fun _ h => absurd h List.not_mem_nil⟩⟩⟩⟩⟩⟩⟩⟩⟩⟩⟩⟩⟩⟩⟩⟩⟩
theorem mm_ml5_43 : mm_mlk 5 43 108 false 5 := mm_mk mm_m108 (List.mem_of_getElem? (i := 1219) (by decide +kernel))
theorem mm_ml5_50 : mm_mlk 5 50 109 false 4 := mm_mk mm_m109 (List.mem_of_getElem? (i := 1223) (by decide +kernel))
theorem mm_ml5_57 : mm_mlk 5 57 110 false 1 := mm_mk mm_m110 (List.mem_of_getElem? (i := 1231) (by decide +kernel))
theorem mm_ml5_64 : mm_mlk 5 64 111 false 2 := mm_mk mm_m111 (List.mem_of_getElem? (i := 1235) (by decide +kernel))
theorem mm_ml5_71 : mm_mlk 5 71 114 false 4 := mm_mk mm_m114 (List.mem_of_getElem? (i := 1227) (by decide +kernel))
theorem mm_ml5_75 : mm_mlk 5 75 112 false 2 := mm_mk mm_m112 (List.mem_of_getElem? (i := 1239) (by decide +kernel))
theorem mm_ml5_79 : mm_mlk 5 79 113 false 1 := mm_mk mm_m113 (List.mem_of_getElem? (i := 1246) (by decide +kernel))
theorem mm_ML5 : ∀ q ∈ mm_MLs 5, mm_mlk 5 q.1 q.2.1 q.2.2.1 q.2.2.2 := List.forall_mem_cons.mpr ⟨mm_ml5_43, List.forall_mem_cons.mpr ⟨mm_ml5_50, List.forall_mem_cons.mpr ⟨mm_ml5_57, List.forall_mem_cons.mpr ⟨mm_ml5_64, List.forall_mem_cons.mpr ⟨mm_ml5_71, List.forall_mem_cons.mpr ⟨mm_ml5_75, List.forall_mem_cons.mpr ⟨mm_ml5_79, fun _ h => absurd h List.not_mem_nil⟩⟩⟩⟩⟩⟩⟩
theorem mm_ml6_32 : mm_mlk 6 32 94 false 3 := mm_mk mm_m94 (List.mem_of_getElem? (i := 1140) (by decide +kernel))
theorem mm_ml6_40 : mm_mlk 6 40 80 false 4 := mm_mkN (host := "GlassThreads") mm_m80 (List.mem_of_getElem? (i := 1161) (by decide +kernel))
theorem mm_ml6_47 : mm_mlk 6 47 97 false 2 := mm_mk mm_m97 (List.mem_of_getElem? (i := 1167) (by decide +kernel))
theorem mm_ml6_65 : mm_mlk 6 65 98 false 0 := mm_mk mm_m98 (List.mem_of_getElem? (i := 1183) (by decide +kernel))
theorem mm_ml6_70 : mm_mlk 6 70 96 false 3 := mm_mk mm_m96 (List.mem_of_getElem? (i := 1188) (by decide +kernel))
theorem mm_ml6_74 : mm_mlk 6 74 99 false 0 := mm_mk mm_m99 (List.mem_of_getElem? (i := 1189) (by decide +kernel))
theorem mm_ML6 : ∀ q ∈ mm_MLs 6, mm_mlk 6 q.1 q.2.1 q.2.2.1 q.2.2.2 := List.forall_mem_cons.mpr ⟨mm_ml6_32, List.forall_mem_cons.mpr ⟨mm_ml6_40, List.forall_mem_cons.mpr ⟨mm_ml6_47, List.forall_mem_cons.mpr ⟨mm_ml6_65, List.forall_mem_cons.mpr ⟨mm_ml6_70, List.forall_mem_cons.mpr ⟨mm_ml6_74, fun _ h => absurd h List.not_mem_nil⟩⟩⟩⟩⟩⟩
theorem mm_ml8_31 : mm_mlk 8 31 102 false 1 := mm_mk mm_m102 (List.mem_of_getElem? (i := 938) (by decide +kernel))
theorem mm_ml8_40 : mm_mlk 8 40 65 false 1 := mm_mkN (host := "GlassThreads") mm_m65 (List.mem_of_getElem? (i := 942) (by decide +kernel))
theorem mm_ml8_44 : mm_mlk 8 44 105 false 1 := mm_mk mm_m105 (List.mem_of_getElem? (i := 946) (by decide +kernel))
theorem mm_ml8_48 : mm_mlk 8 48 60 false 0 := mm_mkN (host := "GlassThreads") mm_m60 (List.mem_of_getElem? (i := 950) (by decide +kernel))
theorem mm_ml8_51 : mm_mlk 8 51 103 false 2 := mm_mk mm_m103 (List.mem_of_getElem? (i := 951) (by decide +kernel))
theorem mm_ml8_55 : mm_mlk 8 55 67 false 1 := mm_mkN (host := "GlassThreads") mm_m67 (List.mem_of_getElem? (i := 969) (by decide +kernel))
theorem mm_ml8_59 : mm_mlk 8 59 104 false 4 := mm_mk mm_m104 (List.mem_of_getElem? (i := 955) (by decide +kernel))
theorem mm_ml8_64 : mm_mlk 8 64 64 false 2 := mm_mkN (host := "GlassThreads") mm_m64 (List.mem_of_getElem? (i := 959) (by decide +kernel))
theorem mm_ml8_68 : mm_mlk 8 68 66 false 0 := mm_mkN (host := "GlassThreads") mm_m66 (List.mem_of_getElem? (i := 963) (by decide +kernel))
theorem mm_ML8 : ∀ q ∈ mm_MLs 8, mm_mlk 8 q.1 q.2.1 q.2.2.1 q.2.2.2 := List.forall_mem_cons.mpr ⟨mm_ml8_31, List.forall_mem_cons.mpr ⟨mm_ml8_40, List.forall_mem_cons.mpr ⟨mm_ml8_44, List.forall_mem_cons.mpr ⟨mm_ml8_48, List.forall_mem_cons.mpr ⟨mm_ml8_51, List.forall_mem_cons.mpr ⟨mm_ml8_55, List.forall_mem_cons.mpr ⟨mm_ml8_59, List.forall_mem_cons.mpr ⟨mm_ml8_64, List.forall_mem_cons.mpr ⟨mm_ml8_68, fun _ h => absurd h List.not_mem_nil⟩⟩⟩⟩⟩⟩⟩⟩⟩
theorem mm_ml9_53 : mm_mlk 9 53 69 true 1 := mm_mk mm_m69 (List.mem_of_getElem? (i := 836) (by decide +kernel))
theorem mm_ml9_57 : mm_mlk 9 57 58 false 2 := mm_mk mm_m58 (List.mem_of_getElem? (i := 839) (by decide +kernel))
theorem mm_ml9_60 : mm_mlk 9 60 59 false 3 := mm_mk mm_m59 (List.mem_of_getElem? (i := 915) (by decide +kernel))
theorem mm_ml9_64 : mm_mlk 9 64 60 false 0 := mm_mk mm_m60 (List.mem_of_getElem? (i := 930) (by decide +kernel))
theorem mm_ml9_67 : mm_mlk 9 67 70 true 1 := mm_mk mm_m70 (List.mem_of_getElem? (i := 843) (by decide +kernel))
theorem mm_ml9_70 : mm_mlk 9 70 62 false 2 := mm_mk mm_m62 (List.mem_of_getElem? (i := 846) (by decide +kernel))
theorem mm_ml9_73 : mm_mlk 9 73 71 true 1 := mm_mk mm_m71 (List.mem_of_getElem? (i := 919) (by decide +kernel))
theorem mm_ml9_76 : mm_mlk 9 76 61 false 2 := mm_mk mm_m61 (List.mem_of_getElem? (i := 922) (by decide +kernel))
theorem mm_ml9_79 : mm_mlk 9 79 72 true 1 := mm_mk mm_m72 (List.mem_of_getElem? (i := 927) (by decide +kernel))
theorem mm_ml9_85 : mm_mlk 9 85 63 false 3 := mm_mk mm_m63 (List.mem_of_getElem? (i := 851) (by decide +kernel))
theorem mm_ml9_121 : mm_mlk 9 121 65 false 1 := mm_mk mm_m65 (List.mem_of_getElem? (i := 967) (by decide +kernel))
theorem mm_ML9 : ∀ q ∈ mm_MLs 9, mm_mlk 9 q.1 q.2.1 q.2.2.1 q.2.2.2 := List.forall_mem_cons.mpr ⟨mm_ml9_53, List.forall_mem_cons.mpr ⟨mm_ml9_57, List.forall_mem_cons.mpr ⟨mm_ml9_60, List.forall_mem_cons.mpr ⟨mm_ml9_64, List.forall_mem_cons.mpr ⟨mm_ml9_67, List.forall_mem_cons.mpr ⟨mm_ml9_70, List.forall_mem_cons.mpr ⟨mm_ml9_73, List.forall_mem_cons.mpr ⟨mm_ml9_76, List.forall_mem_cons.mpr ⟨mm_ml9_79, List.forall_mem_cons.mpr ⟨mm_ml9_85, List.forall_mem_cons.mpr ⟨mm_ml9_121, fun _ h => absurd h List.not_mem_nil⟩⟩⟩⟩⟩⟩⟩⟩⟩⟩⟩
theorem mm_ml11_101 : mm_mlk 11 101 56 false 1 := mm_mkN (host := "GlassThreads") mm_m56 (List.mem_of_getElem? (i := 640) (by decide +kernel))
theorem mm_ml11_105 : mm_mlk 11 105 40 false 1 := mm_mk mm_m40 (List.mem_of_getElem? (i := 761) (by decide +kernel))
theorem mm_ml11_108 : mm_mlk 11 108 57 false 1 := mm_mkN (host := "GlassThreads") mm_m57 (List.mem_of_getElem? (i := 831) (by decide +kernel))
theorem mm_ml11_111 : mm_mlk 11 111 101 false 1 := mm_mkN (host := "GlassThreads") mm_m101 (List.mem_of_getElem? (i := 934) (by decide +kernel))
theorem mm_ml11_122 : mm_mlk 11 122 73 false 1 := mm_mkN (host := "GlassThreads") mm_m73 (List.mem_of_getElem? (i := 980) (by decide +kernel))
theorem mm_ml11_123 : mm_mlk 11 123 38 false 1 := mm_mk mm_m38 (List.mem_of_getElem? (i := 1033) (by decide +kernel))
theorem mm_ml11_130 : mm_mlk 11 130 43 true 2 := mm_mk mm_m43 (List.mem_of_getElem? (i := 1053) (by decide +kernel))
theorem mm_ml11_151 : mm_mlk 11 151 44 true 1 := mm_mk mm_m44 (List.mem_of_getElem? (i := 1065) (by decide +kernel))
theorem mm_ml11_159 : mm_mlk 11 159 80 false 4 := mm_mkN (host := "GlassThreads") mm_m80 (List.mem_of_getElem? (i := 1070) (by decide +kernel))
theorem mm_ml11_167 : mm_mlk 11 167 51 true 1 := mm_mk mm_m51 (List.mem_of_getElem? (i := 1087) (by decide +kernel))
theorem mm_ml11_171 : mm_mlk 11 171 106 false 3 := mm_mkN (host := "GlassThreads") mm_m106 (List.mem_of_getElem? (i := 1091) (by decide +kernel))
theorem mm_ml11_175 : mm_mlk 11 175 89 false 6 := mm_mkN (host := "GlassThreads") mm_m89 (List.mem_of_getElem? (i := 1095) (by decide +kernel))
theorem mm_ml11_184 : mm_mlk 11 184 90 false 2 := mm_mkN (host := "GlassThreads") mm_m90 (List.mem_of_getElem? (i := 1107) (by decide +kernel))
theorem mm_ml11_188 : mm_mlk 11 188 45 true 1 := mm_mk mm_m45 (List.mem_of_getElem? (i := 1118) (by decide +kernel))
theorem mm_ml11_191 : mm_mlk 11 191 48 true 1 := mm_mk mm_m48 (List.mem_of_getElem? (i := 1122) (by decide +kernel))
theorem mm_ml11_194 : mm_mlk 11 194 41 false 1 := mm_mk mm_m41 (List.mem_of_getElem? (i := 1127) (by decide +kernel))
theorem mm_ml11_197 : mm_mlk 11 197 53 false 3 := mm_mk mm_m53 (List.mem_of_getElem? (i := 1132) (by decide +kernel))
theorem mm_ml11_201 : mm_mlk 11 201 52 true 2 := mm_mk mm_m52 (List.mem_of_getElem? (i := 1153) (by decide +kernel))
theorem mm_ml11_205 : mm_mlk 11 205 95 false 3 := mm_mkN (host := "GlassThreads") mm_m95 (List.mem_of_getElem? (i := 1157) (by decide +kernel))
theorem mm_ml11_209 : mm_mlk 11 209 96 false 3 := mm_mkN (host := "GlassThreads") mm_m96 (List.mem_of_getElem? (i := 1162) (by decide +kernel))
theorem mm_ml11_213 : mm_mlk 11 213 100 false 2 := mm_mkN (host := "GlassThreads") mm_m100 (List.mem_of_getElem? (i := 1179) (by decide +kernel))
theorem mm_ml11_217 : mm_mlk 11 217 93 false 1 := mm_mkN (host := "GlassThreads") mm_m93 (List.mem_of_getElem? (i := 1136) (by decide +kernel))
theorem mm_ml11_223 : mm_mlk 11 223 107 false 3 := mm_mkN (host := "GlassThreads") mm_m107 (List.mem_of_getElem? (i := 1215) (by decide +kernel))
theorem mm_ml11_239 : mm_mlk 11 239 118 false 1 := mm_mkN (host := "GlassThreads") mm_m118 (List.mem_of_getElem? (i := 1266) (by decide +kernel))
theorem mm_ml11_242 : mm_mlk 11 242 42 false 0 := mm_mk mm_m42 (List.mem_of_getElem? (i := 1277) (by decide +kernel))
theorem mm_ml11_249 : mm_mlk 11 249 119 false 2 := mm_mkN (host := "GlassThreads") mm_m119 (List.mem_of_getElem? (i := 1282) (by decide +kernel))
theorem mm_ml11_252 : mm_mlk 11 252 121 false 1 := mm_mkN (host := "GlassThreads") mm_m121 (List.mem_of_getElem? (i := 1297) (by decide +kernel))
theorem mm_ml11_256 : mm_mlk 11 256 115 false 1 := mm_mkN (host := "GlassThreads") mm_m115 (List.mem_of_getElem? (i := 1301) (by decide +kernel))
theorem mm_ml11_260 : mm_mlk 11 260 122 false 2 := mm_mkN (host := "GlassThreads") mm_m122 (List.mem_of_getElem? (i := 1312) (by decide +kernel))
theorem mm_ml11_280 : mm_mlk 11 280 49 true 1 := mm_mk mm_m49 (List.mem_of_getElem? (i := 1350) (by decide +kernel))
theorem mm_ml11_283 : mm_mlk 11 283 50 true 2 := mm_mk mm_m50 (List.mem_of_getElem? (i := 1355) (by decide +kernel))
theorem mm_ml11_287 : mm_mlk 11 287 47 true 1 := mm_mk mm_m47 (List.mem_of_getElem? (i := 1359) (by decide +kernel))
theorem mm_ml11_290 : mm_mlk 11 290 54 true 2 := mm_mk mm_m54 (List.mem_of_getElem? (i := 1363) (by decide +kernel))
theorem mm_ml11_293 : mm_mlk 11 293 55 true 2 := mm_mk mm_m55 (List.mem_of_getElem? (i := 1366) (by decide +kernel))
theorem mm_ml11_307 : mm_mlk 11 307 98 false 0 := mm_mkN (host := "GlassThreads") mm_m98 (List.mem_of_getElem? (i := 1385) (by decide +kernel))
theorem mm_ml11_312 : mm_mlk 11 312 126 false 4 := mm_mkN (host := "GlassThreads") mm_m126 (List.mem_of_getElem? (i := 1387) (by decide +kernel))
theorem mm_ml11_316 : mm_mlk 11 316 127 false 3 := mm_mkN (host := "GlassThreads") mm_m127 (List.mem_of_getElem? (i := 1391) (by decide +kernel))
theorem mm_ml11_320 : mm_mlk 11 320 128 false 1 := mm_mkN (host := "GlassThreads") mm_m128 (List.mem_of_getElem? (i := 1396) (by decide +kernel))
theorem mm_ml11_328 : mm_mlk 11 328 46 true 1 := mm_mk mm_m46 (List.mem_of_getElem? (i := 1429) (by decide +kernel))
theorem mm_ml11_331 : mm_mlk 11 331 132 false 4 := mm_mkN (host := "GlassThreads") mm_m132 (List.mem_of_getElem? (i := 1433) (by decide +kernel))
theorem mm_ml11_335 : mm_mlk 11 335 133 false 2 := mm_mkN (host := "GlassThreads") mm_m133 (List.mem_of_getElem? (i := 1444) (by decide +kernel))
theorem mm_ml11_338 : mm_mlk 11 338 134 false 2 := mm_mkN (host := "GlassThreads") mm_m134 (List.mem_of_getElem? (i := 652) (by decide +kernel))
theorem mm_ml11_341 : mm_mlk 11 341 135 false 2 := mm_mkN (host := "GlassThreads") mm_m135 (List.mem_of_getElem? (i := 1455) (by decide +kernel))
theorem mm_ml11_344 : mm_mlk 11 344 139 false 2 := mm_mkN (host := "GlassThreads") mm_m139 (List.mem_of_getElem? (i := 1466) (by decide +kernel))
theorem mm_ml11_362 : mm_mlk 11 362 142 false 0 := mm_mkN (host := "GlassThreads") mm_m142 (List.mem_of_getElem? (i := 684) (by decide +kernel))
theorem mm_ml11_377 : mm_mlk 11 377 146 false 1 := mm_mkN (host := "GlassThreads") mm_m146 (List.mem_of_getElem? (i := 741) (by decide +kernel))
theorem mm_ml11_382 : mm_mlk 11 382 148 false 1 := mm_mkN (host := "GlassThreads") mm_m148 (List.mem_of_getElem? (i := 1502) (by decide +kernel))
theorem mm_ml11_389 : mm_mlk 11 389 39 false 1 := mm_mk mm_m39 (List.mem_of_getElem? (i := 1520) (by decide +kernel))
theorem mm_ml11_393 : mm_mlk 11 393 154 false 1 := mm_mkN (host := "GlassThreads") mm_m154 (List.mem_of_getElem? (i := 1525) (by decide +kernel))
theorem mm_ml11_399 : mm_mlk 11 399 155 false 2 := mm_mkN (host := "GlassThreads") mm_m155 (List.mem_of_getElem? (i := 1536) (by decide +kernel))
theorem mm_ml11_410 : mm_mlk 11 410 156 false 2 := mm_mkN (host := "GlassThreads") mm_m156 (List.mem_of_getElem? (i := 1549) (by decide +kernel))
theorem mm_ml11_413 : mm_mlk 11 413 116 false 3 := mm_mkN (host := "GlassThreads") mm_m116 (List.mem_of_getElem? (i := 1553) (by decide +kernel))
theorem mm_ml11_451 : mm_mlk 11 451 91 false 4 := mm_mkN (host := "GlassThreads") mm_m91 (List.mem_of_getElem? (i := 1144) (by decide +kernel))
theorem mm_ML11 : ∀ q ∈ mm_MLs 11, mm_mlk 11 q.1 q.2.1 q.2.2.1 q.2.2.2 := List.forall_mem_cons.mpr ⟨mm_ml11_101, List.forall_mem_cons.mpr ⟨mm_ml11_105, List.forall_mem_cons.mpr ⟨mm_ml11_108, List.forall_mem_cons.mpr ⟨mm_ml11_111, List.forall_mem_cons.mpr ⟨mm_ml11_122, List.forall_mem_cons.mpr ⟨mm_ml11_123, List.forall_mem_cons.mpr ⟨mm_ml11_130, List.forall_mem_cons.mpr ⟨mm_ml11_151, List.forall_mem_cons.mpr ⟨mm_ml11_159, List.forall_mem_cons.mpr ⟨mm_ml11_167, List.forall_mem_cons.mpr ⟨mm_ml11_171, List.forall_mem_cons.mpr ⟨mm_ml11_175, List.forall_mem_cons.mpr ⟨mm_ml11_184, List.forall_mem_cons.mpr ⟨mm_ml11_188, List.forall_mem_cons.mpr ⟨mm_ml11_191, List.forall_mem_cons.mpr ⟨mm_ml11_194, List.forall_mem_cons.mpr ⟨mm_ml11_197, List.forall_mem_cons.mpr ⟨mm_ml11_201, List.forall_mem_cons.mpr ⟨mm_ml11_205, List.forall_mem_cons.mpr ⟨mm_ml11_209, List.forall_mem_cons.mpr ⟨mm_ml11_213, List.forall_mem_cons.mpr ⟨mm_ml11_217, List.forall_mem_cons.mpr ⟨mm_ml11_223, List.forall_mem_cons.mpr ⟨mm_ml11_239, List.forall_mem_cons.mpr ⟨mm_ml11_242, List.forall_mem_cons.mpr ⟨mm_ml11_249, List.forall_mem_cons.mpr ⟨mm_ml11_252, List.forall_mem_cons.mpr ⟨mm_ml11_256, List.forall_mem_cons.mpr ⟨mm_ml11_260, List.forall_mem_cons.mpr ⟨mm_ml11_280, List.forall_mem_cons.mpr ⟨mm_ml11_283, List.forall_mem_cons.mpr ⟨mm_ml11_287, List.forall_mem_cons.mpr ⟨mm_ml11_290, List.forall_mem_cons.mpr ⟨mm_ml11_293, List.forall_mem_cons.mpr ⟨mm_ml11_307, List.forall_mem_cons.mpr ⟨mm_ml11_312, List.forall_mem_cons.mpr ⟨mm_ml11_316, List.forall_mem_cons.mpr ⟨mm_ml11_320, List.forall_mem_cons.mpr ⟨mm_ml11_328, List.forall_mem_cons.mpr ⟨mm_ml11_331, List.forall_mem_cons.mpr ⟨mm_ml11_335, List.forall_mem_cons.mpr ⟨mm_ml11_338, List.forall_mem_cons.mpr ⟨mm_ml11_341, List.forall_mem_cons.mpr ⟨mm_ml11_344, List.forall_mem_cons.mpr ⟨mm_ml11_362, List.forall_mem_cons.mpr ⟨mm_ml11_377, List.forall_mem_cons.mpr ⟨mm_ml11_382, List.forall_mem_cons.mpr ⟨mm_ml11_389, List.forall_mem_cons.mpr ⟨mm_ml11_393, List.forall_mem_cons.mpr ⟨mm_ml11_399, List.forall_mem_cons.mpr ⟨mm_ml11_410, List.forall_mem_cons.mpr ⟨mm_ml11_413, List.forall_mem_cons.mpr ⟨mm_ml11_451, fun _ h => absurd h List.not_mem_nil⟩⟩⟩⟩⟩⟩⟩⟩⟩⟩⟩⟩⟩⟩⟩⟩⟩⟩⟩⟩⟩⟩⟩⟩⟩⟩⟩⟩⟩⟩⟩⟩⟩⟩⟩⟩⟩⟩⟩⟩⟩⟩⟩⟩⟩⟩⟩⟩⟩⟩⟩⟩⟩
theorem mm_ml12_260 : mm_mlk 12 260 162 false 1 := mm_mk mm_m162 (List.mem_of_getElem? (i := 1920) (by decide +kernel))
theorem mm_ml12_273 : mm_mlk 12 273 163 true 1 := mm_mk mm_m163 (List.mem_of_getElem? (i := 1924) (by decide +kernel))
theorem mm_ml12_277 : mm_mlk 12 277 164 true 1 := mm_mk mm_m164 (List.mem_of_getElem? (i := 1927) (by decide +kernel))
theorem mm_ml12_296 : mm_mlk 12 296 165 false 0 := mm_mk mm_m165 (List.mem_of_getElem? (i := 1916) (by decide +kernel))
theorem mm_ml12_309 : mm_mlk 12 309 169 false 1 := mm_mk mm_m169 (List.mem_of_getElem? (i := 1943) (by decide +kernel))
theorem mm_ml12_313 : mm_mlk 12 313 168 false 1 := mm_mk mm_m168 (List.mem_of_getElem? (i := 1962) (by decide +kernel))
theorem mm_ml12_316 : mm_mlk 12 316 167 false 1 := mm_mk mm_m167 (List.mem_of_getElem? (i := 1949) (by decide +kernel))
theorem mm_ml12_320 : mm_mlk 12 320 170 false 1 := mm_mk mm_m170 (List.mem_of_getElem? (i := 1939) (by decide +kernel))
theorem mm_ml12_324 : mm_mlk 12 324 172 false 2 := mm_mk mm_m172 (List.mem_of_getElem? (i := 1953) (by decide +kernel))
theorem mm_ml12_328 : mm_mlk 12 328 171 false 1 := mm_mk mm_m171 (List.mem_of_getElem? (i := 1958) (by decide +kernel))
theorem mm_ml12_331 : mm_mlk 12 331 158 false 1 := mm_mk mm_m158 (List.mem_of_getElem? (i := 1908) (by decide +kernel))
theorem mm_ml12_334 : mm_mlk 12 334 166 false 1 := mm_mk mm_m166 (List.mem_of_getElem? (i := 1912) (by decide +kernel))
theorem mm_ml12_340 : mm_mlk 12 340 160 true 3 := mm_mk mm_m160 (List.mem_of_getElem? (i := 1932) (by decide +kernel))
theorem mm_ml12_344 : mm_mlk 12 344 173 false 1 := mm_mk mm_m173 (List.mem_of_getElem? (i := 1935) (by decide +kernel))
theorem mm_ml12_351 : mm_mlk 12 351 175 false 1 := mm_mk mm_m175 (List.mem_of_getElem? (i := 1996) (by decide +kernel))
theorem mm_ml12_354 : mm_mlk 12 354 181 false 1 := mm_mk mm_m181 (List.mem_of_getElem? (i := 1970) (by decide +kernel))
theorem mm_ml12_357 : mm_mlk 12 357 176 false 1 := mm_mk mm_m176 (List.mem_of_getElem? (i := 1991) (by decide +kernel))
theorem mm_ml12_360 : mm_mlk 12 360 177 false 1 := mm_mk mm_m177 (List.mem_of_getElem? (i := 1987) (by decide +kernel))
theorem mm_ml12_365 : mm_mlk 12 365 178 false 1 := mm_mk mm_m178 (List.mem_of_getElem? (i := 1983) (by decide +kernel))
theorem mm_ml12_368 : mm_mlk 12 368 179 false 1 := mm_mk mm_m179 (List.mem_of_getElem? (i := 1978) (by decide +kernel))
theorem mm_ml12_373 : mm_mlk 12 373 180 false 1 := mm_mk mm_m180 (List.mem_of_getElem? (i := 1974) (by decide +kernel))
theorem mm_ml12_378 : mm_mlk 12 378 184 true 3 := mm_mk mm_m184 (List.mem_of_getElem? (i := 2033) (by decide +kernel))
theorem mm_ml12_382 : mm_mlk 12 382 185 false 1 := mm_mk mm_m185 (List.mem_of_getElem? (i := 2029) (by decide +kernel))
theorem mm_ml12_388 : mm_mlk 12 388 187 false 1 := mm_mk mm_m187 (List.mem_of_getElem? (i := 2010) (by decide +kernel))
theorem mm_ml12_391 : mm_mlk 12 391 188 false 2 := mm_mk mm_m188 (List.mem_of_getElem? (i := 2014) (by decide +kernel))
theorem mm_ml12_395 : mm_mlk 12 395 189 true 1 := mm_mk mm_m189 (List.mem_of_getElem? (i := 2022) (by decide +kernel))
theorem mm_ml12_398 : mm_mlk 12 398 186 false 3 := mm_mk mm_m186 (List.mem_of_getElem? (i := 2025) (by decide +kernel))
theorem mm_ml12_408 : mm_mlk 12 408 193 false 3 := mm_mk mm_m193 (List.mem_of_getElem? (i := 2046) (by decide +kernel))
theorem mm_ml12_411 : mm_mlk 12 411 159 false 1 := mm_mk mm_m159 (List.mem_of_getElem? (i := 2054) (by decide +kernel))
theorem mm_ml12_414 : mm_mlk 12 414 197 false 2 := mm_mk mm_m197 (List.mem_of_getElem? (i := 2074) (by decide +kernel))
theorem mm_ml12_417 : mm_mlk 12 417 196 false 0 := mm_mk mm_m196 (List.mem_of_getElem? (i := 2070) (by decide +kernel))
theorem mm_ml12_420 : mm_mlk 12 420 198 false 4 := mm_mk mm_m198 (List.mem_of_getElem? (i := 2078) (by decide +kernel))
theorem mm_ml12_426 : mm_mlk 12 426 203 true 1 := mm_mk mm_m203 (List.mem_of_getElem? (i := 2062) (by decide +kernel))
theorem mm_ml12_429 : mm_mlk 12 429 199 false 3 := mm_mk mm_m199 (List.mem_of_getElem? (i := 2066) (by decide +kernel))
theorem mm_ml12_433 : mm_mlk 12 433 200 false 2 := mm_mk mm_m200 (List.mem_of_getElem? (i := 2082) (by decide +kernel))
theorem mm_ml12_436 : mm_mlk 12 436 201 false 6 := mm_mk mm_m201 (List.mem_of_getElem? (i := 2086) (by decide +kernel))
theorem mm_ml12_440 : mm_mlk 12 440 202 false 3 := mm_mk mm_m202 (List.mem_of_getElem? (i := 2099) (by decide +kernel))
theorem mm_ml12_445 : mm_mlk 12 445 205 false 3 := mm_mk mm_m205 (List.mem_of_getElem? (i := 2104) (by decide +kernel))
theorem mm_ml12_447 : mm_mlk 12 447 206 false 5 := mm_mk mm_m206 (List.mem_of_getElem? (i := 2095) (by decide +kernel))
theorem mm_ml12_457 : mm_mlk 12 457 210 false 4 := mm_mk mm_m210 (List.mem_of_getElem? (i := 2128) (by decide +kernel))
theorem mm_ml12_464 : mm_mlk 12 464 211 false 4 := mm_mk mm_m211 (List.mem_of_getElem? (i := 2124) (by decide +kernel))
theorem mm_ml12_468 : mm_mlk 12 468 212 false 3 := mm_mk mm_m212 (List.mem_of_getElem? (i := 2132) (by decide +kernel))
theorem mm_ml12_474 : mm_mlk 12 474 213 false 4 := mm_mk mm_m213 (List.mem_of_getElem? (i := 2120) (by decide +kernel))
theorem mm_ml12_496 : mm_mlk 12 496 219 false 1 := mm_mk mm_m219 (List.mem_of_getElem? (i := 2157) (by decide +kernel))
theorem mm_ml12_502 : mm_mlk 12 502 224 true 3 := mm_mk mm_m224 (List.mem_of_getElem? (i := 2169) (by decide +kernel))
theorem mm_ml12_505 : mm_mlk 12 505 222 true 2 := mm_mk mm_m222 (List.mem_of_getElem? (i := 2172) (by decide +kernel))
theorem mm_ml12_508 : mm_mlk 12 508 223 true 2 := mm_mk mm_m223 (List.mem_of_getElem? (i := 2175) (by decide +kernel))
theorem mm_ml12_511 : mm_mlk 12 511 227 false 2 := mm_mk mm_m227 (List.mem_of_getElem? (i := 2186) (by decide +kernel))
theorem mm_ml12_517 : mm_mlk 12 517 230 true 1 := mm_mk mm_m230 (List.mem_of_getElem? (i := 2198) (by decide +kernel))
theorem mm_ml12_529 : mm_mlk 12 529 234 false 5 := mm_mk mm_m234 (List.mem_of_getElem? (i := 2217) (by decide +kernel))
theorem mm_ml12_533 : mm_mlk 12 533 236 false 2 := mm_mk mm_m236 (List.mem_of_getElem? (i := 2225) (by decide +kernel))
theorem mm_ml12_536 : mm_mlk 12 536 233 false 0 := mm_mk mm_m233 (List.mem_of_getElem? (i := 2209) (by decide +kernel))
theorem mm_ml12_539 : mm_mlk 12 539 235 false 3 := mm_mk mm_m235 (List.mem_of_getElem? (i := 2213) (by decide +kernel))
theorem mm_ml12_542 : mm_mlk 12 542 237 false 0 := mm_mk mm_m237 (List.mem_of_getElem? (i := 2221) (by decide +kernel))
theorem mm_ml12_548 : mm_mlk 12 548 242 false 2 := mm_mk mm_m242 (List.mem_of_getElem? (i := 2245) (by decide +kernel))
theorem mm_ml12_551 : mm_mlk 12 551 241 false 0 := mm_mk mm_m241 (List.mem_of_getElem? (i := 2241) (by decide +kernel))
theorem mm_ml12_557 : mm_mlk 12 557 245 false 1 := mm_mk mm_m245 (List.mem_of_getElem? (i := 2257) (by decide +kernel))
theorem mm_ml12_560 : mm_mlk 12 560 247 true 1 := mm_mk mm_m247 (List.mem_of_getElem? (i := 2265) (by decide +kernel))
theorem mm_ml12_566 : mm_mlk 12 566 249 false 1 := mm_mk mm_m249 (List.mem_of_getElem? (i := 2276) (by decide +kernel))
theorem mm_ml12_569 : mm_mlk 12 569 252 false 3 := mm_mk mm_m252 (List.mem_of_getElem? (i := 2284) (by decide +kernel))
theorem mm_ML12 : ∀ q ∈ mm_MLs 12, mm_mlk 12 q.1 q.2.1 q.2.2.1 q.2.2.2 := List.forall_mem_cons.mpr ⟨mm_ml12_260, List.forall_mem_cons.mpr ⟨mm_ml12_273, List.forall_mem_cons.mpr ⟨mm_ml12_277, List.forall_mem_cons.mpr ⟨mm_ml12_296, List.forall_mem_cons.mpr ⟨mm_ml12_309, List.forall_mem_cons.mpr ⟨mm_ml12_313, List.forall_mem_cons.mpr ⟨mm_ml12_316, List.forall_mem_cons.mpr ⟨mm_ml12_320, List.forall_mem_cons.mpr ⟨mm_ml12_324, List.forall_mem_cons.mpr ⟨mm_ml12_328, List.forall_mem_cons.mpr ⟨mm_ml12_331, List.forall_mem_cons.mpr ⟨mm_ml12_334, List.forall_mem_cons.mpr ⟨mm_ml12_340, List.forall_mem_cons.mpr ⟨mm_ml12_344, List.forall_mem_cons.mpr ⟨mm_ml12_351, List.forall_mem_cons.mpr ⟨mm_ml12_354, List.forall_mem_cons.mpr ⟨mm_ml12_357, List.forall_mem_cons.mpr ⟨mm_ml12_360, List.forall_mem_cons.mpr ⟨mm_ml12_365, List.forall_mem_cons.mpr ⟨mm_ml12_368, List.forall_mem_cons.mpr ⟨mm_ml12_373, List.forall_mem_cons.mpr ⟨mm_ml12_378, List.forall_mem_cons.mpr ⟨mm_ml12_382, List.forall_mem_cons.mpr ⟨mm_ml12_388, List.forall_mem_cons.mpr ⟨mm_ml12_391, List.forall_mem_cons.mpr ⟨mm_ml12_395, List.forall_mem_cons.mpr ⟨mm_ml12_398, List.forall_mem_cons.mpr ⟨mm_ml12_408, List.forall_mem_cons.mpr ⟨mm_ml12_411, List.forall_mem_cons.mpr ⟨mm_ml12_414, List.forall_mem_cons.mpr ⟨mm_ml12_417, List.forall_mem_cons.mpr ⟨mm_ml12_420, List.forall_mem_cons.mpr ⟨mm_ml12_426, List.forall_mem_cons.mpr ⟨mm_ml12_429, List.forall_mem_cons.mpr ⟨mm_ml12_433, List.forall_mem_cons.mpr ⟨mm_ml12_436, List.forall_mem_cons.mpr ⟨mm_ml12_440, List.forall_mem_cons.mpr ⟨mm_ml12_445, List.forall_mem_cons.mpr ⟨mm_ml12_447, List.forall_mem_cons.mpr ⟨mm_ml12_457, List.forall_mem_cons.mpr ⟨mm_ml12_464, List.forall_mem_cons.mpr ⟨mm_ml12_468, List.forall_mem_cons.mpr ⟨mm_ml12_474, List.forall_mem_cons.mpr ⟨mm_ml12_496, List.forall_mem_cons.mpr ⟨mm_ml12_502, List.forall_mem_cons.mpr ⟨mm_ml12_505, List.forall_mem_cons.mpr ⟨mm_ml12_508, List.forall_mem_cons.mpr ⟨mm_ml12_511, List.forall_mem_cons.mpr ⟨mm_ml12_517, List.forall_mem_cons.mpr ⟨mm_ml12_529, List.forall_mem_cons.mpr ⟨mm_ml12_533, List.forall_mem_cons.mpr ⟨mm_ml12_536, List.forall_mem_cons.mpr ⟨mm_ml12_539, List.forall_mem_cons.mpr ⟨mm_ml12_542, List.forall_mem_cons.mpr ⟨mm_ml12_548, List.forall_mem_cons.mpr ⟨mm_ml12_551, List.forall_mem_cons.mpr ⟨mm_ml12_557, List.forall_mem_cons.mpr ⟨mm_ml12_560, List.forall_mem_cons.mpr ⟨mm_ml12_566, List.forall_mem_cons.mpr ⟨mm_ml12_569, fun _ h => absurd h List.not_mem_nil⟩⟩⟩⟩⟩⟩⟩⟩⟩⟩⟩⟩⟩⟩⟩⟩⟩⟩⟩⟩⟩⟩⟩⟩⟩⟩⟩⟩⟩⟩⟩⟩⟩⟩⟩⟩⟩⟩⟩⟩⟩⟩⟩⟩⟩⟩⟩⟩⟩⟩⟩⟩⟩⟩⟩⟩⟩⟩⟩⟩
theorem mm_ml13_7 : mm_mlk 13 7 1 false 2 := mm_mk mm_m1 (List.mem_of_getElem? (i := 757) (by decide +kernel))
theorem mm_ml13_15 : mm_mlk 13 15 2 false 1 := mm_mk mm_m2 (List.mem_of_getElem? (i := 976) (by decide +kernel))
theorem mm_ml13_19 : mm_mlk 13 19 4 false 3 := mm_mk mm_m4 (List.mem_of_getElem? (i := 1029) (by decide +kernel))
theorem mm_ml13_25 : mm_mlk 13 25 5 false 4 := mm_mk mm_m5 (List.mem_of_getElem? (i := 1061) (by decide +kernel))
theorem mm_ml13_29 : mm_mlk 13 29 6 false 1 := mm_mk mm_m6 (List.mem_of_getElem? (i := 1074) (by decide +kernel))
theorem mm_ml13_32 : mm_mlk 13 32 7 false 5 := mm_mk mm_m7 (List.mem_of_getElem? (i := 1082) (by decide +kernel))
theorem mm_ml13_36 : mm_mlk 13 36 8 false 1 := mm_mk mm_m8 (List.mem_of_getElem? (i := 1102) (by decide +kernel))
theorem mm_ml13_40 : mm_mlk 13 40 9 false 7 := mm_mk mm_m9 (List.mem_of_getElem? (i := 1114) (by decide +kernel))
theorem mm_ml13_44 : mm_mlk 13 44 10 false 6 := mm_mk mm_m10 (List.mem_of_getElem? (i := 1175) (by decide +kernel))
theorem mm_ml13_48 : mm_mlk 13 48 11 false 4 := mm_mk mm_m11 (List.mem_of_getElem? (i := 1196) (by decide +kernel))
theorem mm_ml13_51 : mm_mlk 13 51 12 false 1 := mm_mk mm_m12 (List.mem_of_getElem? (i := 1203) (by decide +kernel))
theorem mm_ml13_54 : mm_mlk 13 54 13 false 5 := mm_mk mm_m13 (List.mem_of_getElem? (i := 1211) (by decide +kernel))
theorem mm_ml13_58 : mm_mlk 13 58 14 false 2 := mm_mk mm_m14 (List.mem_of_getElem? (i := 1253) (by decide +kernel))
theorem mm_ml13_61 : mm_mlk 13 61 15 false 1 := mm_mk mm_m15 (List.mem_of_getElem? (i := 1262) (by decide +kernel))
theorem mm_ml13_65 : mm_mlk 13 65 16 false 2 := mm_mk mm_m16 (List.mem_of_getElem? (i := 1273) (by decide +kernel))
theorem mm_ml13_68 : mm_mlk 13 68 17 false 1 := mm_mk mm_m17 (List.mem_of_getElem? (i := 1293) (by decide +kernel))
theorem mm_ml13_72 : mm_mlk 13 72 18 false 1 := mm_mk mm_m18 (List.mem_of_getElem? (i := 1308) (by decide +kernel))
theorem mm_ml13_75 : mm_mlk 13 75 19 false 1 := mm_mk mm_m19 (List.mem_of_getElem? (i := 1337) (by decide +kernel))
theorem mm_ml13_78 : mm_mlk 13 78 20 false 4 := mm_mk mm_m20 (List.mem_of_getElem? (i := 1346) (by decide +kernel))
theorem mm_ml13_81 : mm_mlk 13 81 21 false 6 := mm_mk mm_m21 (List.mem_of_getElem? (i := 1372) (by decide +kernel))
theorem mm_ml13_84 : mm_mlk 13 84 22 false 8 := mm_mk mm_m22 (List.mem_of_getElem? (i := 1380) (by decide +kernel))
theorem mm_ml13_88 : mm_mlk 13 88 23 false 1 := mm_mk mm_m23 (List.mem_of_getElem? (i := 1418) (by decide +kernel))
theorem mm_ml13_91 : mm_mlk 13 91 24 false 4 := mm_mk mm_m24 (List.mem_of_getElem? (i := 1425) (by decide +kernel))
theorem mm_ml13_94 : mm_mlk 13 94 25 false 2 := mm_mk mm_m25 (List.mem_of_getElem? (i := 1440) (by decide +kernel))
theorem mm_ml13_97 : mm_mlk 13 97 26 false 2 := mm_mk mm_m26 (List.mem_of_getElem? (i := 1451) (by decide +kernel))
theorem mm_ml13_100 : mm_mlk 13 100 27 false 2 := mm_mk mm_m27 (List.mem_of_getElem? (i := 1462) (by decide +kernel))
theorem mm_ml13_103 : mm_mlk 13 103 28 false 1 := mm_mk mm_m28 (List.mem_of_getElem? (i := 1481) (by decide +kernel))
theorem mm_ml13_106 : mm_mlk 13 106 30 false 1 := mm_mk mm_m30 (List.mem_of_getElem? (i := 1489) (by decide +kernel))
theorem mm_ml13_109 : mm_mlk 13 109 32 false 1 := mm_mk mm_m32 (List.mem_of_getElem? (i := 1497) (by decide +kernel))
theorem mm_ml13_112 : mm_mlk 13 112 34 false 3 := mm_mk mm_m34 (List.mem_of_getElem? (i := 1516) (by decide +kernel))
theorem mm_ml13_115 : mm_mlk 13 115 35 false 5 := mm_mk mm_m35 (List.mem_of_getElem? (i := 1532) (by decide +kernel))
theorem mm_ml13_118 : mm_mlk 13 118 36 false 3 := mm_mk mm_m36 (List.mem_of_getElem? (i := 1544) (by decide +kernel))
theorem mm_ml13_121 : mm_mlk 13 121 37 false 1 := mm_mk mm_m37 (List.mem_of_getElem? (i := 1560) (by decide +kernel))
theorem mm_ml13_128 : mm_mlk 13 128 0 false 5 := mm_mk mm_m0 (List.mem_of_getElem? (i := 636) (by decide +kernel))
theorem mm_ml13_131 : mm_mlk 13 131 161 false 5 := mm_mk mm_m161 (List.mem_of_getElem? (i := 1900) (by decide +kernel))
theorem mm_ml13_137 : mm_mlk 13 137 174 false 2 := mm_mk mm_m174 (List.mem_of_getElem? (i := 1904) (by decide +kernel))
theorem mm_ml13_138 : mm_mlk 13 138 157 false 0 := mm_mk mm_m157 (List.mem_of_getElem? (i := 1896) (by decide +kernel))
theorem mm_ml13_145 : mm_mlk 13 145 182 false 1 := mm_mk mm_m182 (List.mem_of_getElem? (i := 1966) (by decide +kernel))
theorem mm_ml13_146 : mm_mlk 13 146 3 false 0 := mm_mk mm_m3 (List.mem_of_getElem? (i := 644) (by decide +kernel))
theorem mm_ml13_149 : mm_mlk 13 149 183 false 0 := mm_mk mm_m183 (List.mem_of_getElem? (i := 2002) (by decide +kernel))
theorem mm_ml13_153 : mm_mlk 13 153 190 false 3 := mm_mk mm_m190 (List.mem_of_getElem? (i := 2006) (by decide +kernel))
theorem mm_ml13_157 : mm_mlk 13 157 191 false 4 := mm_mk mm_m191 (List.mem_of_getElem? (i := 2018) (by decide +kernel))
theorem mm_ml13_160 : mm_mlk 13 160 192 false 1 := mm_mk mm_m192 (List.mem_of_getElem? (i := 2037) (by decide +kernel))
theorem mm_ml13_164 : mm_mlk 13 164 194 false 5 := mm_mk mm_m194 (List.mem_of_getElem? (i := 2041) (by decide +kernel))
theorem mm_ml13_167 : mm_mlk 13 167 195 false 1 := mm_mk mm_m195 (List.mem_of_getElem? (i := 2050) (by decide +kernel))
theorem mm_ml13_171 : mm_mlk 13 171 204 false 7 := mm_mk mm_m204 (List.mem_of_getElem? (i := 2058) (by decide +kernel))
theorem mm_ml13_175 : mm_mlk 13 175 207 false 6 := mm_mk mm_m207 (List.mem_of_getElem? (i := 2091) (by decide +kernel))
theorem mm_ml13_178 : mm_mlk 13 178 208 false 4 := mm_mk mm_m208 (List.mem_of_getElem? (i := 2108) (by decide +kernel))
theorem mm_ml13_181 : mm_mlk 13 181 209 false 1 := mm_mk mm_m209 (List.mem_of_getElem? (i := 2112) (by decide +kernel))
theorem mm_ml13_185 : mm_mlk 13 185 214 false 5 := mm_mk mm_m214 (List.mem_of_getElem? (i := 2116) (by decide +kernel))
theorem mm_ml13_188 : mm_mlk 13 188 215 false 2 := mm_mk mm_m215 (List.mem_of_getElem? (i := 2137) (by decide +kernel))
theorem mm_ml13_192 : mm_mlk 13 192 216 false 1 := mm_mk mm_m216 (List.mem_of_getElem? (i := 2141) (by decide +kernel))
theorem mm_ml13_195 : mm_mlk 13 195 217 false 2 := mm_mk mm_m217 (List.mem_of_getElem? (i := 2145) (by decide +kernel))
theorem mm_ml13_199 : mm_mlk 13 199 218 false 1 := mm_mk mm_m218 (List.mem_of_getElem? (i := 2149) (by decide +kernel))
theorem mm_ml13_202 : mm_mlk 13 202 220 false 1 := mm_mk mm_m220 (List.mem_of_getElem? (i := 2153) (by decide +kernel))
theorem mm_ml13_205 : mm_mlk 13 205 221 false 1 := mm_mk mm_m221 (List.mem_of_getElem? (i := 2161) (by decide +kernel))
theorem mm_ml13_208 : mm_mlk 13 208 225 false 4 := mm_mk mm_m225 (List.mem_of_getElem? (i := 2165) (by decide +kernel))
theorem mm_ml13_211 : mm_mlk 13 211 226 false 6 := mm_mk mm_m226 (List.mem_of_getElem? (i := 2178) (by decide +kernel))
theorem mm_ml13_215 : mm_mlk 13 215 228 false 8 := mm_mk mm_m228 (List.mem_of_getElem? (i := 2182) (by decide +kernel))
theorem mm_ml13_218 : mm_mlk 13 218 229 false 1 := mm_mk mm_m229 (List.mem_of_getElem? (i := 2190) (by decide +kernel))
theorem mm_ml13_221 : mm_mlk 13 221 231 false 4 := mm_mk mm_m231 (List.mem_of_getElem? (i := 2194) (by decide +kernel))
theorem mm_ml13_224 : mm_mlk 13 224 232 false 2 := mm_mk mm_m232 (List.mem_of_getElem? (i := 2201) (by decide +kernel))
theorem mm_ml13_227 : mm_mlk 13 227 238 false 2 := mm_mk mm_m238 (List.mem_of_getElem? (i := 2205) (by decide +kernel))
theorem mm_ml13_230 : mm_mlk 13 230 239 false 2 := mm_mk mm_m239 (List.mem_of_getElem? (i := 2229) (by decide +kernel))
theorem mm_ml13_233 : mm_mlk 13 233 240 false 1 := mm_mk mm_m240 (List.mem_of_getElem? (i := 2233) (by decide +kernel))
theorem mm_ml13_234 : mm_mlk 13 234 29 false 0 := mm_mk mm_m29 (List.mem_of_getElem? (i := 648) (by decide +kernel))
theorem mm_ml13_237 : mm_mlk 13 237 243 false 0 := mm_mk mm_m243 (List.mem_of_getElem? (i := 2237) (by decide +kernel))
theorem mm_ml13_240 : mm_mlk 13 240 244 false 1 := mm_mk mm_m244 (List.mem_of_getElem? (i := 2249) (by decide +kernel))
theorem mm_ml13_241 : mm_mlk 13 241 31 false 1 := mm_mk mm_m31 (List.mem_of_getElem? (i := 737) (by decide +kernel))
theorem mm_ml13_244 : mm_mlk 13 244 246 false 1 := mm_mk mm_m246 (List.mem_of_getElem? (i := 2253) (by decide +kernel))
theorem mm_ml13_247 : mm_mlk 13 247 248 false 1 := mm_mk mm_m248 (List.mem_of_getElem? (i := 2261) (by decide +kernel))
theorem mm_ml13_248 : mm_mlk 13 248 33 false 2 := mm_mk mm_m33 (List.mem_of_getElem? (i := 749) (by decide +kernel))
theorem mm_ml13_251 : mm_mlk 13 251 250 false 2 := mm_mk mm_m250 (List.mem_of_getElem? (i := 2268) (by decide +kernel))
theorem mm_ml13_254 : mm_mlk 13 254 251 false 3 := mm_mk mm_m251 (List.mem_of_getElem? (i := 2272) (by decide +kernel))
theorem mm_ml13_257 : mm_mlk 13 257 253 false 5 := mm_mk mm_m253 (List.mem_of_getElem? (i := 2280) (by decide +kernel))
theorem mm_ml13_260 : mm_mlk 13 260 254 false 3 := mm_mk mm_m254 (List.mem_of_getElem? (i := 2288) (by decide +kernel))
theorem mm_ml13_263 : mm_mlk 13 263 255 false 1 := mm_mk mm_m255 (List.mem_of_getElem? (i := 2292) (by decide +kernel))
theorem mm_ML13 : ∀ q ∈ mm_MLs 13, mm_mlk 13 q.1 q.2.1 q.2.2.1 q.2.2.2 := List.forall_mem_cons.mpr ⟨mm_ml13_7, List.forall_mem_cons.mpr ⟨mm_ml13_15, List.forall_mem_cons.mpr ⟨mm_ml13_19, List.forall_mem_cons.mpr ⟨mm_ml13_25, List.forall_mem_cons.mpr ⟨mm_ml13_29, List.forall_mem_cons.mpr ⟨mm_ml13_32, List.forall_mem_cons.mpr ⟨mm_ml13_36, List.forall_mem_cons.mpr ⟨mm_ml13_40, List.forall_mem_cons.mpr ⟨mm_ml13_44, List.forall_mem_cons.mpr ⟨mm_ml13_48, List.forall_mem_cons.mpr ⟨mm_ml13_51, List.forall_mem_cons.mpr ⟨mm_ml13_54, List.forall_mem_cons.mpr ⟨mm_ml13_58, List.forall_mem_cons.mpr ⟨mm_ml13_61, List.forall_mem_cons.mpr ⟨mm_ml13_65, List.forall_mem_cons.mpr ⟨mm_ml13_68, List.forall_mem_cons.mpr ⟨mm_ml13_72, List.forall_mem_cons.mpr ⟨mm_ml13_75, List.forall_mem_cons.mpr ⟨mm_ml13_78, List.forall_mem_cons.mpr ⟨mm_ml13_81, List.forall_mem_cons.mpr ⟨mm_ml13_84, List.forall_mem_cons.mpr ⟨mm_ml13_88, List.forall_mem_cons.mpr ⟨mm_ml13_91, List.forall_mem_cons.mpr ⟨mm_ml13_94, List.forall_mem_cons.mpr ⟨mm_ml13_97, List.forall_mem_cons.mpr ⟨mm_ml13_100, List.forall_mem_cons.mpr ⟨mm_ml13_103, List.forall_mem_cons.mpr ⟨mm_ml13_106, List.forall_mem_cons.mpr ⟨mm_ml13_109, List.forall_mem_cons.mpr ⟨mm_ml13_112, List.forall_mem_cons.mpr ⟨mm_ml13_115, List.forall_mem_cons.mpr ⟨mm_ml13_118, List.forall_mem_cons.mpr ⟨mm_ml13_121, List.forall_mem_cons.mpr ⟨mm_ml13_128, List.forall_mem_cons.mpr ⟨mm_ml13_131, List.forall_mem_cons.mpr ⟨mm_ml13_137, List.forall_mem_cons.mpr ⟨mm_ml13_138, List.forall_mem_cons.mpr ⟨mm_ml13_145, List.forall_mem_cons.mpr ⟨mm_ml13_146, List.forall_mem_cons.mpr ⟨mm_ml13_149, List.forall_mem_cons.mpr ⟨mm_ml13_153, List.forall_mem_cons.mpr ⟨mm_ml13_157, List.forall_mem_cons.mpr ⟨mm_ml13_160, List.forall_mem_cons.mpr ⟨mm_ml13_164, List.forall_mem_cons.mpr ⟨mm_ml13_167, List.forall_mem_cons.mpr ⟨mm_ml13_171, List.forall_mem_cons.mpr ⟨mm_ml13_175, List.forall_mem_cons.mpr ⟨mm_ml13_178, List.forall_mem_cons.mpr ⟨mm_ml13_181, List.forall_mem_cons.mpr ⟨mm_ml13_185, List.forall_mem_cons.mpr ⟨mm_ml13_188, List.forall_mem_cons.mpr ⟨mm_ml13_192, List.forall_mem_cons.mpr ⟨mm_ml13_195, List.forall_mem_cons.mpr ⟨mm_ml13_199, List.forall_mem_cons.mpr ⟨mm_ml13_202, List.forall_mem_cons.mpr ⟨mm_ml13_205, List.forall_mem_cons.mpr ⟨mm_ml13_208, List.forall_mem_cons.mpr ⟨mm_ml13_211, List.forall_mem_cons.mpr ⟨mm_ml13_215, List.forall_mem_cons.mpr ⟨mm_ml13_218, List.forall_mem_cons.mpr ⟨mm_ml13_221, List.forall_mem_cons.mpr ⟨mm_ml13_224, List.forall_mem_cons.mpr ⟨mm_ml13_227, List.forall_mem_cons.mpr ⟨mm_ml13_230, List.forall_mem_cons.mpr ⟨mm_ml13_233, List.forall_mem_cons.mpr ⟨mm_ml13_234, List.forall_mem_cons.mpr ⟨mm_ml13_237, List.forall_mem_cons.mpr ⟨mm_ml13_240, List.forall_mem_cons.mpr ⟨mm_ml13_241, List.forall_mem_cons.mpr ⟨mm_ml13_244, List.forall_mem_cons.mpr ⟨mm_ml13_247, List.forall_mem_cons.mpr ⟨mm_ml13_248, List.forall_mem_cons.mpr ⟨mm_ml13_251, List.forall_mem_cons.mpr ⟨mm_ml13_254, List.forall_mem_cons.mpr ⟨mm_ml13_257, List.forall_mem_cons.mpr ⟨mm_ml13_260, List.forall_mem_cons.mpr ⟨mm_ml13_263, fun _ h => absurd h List.not_mem_nil⟩⟩⟩⟩⟩⟩⟩⟩⟩⟩⟩⟩⟩⟩⟩⟩⟩⟩⟩⟩⟩⟩⟩⟩⟩⟩⟩⟩⟩⟩⟩⟩⟩⟩⟩⟩⟩⟩⟩⟩⟩⟩⟩⟩⟩⟩⟩⟩⟩⟩⟩⟩⟩⟩⟩⟩⟩⟩⟩⟩⟩⟩⟩⟩⟩⟩⟩⟩⟩⟩⟩⟩⟩⟩⟩⟩⟩
theorem mm_MLok : ∀ (o : Nat), ∀ q ∈ mm_MLs o, mm_mlk o q.1 q.2.1 q.2.2.1 q.2.2.2
  | 0 => mm_ML0
  | 1 => mm_ML1
  | 2 => mm_ML2
  | 3 => mm_ML3
  | 4 => mm_ML4
  | 5 => mm_ML5
  | 6 => mm_ML6
  | 7 => fun _ h => absurd h List.not_mem_nil
  | 8 => mm_ML8
  | 9 => mm_ML9
  | 10 => fun _ h => absurd h List.not_mem_nil
  | 11 => mm_ML11
  | 12 => mm_ML12
  | 13 => mm_ML13
  | 14 => fun _ h => absurd h List.not_mem_nil
  | 15 => fun _ h => absurd h List.not_mem_nil
  | _ + 16 => fun _ h => absurd h List.not_mem_nil
/-- methods with handlers -/
def mm_MWs (o : Nat) : List (Nat × Nat × Bool × Nat) := match o with
  | 13 => [(132, 256, true, 4), (142, 257, true, 3), (150, 258, true, 5), (154, 259, true, 6), (158, 260, true, 3), (161, 261, true, 7), (165, 262, true, 3), (168, 263, true, 9), (172, 264, true, 8), (176, 265, true, 6), (179, 266, true, 3), (182, 267, true, 7), (186, 268, true, 4), (189, 269, true, 2), (193, 270, true, 4), (196, 271, true, 3), (200, 272, true, 3), (203, 273, true, 3), (206, 274, true, 6), (209, 275, true, 8), (212, 276, true, 10), (216, 277, true, 3), (219, 278, true, 6), (222, 279, true, 4), (225, 280, true, 4), (228, 281, true, 4), (231, 282, true, 3), (238, 283, true, 3), (245, 284, true, 3), (252, 285, true, 5), (255, 286, true, 7), (258, 287, true, 5), (261, 288, true, 3)]
  | _ => []
theorem mm_mw13_132 : mm_mlW 13 132 256 4 := mm_mkW mm_m256 (List.mem_of_getElem? (i := 753) (by decide +kernel))
theorem mm_mw13_142 : mm_mlW 13 142 257 3 := mm_mkW mm_m257 (List.mem_of_getElem? (i := 973) (by decide +kernel))
theorem mm_mw13_150 : mm_mlW 13 150 258 5 := mm_mkW mm_m258 (List.mem_of_getElem? (i := 1025) (by decide +kernel))
theorem mm_mw13_154 : mm_mlW 13 154 259 6 := mm_mkW mm_m259 (List.mem_of_getElem? (i := 1058) (by decide +kernel))
theorem mm_mw13_158 : mm_mlW 13 158 260 3 := mm_mkW mm_m260 (List.mem_of_getElem? (i := 1071) (by decide +kernel))
theorem mm_mw13_161 : mm_mlW 13 161 261 7 := mm_mkW mm_m261 (List.mem_of_getElem? (i := 1079) (by decide +kernel))
theorem mm_mw13_165 : mm_mlW 13 165 262 3 := mm_mkW mm_m262 (List.mem_of_getElem? (i := 1099) (by decide +kernel))
theorem mm_mw13_168 : mm_mlW 13 168 263 9 := mm_mkW mm_m263 (List.mem_of_getElem? (i := 1111) (by decide +kernel))
theorem mm_mw13_172 : mm_mlW 13 172 264 8 := mm_mkW mm_m264 (List.mem_of_getElem? (i := 1172) (by decide +kernel))
theorem mm_mw13_176 : mm_mlW 13 176 265 6 := mm_mkW mm_m265 (List.mem_of_getElem? (i := 1193) (by decide +kernel))
theorem mm_mw13_179 : mm_mlW 13 179 266 3 := mm_mkW mm_m266 (List.mem_of_getElem? (i := 1200) (by decide +kernel))
theorem mm_mw13_182 : mm_mlW 13 182 267 7 := mm_mkW mm_m267 (List.mem_of_getElem? (i := 1208) (by decide +kernel))
theorem mm_mw13_186 : mm_mlW 13 186 268 4 := mm_mkW mm_m268 (List.mem_of_getElem? (i := 1250) (by decide +kernel))
theorem mm_mw13_189 : mm_mlW 13 189 269 2 := mm_mkW mm_m269 (List.mem_of_getElem? (i := 1259) (by decide +kernel))
theorem mm_mw13_193 : mm_mlW 13 193 270 4 := mm_mkW mm_m270 (List.mem_of_getElem? (i := 1270) (by decide +kernel))
theorem mm_mw13_196 : mm_mlW 13 196 271 3 := mm_mkW mm_m271 (List.mem_of_getElem? (i := 1290) (by decide +kernel))
theorem mm_mw13_200 : mm_mlW 13 200 272 3 := mm_mkW mm_m272 (List.mem_of_getElem? (i := 1305) (by decide +kernel))
theorem mm_mw13_203 : mm_mlW 13 203 273 3 := mm_mkW mm_m273 (List.mem_of_getElem? (i := 1334) (by decide +kernel))
theorem mm_mw13_206 : mm_mlW 13 206 274 6 := mm_mkW mm_m274 (List.mem_of_getElem? (i := 1343) (by decide +kernel))
theorem mm_mw13_209 : mm_mlW 13 209 275 8 := mm_mkW mm_m275 (List.mem_of_getElem? (i := 1369) (by decide +kernel))
theorem mm_mw13_212 : mm_mlW 13 212 276 10 := mm_mkW mm_m276 (List.mem_of_getElem? (i := 1377) (by decide +kernel))
theorem mm_mw13_216 : mm_mlW 13 216 277 3 := mm_mkW mm_m277 (List.mem_of_getElem? (i := 1415) (by decide +kernel))
theorem mm_mw13_219 : mm_mlW 13 219 278 6 := mm_mkW mm_m278 (List.mem_of_getElem? (i := 1422) (by decide +kernel))
theorem mm_mw13_222 : mm_mlW 13 222 279 4 := mm_mkW mm_m279 (List.mem_of_getElem? (i := 1437) (by decide +kernel))
theorem mm_mw13_225 : mm_mlW 13 225 280 4 := mm_mkW mm_m280 (List.mem_of_getElem? (i := 1448) (by decide +kernel))
theorem mm_mw13_228 : mm_mlW 13 228 281 4 := mm_mkW mm_m281 (List.mem_of_getElem? (i := 1459) (by decide +kernel))
theorem mm_mw13_231 : mm_mlW 13 231 282 3 := mm_mkW mm_m282 (List.mem_of_getElem? (i := 1478) (by decide +kernel))
theorem mm_mw13_238 : mm_mlW 13 238 283 3 := mm_mkW mm_m283 (List.mem_of_getElem? (i := 1486) (by decide +kernel))
theorem mm_mw13_245 : mm_mlW 13 245 284 3 := mm_mkW mm_m284 (List.mem_of_getElem? (i := 1494) (by decide +kernel))
theorem mm_mw13_252 : mm_mlW 13 252 285 5 := mm_mkW mm_m285 (List.mem_of_getElem? (i := 1513) (by decide +kernel))
theorem mm_mw13_255 : mm_mlW 13 255 286 7 := mm_mkW mm_m286 (List.mem_of_getElem? (i := 1529) (by decide +kernel))
theorem mm_mw13_258 : mm_mlW 13 258 287 5 := mm_mkW mm_m287 (List.mem_of_getElem? (i := 1541) (by decide +kernel))
theorem mm_mw13_261 : mm_mlW 13 261 288 3 := mm_mkW mm_m288 (List.mem_of_getElem? (i := 1557) (by decide +kernel))
theorem mm_MW13 : ∀ q ∈ mm_MWs 13, mm_mlW 13 q.1 q.2.1 q.2.2.2 := List.forall_mem_cons.mpr ⟨mm_mw13_132, List.forall_mem_cons.mpr ⟨mm_mw13_142, List.forall_mem_cons.mpr ⟨mm_mw13_150, List.forall_mem_cons.mpr ⟨mm_mw13_154, List.forall_mem_cons.mpr ⟨mm_mw13_158, List.forall_mem_cons.mpr ⟨mm_mw13_161, List.forall_mem_cons.mpr ⟨mm_mw13_165, List.forall_mem_cons.mpr ⟨mm_mw13_168, List.forall_mem_cons.mpr ⟨mm_mw13_172, List.forall_mem_cons.mpr ⟨mm_mw13_176, List.forall_mem_cons.mpr ⟨mm_mw13_179, List.forall_mem_cons.mpr ⟨mm_mw13_182, List.forall_mem_cons.mpr ⟨mm_mw13_186, List.forall_mem_cons.mpr ⟨mm_mw13_189, List.forall_mem_cons.mpr ⟨mm_mw13_193, List.forall_mem_cons.mpr ⟨mm_mw13_196, List.forall_mem_cons.mpr ⟨mm_mw13_200, List.forall_mem_cons.mpr ⟨mm_mw13_203, List.forall_mem_cons.mpr ⟨mm_mw13_206, List.forall_mem_cons.mpr ⟨mm_mw13_209, List.forall_mem_cons.mpr ⟨mm_mw13_212, List.forall_mem_cons.mpr ⟨mm_mw13_216, List.forall_mem_cons.mpr ⟨mm_mw13_219, List.forall_mem_cons.mpr ⟨mm_mw13_222, List.forall_mem_cons.mpr ⟨mm_mw13_225, List.forall_mem_cons.mpr ⟨mm_mw13_228, List.forall_mem_cons.mpr ⟨mm_mw13_231, List.forall_mem_cons.mpr ⟨mm_mw13_238, List.forall_mem_cons.mpr ⟨mm_mw13_245, List.forall_mem_cons.mpr ⟨mm_mw13_252, List.forall_mem_cons.mpr ⟨mm_mw13_255, List.forall_mem_cons.mpr ⟨mm_mw13_258, List.forall_mem_cons.mpr ⟨mm_mw13_261, fun _ h => absurd h List.not_mem_nil⟩⟩⟩⟩⟩⟩⟩⟩⟩⟩⟩⟩⟩⟩⟩⟩⟩⟩⟩⟩⟩⟩⟩⟩⟩⟩⟩⟩⟩⟩⟩⟩⟩
theorem mm_MWok : ∀ (o : Nat), ∀ q ∈ mm_MWs o, mm_mlW o q.1 q.2.1 q.2.2.2
  | 0 => fun _ h => absurd h List.not_mem_nil
  | 1 => fun _ h => absurd h List.not_mem_nil
  | 2 => fun _ h => absurd h List.not_mem_nil
  | 3 => fun _ h => absurd h List.not_mem_nil
  | 4 => fun _ h => absurd h List.not_mem_nil
  | 5 => fun _ h => absurd h List.not_mem_nil
  | 6 => fun _ h => absurd h List.not_mem_nil
  | 7 => fun _ h => absurd h List.not_mem_nil
  | 8 => fun _ h => absurd h List.not_mem_nil
  | 9 => fun _ h => absurd h List.not_mem_nil
  | 10 => fun _ h => absurd h List.not_mem_nil
  | 11 => fun _ h => absurd h List.not_mem_nil
  | 12 => fun _ h => absurd h List.not_mem_nil
  | 13 => mm_MW13
  | 14 => fun _ h => absurd h List.not_mem_nil
  | 15 => fun _ h => absurd h List.not_mem_nil
  | _ + 16 => fun _ h => absurd h List.not_mem_nil
/-- a link to a method of the JDK -/
def mm_jy (x : Nat) : MethodName := match x with
  | 1000 => Lib.Math.max.name
  | 1001 => Lib.Math.min.name
  | 1002 => Lib.Math.abs.name
  | 1004 => arraycopyName
  | 1006 => sj_y_len
  | _ => sj_y_cha
def mm_jlk (o idx x : Nat) : Prop := Cond.methodLink (mm_rn o) idx (mm_jy x) ∈ lw_tbl
/-- methods of the JDK -/
def mm_MBs (o : Nat) : List (Nat × Nat × Bool × Nat) := match o with
  | 2 => [(43, 1004, true, 5), (52, 1001, true, 2), (57, 1002, true, 1)]
  | 3 => [(122, 1001, true, 2), (127, 1000, true, 2)]
  | 4 => [(88, 1000, true, 2), (144, 1004, true, 5), (154, 1001, true, 2)]
  | 5 => [(83, 1002, true, 1)]
  | 6 => [(60, 1001, true, 2)]
  | 9 => [(47, 1001, true, 2), (112, 1006, false, 0), (117, 1007, false, 1)]
  | 10 => [(25, 1004, true, 5)]
  | 11 => [(296, 1000, true, 2), (301, 1001, true, 2), (402, 1004, true, 5)]
  | 12 => [(284, 1001, true, 2), (302, 1006, false, 0), (305, 1007, false, 1), (385, 1000, true, 2), (471, 1002, true, 1)]
  | _ => []
theorem mm_mb2_43 : mm_jlk 2 43 1004 := List.mem_of_getElem? (i := 1414) (by decide +kernel)
theorem mm_mb2_52 : mm_jlk 2 52 1001 := List.mem_of_getElem? (i := 1413) (by decide +kernel)
theorem mm_mb2_57 : mm_jlk 2 57 1002 := List.mem_of_getElem? (i := 1412) (by decide +kernel)
theorem mm_MB2 : ∀ q ∈ mm_MBs 2, mm_jlk 2 q.1 q.2.1 := List.forall_mem_cons.mpr ⟨mm_mb2_43, List.forall_mem_cons.mpr ⟨mm_mb2_52, List.forall_mem_cons.mpr ⟨mm_mb2_57, fun _ h => absurd h List.not_mem_nil⟩⟩⟩
theorem mm_mb3_122 : mm_jlk 3 122 1001 := List.mem_of_getElem? (i := 677) (by decide +kernel)
theorem mm_mb3_127 : mm_jlk 3 127 1000 := List.mem_of_getElem? (i := 680) (by decide +kernel)
theorem mm_MB3 : ∀ q ∈ mm_MBs 3, mm_jlk 3 q.1 q.2.1 := List.forall_mem_cons.mpr ⟨mm_mb3_122, List.forall_mem_cons.mpr ⟨mm_mb3_127, fun _ h => absurd h List.not_mem_nil⟩⟩
theorem mm_mb4_88 : mm_jlk 4 88 1000 := List.mem_of_getElem? (i := 683) (by decide +kernel)
theorem mm_mb4_144 : mm_jlk 4 144 1004 := List.mem_of_getElem? (i := 736) (by decide +kernel)
theorem mm_mb4_154 : mm_jlk 4 154 1001 := List.mem_of_getElem? (i := 731) (by decide +kernel)
theorem mm_MB4 : ∀ q ∈ mm_MBs 4, mm_jlk 4 q.1 q.2.1 := List.forall_mem_cons.mpr ⟨mm_mb4_88, List.forall_mem_cons.mpr ⟨mm_mb4_144, List.forall_mem_cons.mpr ⟨mm_mb4_154, fun _ h => absurd h List.not_mem_nil⟩⟩⟩
theorem mm_mb5_83 : mm_jlk 5 83 1002 := List.mem_of_getElem? (i := 1243) (by decide +kernel)
theorem mm_MB5 : ∀ q ∈ mm_MBs 5, mm_jlk 5 q.1 q.2.1 := List.forall_mem_cons.mpr ⟨mm_mb5_83, fun _ h => absurd h List.not_mem_nil⟩
theorem mm_mb6_60 : mm_jlk 6 60 1001 := List.mem_of_getElem? (i := 1171) (by decide +kernel)
theorem mm_MB6 : ∀ q ∈ mm_MBs 6, mm_jlk 6 q.1 q.2.1 := List.forall_mem_cons.mpr ⟨mm_mb6_60, fun _ h => absurd h List.not_mem_nil⟩
theorem mm_mb9_47 : mm_jlk 9 47 1001 := List.mem_of_getElem? (i := 835) (by decide +kernel)
theorem mm_mb9_112 : mm_jlk 9 112 1006 := List.mem_of_getElem? (i := 855) (by decide +kernel)
theorem mm_mb9_117 : mm_jlk 9 117 1007 := List.mem_of_getElem? (i := 865) (by decide +kernel)
theorem mm_MB9 : ∀ q ∈ mm_MBs 9, mm_jlk 9 q.1 q.2.1 := List.forall_mem_cons.mpr ⟨mm_mb9_47, List.forall_mem_cons.mpr ⟨mm_mb9_112, List.forall_mem_cons.mpr ⟨mm_mb9_117, fun _ h => absurd h List.not_mem_nil⟩⟩⟩
theorem mm_mb10_25 : mm_jlk 10 25 1004 := List.mem_of_getElem? (i := 708) (by decide +kernel)
theorem mm_MB10 : ∀ q ∈ mm_MBs 10, mm_jlk 10 q.1 q.2.1 := List.forall_mem_cons.mpr ⟨mm_mb10_25, fun _ h => absurd h List.not_mem_nil⟩
theorem mm_mb11_296 : mm_jlk 11 296 1000 := List.mem_of_getElem? (i := 1156) (by decide +kernel)
theorem mm_mb11_301 : mm_jlk 11 301 1001 := List.mem_of_getElem? (i := 1376) (by decide +kernel)
theorem mm_mb11_402 : mm_jlk 11 402 1004 := List.mem_of_getElem? (i := 1540) (by decide +kernel)
theorem mm_MB11 : ∀ q ∈ mm_MBs 11, mm_jlk 11 q.1 q.2.1 := List.forall_mem_cons.mpr ⟨mm_mb11_296, List.forall_mem_cons.mpr ⟨mm_mb11_301, List.forall_mem_cons.mpr ⟨mm_mb11_402, fun _ h => absurd h List.not_mem_nil⟩⟩⟩
theorem mm_mb12_284 : mm_jlk 12 284 1001 := List.mem_of_getElem? (i := 1931) (by decide +kernel)
theorem mm_mb12_302 : mm_jlk 12 302 1006 := List.mem_of_getElem? (i := 1947) (by decide +kernel)
theorem mm_mb12_305 : mm_jlk 12 305 1007 := List.mem_of_getElem? (i := 1948) (by decide +kernel)
theorem mm_mb12_385 : mm_jlk 12 385 1000 := List.mem_of_getElem? (i := 2036) (by decide +kernel)
theorem mm_mb12_471 : mm_jlk 12 471 1002 := List.mem_of_getElem? (i := 2136) (by decide +kernel)
theorem mm_MB12 : ∀ q ∈ mm_MBs 12, mm_jlk 12 q.1 q.2.1 := List.forall_mem_cons.mpr ⟨mm_mb12_284, List.forall_mem_cons.mpr ⟨mm_mb12_302, List.forall_mem_cons.mpr ⟨mm_mb12_305, List.forall_mem_cons.mpr ⟨mm_mb12_385, List.forall_mem_cons.mpr ⟨mm_mb12_471, fun _ h => absurd h List.not_mem_nil⟩⟩⟩⟩⟩
theorem mm_MBok : ∀ (o : Nat), ∀ q ∈ mm_MBs o, mm_jlk o q.1 q.2.1
  | 0 => fun _ h => absurd h List.not_mem_nil
  | 1 => fun _ h => absurd h List.not_mem_nil
  | 2 => mm_MB2
  | 3 => mm_MB3
  | 4 => mm_MB4
  | 5 => mm_MB5
  | 6 => mm_MB6
  | 7 => fun _ h => absurd h List.not_mem_nil
  | 8 => fun _ h => absurd h List.not_mem_nil
  | 9 => mm_MB9
  | 10 => mm_MB10
  | 11 => mm_MB11
  | 12 => mm_MB12
  | 13 => fun _ h => absurd h List.not_mem_nil
  | 14 => fun _ h => absurd h List.not_mem_nil
  | 15 => fun _ h => absurd h List.not_mem_nil
  | _ + 16 => fun _ h => absurd h List.not_mem_nil
def mm_COs (o : Nat) : List (Nat × Int32) := match o with
  | 3 => [(87, 99999)]
  | 6 => [(46, (-100000)), (69, (-1000000))]
  | 8 => [(63, 40000)]
  | 9 => [(82, 100000)]
  | 11 => [(304, (-60000)), (311, (-1000000)), (445, 99999), (450, 36499)]
  | 12 => [(283, 1000000), (327, 40000), (350, 99999), (407, 36499), (424, (-100000)), (425, (-60000)), (444, (-1000000))]
  | 14 => [(265, 1431655765), (266, 858993459), (267, 252645135)]
  | _ => []
theorem mm_co3_87 : Cond.constant (mm_rn 3) 87 99999 ∈ lw_tbl := List.mem_of_getElem? (i := 676) (by decide +kernel)
theorem mm_CO3 : ∀ q ∈ mm_COs 3, Cond.constant (mm_rn 3) q.1 q.2 ∈ lw_tbl := List.forall_mem_cons.mpr ⟨mm_co3_87, fun _ h => absurd h List.not_mem_nil⟩
theorem mm_co6_46 : Cond.constant (mm_rn 6) 46 (-100000) ∈ lw_tbl := List.mem_of_getElem? (i := 1166) (by decide +kernel)
theorem mm_co6_69 : Cond.constant (mm_rn 6) 69 (-1000000) ∈ lw_tbl := List.mem_of_getElem? (i := 1187) (by decide +kernel)
theorem mm_CO6 : ∀ q ∈ mm_COs 6, Cond.constant (mm_rn 6) q.1 q.2 ∈ lw_tbl := List.forall_mem_cons.mpr ⟨mm_co6_46, List.forall_mem_cons.mpr ⟨mm_co6_69, fun _ h => absurd h List.not_mem_nil⟩⟩
theorem mm_co8_63 : Cond.constant (mm_rn 8) 63 40000 ∈ lw_tbl := List.mem_of_getElem? (i := 968) (by decide +kernel)
theorem mm_CO8 : ∀ q ∈ mm_COs 8, Cond.constant (mm_rn 8) q.1 q.2 ∈ lw_tbl := List.forall_mem_cons.mpr ⟨mm_co8_63, fun _ h => absurd h List.not_mem_nil⟩
theorem mm_co9_82 : Cond.constant (mm_rn 9) 82 100000 ∈ lw_tbl := List.mem_of_getElem? (i := 926) (by decide +kernel)
theorem mm_CO9 : ∀ q ∈ mm_COs 9, Cond.constant (mm_rn 9) q.1 q.2 ∈ lw_tbl := List.forall_mem_cons.mpr ⟨mm_co9_82, fun _ h => absurd h List.not_mem_nil⟩
theorem mm_co11_304 : Cond.constant (mm_rn 11) 304 (-60000) ∈ lw_tbl := List.mem_of_getElem? (i := 1125) (by decide +kernel)
theorem mm_co11_311 : Cond.constant (mm_rn 11) 311 (-1000000) ∈ lw_tbl := List.mem_of_getElem? (i := 1386) (by decide +kernel)
theorem mm_co11_445 : Cond.constant (mm_rn 11) 445 99999 ∈ lw_tbl := List.mem_of_getElem? (i := 1353) (by decide +kernel)
theorem mm_co11_450 : Cond.constant (mm_rn 11) 450 36499 ∈ lw_tbl := List.mem_of_getElem? (i := 1090) (by decide +kernel)
theorem mm_CO11 : ∀ q ∈ mm_COs 11, Cond.constant (mm_rn 11) q.1 q.2 ∈ lw_tbl := List.forall_mem_cons.mpr ⟨mm_co11_304, List.forall_mem_cons.mpr ⟨mm_co11_311, List.forall_mem_cons.mpr ⟨mm_co11_445, List.forall_mem_cons.mpr ⟨mm_co11_450, fun _ h => absurd h List.not_mem_nil⟩⟩⟩⟩
theorem mm_co12_283 : Cond.constant (mm_rn 12) 283 1000000 ∈ lw_tbl := List.mem_of_getElem? (i := 1930) (by decide +kernel)
theorem mm_co12_327 : Cond.constant (mm_rn 12) 327 40000 ∈ lw_tbl := List.mem_of_getElem? (i := 1957) (by decide +kernel)
theorem mm_co12_350 : Cond.constant (mm_rn 12) 350 99999 ∈ lw_tbl := List.mem_of_getElem? (i := 1995) (by decide +kernel)
theorem mm_co12_407 : Cond.constant (mm_rn 12) 407 36499 ∈ lw_tbl := List.mem_of_getElem? (i := 2045) (by decide +kernel)
theorem mm_co12_424 : Cond.constant (mm_rn 12) 424 (-100000) ∈ lw_tbl := List.mem_of_getElem? (i := 2090) (by decide +kernel)
theorem mm_co12_425 : Cond.constant (mm_rn 12) 425 (-60000) ∈ lw_tbl := List.mem_of_getElem? (i := 2065) (by decide +kernel)
theorem mm_co12_444 : Cond.constant (mm_rn 12) 444 (-1000000) ∈ lw_tbl := List.mem_of_getElem? (i := 2103) (by decide +kernel)
theorem mm_CO12 : ∀ q ∈ mm_COs 12, Cond.constant (mm_rn 12) q.1 q.2 ∈ lw_tbl := List.forall_mem_cons.mpr ⟨mm_co12_283, List.forall_mem_cons.mpr ⟨mm_co12_327, List.forall_mem_cons.mpr ⟨mm_co12_350, List.forall_mem_cons.mpr ⟨mm_co12_407, List.forall_mem_cons.mpr ⟨mm_co12_424, List.forall_mem_cons.mpr ⟨mm_co12_425, List.forall_mem_cons.mpr ⟨mm_co12_444, fun _ h => absurd h List.not_mem_nil⟩⟩⟩⟩⟩⟩⟩
theorem mm_co14_265 : Cond.constant (mm_rn 14) 265 1431655765 ∈ lw_tbl := List.mem_of_getElem? (i := 1510) (by decide +kernel)
theorem mm_co14_266 : Cond.constant (mm_rn 14) 266 858993459 ∈ lw_tbl := List.mem_of_getElem? (i := 1511) (by decide +kernel)
theorem mm_co14_267 : Cond.constant (mm_rn 14) 267 252645135 ∈ lw_tbl := List.mem_of_getElem? (i := 1512) (by decide +kernel)
theorem mm_CO14 : ∀ q ∈ mm_COs 14, Cond.constant (mm_rn 14) q.1 q.2 ∈ lw_tbl := List.forall_mem_cons.mpr ⟨mm_co14_265, List.forall_mem_cons.mpr ⟨mm_co14_266, List.forall_mem_cons.mpr ⟨mm_co14_267, fun _ h => absurd h List.not_mem_nil⟩⟩⟩
theorem mm_COok : ∀ (o : Nat), ∀ q ∈ mm_COs o, Cond.constant (mm_rn o) q.1 q.2 ∈ lw_tbl
  | 0 => fun _ h => absurd h List.not_mem_nil
  | 1 => fun _ h => absurd h List.not_mem_nil
  | 2 => fun _ h => absurd h List.not_mem_nil
  | 3 => mm_CO3
  | 4 => fun _ h => absurd h List.not_mem_nil
  | 5 => fun _ h => absurd h List.not_mem_nil
  | 6 => mm_CO6
  | 7 => fun _ h => absurd h List.not_mem_nil
  | 8 => mm_CO8
  | 9 => mm_CO9
  | 10 => fun _ h => absurd h List.not_mem_nil
  | 11 => mm_CO11
  | 12 => mm_CO12
  | 13 => fun _ h => absurd h List.not_mem_nil
  | 14 => mm_CO14
  | 15 => fun _ h => absurd h List.not_mem_nil
  | _ + 16 => fun _ h => absurd h List.not_mem_nil
