/-! the law's start: words of the Statement, by their places (by program: wip/gen/gen_start2.py) -/
def st_pl : List (List Nat × Nat) := [([884, 885, 886, 887, 888, 889, 890, 891, 892, 893], 1573), ([895, 896, 897, 898, 899, 900, 901], 1574), ([903, 904, 905, 906, 907, 908, 909, 910, 911, 912], 1575), ([914, 915, 916, 917, 918, 919, 920, 921], 1576), ([923, 924, 925, 926, 927, 928, 929], 1577), ([931, 932, 933, 934, 935, 936, 937], 1578), ([939, 940, 941, 942, 943, 944, 945, 946, 947, 948], 1579), ([950, 951, 952, 953, 954, 955, 956, 957], 1580), ([959, 960, 961, 962, 963, 964, 965], 1581), ([931, 932, 933, 934, 935, 936, 937], 1578), ([939, 940, 941, 942, 943, 944, 945, 946, 947, 948], 1579), ([950, 951, 952, 953, 954, 955, 956, 957], 1580), ([967, 968, 969, 970, 971, 972, 973, 974, 975], 1582), ([105, 106, 107, 108, 109, 110, 111], 850), ([112, 113, 114, 115, 116, 117, 118, 119, 120, 121], 903), ([122, 123, 124, 125, 126, 127, 128, 129], 904), ([130, 131, 132, 133, 134, 135, 136], 905), ([137, 138, 139, 140, 141, 142, 143, 144, 145], 906), ([146, 147, 148, 149, 150, 151], 907), ([152, 153, 154, 155, 156, 157, 158], 908), ([159, 160, 161, 162, 163, 164, 165], 909), ([166, 167, 168, 169, 170, 171, 172, 173, 174, 175], 910), ([176, 177, 178, 179, 180, 181, 182], 911), ([183, 184, 185, 186, 187, 188, 189, 190, 191, 192], 912), ([193, 194, 195, 196, 197, 198, 199, 200], 913), ([201, 202, 203, 204, 205, 206, 207], 914), ([977, 978, 979, 980, 981, 982, 983], 1982), ([985, 986, 987, 988, 989, 990, 991], 2000), ([993, 994, 995, 996, 997, 998], 2001)]
def st_px : List (Nat × Nat) := [(242, 1057), (288, 1069), (309, 1078), (334, 1086), (359, 1106), (440, 1207), (459, 1257), (475, 1258), (519, 1341), (548, 1342), (677, 1384), (741, 1485), (774, 1493), (790, 1501), (835, 1548), (867, 1564), (208, 1046), (818, 1524), (71, 805), (421, 1131), (504, 1281), (226, 1056), (270, 1068), (376, 1121), (725, 1432), (640, 1362), (391, 1126), (584, 1354), (612, 1358)]
theorem st_nC : Cond.eq (.static "java/lang/String" "COMPACT_STRINGS" "Z") (.int 1) ∈ flatC (given_1.and narrow_1) := List.mem_of_getElem? (i := 6) (by decide +kernel)
theorem st_nS : Cond.isRef (.static "jdk/internal/util/Preconditions" "SIOOBE_FORMATTER" "Ljava/util/function/BiFunction;") ∈ flatC (given_1.and narrow_1) := List.mem_of_getElem? (i := 7) (by decide +kernel)
theorem st_nU : Cond.isRef (.static Bundle.tN "UNASSIGNED_STACK" Bundle.steD) ∈ flatC (given_1.and narrow_1) := List.mem_of_getElem? (i := 4) (by decide +kernel)
theorem st_nP : Cond.isRef (.static Bundle.tN "SUPPRESSED_SENTINEL" Bundle.listD) ∈ flatC (given_1.and narrow_1) := List.mem_of_getElem? (i := 5) (by decide +kernel)
theorem st_nI : Cond.not (.castable "java/lang/IllegalArgumentException" "java/util/NoSuchElementException") ∈ flatC (given_1.and narrow_1) := List.mem_of_getElem? (i := 38) (by decide +kernel)
theorem st_nN : Cond.not (.castable "java/util/NoSuchElementException" "java/lang/IllegalArgumentException") ∈ flatC (given_1.and narrow_1) := List.mem_of_getElem? (i := 24) (by decide +kernel)
theorem st_lC : Cond.laysStatic "java/lang/String" "COMPACT_STRINGS" "Z" ∈ lw_tbl := List.mem_of_getElem? (i := 864) (by decide +kernel)
theorem st_lS : Cond.laysStatic "jdk/internal/util/Preconditions" "SIOOBE_FORMATTER" "Ljava/util/function/BiFunction;" ∈ lw_tbl := List.mem_of_getElem? (i := 880) (by decide +kernel)
theorem st_lU : Cond.laysStatic "java/lang/Throwable" "UNASSIGNED_STACK" "[Ljava/lang/StackTraceElement;" ∈ lw_tbl := List.mem_of_getElem? (i := 792) (by decide +kernel)
theorem st_lP : Cond.laysStatic "java/lang/Throwable" "SUPPRESSED_SENTINEL" "Ljava/util/List;" ∈ lw_tbl := List.mem_of_getElem? (i := 794) (by decide +kernel)
theorem st_iC : Cond.initialized "java/lang/String" ∈ lw_tbl := List.mem_of_getElem? (i := 165) (by decide +kernel)
theorem st_iS : Cond.initialized "jdk/internal/util/Preconditions" ∈ lw_tbl := List.mem_of_getElem? (i := 167) (by decide +kernel)
theorem st_iU : Cond.initialized "java/lang/Throwable" ∈ lw_tbl := List.mem_of_getElem? (i := 160) (by decide +kernel)
def st_pi : List (Nat × Nat) := [(9, 263), (11, 398), (5, 446), (7, 232), (19, 472), (6, 368), (5, 298), (3, 568), (6, 304), (11, 181), (4, 478), (16, 173), (104, 1566)]
theorem st_piok : (List.range 13).all (fun k => match st_pi[k]? with
  | some (n, i) => decide (lw_tbl[i]? = some (.instantiable (mm_rn k) n))
  | none => false) = true := by decide +kernel
def st_fC : List Cond := flatC (given_1.and narrow_1)
def st_T (n : Nat) : Term := match mm_tx[n]? with
  | some (c, i, _) => .string (mm_rn c) i
  | none => .arg 0
def st_V (n : Nat) : Term := .field (st_T n) "java/lang/String" "value" "[B"
def st_ws (n : Nat) : List Cond := .exactly (st_T n) "java/lang/String" :: .eq (.field (st_T n) "java/lang/String" "coder" "B") (.int 0) :: .arrayOf (st_V n) .byte :: .eq (.length (st_V n)) (.int (Int32.ofNat (mm_txt n).length)) :: (List.range (mm_txt n).length).map (fun j => .eq (.elem (st_V n) (.int (Int32.ofNat j))) (.int (mm_ch n j)))
theorem st_plok : (List.range mm_ns).all (fun n => match mm_tx[n]?, st_pl[n]? with
  | some (c, i, tx), some (ps, p) => decide (lw_tbl[p]? = some (.stringRef (mm_rn c) i tx)) && decide (ps.map (fun z => st_fC[z]?) = (st_ws n).map some)
  | _, _ => false) = true := by decide +kernel
theorem st_pxok : (List.range mm_xt.length).all (fun n => match mm_xt[n]?, st_px[n]? with
  | some (c, i, tx), some (q, p) => decide (lw_tbl[p]? = some (.stringRef (mm_rn c) i tx)) && decide (st_fC[q]? = some (.exactly (.string (mm_rn c) i) "java/lang/String"))
  | _, _ => false) = true := by decide +kernel
