/-! length() and charAt() of text constants -/
def sj_P (av : List Value) (a v n : Nat) (f : Nat → Int32) (sz : Nat) : Array Value → State → Prop := va_Pc av (fun U => U.heap.size = sz ∧ sj_W a v n f (fun q => sz ≤ q) U)
theorem sj_blind (av : List Value) (a v n : Nat) (f : Nat → Int32) (sz : Nat) : FrameBlind (sj_P av a v n f sz) := fun _ _ _ _ q => ⟨q.1, q.2.1, q.2.2.calling⟩
theorem sj_pre {av : List Value} {a v n : Nat} {f : Nat → Int32} {s : State} {H : Heap} {locs : List Loc} {A : Nat → Prop} (hA : ∀ q, H.size ≤ q → A q) (h : sj_W a v n f A s) (hS : va_S A s.heap H locs) : ∀ U : State, U.heap = H → s.WarmedH U.vm → sj_P av a v n f H.size av.toArray U :=
  fun U hU hW => ⟨rfl, by rw [hU], h.go hS.2.1 hA hU hW.alike⟩
theorem sj_in {w : Cond} (h : w ∈ lw_tbl) (hg : goodWord w = true) : GoodIn mm_tsG (w :: mm_tsG) := by
  intro w' hw
  rcases List.mem_cons.mp hw with rfl | hw
  · exact ⟨mm_tsG_in h hg, good_of_word hg⟩
  · exact ⟨hw, good_of_word (List.mem_filter.mp hw).2⟩
abbrev sj_rm (f z : Nat) : Room := { frames := f, cells := 0, slots := 0, locals := z }
def sj_y_pci : MethodName := ⟨"jdk/internal/util/Preconditions", "checkIndex", "(IILjava/util/function/BiFunction;)I"⟩
theorem sj_c_pci : Cond.code sj_y_pci prog_32_method_11_code 3 (some .int) ∈ lw_tbl := List.mem_of_getElem? (i := 883) (by decide +kernel)
def sj_y_sci : MethodName := ⟨"java/lang/String", "checkIndex", "(II)V"⟩
theorem sj_c_sci : Cond.code sj_y_sci prog_23_method_155_code 2 (none) ∈ lw_tbl := List.mem_of_getElem? (i := 878) (by decide +kernel)
def sj_y_lca : MethodName := ⟨"java/lang/StringLatin1", "charAt", "([BI)C"⟩
theorem sj_c_lca : Cond.code sj_y_lca prog_24_method_2_code 2 (some .char) ∈ lw_tbl := List.mem_of_getElem? (i := 875) (by decide +kernel)
def sj_y_il1 : MethodName := ⟨"java/lang/String", "isLatin1", "()Z"⟩
theorem sj_c_il1 : Cond.code sj_y_il1 prog_23_method_154_code 1 (some .boolean) ∈ lw_tbl := List.mem_of_getElem? (i := 872) (by decide +kernel)
def sj_y_cdr : MethodName := ⟨"java/lang/String", "coder", "()B"⟩
theorem sj_c_cdr : Cond.code sj_y_cdr prog_23_method_152_code 1 (some .byte) ∈ lw_tbl := List.mem_of_getElem? (i := 862) (by decide +kernel)
def sj_y_cha : MethodName := ⟨"java/lang/String", "charAt", "(I)C"⟩
theorem sj_c_cha : Cond.code sj_y_cha prog_23_method_56_code 2 (some .char) ∈ lw_tbl := List.mem_of_getElem? (i := 868) (by decide +kernel)
def sj_y_len : MethodName := ⟨"java/lang/String", "length", "()I"⟩
theorem sj_c_len : Cond.code sj_y_len prog_23_method_54_code 1 (some .int) ∈ lw_tbl := List.mem_of_getElem? (i := 858) (by decide +kernel)
theorem sj_q_spci : Cond.static sj_y_pci ∈ lw_tbl := List.mem_of_getElem? (i := 882) (by decide +kernel)
theorem sj_q_ssci : Cond.static sj_y_sci ∈ lw_tbl := List.mem_of_getElem? (i := 877) (by decide +kernel)
theorem sj_q_slca : Cond.static sj_y_lca ∈ lw_tbl := List.mem_of_getElem? (i := 874) (by decide +kernel)
theorem sj_q_iil1 : Cond.instanceMethod sj_y_il1 ∈ lw_tbl := List.mem_of_getElem? (i := 870) (by decide +kernel)
theorem sj_q_vil1 : Cond.selects "java/lang/String" sj_y_il1 sj_y_il1 ∈ lw_tbl := List.mem_of_getElem? (i := 871) (by decide +kernel)
theorem sj_q_icdr : Cond.instanceMethod sj_y_cdr ∈ lw_tbl := List.mem_of_getElem? (i := 860) (by decide +kernel)
theorem sj_q_vcdr : Cond.selects "java/lang/String" sj_y_cdr sj_y_cdr ∈ lw_tbl := List.mem_of_getElem? (i := 861) (by decide +kernel)
theorem sj_q_icha : Cond.instanceMethod sj_y_cha ∈ lw_tbl := List.mem_of_getElem? (i := 866) (by decide +kernel)
theorem sj_q_vcha : Cond.selects "java/lang/String" sj_y_cha sj_y_cha ∈ lw_tbl := List.mem_of_getElem? (i := 867) (by decide +kernel)
theorem sj_q_ilen : Cond.instanceMethod sj_y_len ∈ lw_tbl := List.mem_of_getElem? (i := 856) (by decide +kernel)
theorem sj_q_vlen : Cond.selects "java/lang/String" sj_y_len sj_y_len ∈ lw_tbl := List.mem_of_getElem? (i := 857) (by decide +kernel)
theorem sj_q_nS : Cond.initialized "java/lang/String" ∈ lw_tbl := List.mem_of_getElem? (i := 165) (by decide +kernel)
theorem sj_q_nL : Cond.initialized "java/lang/StringLatin1" ∈ lw_tbl := List.mem_of_getElem? (i := 166) (by decide +kernel)
theorem sj_q_nP : Cond.initialized "jdk/internal/util/Preconditions" ∈ lw_tbl := List.mem_of_getElem? (i := 167) (by decide +kernel)
theorem sj_q_lpci : Cond.methodLink "java/lang/String" 1059 sj_y_pci ∈ lw_tbl := List.mem_of_getElem? (i := 881) (by decide +kernel)
theorem sj_q_lsci : Cond.methodLink "java/lang/StringLatin1" 9 sj_y_sci ∈ lw_tbl := List.mem_of_getElem? (i := 876) (by decide +kernel)
theorem sj_q_llca : Cond.methodLink "java/lang/String" 495 sj_y_lca ∈ lw_tbl := List.mem_of_getElem? (i := 873) (by decide +kernel)
theorem sj_q_lil1 : Cond.methodLink "java/lang/String" 492 sj_y_il1 ∈ lw_tbl := List.mem_of_getElem? (i := 869) (by decide +kernel)
theorem sj_q_lcdr : Cond.methodLink "java/lang/String" 335 sj_y_cdr ∈ lw_tbl := List.mem_of_getElem? (i := 859) (by decide +kernel)
theorem sj_q_fC : Cond.fieldLink "java/lang/String" 38 "java/lang/String" "COMPACT_STRINGS" "Z" ∈ lw_tbl := List.mem_of_getElem? (i := 863) (by decide +kernel)
theorem sj_q_fF : Cond.fieldLink "java/lang/String" 1053 "jdk/internal/util/Preconditions" "SIOOBE_FORMATTER" "Ljava/util/function/BiFunction;" ∈ lw_tbl := List.mem_of_getElem? (i := 879) (by decide +kernel)
theorem sj_q_fv : Cond.fieldLink "java/lang/String" 9 "java/lang/String" "value" "[B" ∈ lw_tbl := List.mem_of_getElem? (i := 2315) (by decide +kernel)
theorem sj_q_fc : Cond.fieldLink "java/lang/String" 15 "java/lang/String" "coder" "B" ∈ lw_tbl := List.mem_of_getElem? (i := 2316) (by decide +kernel)
theorem sj_d_pci_0 : decode prog_32_method_11_code 0 = .ok (.iload_n 0, 1) := by decide +kernel
theorem sj_d_pci_1 : decode prog_32_method_11_code 1 = .ok (.ifCond .lt 8, 3) := by decide +kernel
theorem sj_d_pci_4 : decode prog_32_method_11_code 4 = .ok (.iload_n 0, 1) := by decide +kernel
theorem sj_d_pci_5 : decode prog_32_method_11_code 5 = .ok (.iload_n 1, 1) := by decide +kernel
theorem sj_d_pci_6 : decode prog_32_method_11_code 6 = .ok (.if_icmp .lt 10, 3) := by decide +kernel
theorem sj_d_pci_16 : decode prog_32_method_11_code 16 = .ok (.iload_n 0, 1) := by decide +kernel
theorem sj_d_pci_17 : decode prog_32_method_11_code 17 = .ok (.ireturn, 1) := by decide +kernel
theorem sj_d_sci_0 : decode prog_23_method_155_code 0 = .ok (.iload_n 0, 1) := by decide +kernel
theorem sj_d_sci_1 : decode prog_23_method_155_code 1 = .ok (.iload_n 1, 1) := by decide +kernel
theorem sj_d_sci_2 : decode prog_23_method_155_code 2 = .ok (.getstatic 1053, 3) := by decide +kernel
theorem sj_d_sci_5 : decode prog_23_method_155_code 5 = .ok (.invokestatic 1059, 3) := by decide +kernel
theorem sj_d_sci_8 : decode prog_23_method_155_code 8 = .ok (.pop, 1) := by decide +kernel
theorem sj_d_sci_9 : decode prog_23_method_155_code 9 = .ok (.return_, 1) := by decide +kernel
theorem sj_d_lca_0 : decode prog_24_method_2_code 0 = .ok (.iload_n 1, 1) := by decide +kernel
theorem sj_d_lca_1 : decode prog_24_method_2_code 1 = .ok (.aload_n 0, 1) := by decide +kernel
theorem sj_d_lca_2 : decode prog_24_method_2_code 2 = .ok (.arraylength, 1) := by decide +kernel
theorem sj_d_lca_3 : decode prog_24_method_2_code 3 = .ok (.invokestatic 9, 3) := by decide +kernel
theorem sj_d_lca_6 : decode prog_24_method_2_code 6 = .ok (.aload_n 0, 1) := by decide +kernel
theorem sj_d_lca_7 : decode prog_24_method_2_code 7 = .ok (.iload_n 1, 1) := by decide +kernel
theorem sj_d_lca_8 : decode prog_24_method_2_code 8 = .ok (.baload, 1) := by decide +kernel
theorem sj_d_lca_9 : decode prog_24_method_2_code 9 = .ok (.sipush 255, 3) := by decide +kernel
theorem sj_d_lca_12 : decode prog_24_method_2_code 12 = .ok (.iand, 1) := by decide +kernel
theorem sj_d_lca_13 : decode prog_24_method_2_code 13 = .ok (.i2c, 1) := by decide +kernel
theorem sj_d_lca_14 : decode prog_24_method_2_code 14 = .ok (.ireturn, 1) := by decide +kernel
theorem sj_d_il1_0 : decode prog_23_method_154_code 0 = .ok (.getstatic 38, 3) := by decide +kernel
theorem sj_d_il1_3 : decode prog_23_method_154_code 3 = .ok (.ifCond .eq 14, 3) := by decide +kernel
theorem sj_d_il1_6 : decode prog_23_method_154_code 6 = .ok (.aload_n 0, 1) := by decide +kernel
theorem sj_d_il1_7 : decode prog_23_method_154_code 7 = .ok (.getfield 15, 3) := by decide +kernel
theorem sj_d_il1_10 : decode prog_23_method_154_code 10 = .ok (.ifCond .ne 7, 3) := by decide +kernel
theorem sj_d_il1_13 : decode prog_23_method_154_code 13 = .ok (.iconst 1, 1) := by decide +kernel
theorem sj_d_il1_14 : decode prog_23_method_154_code 14 = .ok (.goto 4, 3) := by decide +kernel
theorem sj_d_il1_18 : decode prog_23_method_154_code 18 = .ok (.ireturn, 1) := by decide +kernel
theorem sj_d_cdr_0 : decode prog_23_method_152_code 0 = .ok (.getstatic 38, 3) := by decide +kernel
theorem sj_d_cdr_3 : decode prog_23_method_152_code 3 = .ok (.ifCond .eq 10, 3) := by decide +kernel
theorem sj_d_cdr_6 : decode prog_23_method_152_code 6 = .ok (.aload_n 0, 1) := by decide +kernel
theorem sj_d_cdr_7 : decode prog_23_method_152_code 7 = .ok (.getfield 15, 3) := by decide +kernel
theorem sj_d_cdr_10 : decode prog_23_method_152_code 10 = .ok (.goto 4, 3) := by decide +kernel
theorem sj_d_cdr_14 : decode prog_23_method_152_code 14 = .ok (.ireturn, 1) := by decide +kernel
theorem sj_d_cha_0 : decode prog_23_method_56_code 0 = .ok (.aload_n 0, 1) := by decide +kernel
theorem sj_d_cha_1 : decode prog_23_method_56_code 1 = .ok (.invokevirtual 492, 3) := by decide +kernel
theorem sj_d_cha_4 : decode prog_23_method_56_code 4 = .ok (.ifCond .eq 12, 3) := by decide +kernel
theorem sj_d_cha_7 : decode prog_23_method_56_code 7 = .ok (.aload_n 0, 1) := by decide +kernel
theorem sj_d_cha_8 : decode prog_23_method_56_code 8 = .ok (.getfield 9, 3) := by decide +kernel
theorem sj_d_cha_11 : decode prog_23_method_56_code 11 = .ok (.iload_n 1, 1) := by decide +kernel
theorem sj_d_cha_12 : decode prog_23_method_56_code 12 = .ok (.invokestatic 495, 3) := by decide +kernel
theorem sj_d_cha_15 : decode prog_23_method_56_code 15 = .ok (.ireturn, 1) := by decide +kernel
theorem sj_d_len_0 : decode prog_23_method_54_code 0 = .ok (.aload_n 0, 1) := by decide +kernel
theorem sj_d_len_1 : decode prog_23_method_54_code 1 = .ok (.getfield 9, 3) := by decide +kernel
theorem sj_d_len_4 : decode prog_23_method_54_code 4 = .ok (.arraylength, 1) := by decide +kernel
theorem sj_d_len_5 : decode prog_23_method_54_code 5 = .ok (.aload_n 0, 1) := by decide +kernel
theorem sj_d_len_6 : decode prog_23_method_54_code 6 = .ok (.invokevirtual 335, 3) := by decide +kernel
theorem sj_d_len_9 : decode prog_23_method_54_code 9 = .ok (.ishr, 1) := by decide +kernel
theorem sj_d_len_10 : decode prog_23_method_54_code 10 = .ok (.ireturn, 1) := by decide +kernel
theorem sj_recv {a v n : Nat} {f : Nat → Int32} {A : Nat → Prop} {s : State} {H : Heap} {locs : List Loc} (h : sj_W a v n f A s) (hS : va_S A s.heap H locs) : ∃ cell : Cell, H[a]? = some cell ∧ cell.vm.isStatics = false ∧ s.vm.findClass "java/lang/String" = some cell.cls := by
  obtain ⟨cell, h1, h2, h3, -⟩ := h.1.kept hS.2.1
  exact ⟨cell, h1, h2, h3⟩
set_option maxHeartbeats 4000000 in
set_option maxRecDepth 100000 in
theorem sj_pci (l : Launch) (i k : Int32) (w : Value) (hw9 : w = .null ∨ ∃ q, w = .ref q) (sz a v n : Nat) (f : Nat → Int32) (h0 : ¬ i < 0) (h1 : i < k) : Met l sj_y_pci (Cond.code sj_y_pci prog_32_method_11_code 3 (some .int) :: mm_tsG) (sj_rm 0 0) (sj_P [.int i, .int k, w] a v n f sz) (va_Qi (fun (r : Int32) (_ : Unit) => r = i) (fun _ _ => True) (fun q => sz ≤ q)) 0 0 (fun q => sz ≤ q) := by
  refine Met.ofW (cc := prog_32_method_11_code) (maxL := 3) (ret := (some .int)) (by decide) rfl ?_
  intro p e s m args below meth c s₁ B hml hv
  obtain ⟨rfl, hsz, hW⟩ := hv
  have hx := B.exec
  have hb := B.bytes
  have hr := B.returns
  have hts0 := atoms_spec (ws := Cond.code sj_y_pci prog_32_method_11_code 3 (some .int) :: mm_tsG) B.pre
  have hts : ∀ w ∈ mm_tsG, w.before _ s = true := fun w hw => hts0 w (List.mem_cons_of_mem _ hw)
  have hown : s.vm.findClass "jdk/internal/util/Preconditions" = some m.cls := findClass_of_methodNamed B.named
  have hlocks := B.notSynchronized
  subst hsz
  generalize hAe : (fun q : Nat => s.heap.size ≤ q) = A at hW ⊢
  have hA : ∀ q : Nat, s.heap.size ≤ q → A q := fun q h => by rw [← hAe]; exact h
  have hS : va_S A s.heap s.heap [] := va_S.rf
  rcases hw9 with rfl | ⟨q9, rfl⟩
  · have hl := lv_entry ([.int i, .int k, .null]) (n := 3) (Nat.le_of_ble_eq_true rfl)
    rw [lg_entry_eq]
    generalize (lg_sl ([.int i, .int k, .null]) ++ List.replicate (3 - (lg_sl ([.int i, .int k, .null])).length) Slot.unset).toArray = ls at hl ⊢
    have hl : lv_has ls 3 [(0, .int i), (1, .int k), (2, .null)] := hl
    refine lv_iload_n hx hb sj_d_pci_0 rfl (lv_at hl 0 rfl) ?_
    refine lv_if_lt (tgt := 9) hx hb sj_d_pci_1 rfl (fun h => absurd h h0) (fun _ => ?_)
    refine lv_iload_n hx hb sj_d_pci_4 rfl (lv_at hl 0 rfl) ?_
    refine lv_iload_n hx hb sj_d_pci_5 rfl (lv_at hl 1 rfl) ?_
    refine lv_icmp_lt (tgt := 16) hx hb sj_d_pci_6 rfl (fun _ => ?_) (fun h => absurd h1 h)
    refine lv_iload_n hx hb sj_d_pci_16 rfl (lv_at hl 0 rfl) ?_
    exact W.iret hx hb hr (fun t ht hw => ⟨⟨i, (), rfl, rfl, trivial⟩, hS.F ht⟩) hS.2.2 sj_d_pci_17
  · have hl := lv_entry ([.int i, .int k, .ref q9]) (n := 3) (Nat.le_of_ble_eq_true rfl)
    rw [lg_entry_eq]
    generalize (lg_sl ([.int i, .int k, .ref q9]) ++ List.replicate (3 - (lg_sl ([.int i, .int k, .ref q9])).length) Slot.unset).toArray = ls at hl ⊢
    have hl : lv_has ls 3 [(0, .int i), (1, .int k), (2, .ref q9)] := hl
    refine lv_iload_n hx hb sj_d_pci_0 rfl (lv_at hl 0 rfl) ?_
    refine lv_if_lt (tgt := 9) hx hb sj_d_pci_1 rfl (fun h => absurd h h0) (fun _ => ?_)
    refine lv_iload_n hx hb sj_d_pci_4 rfl (lv_at hl 0 rfl) ?_
    refine lv_iload_n hx hb sj_d_pci_5 rfl (lv_at hl 1 rfl) ?_
    refine lv_icmp_lt (tgt := 16) hx hb sj_d_pci_6 rfl (fun _ => ?_) (fun h => absurd h1 h)
    refine lv_iload_n hx hb sj_d_pci_16 rfl (lv_at hl 0 rfl) ?_
    exact W.iret hx hb hr (fun t ht hw => ⟨⟨i, (), rfl, rfl, trivial⟩, hS.F ht⟩) hS.2.2 sj_d_pci_17
set_option maxHeartbeats 4000000 in
set_option maxRecDepth 100000 in
theorem sj_sci (l : Launch) (i k : Int32) (sz a v n : Nat) (f : Nat → Int32) (h0 : ¬ i < 0) (h1 : i < k) : Met l sj_y_sci (Cond.code sj_y_sci prog_23_method_155_code 2 (none) :: mm_tsG) (sj_rm 1 40) (sj_P [.int i, .int k] a v n f sz) (va_Qv (fun _ : Unit => True) (fun _ _ => True) (fun q => sz ≤ q)) 0 0 (fun q => sz ≤ q) := by
  refine Met.ofW (cc := prog_23_method_155_code) (maxL := 2) (ret := (none)) (by decide) rfl ?_
  intro p e s m args below meth c s₁ B hml hv
  obtain ⟨rfl, hsz, hW⟩ := hv
  have hx := B.exec
  have hb := B.bytes
  have hr := B.returns
  have hts0 := atoms_spec (ws := Cond.code sj_y_sci prog_23_method_155_code 2 (none) :: mm_tsG) B.pre
  have hts : ∀ w ∈ mm_tsG, w.before _ s = true := fun w hw => hts0 w (List.mem_cons_of_mem _ hw)
  have hown : s.vm.findClass "java/lang/String" = some m.cls := findClass_of_methodNamed B.named
  have hlocks := B.notSynchronized
  subst hsz
  generalize hAe : (fun q : Nat => s.heap.size ≤ q) = A at hW ⊢
  have hA : ∀ q : Nat, s.heap.size ≤ q → A q := fun q h => by rw [← hAe]; exact h
  have hS : va_S A s.heap s.heap [] := va_S.rf
  have hl := lv_entry ([.int i, .int k]) (n := 2) (Nat.le_of_ble_eq_true rfl)
  rw [lg_entry_eq]
  generalize (lg_sl ([.int i, .int k]) ++ List.replicate (2 - (lg_sl ([.int i, .int k])).length) Slot.unset).toArray = ls at hl ⊢
  have hl : lv_has ls 2 [(0, .int i), (1, .int k)] := hl
  refine lv_iload_n hx hb sj_d_sci_0 rfl (lv_at hl 0 rfl) ?_
  refine lv_iload_n hx hb sj_d_sci_1 rfl (lv_at hl 1 rfl) ?_
  have key : ∀ w : Value, (w = .null ∨ ∃ q, w = .ref q) → W p l e (headSpec (Cond.code sj_y_sci prog_23_method_155_code 2 (none) :: mm_tsG) (sj_rm 1 40)).room s m (List.toArray [.int i, .int k]) below meth c s.heap [] 0 0 (MQ below (va_Qv (fun _ : Unit => True) (fun _ _ => True) A) (List.toArray [.int i, .int k]) s 0 0 A) (F0 m 5 ls [w, .int k, .int i]) := by
    intro w hw9
    refine va_calli (va_runS (As := [.int i, .int k, w]) (rest := []) ⟨hx, hb, hml, hown, hts⟩ (sj_pci l i k w hw9 s.heap.size a v n f h0 h1) ⟨callB_of (Ts := mm_tsG) 3 hts (sj_in sj_c_pci rfl) rfl rfl rfl (hts _ (mm_tsG_in sj_q_nP rfl)) (hts _ (mm_tsG_in sj_q_lpci rfl)) (by decide +kernel) ⟨Nat.le_of_ble_eq_true rfl, Nat.le_of_ble_eq_true rfl⟩, hts _ (mm_tsG_in sj_q_spci rfl)⟩ ⟨sj_blind _ a v n f _, sj_pre (fun q h => hA q (Nat.le_trans hS.1 h)) hW hS⟩ rfl rfl hl.1 rfl (lv_room (Nat.le_of_ble_eq_true rfl)) sj_d_sci_5 ⟨Nat.le_refl _, Nat.le_refl _⟩) hS (fun q _ h => hA q h) (fun q h => hA q h) (fun r u t H1 locs ht hvm hw hB hz1 hk1 hS => ?_)
    refine lv_pop hx hb sj_d_sci_8 rfl ?_
    exact W.vret hx hb hr (fun t ht hw => ⟨⟨(), rfl, trivial, trivial⟩, hS.F ht⟩) hS.2.2 sj_d_sci_9
  rcases hW.2.2.2.2.2 with hz | ⟨t, hz⟩
  · exact va_gets hx hb hz hS hown (hts _ (mm_tsG_in sj_q_fF rfl)) (fun _ h9 => h9) sj_d_sci_2 (key .null (Or.inl rfl))
  · exact va_gets hx hb hz hS hown (hts _ (mm_tsG_in sj_q_fF rfl)) (fun _ h9 => h9) sj_d_sci_2 (key (.ref t) (Or.inr ⟨t, rfl⟩))
set_option maxHeartbeats 4000000 in
set_option maxRecDepth 100000 in
theorem sj_lca (l : Launch) (i : Nat) (sz a v n : Nat) (f : Nat → Int32) (hi : i < n) (hn : n < 2 ^ 31) (hf : ∀ j, j < n → ((f j &&& 255).toUInt32 % 65536).toInt32 = f j ∧ narrow .char (.int (f j)) = .int (f j)) : Met l sj_y_lca (Cond.code sj_y_lca prog_24_method_2_code 2 (some .char) :: mm_tsG) (sj_rm 2 80) (sj_P [.ref v, .int (nI i)] a v n f sz) (va_Qi (fun (r : Int32) (_ : Unit) => r = f i) (fun _ _ => True) (fun q => sz ≤ q)) 0 0 (fun q => sz ≤ q) := by
  refine Met.ofW (cc := prog_24_method_2_code) (maxL := 2) (ret := (some .char)) (by decide) rfl ?_
  intro p e s m args below meth c s₁ B hml hv
  obtain ⟨rfl, hsz, hW⟩ := hv
  have hx := B.exec
  have hb := B.bytes
  have hr := B.returns
  have hts0 := atoms_spec (ws := Cond.code sj_y_lca prog_24_method_2_code 2 (some .char) :: mm_tsG) B.pre
  have hts : ∀ w ∈ mm_tsG, w.before _ s = true := fun w hw => hts0 w (List.mem_cons_of_mem _ hw)
  have hown : s.vm.findClass "java/lang/StringLatin1" = some m.cls := findClass_of_methodNamed B.named
  have hlocks := B.notSynchronized
  subst hsz
  generalize hAe : (fun q : Nat => s.heap.size ≤ q) = A at hW ⊢
  have hA : ∀ q : Nat, s.heap.size ≤ q → A q := fun q h => by rw [← hAe]; exact h
  have hS : va_S A s.heap s.heap [] := va_S.rf
  have hl := lv_entry ([.ref v, .int (nI i)]) (n := 2) (Nat.le_of_ble_eq_true rfl)
  rw [lg_entry_eq]
  generalize (lg_sl ([.ref v, .int (nI i)]) ++ List.replicate (2 - (lg_sl ([.ref v, .int (nI i)])).length) Slot.unset).toArray = ls at hl ⊢
  have hl : lv_has ls 2 [(0, .ref v), (1, .int (nI i))] := hl
  refine lv_iload_n hx hb sj_d_lca_0 rfl (lv_at hl 1 rfl) ?_
  refine lv_aload_n hx hb sj_d_lca_1 rfl (lv_at hl 0 rfl) ?_
  refine va_tlen hx hb hW.2.2.2.1 hS rfl sj_d_lca_2 ?_
  refine va_callv (va_runS (As := [.int (nI i), .int (Int32.ofNat n)]) (rest := []) ⟨hx, hb, hml, hown, hts⟩ (sj_sci l (nI i) (Int32.ofNat n) s.heap.size a v n f (nI_pos (Nat.lt_trans hi hn)) (nI_lt hi hn)) ⟨callB_of (Ts := mm_tsG) 2 hts (sj_in sj_c_sci rfl) rfl rfl rfl (hts _ (mm_tsG_in sj_q_nS rfl)) (hts _ (mm_tsG_in sj_q_lsci rfl)) (by decide +kernel) ⟨Nat.le_of_ble_eq_true rfl, Nat.le_of_ble_eq_true rfl⟩, hts _ (mm_tsG_in sj_q_ssci rfl)⟩ ⟨sj_blind _ a v n f _, sj_pre (fun q h => hA q (Nat.le_trans hS.1 h)) hW hS⟩ rfl rfl hl.1 rfl (lv_room (Nat.le_of_ble_eq_true rfl)) sj_d_lca_3 ⟨Nat.le_refl _, Nat.le_refl _⟩) hS (fun q _ h => hA q h) (fun q h => hA q h) (fun u t H1 locs ht hvm hw hB hz1 hk1 hS => ?_)
  refine lv_aload_n hx hb sj_d_lca_6 rfl (lv_at hl 0 rfl) ?_
  refine lv_iload_n hx hb sj_d_lca_7 rfl (lv_at hl 1 rfl) ?_
  refine va_tb hx hb hW.2.2.2.1 hS (v := .int (f i)) (vp_in_nI hi hn) (by rw [nI_clamp (Nat.lt_trans hi hn)]) sj_d_lca_8 ?_
  refine lv_sipush (v := 255) hx hb sj_d_lca_9 (by decide) ?_
  refine lv_iand hx hb sj_d_lca_12 ?_
  refine lv_i2c (v := f i) hx hb sj_d_lca_13 (hf i hi).1 ?_
  exact W.zret hx hb hr (hf i hi).2 (fun t ht hw => ⟨⟨f i, (), rfl, rfl, trivial⟩, hS.F ht⟩) hS.2.2 sj_d_lca_14
set_option maxHeartbeats 4000000 in
set_option maxRecDepth 100000 in
theorem sj_il1 (l : Launch)  (sz a v n : Nat) (f : Nat → Int32)  : Met l sj_y_il1 (Cond.code sj_y_il1 prog_23_method_154_code 1 (some .boolean) :: mm_tsG) (sj_rm 0 0) (sj_P [.ref a] a v n f sz) (va_Qi (fun (r : Int32) (_ : Unit) => r = 1) (fun _ _ => True) (fun q => sz ≤ q)) 0 0 (fun q => sz ≤ q) := by
  refine Met.ofW (cc := prog_23_method_154_code) (maxL := 1) (ret := (some .boolean)) (by decide) rfl ?_
  intro p e s m args below meth c s₁ B hml hv
  obtain ⟨rfl, hsz, hW⟩ := hv
  have hx := B.exec
  have hb := B.bytes
  have hr := B.returns
  have hts0 := atoms_spec (ws := Cond.code sj_y_il1 prog_23_method_154_code 1 (some .boolean) :: mm_tsG) B.pre
  have hts : ∀ w ∈ mm_tsG, w.before _ s = true := fun w hw => hts0 w (List.mem_cons_of_mem _ hw)
  have hown : s.vm.findClass "java/lang/String" = some m.cls := findClass_of_methodNamed B.named
  have hlocks := B.notSynchronized
  subst hsz
  generalize hAe : (fun q : Nat => s.heap.size ≤ q) = A at hW ⊢
  have hA : ∀ q : Nat, s.heap.size ≤ q → A q := fun q h => by rw [← hAe]; exact h
  have hS : va_S A s.heap s.heap [] := va_S.rf
  have hl := lv_entry ([.ref a]) (n := 1) (Nat.le_of_ble_eq_true rfl)
  rw [lg_entry_eq]
  generalize (lg_sl ([.ref a]) ++ List.replicate (1 - (lg_sl ([.ref a])).length) Slot.unset).toArray = ls at hl ⊢
  have hl : lv_has ls 1 [(0, .ref a)] := hl
  refine va_gets hx hb hW.2.2.2.2.1 hS hown (hts _ (mm_tsG_in sj_q_fC rfl)) (fun _ h9 => h9) sj_d_il1_0 ?_
  refine lv_if_eq (tgt := 17) hx hb sj_d_il1_3 rfl (fun h => absurd h (by decide)) (fun _ => ?_)
  refine lv_aload_n hx hb sj_d_il1_6 rfl (lv_at hl 0 rfl) ?_
  refine vk_getf hx hb hW.2.1 hS hown (hts _ (mm_tsG_in sj_q_fc rfl)) (fun _ h9 => h9) sj_d_il1_7 ?_
  refine lv_if_ne (tgt := 17) hx hb sj_d_il1_10 rfl (fun h => absurd rfl h) (fun _ => ?_)
  refine lv_iconst (v := 1) hx hb sj_d_il1_13 (by decide) ?_
  refine lv_goto (tgt := 18) hx hb sj_d_il1_14 rfl ?_
  exact W.zret hx hb hr rfl (fun t ht hw => ⟨⟨1, (), rfl, rfl, trivial⟩, hS.F ht⟩) hS.2.2 sj_d_il1_18
set_option maxHeartbeats 4000000 in
set_option maxRecDepth 100000 in
theorem sj_cdr (l : Launch)  (sz a v n : Nat) (f : Nat → Int32)  : Met l sj_y_cdr (Cond.code sj_y_cdr prog_23_method_152_code 1 (some .byte) :: mm_tsG) (sj_rm 0 0) (sj_P [.ref a] a v n f sz) (va_Qi (fun (r : Int32) (_ : Unit) => r = 0) (fun _ _ => True) (fun q => sz ≤ q)) 0 0 (fun q => sz ≤ q) := by
  refine Met.ofW (cc := prog_23_method_152_code) (maxL := 1) (ret := (some .byte)) (by decide) rfl ?_
  intro p e s m args below meth c s₁ B hml hv
  obtain ⟨rfl, hsz, hW⟩ := hv
  have hx := B.exec
  have hb := B.bytes
  have hr := B.returns
  have hts0 := atoms_spec (ws := Cond.code sj_y_cdr prog_23_method_152_code 1 (some .byte) :: mm_tsG) B.pre
  have hts : ∀ w ∈ mm_tsG, w.before _ s = true := fun w hw => hts0 w (List.mem_cons_of_mem _ hw)
  have hown : s.vm.findClass "java/lang/String" = some m.cls := findClass_of_methodNamed B.named
  have hlocks := B.notSynchronized
  subst hsz
  generalize hAe : (fun q : Nat => s.heap.size ≤ q) = A at hW ⊢
  have hA : ∀ q : Nat, s.heap.size ≤ q → A q := fun q h => by rw [← hAe]; exact h
  have hS : va_S A s.heap s.heap [] := va_S.rf
  have hl := lv_entry ([.ref a]) (n := 1) (Nat.le_of_ble_eq_true rfl)
  rw [lg_entry_eq]
  generalize (lg_sl ([.ref a]) ++ List.replicate (1 - (lg_sl ([.ref a])).length) Slot.unset).toArray = ls at hl ⊢
  have hl : lv_has ls 1 [(0, .ref a)] := hl
  refine va_gets hx hb hW.2.2.2.2.1 hS hown (hts _ (mm_tsG_in sj_q_fC rfl)) (fun _ h9 => h9) sj_d_cdr_0 ?_
  refine lv_if_eq (tgt := 13) hx hb sj_d_cdr_3 rfl (fun h => absurd h (by decide)) (fun _ => ?_)
  refine lv_aload_n hx hb sj_d_cdr_6 rfl (lv_at hl 0 rfl) ?_
  refine vk_getf hx hb hW.2.1 hS hown (hts _ (mm_tsG_in sj_q_fc rfl)) (fun _ h9 => h9) sj_d_cdr_7 ?_
  refine lv_goto (tgt := 14) hx hb sj_d_cdr_10 rfl ?_
  exact W.zret hx hb hr rfl (fun t ht hw => ⟨⟨0, (), rfl, rfl, trivial⟩, hS.F ht⟩) hS.2.2 sj_d_cdr_14
set_option maxHeartbeats 4000000 in
set_option maxRecDepth 100000 in
theorem sj_cha (l : Launch) (i : Nat) (sz a v n : Nat) (f : Nat → Int32) (hi : i < n) (hn : n < 2 ^ 31) (hf : ∀ j, j < n → ((f j &&& 255).toUInt32 % 65536).toInt32 = f j ∧ narrow .char (.int (f j)) = .int (f j)) : Met l sj_y_cha (Cond.code sj_y_cha prog_23_method_56_code 2 (some .char) :: mm_tsG) (sj_rm 3 120) (sj_P [.ref a, .int (nI i)] a v n f sz) (va_Qi (fun (r : Int32) (_ : Unit) => r = f i) (fun _ _ => True) (fun q => sz ≤ q)) 0 0 (fun q => sz ≤ q) := by
  refine Met.ofW (cc := prog_23_method_56_code) (maxL := 2) (ret := (some .char)) (by decide) rfl ?_
  intro p e s m args below meth c s₁ B hml hv
  obtain ⟨rfl, hsz, hW⟩ := hv
  have hx := B.exec
  have hb := B.bytes
  have hr := B.returns
  have hts0 := atoms_spec (ws := Cond.code sj_y_cha prog_23_method_56_code 2 (some .char) :: mm_tsG) B.pre
  have hts : ∀ w ∈ mm_tsG, w.before _ s = true := fun w hw => hts0 w (List.mem_cons_of_mem _ hw)
  have hown : s.vm.findClass "java/lang/String" = some m.cls := findClass_of_methodNamed B.named
  have hlocks := B.notSynchronized
  subst hsz
  generalize hAe : (fun q : Nat => s.heap.size ≤ q) = A at hW ⊢
  have hA : ∀ q : Nat, s.heap.size ≤ q → A q := fun q h => by rw [← hAe]; exact h
  have hS : va_S A s.heap s.heap [] := va_S.rf
  have hl := lv_entry ([.ref a, .int (nI i)]) (n := 2) (Nat.le_of_ble_eq_true rfl)
  rw [lg_entry_eq]
  generalize (lg_sl ([.ref a, .int (nI i)]) ++ List.replicate (2 - (lg_sl ([.ref a, .int (nI i)])).length) Slot.unset).toArray = ls at hl ⊢
  have hl : lv_has ls 2 [(0, .ref a), (1, .int (nI i))] := hl
  refine lv_aload_n hx hb sj_d_cha_0 rfl (lv_at hl 0 rfl) ?_
  refine va_calli (va_runV (As := []) (rest := []) ⟨hx, hb, hml, hown, hts⟩ (sj_il1 l s.heap.size a v n f) ⟨callB_of (Ts := mm_tsG) 0 hts (sj_in sj_c_il1 rfl) rfl rfl rfl (hts _ (mm_tsG_in sj_q_nS rfl)) (hts _ (mm_tsG_in sj_q_lil1 rfl)) (by decide +kernel) ⟨Nat.le_of_ble_eq_true rfl, Nat.le_of_ble_eq_true rfl⟩, hts _ (mm_tsG_in sj_q_iil1 rfl), hts _ (mm_tsG_in sj_q_vil1 rfl)⟩ ⟨sj_blind _ a v n f _, sj_recv hW hS, sj_pre (fun q h => hA q (Nat.le_trans hS.1 h)) hW hS⟩ rfl rfl hl.1 rfl (lv_room (Nat.le_of_ble_eq_true rfl)) sj_d_cha_1 ⟨Nat.le_refl _, Nat.le_refl _⟩) hS (fun q _ h => hA q h) (fun q h => hA q h) (fun r u t H1 locs ht hvm hw hB hz1 hk1 hS => ?_)
  subst hw
  refine lv_if_eq (tgt := 16) hx hb sj_d_cha_4 rfl (fun h => absurd h (by decide)) (fun _ => ?_)
  refine lv_aload_n hx hb sj_d_cha_7 rfl (lv_at hl 0 rfl) ?_
  refine vk_getf hx hb hW.2.2.1 hS hown (hts _ (mm_tsG_in sj_q_fv rfl)) (fun _ h9 => h9) sj_d_cha_8 ?_
  refine lv_iload_n hx hb sj_d_cha_11 rfl (lv_at hl 1 rfl) ?_
  refine va_calli (va_runS (As := [.ref v, .int (nI i)]) (rest := []) ⟨hx, hb, hml, hown, hts⟩ (sj_lca l i H1.size a v n f hi hn hf) ⟨callB_of (Ts := mm_tsG) 2 hts (sj_in sj_c_lca rfl) rfl rfl rfl (hts _ (mm_tsG_in sj_q_nL rfl)) (hts _ (mm_tsG_in sj_q_llca rfl)) (by decide +kernel) ⟨Nat.le_of_ble_eq_true rfl, Nat.le_of_ble_eq_true rfl⟩, hts _ (mm_tsG_in sj_q_slca rfl)⟩ ⟨sj_blind _ a v n f _, sj_pre (fun q h => hA q (Nat.le_trans hS.1 h)) hW hS⟩ rfl rfl hl.1 rfl (lv_room (Nat.le_of_ble_eq_true rfl)) sj_d_cha_12 ⟨Nat.le_refl _, Nat.le_refl _⟩) hS (fun q _ h => hA q (Nat.le_trans hS.1 h)) (fun q h => hA q (Nat.le_trans hS.1 h)) (fun r u t H1 locs ht hvm hw hB hz1 hk1 hS => ?_)
  subst hw
  exact W.zret hx hb hr (hf i hi).2 (fun t ht hw => ⟨⟨f i, (), rfl, rfl, trivial⟩, hS.F ht⟩) hS.2.2 sj_d_cha_15
set_option maxHeartbeats 4000000 in
set_option maxRecDepth 100000 in
theorem sj_len (l : Launch)  (sz a v n : Nat) (f : Nat → Int32)  : Met l sj_y_len (Cond.code sj_y_len prog_23_method_54_code 1 (some .int) :: mm_tsG) (sj_rm 1 40) (sj_P [.ref a] a v n f sz) (va_Qi (fun (r : Int32) (_ : Unit) => r = Int32.ofNat n >>> ((0 : Int32) &&& 31)) (fun _ _ => True) (fun q => sz ≤ q)) 0 0 (fun q => sz ≤ q) := by
  refine Met.ofW (cc := prog_23_method_54_code) (maxL := 1) (ret := (some .int)) (by decide) rfl ?_
  intro p e s m args below meth c s₁ B hml hv
  obtain ⟨rfl, hsz, hW⟩ := hv
  have hx := B.exec
  have hb := B.bytes
  have hr := B.returns
  have hts0 := atoms_spec (ws := Cond.code sj_y_len prog_23_method_54_code 1 (some .int) :: mm_tsG) B.pre
  have hts : ∀ w ∈ mm_tsG, w.before _ s = true := fun w hw => hts0 w (List.mem_cons_of_mem _ hw)
  have hown : s.vm.findClass "java/lang/String" = some m.cls := findClass_of_methodNamed B.named
  have hlocks := B.notSynchronized
  subst hsz
  generalize hAe : (fun q : Nat => s.heap.size ≤ q) = A at hW ⊢
  have hA : ∀ q : Nat, s.heap.size ≤ q → A q := fun q h => by rw [← hAe]; exact h
  have hS : va_S A s.heap s.heap [] := va_S.rf
  have hl := lv_entry ([.ref a]) (n := 1) (Nat.le_of_ble_eq_true rfl)
  rw [lg_entry_eq]
  generalize (lg_sl ([.ref a]) ++ List.replicate (1 - (lg_sl ([.ref a])).length) Slot.unset).toArray = ls at hl ⊢
  have hl : lv_has ls 1 [(0, .ref a)] := hl
  refine lv_aload_n hx hb sj_d_len_0 rfl (lv_at hl 0 rfl) ?_
  refine vk_getf hx hb hW.2.2.1 hS hown (hts _ (mm_tsG_in sj_q_fv rfl)) (fun _ h9 => h9) sj_d_len_1 ?_
  refine va_tlen hx hb hW.2.2.2.1 hS rfl sj_d_len_4 ?_
  refine lv_aload_n hx hb sj_d_len_5 rfl (lv_at hl 0 rfl) ?_
  refine va_calli (va_runV (As := []) (rest := [.int (Int32.ofNat n)]) ⟨hx, hb, hml, hown, hts⟩ (sj_cdr l s.heap.size a v n f) ⟨callB_of (Ts := mm_tsG) 0 hts (sj_in sj_c_cdr rfl) rfl rfl rfl (hts _ (mm_tsG_in sj_q_nS rfl)) (hts _ (mm_tsG_in sj_q_lcdr rfl)) (by decide +kernel) ⟨Nat.le_of_ble_eq_true rfl, Nat.le_of_ble_eq_true rfl⟩, hts _ (mm_tsG_in sj_q_icdr rfl), hts _ (mm_tsG_in sj_q_vcdr rfl)⟩ ⟨sj_blind _ a v n f _, sj_recv hW hS, sj_pre (fun q h => hA q (Nat.le_trans hS.1 h)) hW hS⟩ rfl rfl hl.1 rfl (lv_room (Nat.le_of_ble_eq_true rfl)) sj_d_len_6 ⟨Nat.le_refl _, Nat.le_refl _⟩) hS (fun q _ h => hA q h) (fun q h => hA q h) (fun r u t H1 locs ht hvm hw hB hz1 hk1 hS => ?_)
  subst hw
  refine lv_ishr hx hb sj_d_len_9 ?_
  exact W.iret hx hb hr (fun t ht hw => ⟨⟨_, (), rfl, rfl, trivial⟩, hS.F ht⟩) hS.2.2 sj_d_len_10
