/-! throws, catches, calls of methods with handlers -/
def mm_eb (x : Nat) : ByteArray := match x with
  | 0 => prog_19_method_2_code
  | _ => prog_31_method_4_code
def mm_ei (x : Nat) : Nat := match x with
  | 0 => 7
  | _ => 13
def mm_ek (x : Nat) : Nat := match x with
  | 0 => 154
  | _ => 144
def mm_ec (x : Nat) : Nat := match x with
  | 0 => 158
  | _ => 148
def mm_en : List String := ["java/lang/RuntimeException", "java/lang/Exception"]
def mm_ew (x : Nat) : List Cond := Cond.classLink RX11 (mm_ek x) (mm_xn x) :: Cond.initialized (mm_xn x) :: mm_atX RX11 (mm_ec x) (mm_xn x) (mm_ei x) (mm_eb x) mm_en
def mm_ewok (x : Nat) : Bool := (mm_ew x).all (fun w => lw_tbl.any (fun z => decide (w = z)) && ((goodWord w || (mm_nw w && w.onTables)) && vx_ot w))
theorem mm_ew0 : mm_ewok 0 = true := by decide +kernel
theorem mm_ew1 : mm_ewok 1 = true := by decide +kernel
theorem mm_ew_in {x : Nat} (hx : x = 0 ∨ x = 1) : ∀ w ∈ mm_ew x, w ∈ lw_tbl ∧ (goodWord w = true ∨ (mm_nw w = true ∧ w.onTables = true)) ∧ vx_ot w = true := by
  intro w hw
  have h : mm_ewok x = true := by
    rcases hx with rfl | rfl
    · exact mm_ew0
    · exact mm_ew1
  have h1 := List.all_eq_true.mp h w hw
  simp only [Bool.and_eq_true, Bool.or_eq_true] at h1
  obtain ⟨h2, h3, h4⟩ := h1
  obtain ⟨z, hz, hwz⟩ := List.any_eq_true.mp h2
  have e : w = z := by simpa using hwz
  exact ⟨e ▸ hz, h3, h4⟩
def mm_hh (k : Nat) : List (Nat × Nat × Nat × Nat) := (mm_hs k).map (fun q => (q.1, q.2.1, q.2.2.1, if q.2.2.2 = 0 then 13 else 23))
def mm_wkW (k : Nat) : List Cond := Cond.codeWith (mm_yn k) (mm_by k) (mm_mt k).2.2.2 (mm_rt k) (mm_hh k) :: mm_tsG
/-- the contract of a method with handlers -/
def mm_ConW (l : Launch) (D : va_G) (ad : Nat → Nat → Nat) (cy : Nat → ClassId) (xs : Nat → Int32) (xn d k : Nat) (as : List mm_V) (m : mm_M) (o : mm_O) (m' : mm_M) (kk nn : Nat) : Prop :=
  ∀ sz, vx_Met l (mm_yn k) (mm_wkW k) (mm_rm d kk nn) (mm_Pc D ad cy xs xn as m sz) (mm_Qc D ad cy xs xn o m' (mm_Aw ad sz)) (mm_XC D ad cy xs xn o m' (mm_Aw ad sz)) kk nn (mm_Aw ad sz)
/-- what a static call of the method x, with handlers, rests on -/
def mm_mlW (o idx x : Nat) (n : Nat) : Prop :=
  Cond.methodLink (mm_rn o) idx (mm_yn x) ∈ lw_tbl ∧ Cond.initialized (mm_yn x).cls ∈ lw_tbl ∧ (Cond.codeWith (mm_yn x) (mm_by x) (mm_mt x).2.2.2 (mm_rt x) (mm_hh x) ∈ lw_tbl ∧ (mm_mt x).2.2.2 ≤ 40) ∧ Cond.static (mm_yn x) ∈ lw_tbl ∧
  ((mm_yn x).cls ≠ "java/lang/invoke/MethodHandle" ∧ (mm_yn x).cls ≠ "java/lang/invoke/VarHandle" ∧ (parseMethodDescriptor (mm_yn x).desc).map (fun d => d.parameters.length) = some n)
theorem mm_lawI : Cond.classLink RL 13 "java/lang/IllegalArgumentException" ∈ lw_tbl := List.mem_of_getElem? (i := 756) (by decide +kernel)
theorem mm_lawN : Cond.classLink RL 23 "java/util/NoSuchElementException" ∈ lw_tbl := List.mem_of_getElem? (i := 1028) (by decide +kernel)
theorem mm_casI : Cond.castable "java/lang/IllegalArgumentException" "java/lang/IllegalArgumentException" ∈ lw_tbl := List.mem_of_getElem? (i := 767) (by decide +kernel)
theorem mm_casN : Cond.castable "java/util/NoSuchElementException" "java/util/NoSuchElementException" ∈ lw_tbl := List.mem_of_getElem? (i := 1039) (by decide +kernel)
section MMTH
variable {p : Program} {l : Launch} {e : Env} {R : Room} {s : State} {mid : MethodId} {args : Array Value} {below : List Frame} {meth : Method} {c : Code} {Q : State → Prop} {D : va_G} {ad : Nat → Nat → Nat} {cy : Nat → ClassId} {A : Nat → Prop} {xs : Nat → Int32} {xn : Nat} {mc ms : Nat} {k : Nat} {kk nn : Nat} {pc : Nat} {L : List (Option mm_V)} {st : List mm_V} {m : mm_M}
/-- an exception is made and thrown -/
theorem s_throw {x is : Nat} {tx : String} (C : mm_Cx p s mid args meth c D ad cy A xs xn k) (hx : x = 0 ∨ x = 1) (hfl : l.stackTraces = false) (hk11 : (mm_mt k).1 = 11) (hET : c.exceptionTable.toList = []) (hA : ∀ q, s.heap.size ≤ q → A q) (hR : 8 ≤ R.frames ∧ 200 ≤ R.locals ∧ mc ≤ R.cells ∧ ms ≤ R.slots) (htx : (11, is, tx) ∈ mm_xt)
    (d0 : decode (mm_by k) pc = .ok (.new (mm_ek x), 3)) (d3 : decode (mm_by k) (pc + 3) = .ok (.dup, 1))
    (dd : (decode (mm_by k) (pc + 4) = .ok (.ldc is, 2) ∧ decode (mm_by k) (pc + 6) = .ok (.invokespecial (mm_ec x), 3) ∧ decode (mm_by k) (pc + 9) = .ok (.athrow, 1)) ∨ (decode (mm_by k) (pc + 4) = .ok (.ldc_w is, 3) ∧ decode (mm_by k) (pc + 7) = .ok (.invokespecial (mm_ec x), 3) ∧ decode (mm_by k) (pc + 10) = .ok (.athrow, 1))) :
    mm_G p l e R s mid args below meth c (vx_MQ below (mm_Qc D ad cy xs xn (.inr x) m A) (mm_XC D ad cy xs xn (.inr x) m A) args s mc ms A) D ad cy A xs xn mc ms k 1 6 pc L [] m := by
  intro H locs cells slots ls stk hP hcv hsv hS hl hs hc1 hc2
  match stk, hs with
  | [], _ =>
    have hown : s.vm.findClass RX11 = some mid.cls := by
      have h := C.2.2.2.1
      rw [hk11] at h
      exact h
    have hin := mm_ew_in hx
    have hbe : ∀ w ∈ mm_ew x, w.before args s = true := fun w hw => by
      obtain ⟨h1, h2, -⟩ := hin w hw
      rcases h2 with h2 | ⟨h2, h3⟩
      · exact C.2.2.2.2.1 w h1 h2
      · exact va_Nw.use h3 (C.2.2.2.2.2.1.2.1 w h1 h2)
    obtain ⟨sa, hsa⟩ := C.2.2.2.2.2.1.2.2.2.2.1 11 is tx htx
    have hXC : ∀ t : State, s.vm.Alike t.vm → H.size ≤ t.heap.size → (∀ q : Nat, q < H.size → t.heap[q]? = H[q]?) → mm_XC D ad cy xs xn (.inr x) m A (mm_xn x) s t := by
      intro t _ h1 h2
      refine ⟨⟨x, rfl, rfl⟩, ⟨hP.kept (fun z q hz => h2 q.1 (hP z q hz).lt), hcv, hsv⟩, Nat.le_trans hS.1 h1, fun q h3 h4 => ?_⟩
      rw [h2 q (Nat.lt_of_lt_of_le h3 hS.1)]
      exact hS.2.1 q h3 h4
    have hout : ∀ n, ∀ z ∈ c.exceptionTable.toList, covers z n = false := fun n z hz => by rw [hET] at hz; cases hz
    have hfitx : Bundle.fit (mm_xn x) = true := by rcases hx with rfl | rfl <;> decide +kernel
    have hx0 : decode (mm_eb x) 0 = .ok (.aload_n 0, 1) := by rcases hx with rfl | rfl <;> decide +kernel
    have hx1 : decode (mm_eb x) 1 = .ok (.aload_n 1, 1) := by rcases hx with rfl | rfl <;> decide +kernel
    have hx2 : decode (mm_eb x) 2 = .ok (.invokespecial (mm_ei x), 3) := by rcases hx with rfl | rfl <;> decide +kernel
    have hx5 : decode (mm_eb x) 5 = .ok (.return_, 1) := by rcases hx with rfl | rfl <;> decide +kernel
    have hnm : ∀ n ∈ mm_en, Bundle.fit n = true := by decide +kernel
    rcases dd with ⟨d4, d6, d9⟩ | ⟨d4, d6, d9⟩
    · exact mm_throwX C.1 C.2.1 hfl hx0 hx1 hx2 hx5 hown hfitx hnm (hbe _ List.mem_cons_self) (hbe _ (List.mem_cons_of_mem _ List.mem_cons_self)) hsa (fun w hw => hbe w (List.mem_cons_of_mem _ (List.mem_cons_of_mem _ hw))) (fun w hw => (hin w hw).2.2) C.2.2.2.2.2.1.2.2.1.1 C.2.2.2.2.2.1.2.2.1.2 hS (hl.1.trans C.2.2.1.symm) d0 d3 d4 d6 d9 (hout _) (show 2 + 3 < R.frames by omega) (show 0 + (13 * (2 + 1) + 43) ≤ R.locals by omega) (by omega) (by omega) C.2.2.2.2.2.2.2.2.1 hXC (fun z hz => hS.2.2 z hz) hc1 hc2
    · exact mm_throwXW C.1 C.2.1 hfl hx0 hx1 hx2 hx5 hown hfitx hnm (hbe _ List.mem_cons_self) (hbe _ (List.mem_cons_of_mem _ List.mem_cons_self)) hsa (fun w hw => hbe w (List.mem_cons_of_mem _ (List.mem_cons_of_mem _ hw))) (fun w hw => (hin w hw).2.2) C.2.2.2.2.2.1.2.2.1.1 C.2.2.2.2.2.1.2.2.1.2 hS (hl.1.trans C.2.2.1.symm) d0 d3 d4 d6 d9 (hout _) (show 2 + 3 < R.frames by omega) (show 0 + (13 * (2 + 1) + 43) ≤ R.locals by omega) (by omega) (by omega) C.2.2.2.2.2.2.2.2.1 hXC (fun z hz => hS.2.2 z hz) hc1 hc2
/-- rows that don't catch it -/
def mm_pass (c : Code) (args : Array Value) (s : State) (own : String) (pc : Nat) (E : String) (z : ExceptionTableEntry) : Prop := covers z pc = false ∨ (z.catchType ≠ 0 ∧ ∃ nm : String, (Cond.classLink own z.catchType nm).before args s = true ∧ va_Nc E nm s)
theorem s_hd {x : Nat} (C : mm_Cx p s mid args meth c D ad cy A xs xn k) (hx : x = 0 ∨ x = 1) (hk : (mm_mt k).1 = 13) : ∀ (hs : List (Nat × Nat × Nat × Nat)) (pre : List ExceptionTableEntry), (∀ q ∈ hs, q.2.2.2 = 0 ∨ q.2.2.2 = 1) → c.exceptionTable.toList = pre ++ tableOf (hs.map (fun q => (q.1, q.2.1, q.2.2.1, if q.2.2.2 = 0 then 13 else 23))) → (∀ z ∈ pre, mm_pass c args s RL pc (mm_xn x) z) →
    (mm_hd pc x hs = none ∧ ∀ z ∈ c.exceptionTable.toList, mm_pass c args s RL pc (mm_xn x) z) ∨
    (∃ (hp : Nat) (pre2 : List ExceptionTableEntry) (y : ExceptionTableEntry) (suf : List ExceptionTableEntry), mm_hd pc x hs = some hp ∧ c.exceptionTable.toList = pre2 ++ y :: suf ∧ (∀ z ∈ pre2, mm_pass c args s RL pc (mm_xn x) z) ∧ covers y pc = true ∧ y.catchType ≠ 0 ∧ y.handlerPc = hp ∧ (Cond.classLink RL y.catchType (mm_xn x)).before args s = true)
  | [], pre, _, ht, hp => Or.inl ⟨rfl, fun z hz => by
      rw [ht, show tableOf (List.map (fun q : Nat × Nat × Nat × Nat => (q.1, q.2.1, q.2.2.1, if q.2.2.2 = 0 then 13 else 23)) []) = [] from rfl, List.append_nil] at hz
      exact hp z hz⟩
  | (a, b, h, y) :: r, pre, h01, ht, hp => by
    have hy : y = 0 ∨ y = 1 := h01 _ List.mem_cons_self
    have ht' : c.exceptionTable.toList = pre ++ (⟨a, b, h, if y = 0 then 13 else 23⟩ : ExceptionTableEntry) :: tableOf (r.map (fun q => (q.1, q.2.1, q.2.2.1, if q.2.2.2 = 0 then 13 else 23))) := ht
    have hlk : (Cond.classLink RL (if y = 0 then 13 else 23) (mm_xn y)).before args s = true := by
      rcases hy with rfl | rfl
      · exact C.2.2.2.2.1 _ mm_lawI rfl
      · exact C.2.2.2.2.1 _ mm_lawN rfl
    have hne : (if y = 0 then 13 else 23) ≠ 0 := by split <;> decide
    by_cases hc : a ≤ pc ∧ pc < b ∧ y = x
    · refine Or.inr ⟨h, pre, _, _, ?_, ht', hp, ?_, hne, rfl, ?_⟩
      · show (bif Nat.ble a pc && Nat.blt pc b && Nat.beq y x then some h else mm_hd pc x r) = some h
        rw [Nat.ble_eq_true_of_le hc.1, show Nat.blt pc b = true from Nat.ble_eq_true_of_le hc.2.1, show Nat.beq y x = true from by rw [hc.2.2]; exact Nat.beq_refl x]
        rfl
      · simp [hc.1, hc.2.1]
      · rw [← hc.2.2]; exact hlk
    · have hno : mm_hd pc x ((a, b, h, y) :: r) = mm_hd pc x r := by
        show (bif Nat.ble a pc && Nat.blt pc b && Nat.beq y x then some h else mm_hd pc x r) = _
        have hf : (Nat.ble a pc && Nat.blt pc b && Nat.beq y x) = false := by
          rw [Bool.eq_false_iff]
          intro hz
          simp only [Bool.and_eq_true] at hz
          exact hc ⟨Nat.le_of_ble_eq_true hz.1.1, Nat.le_of_ble_eq_true hz.1.2, Nat.eq_of_beq_eq_true hz.2⟩
        rw [hf]
        rfl
      rw [hno]
      refine s_hd C hx hk r (pre ++ [⟨a, b, h, if y = 0 then 13 else 23⟩]) (fun q hq => h01 q (List.mem_cons_of_mem _ hq)) (by rw [ht', List.append_assoc]; rfl) (fun z hz => ?_)
      rcases List.mem_append.mp hz with hz | hz
      · exact hp z hz
      · rw [List.mem_singleton.mp hz]
        by_cases hcv : a ≤ pc ∧ pc < b
        · refine Or.inr ⟨hne, mm_xn y, hlk, ?_⟩
          have hyx : ¬ y = x := fun z => hc ⟨hcv.1, hcv.2, z⟩
          have hNc := C.2.2.2.2.2.1.2.2.2.2.2.2
          rcases hx with rfl | rfl <;> rcases hy with rfl | rfl
          · exact absurd rfl hyx
          · exact hNc.1
          · exact hNc.2
          · exact absurd rfl hyx
        · refine Or.inl ?_
          simp only [covers, Bool.and_eq_false_iff, decide_eq_false_iff_not]
          by_cases h1 : a ≤ pc
          · exact Or.inr (fun h2 => hcv ⟨h1, h2⟩)
          · exact Or.inl h1
/-- a call of a static method with handlers runs -/
theorem s_runSW {H : Heap} {locs : List Loc} {cells slots d x idx k1 n1 n : Nat} {ls : Array Slot} {as : List mm_V} {As rest : List Value} {o : mm_O} {m1 : mm_M} (C : mm_Cx p s mid args meth c D ad cy A xs xn k) (hA : ∀ q, mm_Aw ad H.size q → A q) (hd : decode (mm_by k) pc = .ok (.invokestatic idx, 3)) (hlk : mm_mlW (mm_mt k).1 idx x n) (hcon : mm_ConW l D ad cy xs xn d x as m o m1 k1 n1)
    (hP : va_P D vwCl (mm_ws ad cy m) H) (hcv : mm_cv m) (hsv : mm_sv xs xn m) (hS : va_S A s.heap H locs) (hl : ls.size = (mm_mt k).2.2.2) (hs : mm_sr ad as As) (hn : as.length = n) (hrest : (rest.map fun v => v.category).sum ≤ 8) (hRf : d + 17 ≤ R.frames) (hRl : 64 * d + 464 ≤ R.locals) (hRc : cells + k1 ≤ R.cells) (hRs : slots + n1 ≤ R.slots) :
    vx_Run p l e R s mid args below meth c H locs cells slots k1 n1 (F0 mid pc ls (As.reverse ++ rest)) rest (mm_Qc D ad cy xs xn o m1 (mm_Aw ad H.size) As.toArray) (mm_XC D ad cy xs xn o m1 (mm_Aw ad H.size)) (mm_Aw ad H.size) := by
  obtain ⟨hlink, hini, ⟨hcode, hm40⟩, hst, hdd⟩ := hlk
  have hts := mm_tsG_ok C
  have hpre : PreS s H (mm_Pc D ad cy xs xn as m H.size) As := ⟨mm_blind D ad cy xs xn as m H.size, mm_pre (sz := H.size) C hA hP hcv hsv hS hs⟩
  have hlen : As.length = n := (mm_sr_len _ _ hs).trans hn
  have hgood : GoodIn mm_tsG (va_wsS (mm_rn (mm_mt k).1) idx (mm_yn x) (mm_wkW x)) := by
    intro w hw
    unfold va_wsS mm_wkW at hw
    have key : ∀ w, w ∈ lw_tbl → goodWord w = true → w ∈ mm_tsG ∧ ((w.onTables && w.keeps) = true ∨ ∃ ty, w = .arrayClass ty) := fun w h1 h2 => ⟨mm_tsG_in h1 h2, good_of_word h2⟩
    rcases List.mem_append.mp hw with hw | hw
    · rcases List.mem_cons.mp hw with rfl | hw
      · exact key _ hlink rfl
      · rcases List.mem_cons.mp hw with rfl | hw
        · exact key _ hst rfl
        · rw [List.mem_singleton.mp hw]
          exact key _ hini rfl
    · rcases List.mem_cons.mp hw with rfl | hw
      · exact key _ hcode rfl
      · exact ⟨hw, good_of_word (List.mem_filter.mp hw).2⟩
  exact vx_runSX (nL := (mm_mt k).2.2.2) (Ts := mm_tsG) ⟨C.1, C.2.1, C.2.2.1, C.2.2.2.1, hts⟩ (hcon H.size) (vx_cwSW (Ts := mm_tsG) n hts hgood rfl rfl rfl hdd ⟨mm_room0 hRf, mm_room1 hm40 hRl⟩) hpre rfl hlen hl rfl (lv_room hrest) hd ⟨hRc, hRs⟩
end MMTH
