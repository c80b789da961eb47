/-! what a step of the little machine means on the JVM -/
/-- words that must hold at every start, beside the good ones: links to nest mates -/
def mm_nw (w : Cond) : Bool := match w with
  | .fieldLinkNest _ _ _ _ _ _ => true
  | .methodLinkNest _ _ _ _ => true
  | .castable _ _ => true
  | .declares _ => true
  | _ => false
/-- a text of the heap, and what its methods read -/
def sj_W (a v n : Nat) (f : Nat → Int32) (A : Nat → Prop) (U : State) : Prop := va_O "java/lang/String" a A U U.heap ∧ va_OF "java/lang/String" "coder" "B" (.int 0) a A U U.heap ∧ va_OF "java/lang/String" "value" "[B" (.ref v) a A U U.heap ∧ va_T .byte v n (fun j => .int (f j)) A U U.heap ∧ va_Z "java/lang/String" "COMPACT_STRINGS" "Z" (.int 1) A U U.heap ∧ va_Zq "jdk/internal/util/Preconditions" "SIOOBE_FORMATTER" "Ljava/util/function/BiFunction;" A U U.heap
theorem sj_W.go {a v n : Nat} {f : Nat → Int32} {A B : Nat → Prop} {s : State} {H : Heap} (h : sj_W a v n f A s) (hk : ∀ q : Nat, q < s.heap.size → ¬ A q → H[q]? = s.heap[q]?) (hB : ∀ q, B q → A q) {U : State} (hU : U.heap = H) (hW : s.vm.Alike U.vm) : sj_W a v n f B U := by
  obtain ⟨h1, h2, h3, h4, h5, h6⟩ := h
  unfold sj_W
  rw [hU]
  exact ⟨((va_O.moved hW h1).kept hk).narrow hB, ((va_OF.moved hW h2).kept hk).narrow hB, ((va_OF.moved hW h3).kept hk).narrow hB, ((va_T.moved hW h4).kept hk).narrow hB, ((va_Z.moved hW h5).kept hk).narrow hB, ((va_Zq.moved hW h6).kept hk).narrow hB⟩
theorem sj_W.calling {a v n : Nat} {f : Nat → Int32} {A : Nat → Prop} {U : State} {g : JFrame} {mk : MethodId} {ar : Array Value} (h : sj_W a v n f A U) : sj_W a v n f A (U.calling g mk ar) :=
  h.go (H := U.heap) (fun _ _ _ => rfl) (fun _ h => h) rfl (Vm.Alike.refl U.vm)
def mm_ch (n j : Nat) : Int32 := Int32.ofNat ((mm_txt n).getD j ' ').toNat
def mm_St (ad : Nat → Nat → Nat) (A : Nat → Prop) (U : State) : Prop := ∃ adV : Nat → Nat, ∀ n, n < mm_ns → sj_W (ad mm_gS n) (adV n) (mm_txt n).length (mm_ch n) A U
/-- the world of a state, its memory apart -/
def mm_Wd (D : va_G) (ad : Nat → Nat → Nat) (cy : Nat → ClassId) (A : Nat → Prop) (U : State) : Prop :=
  va_K D vwCl (mm_tys cy) U ∧ (∀ w ∈ lw_tbl, mm_nw w = true → va_Nw w U) ∧
  (vx_Zq Bundle.tN "UNASSIGNED_STACK" Bundle.steD A U U.heap ∧ vx_Zq Bundle.tN "SUPPRESSED_SENTINEL" Bundle.listD A U U.heap) ∧
  (∀ (n c i : Nat) (tx : String), mm_tx[n]? = some (c, i, tx) → vk_R (mm_rn c) i tx (ad mm_gS n) U) ∧
  (∀ (c i : Nat) (tx : String), (c, i, tx) ∈ mm_xt → ∃ sa, vk_R (mm_rn c) i tx sa U) ∧ mm_St ad A U ∧ (va_Nc "java/lang/IllegalArgumentException" "java/util/NoSuchElementException" U ∧ va_Nc "java/util/NoSuchElementException" "java/lang/IllegalArgumentException" U)
section MMS
variable {p : Program} {l : Launch} {e : Env} {R : Room} {s : State} {mid : MethodId} {args : Array Value} {below : List Frame} {meth : Method} {c : Code} {Q : State → Prop} {D : va_G} {ad : Nat → Nat → Nat} {cy : Nat → ClassId} {A : Nat → Prop} {xs : Nat → Int32} {xn : Nat} {mc ms : Nat} {k : Nat} {kk nn : Nat} {pc : Nat} {L : List (Option mm_V)} {st : List mm_V} {m : mm_M}
def mm_Cx (p : Program) (s : State) (mid : MethodId) (args : Array Value) (meth : Method) (c : Code) (D : va_G) (ad : Nat → Nat → Nat) (cy : Nat → ClassId) (A : Nat → Prop) (xs : Nat → Int32) (xn k : Nat) : Prop :=
  p.tables.exec = Jvm.exec ∧ c.code = mm_by k ∧ c.maxLocals = (mm_mt k).2.2.2 ∧ s.vm.findClass (mm_rn (mm_mt k).1) = some mid.cls ∧ (∀ w ∈ lw_tbl, goodWord w = true → w.before args s = true) ∧
  mm_Wd D ad cy A s ∧ (∀ m, va_D A (mm_ws ad cy m)) ∧ meth.sig.returnType = mm_rt k ∧ meth.locks = false ∧ (∀ q, s.heap.size ≤ q → A q) ∧ (va_X (ad mm_gX 0) xn xs s s.heap ∧ ad mm_gX 0 < s.heap.size ∧ ¬ A (ad mm_gX 0))
/-- from here the machine comes to Q -/
def mm_G (p : Program) (l : Launch) (e : Env) (R : Room) (s : State) (mid : MethodId) (args : Array Value) (below : List Frame) (meth : Method) (c : Code) (Q : State → Prop) (D : va_G) (ad : Nat → Nat → Nat) (cy : Nat → ClassId) (A : Nat → Prop) (xs : Nat → Int32) (xn mc ms k kk nn pc : Nat) (L : List (Option mm_V)) (st : List mm_V) (m : mm_M) : Prop :=
  ∀ (H : Heap) (locs : List Loc) (cells slots : Nat) (ls : Array Slot) (stk : List Value), va_P D vwCl (mm_ws ad cy m) H → mm_cv m → mm_sv xs xn m → va_S A s.heap H locs → mm_lr ad ls (mm_mt k).2.2.2 L → mm_sr ad st stk → cells + kk ≤ mc → slots + nn ≤ ms → W p l e R s mid args below meth c H locs cells slots Q (F0 mid pc ls stk)
/-- what the locals hold, of one word, as a list -/
def mm_lf (ls : Array Slot) (j : Nat) : Option (Nat × Value) := match ls[j]? with
  | some (Slot.val w) => if w.category = 1 then some (j, w) else none
  | _ => none
def mm_lv (ls : Array Slot) : List (Nat × Value) := (List.range ls.size).filterMap (mm_lf ls)
theorem mm_lv_has {ls : Array Slot} {nL : Nat} (h : ls.size = nL) (hw : lv_wf ls) : lv_has ls nL (mm_lv ls) := by
  refine ⟨h, hw, ?_⟩
  intro q hq
  obtain ⟨j, -, hj⟩ := List.mem_filterMap.mp hq
  unfold mm_lf at hj
  split at hj
  · rename_i w hw9
    split at hj
    · cases hj
      exact hw9
    · cases hj
  · cases hj
theorem mm_lv_mem {ls : Array Slot} {j : Nat} {w : Value} (h : ls[j]? = some (.val w)) (hc : w.category = 1) : (j, w) ∈ mm_lv ls := by
  refine List.mem_filterMap.mpr ⟨j, List.mem_range.mpr (Array.getElem?_eq_some_iff.mp h).1, ?_⟩
  unfold mm_lf
  rw [h]
  exact if_pos hc
/-- a store into a local -/
theorem mm_lr_set {ls ls' : Array Slot} {nL j : Nat} {L : List (Option mm_V)} {v : mm_V} {w : Value} (h : mm_lr ad ls nL L) (hj : j < nL) (hv : mm_vr ad v w) (hn : mm_nl v) (hl : lv_has ls' nL ((j, w) :: (mm_lv ls).filter (fun q => !(q.1 == j) && !(q.1 + 1 == j && q.2.category == 2)))) : mm_lr ad ls' nL (L.set j (some v)) := by
  obtain ⟨h1, h2, h3, h5⟩ := h
  refine ⟨hl.1, hl.2.1, by rw [List.length_set]; exact h3, ?_⟩
  intro i u hu
  by_cases hij : i = j
  · subst hij
    rw [List.getElem?_set_self (by omega)] at hu
    cases hu
    exact ⟨hn, w, hl.2.2 (i, w) List.mem_cons_self, hv⟩
  · rw [List.getElem?_set_ne (Ne.symm hij)] at hu
    obtain ⟨a1, z, a2, a3⟩ := h5 i u hu
    have hcz : z.category = 1 := mm_cat a3 a1
    refine ⟨a1, z, hl.2.2 (i, z) (List.mem_cons_of_mem _ (List.mem_filter.mpr ⟨mm_lv_mem a2 hcz, ?_⟩)), a3⟩
    simp [hij, hcz]
theorem mm_ld_some {k : Nat} {v : mm_V} (h : mm_ld L k = some v) : L[k]? = some (some v) := by
  unfold mm_ld at h
  split at h
  · rename_i w hw
    cases h
    exact hw
  · cases h
theorem s_iload {len : Nat} {j : Nat} {a : Int32} (C : mm_Cx p s mid args meth c D ad cy A xs xn k) (hd : decode (mm_by k) pc = .ok (.iload j, 2)) (hL : mm_ld L j = some (.inl a)) (hG : mm_G p l e R s mid args below meth c Q D ad cy A xs xn mc ms k kk nn (pc + 2) L (.inl a :: st) m) : mm_G p l e R s mid args below meth c Q D ad cy A xs xn mc ms k kk nn pc L st m := by
  intro H locs cells slots ls stk hP hcv hsv hS hl hs hc1 hc2
  obtain ⟨-, w, hw, rfl⟩ := hl.2.2.2 j _ (mm_ld_some hL)
  exact lv_iload C.1 C.2.1 hd hw (hG H locs cells slots ls _ hP hcv hsv hS hl ⟨rfl, hs⟩ hc1 hc2)
theorem s_istore {j : Nat} {a : Int32} (C : mm_Cx p s mid args meth c D ad cy A xs xn k) (hd : decode (mm_by k) pc = .ok (.istore j, 2)) (hj : j < L.length) (hG : mm_G p l e R s mid args below meth c Q D ad cy A xs xn mc ms k kk nn (pc + 2) (L.set j (some (.inl a))) st m) : mm_G p l e R s mid args below meth c Q D ad cy A xs xn mc ms k kk nn pc L (.inl a :: st) m := by
  intro H locs cells slots ls stk hP hcv hsv hS hl hs hc1 hc2
  cases stk with
  | nil => exact hs.elim
  | cons w stk =>
    obtain ⟨rfl, hs⟩ := hs
    refine lv_istore C.1 C.2.1 hd (mm_lv_has hl.1 hl.2.1) (by rw [← hl.2.2.1]; exact hj) rfl (fun ls' hl' => ?_)
    exact hG H locs cells slots ls' stk hP hcv hsv hS (mm_lr_set hl (by rw [← hl.2.2.1]; exact hj) rfl trivial hl') hs hc1 hc2
theorem s_iadd {a b : Int32} (C : mm_Cx p s mid args meth c D ad cy A xs xn k) (hd : decode (mm_by k) pc = .ok (.iadd, 1)) (hG : mm_G p l e R s mid args below meth c Q D ad cy A xs xn mc ms k kk nn (pc + 1) L (.inl (a + b) :: st) m) : mm_G p l e R s mid args below meth c Q D ad cy A xs xn mc ms k kk nn pc L (.inl b :: .inl a :: st) m := by
  intro H locs cells slots ls stk hP hcv hsv hS hl hs hc1 hc2
  match stk, hs with
  | _ :: _ :: stk, ⟨rfl, rfl, hs⟩ => exact lv_iadd C.1 C.2.1 hd (hG H locs cells slots ls _ hP hcv hsv hS hl ⟨rfl, hs⟩ hc1 hc2)
end MMS
