/-! the constructors' steps on the JVM -/
/-- arrays of references: their classes are known -/
def cc_Ao (U : State) : Prop := va_AO "GlassThreads$Strand" U ∧ va_AO "GlassThreads$Sheet" U ∧ va_AO "java/lang/String" U ∧ va_AOA .int U
theorem cc_AOA_moved {u U : State} (hvm : u.vm.Alike U.vm) (h : va_AOA .int u) : va_AOA .int U := by
  intro args
  have h0 := h args
  simp only [Cond.before, Cond.holds, Cond.value, beq_iff_eq] at h0
  cases hc : u.vm.findClass (FieldType.array .int).toString with
  | none => simp [hc] at h0
  | some comp =>
    simp only [hc, Option.bind_some, Option.bind_eq_some_iff, Option.map_eq_some_iff] at h0
    obtain ⟨c, hi, k, hk, hb⟩ := h0
    obtain ⟨k', hk', he⟩ := hvm.2.2 _ _ hk
    have hbare : U.vm.bare = u.vm.bare := by first | exact hvm.bare_eq | exact hvm.bare_eq.symm
    have hi' := (va_idx_bare U.vm comp).symm.trans ((by rw [hbare] : _ = _).trans ((va_idx_bare u.vm comp).trans hi))
    have f1 : U.vm.findClass (FieldType.array .int).toString = some comp := by rw [hvm.findClass]; exact hc
    have hkk : k'.kind = k.kind := by rw [he]
    unfold Cond.before Cond.holds
    simp only [Cond.value]
    rw [f1, Option.bind_some]
    refine (congrArg (fun o : Option Nat => (o.bind (fun c => (U.vm.classes[c]?).map fun (k : Class) => match k.kind with | .array _ ty => decide (ty = FieldType.array .int) && decide (U.vm.findClass ("[" ++ (FieldType.array .int).toString) = some c) | _ => false) == some true)) hi').trans ?_
    cases hkind : k.kind with
    | array component ty =>
      rw [hkind] at hb
      simp at hb
      have f2 : U.vm.findClass ("[" ++ (FieldType.array .int).toString) = some c := by rw [hvm.findClass]; exact hb.2
      simp [hk', hkk, hkind, f2, hb.1]
    | _ => rw [hkind] at hb; simp at hb
theorem cc_Ao.moved {u U : State} (hvm : u.vm.Alike U.vm) (h : cc_Ao u) : cc_Ao U := ⟨va_AO.moved hvm h.1, va_AO.moved hvm h.2.1, va_AO.moved hvm h.2.2.1, cc_AOA_moved hvm h.2.2.2⟩
def cc_B (D : va_G) (tx : Nat → Nat) (cy : Nat → ClassId) (z0 : Nat) (ad0 : Nat → Nat) (n0 : Nat) (hp : cc_H) (ad : Nat → Nat) (H : Heap) : Prop := (∀ i, i < n0 → ad i = ad0 i) ∧ n0 ≤ hp.length ∧ cc_wf hp ∧ va_P D vwCl (cc_ws ad tx cy hp) H ∧ va_D (fun q => z0 ≤ q) (cc_ws ad tx cy hp)
def cc_Cx (p : Program) (s : State) (mid : MethodId) (args : Array Value) (meth : Method) (c : Code) (D : va_G) (tx : Nat → Nat) (cy : Nat → ClassId) (z0 k : Nat) : Prop :=
  p.tables.exec = Jvm.exec ∧ c.code = cc_by k ∧ c.maxLocals = cc_ml k ∧ s.vm.findClass (cc_rn k) = some mid.cls ∧ (∀ w ∈ lw_tbl, goodWord w = true → w.before args s = true) ∧ mm_Wd D (fun _ n => tx n) cy (fun q => z0 ≤ q) s ∧ meth.sig.returnType = none ∧ meth.locks = false ∧ z0 ≤ s.heap.size ∧ (k < 13 → meth.name = "<init>") ∧ cc_Ao s
def cc_G (p : Program) (l : Launch) (e : Env) (R : Room) (s : State) (mid : MethodId) (args : Array Value) (below : List Frame) (meth : Method) (c : Code) (Q : State → Prop) (D : va_G) (tx : Nat → Nat) (cy : Nat → ClassId) (z0 : Nat) (ad0 : Nat → Nat) (n0 mc ms k kk nn pc : Nat) (L : List (Option cc_V)) (st : List cc_V) (hp : cc_H) : Prop :=
  ∀ (ad : Nat → Nat) (H : Heap) (locs : List Loc) (cells slots : Nat) (ls : Array Slot) (stk : List Value), cc_B D tx cy z0 ad0 n0 hp ad H → va_S (fun q => z0 ≤ q) s.heap H locs → cc_lr ad tx hp.length ls (cc_ml k) L → cc_sr ad tx hp.length st stk → cells + kk ≤ mc → slots + nn ≤ ms → W p l e R s mid args below meth c H locs cells slots Q (F0 mid pc ls stk)
def cc_okt (x y : Nat) : Bool := match vwCl[x]? with
  | some q => (match parseFieldDescriptor (q.2.1 y).2.2.1, (cc_df x)[y]? with
    | some .int, some (.inl _) => true
    | some (.object _), some (.inr _) => true
    | some (.array _), some (.inr _) => true
    | _, _ => false)
  | none => false
def cc_okI (k pc : Nat) (i : Instr) (len : Nat) (v : Int32) (x y : Nat) : Bool := match i with
  | .iinc _ n => Nat.beq len 3 && decide (Int32.ofInt n = v)
  | .iconst n => Nat.beq len 1 && decide (Int32.ofInt n = v)
  | .bipush n => Nat.beq len 2 && decide ((Int8.ofInt n).toInt32 = v)
  | .sipush n => Nat.beq len 3 && decide ((Int16.ofInt n).toInt32 = v)
  | .ldc n => Nat.beq len 2 && ((match mm_tx[y]? with
    | some t => Nat.beq t.1 k && Nat.beq t.2.1 n
    | none => false) && (Nat.blt y mm_ns && Nat.blt k 13))
  | .new idx => Nat.beq len 3 && (Nat.blt x 13 && (cc_CLs k).any (fun q => Nat.beq q.1 idx && Nat.beq q.2 x))
  | .newarray t => Nat.beq len 2 && (match t, x with
    | .int, 0 => true
    | .byte, 1 => true
    | .boolean, 2 => true
    | _, _ => false)
  | .anewarray idx => Nat.beq len 3 && ((Nat.beq x 4 || (Nat.beq x 5 || Nat.beq x 6)) && (cc_CLs k).any (fun q => Nat.beq q.1 idx && Nat.beq q.2 (100 + x)))
  | .multianewarray idx d => Nat.beq len 4 && (Nat.beq d 2 && (cc_CLs k).any (fun q => Nat.beq q.1 idx && Nat.beq q.2 107))
  | .putfield idx => Nat.beq len 3 && ((Nat.blt x 13 && (Nat.beq x k && cc_okt x y)) && (cc_FLs k).any (fun q => Nat.beq q.1 idx && (Nat.beq q.2.1 x && Nat.beq q.2.2 y)))
  | .getfield idx => Nat.beq len 3 && (Nat.blt x 13 && (cc_FLs k).any (fun q => Nat.beq q.1 idx && (Nat.beq q.2.1 x && Nat.beq q.2.2 y)))
  | .goto off => Nat.beq len 3 && decide ((pc : Int) + off = (x : Int))
  | .if_icmp _ off => Nat.beq len 3 && decide ((pc : Int) + off = (x : Int))
  | .invokespecial idx => Nat.beq len 3 && (cc_MLs k).any (fun q => Nat.beq q.1 idx && Nat.beq q.2 x)
  | .invokestatic idx => Nat.beq len 3 && (cc_MLs k).any (fun q => Nat.beq q.1 idx && Nat.beq q.2 x)
  | _ => Nat.beq len 1
def cc_okP (k pc : Nat) : Bool := match cc_cd k pc with
  | some (i, len, v, x, y) => decide (decode (cc_by k) pc = .ok (i, len)) && cc_okI k pc i len v x y
  | none => true
theorem cc_rnm : (List.range 13).all (fun k => decide (cc_rn k = mm_rn k)) = true := by decide +kernel
theorem cc_cls : (List.range 13).all (fun x => match vwCl[x]? with
  | some (C, T, N) => decide (C = cc_rn x) && (decide (N = (cc_df x).length) && (List.range N).all (fun j => match parseFieldDescriptor (T j).2.2.1, (cc_df x)[j]? with
    | some .int, some (.inl 0) => true
    | some .boolean, some (.inl 0) => true
    | some (.object _), some (.inr none) => true
    | some (.array _), some (.inr none) => true
    | _, _ => false))
  | none => false) = true := by decide +kernel
theorem cc_cls_in {x : Nat} (hx : x < 13) : ∃ (C : String) (T : u_T) (N : Nat) (ty0 : Nat → FieldType), vwCl[x]? = some (C, T, N) ∧ C = cc_rn x ∧ N = (cc_df x).length ∧ (∀ j, j < N → parseFieldDescriptor (T j).2.2.1 = some (ty0 j)) ∧ (∀ a, a < N → ∀ b, b < N → a ≠ b → (T a).2.1 ≠ (T b).2.1) ∧ (∀ w ∈ u_ws C T N, w ∈ mm_tsG) ∧ ∀ ad tx j, j < N → defaultValue (ty0 j) = vp_V ((cc_df x).map (cc_v ad tx)) j := by
  obtain ⟨C, T, N, ty0, h1, h2, h3, h4⟩ := mm_cfok x hx
  have h5 := List.all_eq_true.mp cc_cls x (List.mem_range.mpr hx)
  rw [h1] at h5
  have h5 := (Bool.and_eq_true _ _).mp h5
  have h6 := (Bool.and_eq_true _ _).mp h5.2
  refine ⟨C, T, N, ty0, h1, of_decide_eq_true h5.1, of_decide_eq_true h6.1, h2, h3, h4, fun ad tx j hj => ?_⟩
  have h7 := List.all_eq_true.mp h6.2 j (List.mem_range.mpr hj)
  rw [h2 j hj] at h7
  unfold vp_V
  rw [List.getD_eq_getElem?_getD, List.getElem?_map]
  split at h7
  · rename_i e1 e2; have e1 := Option.some.inj e1; rw [e2, e1]; rfl
  · rename_i e1 e2; have e1 := Option.some.inj e1; rw [e2, e1]; rfl
  · rename_i e1 e2; have e1 := Option.some.inj e1; rw [e2, e1]; rfl
  · rename_i e1 e2; have e1 := Option.some.inj e1; rw [e2, e1]; rfl
  · cases h7
theorem cc_ty_cy (cy : Nat → ClassId) : mm_tys cy = [(cy 0, .int), (cy 1, .byte), (cy 2, .boolean), (cy 3, .long), (cy 4, .object "GlassThreads$Strand"), (cy 5, .object "GlassThreads$Sheet"), (cy 6, .object "java/lang/String"), (cy 7, .array .int)] := rfl
/-- two classes of one array type are one -/
theorem cc_same {D : va_G} {tys : List (ClassId × FieldType)} {s : State} {i : Nat} {a b : ClassId} {t : FieldType} (h : va_K D vwCl (tys ++ [(b, t)]) s) (hi : tys[i]? = some (a, t)) : b = a := by
  have h1 := (h.2 i (a, t) (by rw [List.getElem?_append_left (List.getElem?_eq_some_iff.mp hi).1]; exact hi)).2
  have h2 := (h.2 tys.length (b, t) (by rw [List.getElem?_append_right (Nat.le_refl _), Nat.sub_self]; rfl)).2
  have f : ∀ z, va_RA s z t → s.vm.findClass ("[" ++ t.toString) = some z := fun z hz => by
    unfold va_RA at hz
    cases t with
    | object C => obtain ⟨-, -, -, -, -, h⟩ := hz; exact h
    | _ => exact hz
  exact Option.some.inj ((f b h2).symm.trans (f a h1))
/-- a new cell's address beside the old ones -/
def cc_up (ad : Nat → Nat) (n q : Nat) : Nat → Nat := fun i => if i = n then q else ad i
theorem cc_up_lt {ad : Nat → Nat} {n q : Nat} : ∀ i, i < n → cc_up ad n q i = ad i := fun i hi => if_neg (Nat.ne_of_lt hi)
theorem cc_up_self {ad : Nat → Nat} {n q : Nat} : cc_up ad n q n = q := if_pos rfl
theorem cc_B.lenP {D : va_G} {tx : Nat → Nat} {cy : Nat → ClassId} {z0 n0 : Nat} {ad0 ad : Nat → Nat} {hp : cc_H} {H : Heap} (h : cc_B D tx cy z0 ad0 n0 hp ad H) : n0 ≤ hp.length := h.2.1
/-- one new cell -/
theorem cc_B.push {D : va_G} {tx : Nat → Nat} {cy : Nat → ClassId} {z0 n0 q : Nat} {ad0 ad : Nat → Nat} {hp : cc_H} {H H1 : Heap} {e : cc_E} {ve : va_E} (h : cc_B D tx cy z0 ad0 n0 hp ad H) (he : cc_eb (hp.length + 1) e = true) (hv : cc_e (cc_up ad hp.length q) tx cy e = ve) (hP : va_P D vwCl (cc_ws ad tx cy hp ++ [(q, ve)]) H1) (hD : va_D (fun q => z0 ≤ q) (cc_ws ad tx cy hp ++ [(q, ve)])) : cc_B D tx cy z0 ad0 n0 (hp ++ [e]) (cc_up ad hp.length q) H1 := by
  obtain ⟨h1, h2, h3, -, -⟩ := h
  have hws : cc_ws (cc_up ad hp.length q) tx cy (hp ++ [e]) = cc_ws ad tx cy hp ++ [(q, ve)] := by
    rw [cc_ws_app h3 cc_up_lt]
    show cc_ws ad tx cy hp ++ [(cc_up ad hp.length q (hp.length + 0), cc_e (cc_up ad hp.length q) tx cy e)] = _
    rw [Nat.add_zero, cc_up_self, hv]
  refine ⟨fun i hi => ?_, by rw [List.length_append]; omega, cc_wf_app h3 (fun z hz => ?_), by rw [hws]; exact hP, by rw [hws]; exact hD⟩
  · rw [cc_up_lt i (by omega)]
    exact h1 i hi
  · rw [List.mem_singleton.mp hz, List.length_append]
    exact he
/-- a cell anew -/
theorem cc_B.put {D : va_G} {tx : Nat → Nat} {cy : Nat → ClassId} {z0 n0 i : Nat} {ad0 ad : Nat → Nat} {hp : cc_H} {H H1 : Heap} {e0 e : cc_E} (h : cc_B D tx cy z0 ad0 n0 hp ad H) (hi : hp[i]? = some e0) (he : cc_eb hp.length e = true) (hP : va_P D vwCl ((cc_ws ad tx cy hp).set i (ad i, cc_e ad tx cy e)) H1) (hD : va_D (fun q => z0 ≤ q) ((cc_ws ad tx cy hp).set i (ad i, cc_e ad tx cy e))) : cc_B D tx cy z0 ad0 n0 (hp.set i e) ad H1 := by
  obtain ⟨h1, h2, h3, -, -⟩ := h
  rw [cc_ws_set hi] at hP hD
  exact ⟨h1, by rw [List.length_set]; exact h2, cc_wf_set h3 he, hP, hD⟩
theorem cc_e_obj (ad tx : Nat → Nat) (cy : Nat → ClassId) (c : Nat) (fs : List cc_V) : cc_e ad tx cy (.inl (c, fs)) = .inr (c, fs.map (cc_v ad tx)) := rfl
theorem cc_e_int {ad tx : Nat → Nat} {cy : Nat → ClassId} {k n : Nat} {f : List (Nat × Int32)} (hk : ¬ k = 3) : cc_e ad tx cy (.inr (k, n, .inl f)) = .inl (cy k, n, .inl (cc_fn f)) := by
  unfold cc_e
  split
  · rename_i z; cases z
  · rename_i z; cases z; exact absurd rfl hk
  · rename_i z; cases z; rfl
  · rename_i z; cases z
theorem cc_e_ref {ad tx : Nat → Nat} {cy : Nat → ClassId} {k n : Nat} {l : List (Option (Nat ⊕ Nat))} : cc_e ad tx cy (.inr (k, n, .inr l)) = .inl (cy k, n, .inr (.inr (.inr (.inr (fun j => (l.getD j none).map (cc_a ad tx)))))) := by
  unfold cc_e
  split
  · rename_i z; cases z
  · rename_i z; cases z
  · rename_i z; cases z
  · rename_i z; cases z; rfl
theorem cc_in {j : Int32} {n : Nat} (h : 0 ≤ j ∧ j.toNatClampNeg < n) : vp_in j n := mm_inp h
theorem cc_any {k idx x : Nat} (h : (cc_CLs k).any (fun q => Nat.beq q.1 idx && Nat.beq q.2 x) = true) : Cond.classLink (cc_rn k) idx (cc_cn x) ∈ lw_tbl := by
  obtain ⟨q, h1, h2⟩ := List.any_eq_true.mp h
  have h2 := (Bool.and_eq_true _ _).mp h2
  have h3 := cc_CLok _ q h1
  rw [Nat.eq_of_beq_eq_true h2.1, Nat.eq_of_beq_eq_true h2.2] at h3
  exact h3
theorem cc_anyf {k idx x y : Nat} (h : (cc_FLs k).any (fun q => Nat.beq q.1 idx && (Nat.beq q.2.1 x && Nat.beq q.2.2 y)) = true) : cc_flk k idx x y := by
  obtain ⟨q, h1, h2⟩ := List.any_eq_true.mp h
  have h2 := (Bool.and_eq_true _ _).mp h2
  have h4 := (Bool.and_eq_true _ _).mp h2.2
  have h3 := cc_FLok _ q h1
  rw [Nat.eq_of_beq_eq_true h2.1, Nat.eq_of_beq_eq_true h4.1, Nat.eq_of_beq_eq_true h4.2] at h3
  exact h3
theorem cc_anym {k idx x : Nat} (h : (cc_MLs k).any (fun q => Nat.beq q.1 idx && Nat.beq q.2 x) = true) : cc_mlk k idx x := by
  obtain ⟨q, h1, h2⟩ := List.any_eq_true.mp h
  have h2 := (Bool.and_eq_true _ _).mp h2
  have h3 := cc_MLok _ q h1
  rw [Nat.eq_of_beq_eq_true h2.1, Nat.eq_of_beq_eq_true h2.2] at h3
  exact h3
section CCS
variable {p : Program} {l : Launch} {e : Env} {R : Room} {s : State} {mid : MethodId} {args : Array Value} {below : List Frame} {meth : Method} {c : Code} {Q : State → Prop} {D : va_G} {tx : Nat → Nat} {cy : Nat → ClassId} {z0 : Nat} {ad0 : Nat → Nat} {n0 mc ms k kk nn pc : Nat} {L : List (Option cc_V)} {st : List cc_V} {hp : cc_H}
theorem cc_ts (C : cc_Cx p s mid args meth c D tx cy z0 k) : ∀ w ∈ mm_tsG, w.before args s = true := fun w hw => C.2.2.2.2.1 w (List.mem_filter.mp hw).1 (List.mem_filter.mp hw).2
theorem c_new {idx x : Nat} (C : cc_Cx p s mid args meth c D tx cy z0 k) (hR : mc ≤ R.cells ∧ ms ≤ R.slots) (hd : decode (cc_by k) pc = .ok (.new idx, 3)) (hx : x < 13) (hl : Cond.classLink (cc_rn k) idx (cc_rn x) ∈ lw_tbl) (hG : cc_G p l e R s mid args below meth c Q D tx cy z0 ad0 n0 mc ms k kk nn (pc + 3) L (.inr (some (.inl hp.length)) :: st) (hp ++ [.inl (x, cc_df x)])) : cc_G p l e R s mid args below meth c Q D tx cy z0 ad0 n0 mc ms k (1 + kk) ((cc_df x).length + nn) pc L st hp := by
  intro ad H locs cells slots ls stk hB hS hls hs hc1 hc2
  obtain ⟨C9, T, N, ty0, h1, h2, h3, h4, h5, h6, h7⟩ := cc_cls_in hx
  have hk := cc_kok x hx
  refine va_new C.1 C.2.1 (cc_ts C) h6 ty0 h4 C.2.2.2.1 (C.2.2.2.2.1 _ (by rw [h2]; exact hl) rfl) (C.2.2.2.2.1 _ (by rw [h2, h3]; exact hk.2.2.2.1) rfl) (C.2.2.2.2.1 _ (by rw [h2]; exact hk.1) rfl) C.2.2.2.2.2.1.1 hB.2.2.2.1 hB.2.2.2.2 hS (fun q hq => Nat.le_trans C.2.2.2.2.2.2.2.2.1 hq) h1 (h7 ad tx) (by omega) (by omega) hd (fun q H1 hP hD hS1 => ?_)
  have hdf : ∀ z : Nat → Nat, (cc_df x).map (cc_v z tx) = (cc_df x).map (cc_v ad tx) := fun z => by
    refine List.map_congr_left (fun v hv => ?_)
    have h9 := List.all_eq_true.mp cc_cls x (List.mem_range.mpr hx)
    rw [h1] at h9
    have h9 := (Bool.and_eq_true _ _).mp ((Bool.and_eq_true _ _).mp h9).2
    obtain ⟨j, hj⟩ := List.getElem?_of_mem hv
    have hjl := (List.getElem?_eq_some_iff.mp hj).1
    have h10 := List.all_eq_true.mp h9.2 j (List.mem_range.mpr (by rw [h3]; exact hjl))
    rw [hj] at h10
    rcases v with v | _ | v
    · rfl
    · rfl
    · split at h10
      · rename_i e1 e2; cases e2
      · rename_i e1 e2; cases e2
      · rename_i e1 e2; cases e2
      · rename_i e1 e2; cases e2
      · cases h10
  have heb : cc_eb (hp.length + 1) (.inl (x, cc_df x)) = true := by
    refine List.all_eq_true.mpr (fun v hv => ?_)
    have h9 := List.all_eq_true.mp cc_cls x (List.mem_range.mpr hx)
    rw [h1] at h9
    have h9 := (Bool.and_eq_true _ _).mp ((Bool.and_eq_true _ _).mp h9).2
    obtain ⟨j, hj⟩ := List.getElem?_of_mem hv
    have hjl := (List.getElem?_eq_some_iff.mp hj).1
    have h10 := List.all_eq_true.mp h9.2 j (List.mem_range.mpr (by rw [h3]; exact hjl))
    rw [hj] at h10
    rcases v with v | _ | v
    · rfl
    · rfl
    · split at h10
      · rename_i e1 e2; cases e2
      · rename_i e1 e2; cases e2
      · rename_i e1 e2; cases e2
      · rename_i e1 e2; cases e2
      · cases h10
  have hB1 := hB.push heb (by rw [cc_e_obj, hdf]) hP hD
  have hln : (hp ++ [(.inl (x, cc_df x) : cc_E)]).length = hp.length + 1 := by rw [List.length_append]; rfl
  refine hG _ H1 locs (cells + 1) (slots + N) ls _ hB1 hS1 ?_ ⟨⟨?_, ?_⟩, ?_⟩ (by omega) (by omega)
  · rw [hln]; exact hls.mono (by omega) cc_up_lt
  · rw [hln]; exact Nat.ble_eq_true_of_le (Nat.le_refl _)
  · show Value.ref q = Value.ref (cc_up ad hp.length q hp.length)
    rw [cc_up_self]
  · rw [hln]; exact cc_sr.mono (by omega) cc_up_lt _ _ hs
theorem c_newa {t : ArrayType} {x N : Nat} {n : Int32} {ft : FieldType} (C : cc_Cx p s mid args meth c D tx cy z0 k) (hR : mc ≤ R.cells ∧ ms ≤ R.slots) (hd : decode (cc_by k) pc = .ok (.newarray t, 2)) (hft : newarray.typeOf t = ft) (ht : (mm_tys cy)[x]? = some (cy x, ft)) (h3 : ¬ x = 3) (hac : Cond.arrayClass ft ∈ lw_tbl) (hcell : ∀ (cA : ClassId) (N : Nat), vp_cell cA (N, .inl (fun _ => 0)) = arrV cA N (fun _ => defaultValue ft)) (hcb : componentBytes ft ≤ 8) (h0 : 0 ≤ n) (hN : n.toNatClampNeg = N) (hNb : N ≤ 10000) (hG : cc_G p l e R s mid args below meth c Q D tx cy z0 ad0 n0 mc ms k kk nn (pc + 2) L (.inr (some (.inl hp.length)) :: st) (hp ++ [.inr (x, N, .inl [])])) : cc_G p l e R s mid args below meth c Q D tx cy z0 ad0 n0 mc ms k (1 + kk) (N + nn) pc L (.inl n :: st) hp := by
  intro ad H locs cells slots ls stk hB hS hls hs hc1 hc2
  match stk, hs with
  | _ :: stk, ⟨⟨_, rfl⟩, hs⟩ =>
    have hbytes : N * componentBytes ft ≤ 536870912 := Nat.le_trans (Nat.mul_le_mul hNb hcb) (Nat.le_of_ble_eq_true rfl)
    refine va_newa C.1 C.2.1 (by rw [hft]; exact C.2.2.2.2.1 _ hac rfl) hft C.2.2.2.2.2.1.1 hB.2.2.2.1 hB.2.2.2.2 hS (fun q hq => Nat.le_trans C.2.2.2.2.2.2.2.2.1 hq) (a0 := (N, .inl (fun _ => 0))) (fun cA => hcell cA N) (Int32.not_lt.mpr h0) hN hbytes (by omega) (by omega) hd (fun q cA H1 hK1 hP hD hS1 => ?_)
    have e := cc_same hK1 ht
    subst e
    have hB1 := hB.push (e := .inr (x, N, .inl [])) rfl (by rw [cc_e_int h3]; rfl) hP hD
    have hln : (hp ++ [(.inr (x, N, .inl []) : cc_E)]).length = hp.length + 1 := by rw [List.length_append]; rfl
    refine hG _ H1 locs (cells + 1) (slots + N) ls _ hB1 hS1 ?_ ⟨⟨?_, ?_⟩, ?_⟩ (by omega) (by omega)
    · rw [hln]; exact hls.mono (by omega) cc_up_lt
    · rw [hln]; exact Nat.ble_eq_true_of_le (Nat.le_refl _)
    · show Value.ref q = Value.ref (cc_up ad hp.length q hp.length)
      rw [cc_up_self]
    · rw [hln]; exact cc_sr.mono (by omega) cc_up_lt _ _ hs
end CCS
