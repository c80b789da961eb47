/-! the constructors' little machine: its steps, its memory as cells of the heap -/
abbrev cc_A : Type := (cc_S × Nat × Nat) ⊕ ((Nat × List cc_V × cc_S) ⊕ Unit)
def cc_k (pc : Nat) (L : List (Option cc_V)) (st : List cc_V) (hp : cc_H) : Option cc_A := some (.inl ((pc, L, st, hp), 0, 0))
def cc_sto (hp : cc_H) (k : Nat) (r : Nat ⊕ Nat) : Bool := match k, r with
  | 4, .inl q => (match hp[q]? with
    | some (.inl (8, _)) => true
    | _ => false)
  | 5, .inl q => (match hp[q]? with
    | some (.inl (7, _)) => true
    | _ => false)
  | 6, .inr _ => true
  | _, _ => false
/-- a value of a field's kind -/
def cc_tyb (x y : Nat) (a : cc_V) : Bool := match (cc_df x)[y]?, a with
  | some (.inl _), .inl _ => true
  | some (.inr _), .inr _ => true
  | _, _ => false
def cc_push (pc : Nat) (L : List (Option cc_V)) (st : List cc_V) (hp : cc_H) (es : cc_H) (a b : Nat) : Option cc_A := some (.inl ((pc, L, .inr (some (.inl hp.length)) :: st, hp ++ es), a, b))
def cc_act (i : Instr) (len : Nat) (v : Int32) (x y : Nat) (pc : Nat) (L : List (Option cc_V)) (st : List cc_V) (hp : cc_H) : Option cc_A := match i with
  | .aload_n k => (match L[k.val]? with
    | some (some (.inr r)) => cc_k (pc + len) L (.inr r :: st) hp
    | _ => none)
  | .iload_n k => (match L[k.val]? with
    | some (some (.inl a)) => cc_k (pc + len) L (.inl a :: st) hp
    | _ => none)
  | .istore_n k => (match st with
    | .inl a :: st => bif Nat.blt k.val L.length then cc_k (pc + len) (L.set k.val (some (.inl a))) st hp else none
    | _ => none)
  | .iinc k _ => (match L[k]? with
    | some (some (.inl a)) => cc_k (pc + len) (L.set k (some (.inl (a + v)))) st hp
    | _ => none)
  | .iconst _ => cc_k (pc + len) L (.inl v :: st) hp
  | .bipush _ => cc_k (pc + len) L (.inl v :: st) hp
  | .sipush _ => cc_k (pc + len) L (.inl v :: st) hp
  | .ldc _ => cc_k (pc + len) L (.inr (some (.inr y)) :: st) hp
  | .aconst_null => cc_k (pc + len) L (.inr none :: st) hp
  | .dup => (match st with
    | a :: st => cc_k (pc + len) L (a :: a :: st) hp
    | _ => none)
  | .new _ => cc_push (pc + len) L st hp [.inl (x, cc_df x)] 1 (cc_df x).length
  | .newarray _ => (match st with
    | .inl n :: st => if 0 ≤ n ∧ n.toNatClampNeg ≤ 10000 then cc_push (pc + len) L st hp [.inr (x, n.toNatClampNeg, .inl [])] 1 n.toNatClampNeg else none
    | _ => none)
  | .anewarray _ => (match st with
    | .inl n :: st => if 0 ≤ n ∧ n.toNatClampNeg ≤ 10000 then cc_push (pc + len) L st hp [.inr (x, n.toNatClampNeg, .inr (List.replicate n.toNatClampNeg none))] 1 n.toNatClampNeg else none
    | _ => none)
  | .multianewarray _ _ => (match st with
    | .inl k :: .inl n :: st => if (0 ≤ n ∧ n.toNatClampNeg ≤ 100) ∧ (0 ≤ k ∧ k.toNatClampNeg ≤ 100) then cc_push (pc + len) L st hp (.inr (7, n.toNatClampNeg, .inr ((List.range n.toNatClampNeg).map (fun i => some (.inl (hp.length + 1 + i))))) :: List.replicate n.toNatClampNeg (.inr (0, k.toNatClampNeg, .inl []))) (1 + n.toNatClampNeg) (n.toNatClampNeg + n.toNatClampNeg * k.toNatClampNeg) else none
    | _ => none)
  | .putfield _ => (match st with
    | a :: .inr (some (.inl i)) :: st => (match hp[i]? with
      | some (.inl (c, fs)) => bif Nat.beq c x && (Nat.blt y fs.length && cc_tyb x y a) then cc_k (pc + len) L st (hp.set i (.inl (c, fs.set y a))) else none
      | _ => none)
    | _ => none)
  | .getfield _ => (match st with
    | .inr (some (.inl i)) :: st => (match hp[i]? with
      | some (.inl (c, fs)) => bif Nat.beq c x then (match fs[y]? with
        | some u => cc_k (pc + len) L (u :: st) hp
        | none => none) else none
      | _ => none)
    | _ => none)
  | .aastore => (match st with
    | .inr (some r) :: .inl j :: .inr (some (.inl i)) :: st => (match hp[i]? with
      | some (.inr (k, n, .inr l)) => if 0 ≤ j ∧ j.toNatClampNeg < n then (bif cc_sto hp k r && Nat.beq l.length n then cc_k (pc + len) L st (hp.set i (.inr (k, n, .inr (l.set j.toNatClampNeg (some r))))) else none) else none
      | _ => none)
    | _ => none)
  | .iastore => (match st with
    | .inl a :: .inl j :: .inr (some (.inl i)) :: st => (match hp[i]? with
      | some (.inr (0, n, .inl f)) => if 0 ≤ j ∧ j.toNatClampNeg < n then cc_k (pc + len) L st (hp.set i (.inr (0, n, .inl ((j.toNatClampNeg, a) :: f)))) else none
      | _ => none)
    | _ => none)
  | .arraylength => (match st with
    | .inr (some (.inl i)) :: st => (match hp[i]? with
      | some (.inr (0, n, .inl _)) => cc_k (pc + len) L (.inl (Int32.ofNat n) :: st) hp
      | _ => none)
    | _ => none)
  | .goto _ => cc_k x L st hp
  | .if_icmp .ge _ => (match st with
    | .inl b :: .inl a :: st => if b ≤ a then cc_k x L st hp else cc_k (pc + len) L st hp
    | _ => none)
  | .invokespecial _ => (match st with
    | .inr (some (.inl i)) :: st => bif Nat.beq x 99 then (bif Nat.ble st.length 8 then cc_k (pc + len) L st hp else none) else (bif Nat.blt x 13 && (Nat.ble st.length 8 && Nat.blt i hp.length) then some (.inr (.inl (x, [.inr (some (.inl i))], (pc + len, L, st, hp)))) else none)
    | _ => none)
  | .invokestatic _ => (match st with
    | .inl b :: .inr (some (.inl i)) :: st => bif Nat.beq x 13 && (Nat.ble st.length 8 && Nat.blt i hp.length) then some (.inr (.inl (x, [.inr (some (.inl i)), .inl b], (pc + len, L, st, hp)))) else none
    | _ => none)
  | .return_ => (match st with
    | [] => some (.inr (.inr ()))
    | _ => none)
  | _ => none
def cc_step (k : Nat) (s : cc_S) : Option cc_A := match cc_cd k s.1 with
  | some (i, len, v, x, y) => cc_act i len v x y s.1 s.2.1 s.2.2.1 s.2.2.2
  | none => none
def cc_L0 (k : Nat) (as : List cc_V) : List (Option cc_V) := as.map some ++ List.replicate (cc_ml k - as.length) none
abbrev cc_R : Type := cc_H × Nat × Nat
def cc_ad (a b : Nat) (r : cc_R) : cc_R := (r.1, a + r.2.1, b + r.2.2)
def cc_run : Nat → Nat → Nat → cc_S → Option cc_R
  | 0, _, _, _ => none
  | n + 1, d, k, s => match cc_step k s with
    | none => none
    | some (.inl (s', a, b)) => (cc_run n d k s').map (cc_ad a b)
    | some (.inr (.inr _)) => some (s.2.2.2, 0, 0)
    | some (.inr (.inl (x, as, (pc, L, st, hp)))) => match d with
      | 0 => none
      | d + 1 => match cc_run n d x (0, cc_L0 x as, [], hp) with
        | none => none
        | some (hp', a, b) => (cc_run n (d + 1) k (pc, L, st, hp')).map (cc_ad a b)
/-! its memory -/
def cc_a (ad tx : Nat → Nat) : Nat ⊕ Nat → Nat
  | .inl i => ad i
  | .inr n => tx n
def cc_v (ad tx : Nat → Nat) : cc_V → Value
  | .inl x => .int x
  | .inr none => .null
  | .inr (some r) => .ref (cc_a ad tx r)
/-- numbers of a row: 0 but where something was laid -/
def cc_fn : List (Nat × Int32) → Nat → Int32
  | [] => fun _ => 0
  | q :: r => upd (cc_fn r) q.1 q.2
def cc_e (ad tx : Nat → Nat) (cy : Nat → ClassId) : cc_E → va_E
  | .inl q => .inr (q.1, q.2.map (cc_v ad tx))
  | .inr (3, n, .inl f) => .inl (cy 3, n, .inr (.inl (fun j => (cc_fn f j).toInt64)))
  | .inr (k, n, .inl f) => .inl (cy k, n, .inl (cc_fn f))
  | .inr (k, n, .inr l) => .inl (cy k, n, .inr (.inr (.inr (.inr (fun j => (l.getD j none).map (cc_a ad tx))))))
def cc_ws (ad tx : Nat → Nat) (cy : Nat → ClassId) (hp : cc_H) : va_W := hp.mapIdx (fun i e => (ad i, cc_e ad tx cy e))
def cc_rb (n : Nat) : Nat ⊕ Nat → Bool
  | .inl i => Nat.blt i n
  | .inr t => Nat.blt t mm_ns
def cc_vb (n : Nat) : cc_V → Bool
  | .inl _ => true
  | .inr none => true
  | .inr (some r) => cc_rb n r
def cc_ob (n : Nat) : Option (Nat ⊕ Nat) → Bool
  | none => true
  | some r => cc_rb n r
def cc_eb (n : Nat) : cc_E → Bool
  | .inl q => q.2.all (cc_vb n)
  | .inr (_, _, .inl _) => true
  | .inr (_, _, .inr l) => l.all (cc_ob n)
def cc_wf (hp : cc_H) : Prop := ∀ e ∈ hp, cc_eb hp.length e = true
theorem cc_rb_mono {n n' : Nat} (h : n ≤ n') {r : Nat ⊕ Nat} (hr : cc_rb n r = true) : cc_rb n' r = true := by
  rcases r with i | t
  · exact Nat.ble_eq_true_of_le (Nat.le_trans (Nat.le_of_ble_eq_true hr) h)
  · exact hr
theorem cc_vb_mono {n n' : Nat} (h : n ≤ n') {v : cc_V} (hr : cc_vb n v = true) : cc_vb n' v = true := by
  rcases v with x | _ | r
  · rfl
  · rfl
  · exact cc_rb_mono h hr
theorem cc_ob_mono {n n' : Nat} (h : n ≤ n') {v : Option (Nat ⊕ Nat)} (hr : cc_ob n v = true) : cc_ob n' v = true := by
  cases v with
  | none => rfl
  | some r => exact cc_rb_mono h hr
theorem cc_eb_mono {n n' : Nat} (h : n ≤ n') {e : cc_E} (he : cc_eb n e = true) : cc_eb n' e = true := by
  rcases e with ⟨c, fs⟩ | ⟨k, m, f | l⟩
  · exact List.all_eq_true.mpr (fun v hv => cc_vb_mono h (List.all_eq_true.mp he v hv))
  · rfl
  · exact List.all_eq_true.mpr (fun v hv => cc_ob_mono h (List.all_eq_true.mp he v hv))
theorem cc_a_eq {ad ad' tx : Nat → Nat} {n : Nat} (h : ∀ i, i < n → ad' i = ad i) {r : Nat ⊕ Nat} (hr : cc_rb n r = true) : cc_a ad' tx r = cc_a ad tx r := by
  rcases r with i | t
  · exact h i (Nat.le_of_ble_eq_true hr)
  · rfl
theorem cc_v_eq {ad ad' tx : Nat → Nat} {n : Nat} (h : ∀ i, i < n → ad' i = ad i) {v : cc_V} (hr : cc_vb n v = true) : cc_v ad' tx v = cc_v ad tx v := by
  rcases v with x | _ | r
  · rfl
  · rfl
  · exact congrArg Value.ref (cc_a_eq h hr)
theorem cc_e_eq {ad ad' tx : Nat → Nat} {cy : Nat → ClassId} {n : Nat} (h : ∀ i, i < n → ad' i = ad i) {e : cc_E} (he : cc_eb n e = true) : cc_e ad' tx cy e = cc_e ad tx cy e := by
  rcases e with ⟨c, fs⟩ | ⟨k, m, f | l⟩
  · show (Sum.inr (c, fs.map (cc_v ad' tx)) : va_E) = .inr (c, fs.map (cc_v ad tx))
    have e : fs.map (cc_v ad' tx) = fs.map (cc_v ad tx) := List.map_congr_left (fun v hv => cc_v_eq h (List.all_eq_true.mp he v hv))
    rw [e]
  · unfold cc_e
    split <;> first | rfl | (rename_i z; cases z <;> rfl)
  · have e : (fun j => (l.getD j none).map (cc_a ad' tx)) = fun j => (l.getD j none).map (cc_a ad tx) := by
      funext j
      rw [List.getD_eq_getElem?_getD]
      cases hj : l[j]? with
      | none => rfl
      | some o =>
        cases o with
        | none => rfl
        | some r => exact congrArg some (cc_a_eq h (List.all_eq_true.mp he _ (List.mem_of_getElem? hj)))
    show cc_e ad' tx cy (.inr (k, m, .inr l)) = cc_e ad tx cy (.inr (k, m, .inr l))
    have u : ∀ z : Nat → Nat, cc_e z tx cy (.inr (k, m, .inr l)) = .inl (cy k, m, .inr (.inr (.inr (.inr (fun j => (l.getD j none).map (cc_a z tx)))))) := fun z => by
      unfold cc_e
      split
      · rename_i z; cases z
      · rename_i z; cases z
      · rename_i z; cases z
      · rename_i z; cases z; rfl
    rw [u, u, e]
theorem cc_ws_len (ad tx : Nat → Nat) (cy : Nat → ClassId) (hp : cc_H) : (cc_ws ad tx cy hp).length = hp.length := by
  unfold cc_ws
  rw [List.length_mapIdx]
theorem cc_ws_at {ad tx : Nat → Nat} {cy : Nat → ClassId} {hp : cc_H} {i : Nat} {e : cc_E} (h : hp[i]? = some e) : (cc_ws ad tx cy hp)[i]? = some (ad i, cc_e ad tx cy e) := by
  unfold cc_ws
  rw [List.getElem?_mapIdx, h]
  rfl
theorem cc_ws_set {ad tx : Nat → Nat} {cy : Nat → ClassId} {hp : cc_H} {i : Nat} {e e' : cc_E} (h : hp[i]? = some e) : (cc_ws ad tx cy hp).set i (ad i, cc_e ad tx cy e') = cc_ws ad tx cy (hp.set i e') := by
  have hi : i < hp.length := (List.getElem?_eq_some_iff.mp h).1
  apply List.ext_getElem?
  intro j
  unfold cc_ws
  by_cases hj : j = i
  · subst hj
    rw [List.getElem?_set_self (by rw [List.length_mapIdx]; exact hi), List.getElem?_mapIdx, List.getElem?_set_self hi]
    rfl
  · rw [List.getElem?_set_ne (Ne.symm hj), List.getElem?_mapIdx, List.getElem?_mapIdx, List.getElem?_set_ne (Ne.symm hj)]
/-- new cells: the addresses of the old ones stay -/
theorem cc_ws_app {ad ad' tx : Nat → Nat} {cy : Nat → ClassId} {hp es : cc_H} (hw : cc_wf hp) (h : ∀ i, i < hp.length → ad' i = ad i) : cc_ws ad' tx cy (hp ++ es) = cc_ws ad tx cy hp ++ es.mapIdx (fun j e => (ad' (hp.length + j), cc_e ad' tx cy e)) := by
  unfold cc_ws
  rw [List.mapIdx_append]
  congr 1
  · apply List.ext_getElem?
    intro j
    rw [List.getElem?_mapIdx, List.getElem?_mapIdx]
    cases hj : hp[j]? with
    | none => rfl
    | some e =>
      have hl : j < hp.length := (List.getElem?_eq_some_iff.mp hj).1
      show some (ad' j, cc_e ad' tx cy e) = some (ad j, cc_e ad tx cy e)
      rw [h j hl, cc_e_eq h (hw e (List.mem_of_getElem? hj))]
  · apply List.ext_getElem?
    intro j
    rw [List.getElem?_mapIdx, List.getElem?_mapIdx, Nat.add_comm]
theorem cc_wf_app {hp es : cc_H} (hw : cc_wf hp) (he : ∀ e ∈ es, cc_eb (hp ++ es).length e = true) : cc_wf (hp ++ es) := by
  intro e h
  rcases List.mem_append.mp h with h | h
  · exact cc_eb_mono (by rw [List.length_append]; omega) (hw e h)
  · exact he e h
theorem cc_wf_set {hp : cc_H} {i : Nat} {e : cc_E} (hw : cc_wf hp) (he : cc_eb hp.length e = true) : cc_wf (hp.set i e) := by
  intro z hz
  rw [List.length_set]
  rcases List.mem_or_eq_of_mem_set hz with h | h
  · exact hw z h
  · rw [h]; exact he
/-- what a value stands for -/
def cc_vr (ad tx : Nat → Nat) (n : Nat) (v : cc_V) (w : Value) : Prop := cc_vb n v = true ∧ w = cc_v ad tx v
def cc_sr (ad tx : Nat → Nat) (n : Nat) : List cc_V → List Value → Prop
  | [], [] => True
  | v :: st, w :: ws => cc_vr ad tx n v w ∧ cc_sr ad tx n st ws
  | _, _ => False
def cc_lr (ad tx : Nat → Nat) (n : Nat) (ls : Array Slot) (nL : Nat) (L : List (Option cc_V)) : Prop := ls.size = nL ∧ lv_wf ls ∧ L.length = nL ∧ ∀ (k : Nat) (v : cc_V), L[k]? = some (some v) → ∃ w, ls[k]? = some (.val w) ∧ cc_vr ad tx n v w
theorem cc_vr.mono {ad ad' tx : Nat → Nat} {n n' : Nat} {v : cc_V} {w : Value} (h : cc_vr ad tx n v w) (hn : n ≤ n') (ha : ∀ i, i < n → ad' i = ad i) : cc_vr ad' tx n' v w := ⟨cc_vb_mono hn h.1, by rw [h.2, cc_v_eq ha h.1]⟩
theorem cc_sr.mono {ad ad' tx : Nat → Nat} {n n' : Nat} (hn : n ≤ n') (ha : ∀ i, i < n → ad' i = ad i) : ∀ (st : List cc_V) (ws : List Value), cc_sr ad tx n st ws → cc_sr ad' tx n' st ws
  | [], [], _ => trivial
  | v :: st, w :: ws, h => ⟨h.1.mono hn ha, cc_sr.mono hn ha st ws h.2⟩
  | [], _ :: _, h => h.elim
  | _ :: _, [], h => h.elim
theorem cc_lr.mono {ad ad' tx : Nat → Nat} {n n' : Nat} {ls : Array Slot} {nL : Nat} {L : List (Option cc_V)} (h : cc_lr ad tx n ls nL L) (hn : n ≤ n') (ha : ∀ i, i < n → ad' i = ad i) : cc_lr ad' tx n' ls nL L := ⟨h.1, h.2.1, h.2.2.1, fun k v hk => by
  obtain ⟨w, h1, h2⟩ := h.2.2.2 k v hk
  exact ⟨w, h1, h2.mono hn ha⟩⟩
theorem cc_cat {ad tx : Nat → Nat} {n : Nat} {v : cc_V} {w : Value} (h : cc_vr ad tx n v w) : w.category = 1 := by
  rw [h.2]
  rcases v with x | _ | r <;> rfl
theorem cc_sr_wd {ad tx : Nat → Nat} {n : Nat} : ∀ (st : List cc_V) (ws : List Value), cc_sr ad tx n st ws → (ws.map fun v => v.category).sum = st.length
  | [], [], _ => rfl
  | v :: st, w :: ws, h => by
    rw [List.map_cons, List.sum_cons, cc_cat h.1, cc_sr_wd st ws h.2, List.length_cons]
    omega
  | [], _ :: _, h => h.elim
  | _ :: _, [], h => h.elim
/-- a store into a local -/
theorem cc_lr_set {ad tx : Nat → Nat} {n : Nat} {ls ls' : Array Slot} {nL j : Nat} {L : List (Option cc_V)} {v : cc_V} {w : Value} (h : cc_lr ad tx n ls nL L) (hj : j < nL) (hv : cc_vr ad tx n v w) (hl : lv_has ls' nL ((j, w) :: (mm_lv ls).filter (fun q => !(q.1 == j) && !(q.1 + 1 == j && q.2.category == 2)))) : cc_lr ad tx n ls' nL (L.set j (some v)) := by
  obtain ⟨h1, h2, h3, h5⟩ := h
  refine ⟨hl.1, hl.2.1, by rw [List.length_set]; exact h3, ?_⟩
  intro i u hu
  by_cases hij : i = j
  · subst hij
    rw [List.getElem?_set_self (by omega)] at hu
    cases hu
    exact ⟨w, hl.2.2 (i, w) List.mem_cons_self, hv⟩
  · rw [List.getElem?_set_ne (Ne.symm hij)] at hu
    obtain ⟨z, a2, a3⟩ := h5 i u hu
    have hcz : z.category = 1 := cc_cat a3
    refine ⟨z, hl.2.2 (i, z) (List.mem_cons_of_mem _ (List.mem_filter.mpr ⟨mm_lv_mem a2 hcz, ?_⟩)), a3⟩
    simp [hij, hcz]
