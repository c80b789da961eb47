/-! calls, and runs of the little machine: they are runs on the JVM -/
theorem mm_mask_lr {ad : Nat → Nat → Nat} {ls : Array Slot} {nL : Nat} {L : List (Option mm_V)} {q : Option (List Bool)} (h : mm_lr ad ls nL L) (hq : ∀ bs, q = some bs → bs.length = nL) : mm_lr ad ls nL (mm_mask q L) := by
  cases q with
  | none => exact h
  | some bs =>
    obtain ⟨h1, h2, h3, h4⟩ := h
    refine ⟨h1, h2, ?_, ?_⟩
    · show (List.zipWith _ bs L).length = nL
      rw [List.length_zipWith, hq bs rfl, h3, Nat.min_self]
    · intro k v hk
      have hk : (List.zipWith (fun (b : Bool) (o : Option mm_V) => bif b then o else none) bs L)[k]? = some (some v) := hk
      rw [List.getElem?_zipWith] at hk
      cases hb : bs[k]? with
      | none => rw [hb] at hk; cases hk
      | some b =>
        cases hL : L[k]? with
        | none => rw [hb, hL] at hk; cases hk
        | some o =>
          rw [hb, hL] at hk
          have hk : (bif b then o else none) = some v := Option.some.inj hk
          cases b with
          | false => cases hk
          | true =>
            have hk : o = some v := hk
            subst hk
            exact h4 k v hL
theorem mm_Aw_mono {ad : Nat → Nat → Nat} {a b : Nat} (h : a ≤ b) {A : Nat → Prop} (hA : ∀ q, mm_Aw ad a q → A q) : ∀ q, mm_Aw ad b q → A q := fun q hq => hA q (by
  rcases hq with hq | hq
  · exact Or.inl hq
  · exact Or.inr (Nat.le_trans h hq))
/-- the class of a method that is not static is that of its table -/
theorem mm_clsok : (List.range 292).all (fun x => (mm_mt x).2.1 || (match vwCl[(mm_mt x).1]? with | some q => q.1 == (mm_yn x).cls | none => false)) = true := by decide +kernel
/-- how a call runs, whatever its kind -/
def mm_Runs (p : Program) (l : Launch) (e : Env) (R : Room) (s : State) (mid : MethodId) (args : Array Value) (below : List Frame) (meth : Method) (c : Code) (D : va_G) (ad : Nat → Nat → Nat) (cy : Nat → ClassId) (A : Nat → Prop) (xs : Nat → Int32) (xn k pc : Nat) (as st : List mm_V) (m : mm_M) (o : mm_O) (m1 : mm_M) (k1 n1 : Nat) : Prop :=
  ∀ (H : Heap) (locs : List Loc) (cells slots : Nat) (ls : Array Slot) (As rest : List Value), va_P D vwCl (mm_ws ad cy m) H → mm_cv m → mm_sv xs xn m → va_S A s.heap H locs → ls.size = (mm_mt k).2.2.2 → mm_sr ad as As → mm_sr ad st rest → cells + k1 ≤ R.cells → slots + n1 ≤ R.slots →
    ∃ a, vx_Run p l e R s mid args below meth c H locs cells slots k1 n1 (F0 mid pc ls (As.reverse ++ rest)) rest (mm_Qc D ad cy xs xn o m1 (mm_Aw ad H.size) a) (mm_XC D ad cy xs xn o m1 (mm_Aw ad H.size)) (mm_Aw ad H.size)
section MMV
variable {p : Program} {l : Launch} {e : Env} {R : Room} {s : State} {mid : MethodId} {args : Array Value} {below : List Frame} {meth : Method} {c : Code} {Q : State → Prop} {D : va_G} {ad : Nat → Nat → Nat} {cy : Nat → ClassId} {A : Nat → Prop} {xs : Nat → Int32} {xn : Nat} {mc ms : Nat} {k : Nat} {kk nn : Nat} {pc : Nat} {L : List (Option mm_V)} {st : List mm_V} {m : mm_M}
theorem s_callG {as : List mm_V} {o : mm_O} {m1 : mm_M} {k1 n1 k2 n2 : Nat} (C : mm_Cx p s mid args meth c D ad cy A xs xn k) (hAw : ∀ q, mm_Aw ad s.heap.size q → A q) (hR : mc ≤ R.cells ∧ ms ≤ R.slots) (hr : mm_Runs p l e R s mid args below meth c D ad cy A xs xn k pc as st m o m1 k1 n1)
    (hret : ∀ v, o = .inl v → mm_G p l e R s mid args below meth c Q D ad cy A xs xn mc ms k k2 n2 (pc + 3) (L) (v.toList ++ st) (m1))
    (hthr : ∀ x, o = .inr x → ∀ (H : Heap) (locs : List Loc) (cells slots : Nat) (ls : Array Slot) (rest : List Value) (q : Addr) (ce : Cell), mm_B D ad cy xs xn m1 H → va_S A s.heap H locs → mm_lr ad ls (mm_mt k).2.2.2 L → H[q]? = some ce → ce.vm = .none → s.vm.findClass (mm_xn x) = some ce.cls → cells + k2 ≤ mc → slots + n2 ≤ ms → vx_W p l e R s mid args below meth c H locs cells slots Q (F0 mid pc ls rest) q) :
    mm_G p l e R s mid args below meth c Q D ad cy A xs xn mc ms k (k1 + k2) (n1 + n2) (pc) (L) (as.reverse ++ st) (m) := by
  intro H locs cells slots ls stk hP hcv hsv hS hl hs hc1 hc2
  obtain ⟨a1, a2, rfl, h1, h2⟩ := mm_sr_app as.reverse st stk hs
  have h1 := mm_sr_rev _ _ h1
  rw [List.reverse_reverse] at h1
  obtain ⟨a, hrun⟩ := hr H locs cells slots ls a1.reverse a2 hP hcv hsv hS hl.1 h1 h2 (by omega) (by omega)
  rw [List.reverse_reverse] at hrun
  refine mm_callk hrun hS (mm_Aw_mono hS.1 hAw) (mm_Aw_mono hS.1 hAw) ?_ ?_
  · intro vo H1 locs1 ho hB hS1
    rcases o with v | x
    · have hv := hret v rfl
      refine hv H1 locs1 (cells + k1) (slots + n1) ls (vo.toList ++ a2) hB.1 hB.2.1 hB.2.2 hS1 hl ?_ (by omega) (by omega)
      refine mm_sr_mk _ _ _ _ ?_ h2
      cases v with
      | none =>
        have ho : vo = none := ho
        subst ho
        exact trivial
      | some v =>
        obtain ⟨w, rfl, hw⟩ := ho
        exact ⟨hw, trivial⟩
    · exact ho.elim
  · intro x q ce H1 locs1 hx hB hS1 hce hcv1 hcl
    exact hthr x hx H1 locs1 (cells + k1) (slots + n1) ls a2 q ce hB hS1 hl hce hcv1 hcl (by omega) (by omega)
/-- what a call of the little machine is -/
def mm_CallI (k pc x : Nat) (as : List mm_V) : Prop :=
  (∃ idx n, decode (mm_by k) pc = .ok (.invokestatic idx, 3) ∧ mm_hs x = [] ∧ mm_mlk (mm_mt k).1 idx x true n ∧ as.length = n) ∨
  (∃ idx n, decode (mm_by k) pc = .ok (.invokestatic idx, 3) ∧ mm_hs x ≠ [] ∧ mm_mlW (mm_mt k).1 idx x n ∧ as.length = n) ∨
  (∃ idx n g i as0 fs, decode (mm_by k) pc = .ok (.invokevirtual idx, 3) ∧ mm_hs x = [] ∧ mm_mlk (mm_mt k).1 idx x false n ∧ as = .inr (.inr (some (g, i))) :: as0 ∧ as0.length = n ∧ mm_ob g = some ((mm_mt x).1, fs) ∧ ∃ cq, vwCl[(mm_mt x).1]? = some cq ∧ cq.1 = (mm_yn x).cls)
theorem s_runs {x d : Nat} {as : List mm_V} {o : mm_O} {m1 : mm_M} {k1 n1 : Nat} (C : mm_Cx p s mid args meth c D ad cy A xs xn k) (hAw : ∀ q, mm_Aw ad s.heap.size q → A q) (hRf : d + 17 ≤ R.frames) (hRl : 64 * d + 464 ≤ R.locals) (hw : mm_wd st ≤ 8) (hi : mm_CallI k pc x as) (hc0 : mm_hs x = [] → mm_Con l D ad cy xs xn d x as m o m1 k1 n1) (hc1 : mm_hs x ≠ [] → mm_ConW l D ad cy xs xn d x as m o m1 k1 n1) : mm_Runs p l e R s mid args below meth c D ad cy A xs xn k pc as st m o m1 k1 n1 := by
  intro H locs cells slots ls As rest hP hcv hsv hS hl hs hs2 hRc hRs
  have h8 : (rest.map fun v => v.category).sum ≤ 8 := by rw [mm_sr_wd _ _ hs2]; exact hw
  rcases hi with ⟨idx, n, hd, he, hlk, hn⟩ | ⟨idx, n, hd, he, hlk, hn⟩ | ⟨idx, n, g, i, as0, fs, hd, he, hlk, has, hn, hob, cq, hcl, hcn⟩
  · exact ⟨_, s_runS C (mm_Aw_mono hS.1 hAw) hd hlk (hc0 he) hP hcv hsv hS hl hs hn h8 hRf hRl hRc hRs⟩
  · exact ⟨_, s_runSW C (mm_Aw_mono hS.1 hAw) hd hlk (hc1 he) hP hcv hsv hS hl hs hn h8 hRf hRl hRc hRs⟩
  · subst has
    match As, hs with
    | w :: As, ⟨h1, hs⟩ =>
      obtain ⟨hv, rfl⟩ := mm_vr_own (mm_ob999 hob) h1
      refine ⟨(Value.ref (ad g i) :: As).toArray, ?_⟩
      rw [List.reverse_cons, List.append_assoc]
      exact s_runV C (mm_Aw_mono hS.1 hAw) hd hlk (hc0 he) hob (mm_vld_ob hv hob) hcl hcn hP hcv hsv hS hl hs hn h8 hRf hRl hRc hRs
theorem mm_okj_y {x y : Nat} {b : Bool} (h : mm_okj x y b = true) : (x = 1000 ∧ y = 2 ∧ b = true) ∨ (x = 1001 ∧ y = 2 ∧ b = true) ∨ (x = 1002 ∧ y = 1 ∧ b = true) ∨ (x = 1004 ∧ y = 5 ∧ b = true) ∨ (x = 1006 ∧ y = 1 ∧ b = false) ∨ (x = 1007 ∧ y = 2 ∧ b = false) := by
  unfold mm_okj at h
  split at h
  all_goals first
    | (cases h; done)
    | simp
/-- what mm_call has come to -/
theorem mm_call_in {x y pc : Nat} {L : List (Option mm_V)} {st : List mm_V} {m : mm_M} {a : mm_A} (h : mm_call x y pc L st m = some a) : (y ≤ st.length ∧ mm_wd (st.drop y) ≤ 8 ∧ ∀ v ∈ st.take y, mm_nl v) ∧ ((1000 ≤ x ∧ mm_jdk x pc L st m = some a) ∨ (¬ 1000 ≤ x ∧ a = .inr (.inl (x, (st.take y).reverse, (pc, L, st.drop y, m))))) := by
  unfold mm_call at h
  cases hb : (Nat.ble y st.length && (Nat.ble (mm_wd (st.drop y)) 8 && (st.take y).all mm_nlb)) with
  | false => rw [hb] at h; cases h
  | true =>
    rw [hb] at h
    simp only [Bool.and_eq_true] at hb
    refine ⟨⟨Nat.le_of_ble_eq_true hb.1, Nat.le_of_ble_eq_true hb.2.1, fun v hv => ?_⟩, ?_⟩
    · have h9 := List.all_eq_true.mp hb.2.2 v hv
      rcases v with v | v | v
      · exact trivial
      · cases h9
      · exact trivial
    · cases hx : Nat.ble 1000 x with
      | true =>
        rw [hx] at h
        exact Or.inl ⟨Nat.le_of_ble_eq_true hx, h⟩
      | false =>
        rw [hx] at h
        refine Or.inr ⟨fun z => ?_, (Option.some.inj h).symm⟩
        rw [Nat.ble_eq_true_of_le z] at hx
        cases hx
/-- a call of a method of the JDK -/
theorem s_jdk {idx x y : Nat} {b : Bool} {pc' : Nat} {L' : List (Option mm_V)} {st' : List mm_V} {m' : mm_M} (C : mm_Cx p s mid args meth c D ad cy A xs xn k) (hAw : ∀ q, mm_Aw ad s.heap.size q → A q) (hR : 8 ≤ R.frames ∧ 200 ≤ R.locals ∧ mc ≤ R.cells ∧ ms ≤ R.slots) (hok : mm_okm k idx x y b = true) (hd : decode (mm_by k) pc = .ok (bif b then .invokestatic idx else .invokevirtual idx, 3)) (hx : 1000 ≤ x) (hw : mm_wd (st.drop y) ≤ 8)
    (hj : mm_jdk x (pc + 3) L st m = some (.inl (pc', L', st', m'))) (hG : mm_G p l e R s mid args below meth c Q D ad cy A xs xn mc ms k kk nn (pc') (L') (st') (m')) : mm_G p l e R s mid args below meth c Q D ad cy A xs xn mc ms k kk nn (pc) (L) (st) (m) := by
  have hA : ∀ q, s.heap.size ≤ q → A q := fun q h => hAw q (Or.inr h)
  unfold mm_okm at hok
  rw [Nat.ble_eq_true_of_le hx] at hok
  have hok := (Bool.and_eq_true _ _).mp (show ((mm_MBs (mm_mt k).1).any (fun q => Nat.beq q.1 idx && Nat.beq q.2.1 x) && mm_okj x y b) = true from hok)
  obtain ⟨q, h1, h2⟩ := List.any_eq_true.mp hok.1
  simp only [Bool.and_eq_true] at h2
  have hlk := mm_MBok _ q h1
  rw [Nat.eq_of_beq_eq_true h2.1, Nat.eq_of_beq_eq_true h2.2] at hlk
  rcases mm_okj_y hok.2 with ⟨rfl, rfl, rfl⟩ | ⟨rfl, rfl, rfl⟩ | ⟨rfl, rfl, rfl⟩ | ⟨rfl, rfl, rfl⟩ | ⟨rfl, rfl, rfl⟩ | ⟨rfl, rfl, rfl⟩
  · rcases st with _ | ⟨b | b | b, _ | ⟨a | a | a, st⟩⟩ <;> cases hj
    exact s_max C hR hw hd hlk hG
  · rcases st with _ | ⟨b | b | b, _ | ⟨a | a | a, st⟩⟩ <;> cases hj
    exact s_min C hR hw hd hlk hG
  · rcases st with _ | ⟨b | b | b, st⟩ <;> cases hj
    exact s_abs C hR hw hd hlk hG
  · rcases st with _ | ⟨v1 | v1 | v1, st⟩
    · cases hj
    · rcases st with _ | ⟨v2 | v2 | v2, st⟩
      · cases hj
      · rcases st with _ | ⟨v3 | v3 | _ | ⟨g1, i1⟩, st⟩
        · cases hj
        · cases hj
        · cases hj
        · cases hj
        · rcases st with _ | ⟨v4 | v4 | v4, st⟩
          · cases hj
          · rcases st with _ | ⟨v5 | v5 | _ | ⟨g0, i0⟩, st⟩
            · cases hj
            · cases hj
            · cases hj
            · cases hj
            · have h : (match mm_ar g0, mm_ar g1 with
                | some (0, n0, _), some (0, n1, _) => if (0 ≤ v4 ∧ 0 ≤ v2 ∧ 0 ≤ v1) ∧ v4.toNatClampNeg + v1.toNatClampNeg ≤ n0 ∧ v2.toNatClampNeg + v1.toNatClampNeg ≤ n1 then mm_k (pc + 3) L st (mm_wa m g1 i1 (va_cpy (m g0 i0) (m g1 i1) v4.toNatClampNeg v2.toNatClampNeg v1.toNatClampNeg)) else none
                | _, _ => none) = some (.inl (pc', L', st', m')) := hj
              split at h
              · rename_i h0 h1
                split at h
                · rename_i hb
                  cases h
                  exact s_copy C hR hw hd hlk h0 h1 hb hG
                · cases h
              · cases h
          · cases hj
          · cases hj
      · cases hj
      · cases hj
    · cases hj
    · cases hj
  · rcases st with _ | ⟨v1 | v1 | _ | ⟨g, i⟩, st⟩
    · cases hj
    · cases hj
    · cases hj
    · cases hj
    · have h : (bif Nat.beq g mm_gS then mm_k (pc + 3) L (.inl (Int32.ofNat (mm_txt i).length) :: st) m else none) = some (.inl (pc', L', st', m')) := hj
      cases hb : Nat.beq g mm_gS with
      | false => rw [hb] at h; cases h
      | true =>
        rw [hb] at h
        have e := Nat.eq_of_beq_eq_true hb
        subst e
        cases h
        exact s_strlen C hA hR hw hd hlk hG
  · rcases st with _ | ⟨j | v1 | v1, st⟩
    · cases hj
    · rcases st with _ | ⟨v1 | v1 | _ | ⟨g, i⟩, st⟩
      · cases hj
      · cases hj
      · cases hj
      · cases hj
      · have h : (bif Nat.beq g mm_gS then (if mm_in j (mm_txt i).length then mm_k (pc + 3) L (.inl (Int32.ofNat ((mm_txt i).getD j.toNatClampNeg ' ').toNat) :: st) m else none) else none) = some (.inl (pc', L', st', m')) := hj
        cases hb : Nat.beq g mm_gS with
        | false => rw [hb] at h; cases h
        | true =>
          rw [hb] at h
          have e := Nat.eq_of_beq_eq_true hb
          subst e
          dsimp only [cond] at h
          split at h
          · rename_i hjn
            cases h
            exact s_charAt C hA hR hw hd hlk hjn hG
          · cases h
    · cases hj
    · cases hj
/-- a call of our own: what it is -/
theorem s_calli {idx x y : Nat} {b : Bool} (hok : mm_okm k idx x y b = true) (hd : decode (mm_by k) pc = .ok (bif b then .invokestatic idx else .invokevirtual idx, 3)) (hx : ¬ 1000 ≤ x) (hy : y ≤ st.length) (hrec : b = false → mm_recv x y st = true) : mm_CallI k pc x (st.take y).reverse ∧ y ≤ (mm_mt x).2.2.2 ∧ x < 292 := by
  have hlen : (st.take y).reverse.length = y := by rw [List.length_reverse, List.length_take, Nat.min_eq_left hy]
  unfold mm_okm at hok
  have hx1 : Nat.ble 1000 x = false := by
    rw [Bool.eq_false_iff]
    intro z
    exact hx (Nat.le_of_ble_eq_true z)
  rw [hx1] at hok
  have hok := (Bool.and_eq_true _ _).mp (show ((Nat.beq y (mm_mt x).2.2.1 && (Nat.ble y (mm_mt x).2.2.2 && (Nat.blt x 292 && ((mm_mt x).2.1 == b)))) && (bif (mm_hs x).isEmpty then (mm_MLs (mm_mt k).1).any (fun q => Nat.beq q.1 idx && (Nat.beq q.2.1 x && ((q.2.2.1 == b) && Nat.beq y (bif b then q.2.2.2 else q.2.2.2 + 1))))
    else b && (mm_MWs (mm_mt k).1).any (fun q => Nat.beq q.1 idx && (Nat.beq q.2.1 x && Nat.beq y q.2.2.2)))) = true from hok)
  obtain ⟨ok1, hok⟩ := hok
  simp only [Bool.and_eq_true, beq_iff_eq] at ok1
  obtain ⟨-, ok3, ok4, ok5⟩ := ok1
  refine ⟨?_, Nat.le_of_ble_eq_true ok3, Nat.le_of_ble_eq_true ok4⟩
  cases hh : mm_hs x with
  | nil =>
    rw [hh] at hok
    obtain ⟨q, h1, h2⟩ := List.any_eq_true.mp (show (mm_MLs (mm_mt k).1).any (fun q => Nat.beq q.1 idx && (Nat.beq q.2.1 x && ((q.2.2.1 == b) && Nat.beq y (bif b then q.2.2.2 else q.2.2.2 + 1)))) = true from hok)
    simp only [Bool.and_eq_true, beq_iff_eq] at h2
    obtain ⟨e1, e2, e3, e4⟩ := h2
    have hlk := mm_MLok _ q h1
    rw [Nat.eq_of_beq_eq_true e1, Nat.eq_of_beq_eq_true e2, e3] at hlk
    have e4 := Nat.eq_of_beq_eq_true e4
    cases b with
    | true => exact Or.inl ⟨idx, q.2.2.2, hd, hh, hlk, hlen.trans e4⟩
    | false =>
      have hr := hrec rfl
      unfold mm_recv at hr
      rw [hx1] at hr
      have hr : (match (st.take y).reverse with
        | .inr (.inr (some (g, _))) :: _ => (match mm_ob g with
          | some (c, _) => Nat.beq c (mm_mt x).1
          | none => false)
        | _ => false) = true := hr
      split at hr
      · rename_i g i as0 hst
        split at hr
        · rename_i c9 fs hob
          have e := Nat.eq_of_beq_eq_true hr
          subst e
          have h9 := List.all_eq_true.mp mm_clsok x (List.mem_range.mpr (Nat.le_of_ble_eq_true ok4))
          rw [ok5] at h9
          cases hv : vwCl[(mm_mt x).1]? with
          | none => rw [hv] at h9; cases h9
          | some cq =>
            rw [hv] at h9
            have h9 : (cq.1 == (mm_yn x).cls) = true := h9
            refine Or.inr (Or.inr ⟨idx, q.2.2.2, g, i, as0, fs, hd, hh, hlk, hst, ?_, hob, cq, hv, beq_iff_eq.mp h9⟩)
            rw [hst, List.length_cons] at hlen
            have e4 : y = q.2.2.2 + 1 := e4
            omega
        · cases hr
      · cases hr
  | cons z zs =>
    rw [hh] at hok
    have hok := (Bool.and_eq_true _ _).mp (show (b && (mm_MWs (mm_mt k).1).any (fun q => Nat.beq q.1 idx && (Nat.beq q.2.1 x && Nat.beq y q.2.2.2))) = true from hok)
    obtain ⟨rfl, hok⟩ := hok
    obtain ⟨q, h1, h2⟩ := List.any_eq_true.mp hok
    simp only [Bool.and_eq_true] at h2
    obtain ⟨e1, e2, e3⟩ := h2
    have hlk := mm_MWok _ q h1
    rw [Nat.eq_of_beq_eq_true e1, Nat.eq_of_beq_eq_true e2] at hlk
    exact Or.inr (Or.inl ⟨idx, q.2.2.2, hd, (by rw [hh]; intro z; cases z), hlk, hlen.trans (Nat.eq_of_beq_eq_true e3)⟩)
end MMV
