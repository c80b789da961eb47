/-! runs of the constructors' machine are runs on the JVM -/
def cc_wk (k : Nat) : List Cond := Cond.code (cc_yn k) (cc_by k) (cc_ml k) none :: mm_tsG
def cc_Pc (D : va_G) (tx : Nat → Nat) (cy : Nat → ClassId) (z0 : Nat) (ad : Nat → Nat) (as : List cc_V) (hp : cc_H) : Array Value → State → Prop := fun v U => (∃ ws : List Value, v = ws.toArray ∧ cc_sr ad tx hp.length as ws) ∧ z0 ≤ U.heap.size ∧ cc_B D tx cy z0 ad hp.length hp ad U.heap ∧ mm_Wd D (fun _ n => tx n) cy (fun q => z0 ≤ q) U ∧ cc_Ao U
def cc_Q (D : va_G) (tx : Nat → Nat) (cy : Nat → ClassId) (z0 : Nat) (ad0 : Nat → Nat) (n0 : Nat) (hp : cc_H) : Array Value → State → Outcome → State → Prop := va_Qv (fun _ : Nat → Nat => True) (fun ad t => cc_B D tx cy z0 ad0 n0 hp ad t.heap) (fun q => z0 ≤ q)
/-- the contract of a constructor -/
def cc_Con (l : Launch) (D : va_G) (tx : Nat → Nat) (cy : Nat → ClassId) (z0 d k : Nat) (as : List cc_V) (hp : cc_H) (r : cc_R) : Prop :=
  ∀ ad : Nat → Nat, Met l (cc_yn k) (cc_wk k) (mm_rm d r.2.1 r.2.2) (cc_Pc D tx cy z0 ad as hp) (cc_Q D tx cy z0 ad hp.length r.1) r.2.1 r.2.2 (fun q => z0 ≤ q)
theorem cc_blind (D : va_G) (tx : Nat → Nat) (cy : Nat → ClassId) (z0 : Nat) (ad : Nat → Nat) (as : List cc_V) (hp : cc_H) : FrameBlind (cc_Pc D tx cy z0 ad as hp) := by
  intro a U g mk h
  obtain ⟨h1, h2, h3, h4, h5⟩ := h
  exact ⟨h1, h2, h3, h4.calling, cc_Ao.moved (u := U) (U := U.calling g mk a) (Vm.Alike.refl U.vm) h5⟩
def cc_Snd (l : Launch) (D : va_G) (tx : Nat → Nat) (cy : Nat → ClassId) (z0 d k : Nat) (S : cc_S) (r : cc_R) : Prop :=
  ∀ (p : Program) (e : Env) (R : Room) (s : State) (mid : MethodId) (args : Array Value) (below : List Frame) (meth : Method) (c : Code) (ad0 : Nat → Nat) (n0 mc ms : Nat), cc_Cx p s mid args meth c D tx cy z0 k → (d + 16 ≤ R.frames ∧ 64 * d + 400 ≤ R.locals ∧ mc ≤ R.cells ∧ ms ≤ R.slots) →
    cc_G p l e R s mid args below meth c (MQ below (cc_Q D tx cy z0 ad0 n0 r.1) args s mc ms (fun q => z0 ≤ q)) D tx cy z0 ad0 n0 mc ms k r.2.1 r.2.2 S.1 S.2.1 S.2.2.1 S.2.2.2
theorem cc_sr_len {ad tx : Nat → Nat} {n : Nat} : ∀ (as : List cc_V) (ws : List Value), cc_sr ad tx n as ws → ws.length = as.length
  | [], [], _ => rfl
  | v :: st, w :: ws, h => by rw [List.length_cons, List.length_cons, cc_sr_len st ws h.2]
  | [], _ :: _, h => h.elim
  | _ :: _, [], h => h.elim
theorem cc_start {ad tx : Nat → Nat} {n k : Nat} {as : List cc_V} {ws : List Value} (hs : cc_sr ad tx n as ws) (hlen : as.length ≤ cc_ml k) : cc_lr ad tx n ((lg_sl ws ++ List.replicate (cc_ml k - (lg_sl ws).length) Slot.unset).toArray) (cc_ml k) (cc_L0 k as) := by
  have hcat : ∀ (as : List cc_V) (ws : List Value), cc_sr ad tx n as ws → lg_sl ws = ws.map Slot.val := by
    intro as
    induction as with
    | nil =>
      intro ws hs
      match ws, hs with
      | [], _ => rfl
    | cons v as ih =>
      intro ws hs
      match ws, hs with
      | w :: ws, ⟨h1, h2⟩ =>
        have hc : w.category = 1 := cc_cat h1
        have ih2 := ih ws h2
        unfold lg_sl at ih2 ⊢
        rw [List.flatMap_cons, ih2, hc]
        rfl
  have hget : ∀ (as : List cc_V) (ws : List Value), cc_sr ad tx n as ws → ∀ (k : Nat) (v : cc_V), as[k]? = some v → ∃ w, ws[k]? = some w ∧ cc_vr ad tx n v w := by
    intro as
    induction as with
    | nil => intro ws _ k v h; simp at h
    | cons u as ih =>
      intro ws hs k v h
      match ws, hs with
      | w :: ws, ⟨h1, h2⟩ =>
        cases k with
        | zero => cases h; exact ⟨w, rfl, h1⟩
        | succ k => exact ih ws h2 k v h
  have e := hcat as ws hs
  have hwl := cc_sr_len _ _ hs
  have hle : (lg_sl ws).length ≤ cc_ml k := by rw [e, List.length_map, hwl]; exact hlen
  have hl := lv_entry ws hle
  refine ⟨hl.1, hl.2.1, ?_, ?_⟩
  · unfold cc_L0
    rw [List.length_append, List.length_map, List.length_replicate]
    omega
  · intro j v hj
    unfold cc_L0 at hj
    have hja : j < as.length := by
      by_cases hja : j < as.length
      · exact hja
      · rw [List.getElem?_append_right (by rw [List.length_map]; omega)] at hj
        rw [List.getElem?_replicate] at hj
        split at hj <;> cases hj
    rw [List.getElem?_append_left (by rw [List.length_map]; exact hja), List.getElem?_map] at hj
    cases ha : as[j]? with
    | none => rw [ha] at hj; cases hj
    | some u =>
      rw [ha] at hj
      cases hj
      obtain ⟨w, hw, hv⟩ := hget as ws hs j v ha
      refine ⟨w, ?_, hv⟩
      rw [e, List.getElem?_toArray, List.getElem?_append_left (by rw [List.length_map]; exact (List.getElem?_eq_some_iff.mp hw).1), List.getElem?_map, hw]
      rfl
theorem cc_fillk : Cond.initialized "java/util/Arrays" ∈ lw_tbl ∧ Cond.code (cc_yn 13) (cc_by 13) (cc_ml 13) none ∈ lw_tbl ∧ Cond.static (cc_yn 13) ∈ lw_tbl := by
  obtain ⟨h1, h2, h3, -⟩ := mm_m291
  exact ⟨h1, h2.1, h3⟩
theorem cc_names : (List.range 14).all (fun k => decide ((cc_yn k).cls = cc_rn k) && (plainName (cc_yn k).cls && (Nat.ble 13 k || decide ((cc_yn k).name = "<init>")))) = true := by decide +kernel
theorem cc_code_in {k : Nat} (hk : k < 14) : Cond.code (cc_yn k) (cc_by k) (cc_ml k) none ∈ lw_tbl := by
  by_cases h : k < 13
  · exact (cc_kok k h).2.1.1
  · have e : k = 13 := by omega
    subst e
    exact cc_fillk.2.1
theorem cc_wk_good {k : Nat} (hk : k < 14) : GoodIn mm_tsG (cc_wk k) := by
  intro w hw
  rcases List.mem_cons.mp hw with rfl | hw
  · exact ⟨mm_tsG_in (cc_code_in hk) rfl, good_of_word rfl⟩
  · exact ⟨hw, good_of_word (List.mem_filter.mp hw).2⟩
/-- a constructor's contract out of its run -/
theorem cc_con_of {l : Launch} {D : va_G} {tx : Nat → Nat} {cy : Nat → ClassId} {z0 d k : Nat} {as : List cc_V} {hp : cc_H} {r : cc_R} (hk : k < 14) (hlen : as.length ≤ cc_ml k) (h : cc_Snd l D tx cy z0 d k (0, cc_L0 k as, [], hp) r) : cc_Con l D tx cy z0 d k as hp r := by
  intro ad
  have hn := List.all_eq_true.mp cc_names k (List.mem_range.mpr hk)
  have hn := (Bool.and_eq_true _ _).mp hn
  have hn2 := (Bool.and_eq_true _ _).mp hn.2
  refine Met.ofW (cc := cc_by k) (maxL := cc_ml k) (ret := none) hn2.1 rfl ?_
  intro p e s mid args below meth c s₁ B hml hpc
  obtain ⟨⟨ws, rfl, hs⟩, hz, hB, hWd, hAo⟩ := hpc
  have hts0 := atoms_spec (ws := cc_wk k) B.pre
  have hown : s.vm.findClass (cc_rn k) = some mid.cls := by
    rw [← of_decide_eq_true hn.1]
    exact findClass_of_methodNamed B.named
  have C : cc_Cx p s mid ws.toArray meth c D tx cy z0 k := ⟨B.exec, B.bytes, hml, hown, fun w hw hg => hts0 w (List.mem_cons_of_mem _ (mm_tsG_in hw hg)), hWd, B.returns, B.notSynchronized, hz, fun h13 => by
    rcases (Bool.or_eq_true _ _).mp hn2.2 with h9 | h9
    · exact absurd (Nat.le_of_ble_eq_true h9) (by omega)
    · exact (name_of_methodNamed B.named B.method).1.trans (of_decide_eq_true h9), hAo⟩
  rw [lg_entry_eq]
  exact h p e (mm_rm d r.2.1 r.2.2) s mid ws.toArray below meth c ad hp.length r.2.1 r.2.2 C ⟨Nat.le_refl _, Nat.le_refl _, Nat.le_refl _, Nat.le_refl _⟩ ad s.heap [] 0 0 _ [] hB va_S.rf (cc_start hs hlen) trivial (by omega) (by omega)
section CCR
variable {p : Program} {l : Launch} {e : Env} {R : Room} {s : State} {mid : MethodId} {args : Array Value} {below : List Frame} {meth : Method} {c : Code} {Q : State → Prop} {D : va_G} {tx : Nat → Nat} {cy : Nat → ClassId} {z0 : Nat} {ad0 : Nat → Nat} {n0 mc ms k kk nn pc : Nat} {L : List (Option cc_V)} {st : List cc_V} {hp : cc_H}
theorem cc_pre {H : Heap} {locs : List Loc} {ad : Nat → Nat} {as : List cc_V} {As : List Value} (C : cc_Cx p s mid args meth c D tx cy z0 k) (hB : cc_B D tx cy z0 ad0 n0 hp ad H) (hS : va_S (fun q => z0 ≤ q) s.heap H locs) (hs : cc_sr ad tx hp.length as As) : ∀ U : State, U.heap = H → s.WarmedH U.vm → cc_Pc D tx cy z0 ad as hp As.toArray U := by
  intro U hU hW
  refine ⟨⟨As, rfl, hs⟩, by rw [hU]; exact Nat.le_trans C.2.2.2.2.2.2.2.2.1 hS.1, ?_, ?_, cc_Ao.moved hW.alike C.2.2.2.2.2.2.2.2.2.2⟩
  · rw [hU]
    exact ⟨fun _ _ => rfl, Nat.le_refl _, hB.2.2.1, hB.2.2.2.1, hB.2.2.2.2⟩
  · exact mm_Wd.warm (H0 := H) hW C.2.2.2.2.2.1 (fun a h1 h2 => by rw [hU]; exact hS.2.1 a h1 h2) (fun _ h => h)
/-- behind a call -/
theorem cc_callk {H : Heap} {locs : List Loc} {cells slots : Nat} {ls : Array Slot} {stk0 rest : List Value} {r : cc_R} {a : Array Value} {ad : Nat → Nat} (C : cc_Cx p s mid args meth c D tx cy z0 k) (hr : va_Run p l e R s mid args below meth c H locs cells slots r.2.1 r.2.2 (F0 mid pc ls stk0) rest (cc_Q D tx cy z0 ad hp.length r.1 a) (fun q => z0 ≤ q)) (hB : cc_B D tx cy z0 ad0 n0 hp ad H) (hS : va_S (fun q => z0 ≤ q) s.heap H locs) (hls : cc_lr ad tx hp.length ls (cc_ml k) L) (hs : cc_sr ad tx hp.length st rest)
    (hG : cc_G p l e R s mid args below meth c Q D tx cy z0 ad0 n0 mc ms k kk nn (pc + 3) L st r.1) (hc1 : cells + (r.2.1 + kk) ≤ mc) (hc2 : slots + (r.2.2 + nn) ≤ ms) : W p l e R s mid args below meth c H locs cells slots Q (F0 mid pc ls stk0) := by
  refine va_callv hr hS (fun q _ h => h) (fun q h => h) (fun ad' t H1 locs1 ht hvm _ hB1 hz1 hk1 hS1 => ?_)
  rw [ht] at hB1
  have hB2 : cc_B D tx cy z0 ad0 n0 r.1 ad' H1 := ⟨fun i hi => by rw [hB1.1 i (Nat.lt_of_lt_of_le hi hB.2.1)]; exact hB.1 i hi, Nat.le_trans hB.2.1 hB1.2.1, hB1.2.2.1, hB1.2.2.2.1, hB1.2.2.2.2⟩
  exact hG ad' H1 locs1 _ _ ls rest hB2 hS1 (hls.mono hB1.2.1 hB1.1) (cc_sr.mono hB1.2.1 hB1.1 _ _ hs) (by omega) (by omega)
theorem c_ctor {idx x i d : Nat} {r : cc_R} (C : cc_Cx p s mid args meth c D tx cy z0 k) (hR : d + 17 ≤ R.frames ∧ 64 * d + 464 ≤ R.locals ∧ mc ≤ R.cells ∧ ms ≤ R.slots) (hd : decode (cc_by k) pc = .ok (.invokespecial idx, 3)) (hm : cc_mlk k idx x) (hx : x < 13) (hst : st.length ≤ 8) (hcon : cc_Con l D tx cy z0 d x [.inr (some (.inl i))] hp r) (hG : cc_G p l e R s mid args below meth c Q D tx cy z0 ad0 n0 mc ms k kk nn (pc + 3) L st r.1) : cc_G p l e R s mid args below meth c Q D tx cy z0 ad0 n0 mc ms k (r.2.1 + kk) (r.2.2 + nn) pc L (.inr (some (.inl i)) :: st) hp := by
  intro ad H locs cells slots ls stk hB hS hls hs hc1 hc2
  match stk, hs with
  | w :: stk, ⟨hz, hs⟩ =>
    have hz9 := hz
    have hz := cc_ref_in hz
    subst hz
    have hwd := cc_sr_wd _ _ hs
    have hk := cc_kok x hx
    rcases hm with ⟨h9, -⟩ | ⟨-, host, hlk⟩ | ⟨h9, -⟩
    · omega
    · have hini : (Cond.initialized (cc_yn x).cls).before args s = true := C.2.2.2.2.1 _ (by rw [hk.2.2.2.2.1]; exact hk.1) rfl
      refine cc_callk C (va_runIN (nL := cc_ml k) (As := []) (rest := stk) (Ts := mm_tsG) ⟨C.1, C.2.1, C.2.2.1, C.2.2.2.1, cc_ts C⟩ (hcon ad) ⟨va_cnB (Ts := mm_tsG) (host := host) 0 (cc_ts C) (cc_wk_good (by omega)) rfl rfl rfl (C.2.2.2.2.2.1.2.1 _ hlk rfl) hini ⟨hk.2.2.2.2.2.2.1, hk.2.2.2.2.2.2.2.1, hk.2.2.2.2.2.2.2.2⟩ ⟨mm_room0 (by omega), mm_room1 hk.2.1.2 (by omega)⟩, hk.2.2.2.2.2.1, C.2.2.2.2.1 _ hk.2.2.1 rfl⟩ ⟨cc_blind _ _ _ _ _ _ _, cc_pre (As := [.ref (ad i)]) C hB hS ⟨⟨hz9.1, rfl⟩, trivial⟩⟩ rfl rfl hls.1 rfl (lv_room (by omega)) hd ⟨by omega, by omega⟩) hB hS hls hs hG hc1 hc2
    · omega
theorem c_fill {idx i d : Nat} {u : Int32} {r : cc_R} (C : cc_Cx p s mid args meth c D tx cy z0 k) (hR : d + 17 ≤ R.frames ∧ 64 * d + 464 ≤ R.locals ∧ mc ≤ R.cells ∧ ms ≤ R.slots) (hd : decode (cc_by k) pc = .ok (.invokestatic idx, 3)) (hm : cc_mlk k idx 13) (hst : st.length ≤ 8) (hcon : cc_Con l D tx cy z0 d 13 [.inr (some (.inl i)), .inl u] hp r) (hG : cc_G p l e R s mid args below meth c Q D tx cy z0 ad0 n0 mc ms k kk nn (pc + 3) L st r.1) : cc_G p l e R s mid args below meth c Q D tx cy z0 ad0 n0 mc ms k (r.2.1 + kk) (r.2.2 + nn) pc L (.inl u :: .inr (some (.inl i)) :: st) hp := by
  intro ad H locs cells slots ls stk hB hS hls hs hc1 hc2
  match stk, hs with
  | _ :: w :: stk, ⟨⟨_, rfl⟩, hz, hs⟩ =>
    have hz9 := hz
    have hz := cc_ref_in hz
    subst hz
    have hwd := cc_sr_wd _ _ hs
    have hlk : Cond.methodLink (cc_rn k) idx (cc_yn 13) ∈ lw_tbl := by
      rcases hm with ⟨h9, -⟩ | ⟨h9, -⟩ | ⟨-, h9⟩
      · omega
      · omega
      · exact h9
    refine cc_callk C (va_runS (nL := cc_ml k) (As := [.ref (ad i), .int u]) (rest := stk) (Ts := mm_tsG) ⟨C.1, C.2.1, C.2.2.1, C.2.2.2.1, cc_ts C⟩ (hcon ad) ⟨callB_of (Ts := mm_tsG) 2 (cc_ts C) (cc_wk_good (by omega)) rfl rfl rfl (C.2.2.2.2.1 _ cc_fillk.1 rfl) (C.2.2.2.2.1 _ hlk rfl) (by decide +kernel) ⟨mm_room0 (by omega), mm_room1 (by decide) (by omega)⟩, C.2.2.2.2.1 _ cc_fillk.2.2 rfl⟩ ⟨cc_blind _ _ _ _ _ _ _, cc_pre (As := [.ref (ad i), .int u]) C hB hS ⟨⟨hz9.1, rfl⟩, ⟨rfl, rfl⟩, trivial⟩⟩ rfl rfl hls.1 rfl (lv_room (by omega)) hd ⟨by omega, by omega⟩) hB hS hls hs hG hc1 hc2
end CCR
theorem cc_act_in {i : Instr} {len x y pc : Nat} {v : Int32} {L : List (Option cc_V)} {st : List cc_V} {hp : cc_H} {a : cc_A} (h : cc_act i len v x y pc L st hp = some a) : (∃ S, a = .inl S) ∨ (i = .return_ ∧ st = [] ∧ a = .inr (.inr ())) ∨ (∃ idx j st2, i = .invokespecial idx ∧ x < 13 ∧ st = .inr (some (.inl j)) :: st2 ∧ st2.length ≤ 8 ∧ a = .inr (.inl (x, [.inr (some (.inl j))], (pc + len, L, st2, hp)))) ∨ (∃ idx j u st2, i = .invokestatic idx ∧ x = 13 ∧ st = .inl u :: .inr (some (.inl j)) :: st2 ∧ st2.length ≤ 8 ∧ a = .inr (.inl (x, [.inr (some (.inl j)), .inl u], (pc + len, L, st2, hp)))) := by
  have kk : ∀ {pc : Nat} {L : List (Option cc_V)} {st : List cc_V} {hp : cc_H}, cc_k pc L st hp = some a → ∃ S, a = .inl S := fun h => ⟨_, (Option.some.inj h).symm⟩
  have kp : ∀ {pc : Nat} {L : List (Option cc_V)} {st : List cc_V} {hp es : cc_H} {a1 b1 : Nat}, cc_push pc L st hp es a1 b1 = some a → ∃ S, a = .inl S := fun h => ⟨_, (Option.some.inj h).symm⟩
  have kb : ∀ {b : Bool} {X : Option cc_A}, (bif b then X else none) = some a → b = true ∧ X = some a := by
    intro b X h
    cases b with
    | true => exact ⟨rfl, h⟩
    | false => cases h
  unfold cc_act at h
  split at h
  all_goals first
    | exact Or.inl (kk h)
    | exact Or.inl (kp h)
    | (cases h; done)
    | (split at h <;> first
        | (cases h; exact Or.inr (Or.inl ⟨rfl, rfl, rfl⟩))
        | exact Or.inl (kk h)
        | exact Or.inl (kk (kb h).2)
        | (cases h; done)
        | (split at h <;> first
            | exact Or.inl (kk h)
            | exact Or.inl (kp h)
            | exact Or.inl (kk (kb h).2)
            | (cases h; done)
            | (split at h <;> first
                | exact Or.inl (kk (kb h).2)
                | exact Or.inl (kk h)
                | (cases h; done))
            | (have h := (kb h).2; split at h <;> first
                | exact Or.inl (kk h)
                | (cases h; done)))
        | skip)
  · rename_i j st2
    cases hb : Nat.beq x 99 with
    | true =>
      rw [hb] at h
      exact Or.inl (kk (kb h).2)
    | false =>
      rw [hb] at h
      obtain ⟨h1, h2⟩ := kb (show (bif Nat.blt x 13 && (Nat.ble st2.length 8 && Nat.blt j hp.length) then some (.inr (.inl (x, [.inr (some (.inl j))], (pc + len, L, st2, hp)))) else none) = some a from h)
      have h1 := (Bool.and_eq_true _ _).mp h1
      have h3 := (Bool.and_eq_true _ _).mp h1.2
      exact Or.inr (Or.inr (Or.inl ⟨_, j, st2, rfl, Nat.le_of_ble_eq_true h1.1, rfl, Nat.le_of_ble_eq_true h3.1, (Option.some.inj h2).symm⟩))
  · rename_i u j st2
    obtain ⟨h1, h2⟩ := kb h
    have h1 := (Bool.and_eq_true _ _).mp h1
    have h3 := (Bool.and_eq_true _ _).mp h1.2
    exact Or.inr (Or.inr (Or.inr ⟨_, j, u, st2, rfl, Nat.eq_of_beq_eq_true h1.1, rfl, Nat.le_of_ble_eq_true h3.1, (Option.some.inj h2).symm⟩))
theorem cc_step_in {k : Nat} {S : cc_S} {a : cc_A} (h : cc_step k S = some a) (hok : cc_okP k S.1 = true) : ∃ i len v x y, decode (cc_by k) S.1 = .ok (i, len) ∧ cc_okI k S.1 i len v x y = true ∧ cc_act i len v x y S.1 S.2.1 S.2.2.1 S.2.2.2 = some a := by
  unfold cc_step at h
  unfold cc_okP at hok
  cases hc : cc_cd k S.1 with
  | none => rw [hc] at h; cases h
  | some e =>
    obtain ⟨i, len, v, x, y⟩ := e
    rw [hc] at h hok
    have hok := (Bool.and_eq_true _ _).mp hok
    exact ⟨i, len, v, x, y, of_decide_eq_true hok.1, hok.2, h⟩
theorem cc_mls : (List.range 14).all (fun k => Nat.ble (bif Nat.beq k 13 then 2 else 1) (cc_ml k)) = true := by decide +kernel
theorem cc_sound {l : Launch} {D : va_G} {tx : Nat → Nat} {cy : Nat → ClassId} {z0 : Nat} : ∀ (n d k : Nat) (S : cc_S) (r : cc_R), cc_run n d k S = some r → k < 14 → cc_Snd l D tx cy z0 d k S r
  | 0, _, _, _, _, h, _ => by cases h
  | n + 1, d, k, S, r, h, hk => by
    unfold cc_run at h
    obtain ⟨pc, L, st, hp⟩ := S
    cases hst : cc_step k (pc, L, st, hp) with
    | none => rw [hst] at h; cases h
    | some a =>
      rw [hst] at h
      obtain ⟨i, len, v, x, y, hd, Ok, hact⟩ := cc_step_in hst (cc_kk k hk pc)
      dsimp only at hd Ok hact
      rcases cc_act_in hact with ⟨⟨S', a1, b1⟩, rfl⟩ | ⟨rfl, rfl, rfl⟩ | ⟨idx, j, st2, rfl, hx, rfl, hst8, rfl⟩ | ⟨idx, j, u, st2, rfl, rfl, rfl, hst8, rfl⟩
      · dsimp only at h
        cases hr2 : cc_run n d k S' with
        | none => rw [hr2] at h; cases h
        | some r2 =>
          rw [hr2] at h
          cases h
          have ih := cc_sound (l := l) (D := D) (tx := tx) (cy := cy) (z0 := z0) n d k S' r2 hr2 hk
          intro p e R s mid args below meth c ad0 n0 mc ms C hR
          obtain ⟨pc', L', st', hp'⟩ := S'
          exact c_act C hR.2.2 ⟨by omega, by omega⟩ Ok hd hact (ih p e R s mid args below meth c ad0 n0 mc ms C hR)
      · cases h
        intro p e R s mid args below meth c ad0 n0 mc ms C hR ad H locs cells slots ls stk hB hS hls hs hc1 hc2
        have e1 : len = 1 := Nat.eq_of_beq_eq_true Ok
        subst e1
        match stk, hs with
        | [], _ =>
        have hB : cc_B D tx cy z0 ad0 n0 hp ad H := hB
        refine W.widen (k := mc) (n := ms) (by omega) (by omega) ?_
        exact W.vret C.1 C.2.1 C.2.2.2.2.2.2.1 (fun t ht hw => ⟨⟨ad, rfl, trivial, by show cc_B D tx cy z0 ad0 n0 hp ad t.heap; rw [ht]; exact hB⟩, hS.F ht⟩) (fun q hq => hS.2.2 q hq) hd C.2.2.2.2.2.2.2.1
      · dsimp only at h
        cases d with
        | zero => cases h
        | succ d =>
          dsimp only at h
          cases hrun : cc_run n d x (0, cc_L0 x [.inr (some (.inl j))], [], hp) with
          | none => rw [hrun] at h; cases h
          | some r1 =>
            rw [hrun] at h
            obtain ⟨hp1, a1, b1⟩ := r1
            dsimp only at h
            have Ok := (Bool.and_eq_true _ _).mp Ok
            have e1 : len = 3 := Nat.eq_of_beq_eq_true Ok.1
            subst e1
            have hm := cc_anym Ok.2
            cases hr2 : cc_run n (d + 1) k (pc + 3, L, st2, hp1) with
            | none => rw [hr2] at h; cases h
            | some r2 =>
              rw [hr2] at h
              cases h
              have ih1 := cc_sound (l := l) (D := D) (tx := tx) (cy := cy) (z0 := z0) n d x _ _ hrun (by omega)
              have ih2 := cc_sound (l := l) (D := D) (tx := tx) (cy := cy) (z0 := z0) n (d + 1) k _ _ hr2 hk
              have hml := List.all_eq_true.mp cc_mls x (List.mem_range.mpr (by omega))
              have hcon := cc_con_of (l := l) (k := x) (by omega) (by
                have h9 := Nat.le_of_ble_eq_true hml
                show 1 ≤ cc_ml x
                cases hb : Nat.beq x 13 with
                | true => rw [hb] at h9; exact Nat.le_trans (by decide) h9
                | false => rw [hb] at h9; exact h9) ih1
              intro p e R s mid args below meth c ad0 n0 mc ms C hR
              exact c_ctor (r := (hp1, a1, b1)) C ⟨by omega, by omega, hR.2.2.1, hR.2.2.2⟩ hd hm hx hst8 hcon (ih2 p e R s mid args below meth c ad0 n0 mc ms C hR)
      · dsimp only at h
        cases d with
        | zero => cases h
        | succ d =>
          dsimp only at h
          cases hrun : cc_run n d 13 (0, cc_L0 13 [.inr (some (.inl j)), .inl u], [], hp) with
          | none => rw [hrun] at h; cases h
          | some r1 =>
            rw [hrun] at h
            obtain ⟨hp1, a1, b1⟩ := r1
            dsimp only at h
            have Ok := (Bool.and_eq_true _ _).mp Ok
            have e1 : len = 3 := Nat.eq_of_beq_eq_true Ok.1
            subst e1
            have hm := cc_anym Ok.2
            cases hr2 : cc_run n (d + 1) k (pc + 3, L, st2, hp1) with
            | none => rw [hr2] at h; cases h
            | some r2 =>
              rw [hr2] at h
              cases h
              have ih1 := cc_sound (l := l) (D := D) (tx := tx) (cy := cy) (z0 := z0) n d 13 _ _ hrun (by omega)
              have ih2 := cc_sound (l := l) (D := D) (tx := tx) (cy := cy) (z0 := z0) n (d + 1) k _ _ hr2 hk
              have hcon := cc_con_of (l := l) (k := 13) (as := [.inr (some (.inl j)), .inl u]) (by omega) (show 2 ≤ cc_ml 13 by decide) ih1
              intro p e R s mid args below meth c ad0 n0 mc ms C hR
              exact c_fill (r := (hp1, a1, b1)) C ⟨by omega, by omega, hR.2.2.1, hR.2.2.2⟩ hd hm hst8 hcon (ih2 p e R s mid args below meth c ad0 n0 mc ms C hR)
