/-! runs of the little machine are runs on the JVM -/
theorem mm_rnok : (List.range 292).all (fun x => decide (mm_rn (mm_mt x).1 = (mm_yn x).cls) && plainName (mm_yn x).cls) = true := by decide +kernel
theorem mm_hsok : (List.range 292).all (fun x => (mm_hs x).isEmpty || (Nat.beq (mm_mt x).1 13 && (mm_hs x).all (fun q => Nat.beq q.2.2.2 0 || Nat.beq q.2.2.2 1))) = true := by decide +kernel
theorem mm_hs_in {x : Nat} (hx : x < 292) (h : mm_hs x ≠ []) : (mm_mt x).1 = 13 ∧ ∀ q ∈ mm_hs x, q.2.2.2 = 0 ∨ q.2.2.2 = 1 := by
  have h1 := List.all_eq_true.mp mm_hsok x (List.mem_range.mpr hx)
  rcases (Bool.or_eq_true _ _).mp h1 with h2 | h2
  · exact absurd (List.isEmpty_iff.mp h2) h
  · have h2 := (Bool.and_eq_true _ _).mp h2
    refine ⟨Nat.eq_of_beq_eq_true h2.1, fun q hq => ?_⟩
    have h3 := List.all_eq_true.mp h2.2 q hq
    rcases (Bool.or_eq_true _ _).mp h3 with h4 | h4
    · exact Or.inl (Nat.eq_of_beq_eq_true h4)
    · exact Or.inr (Nat.eq_of_beq_eq_true h4)
theorem mm_en_in {k : Nat} {S : mm_S} {o : mm_O} (h : mm_step k S = some (.inr (.inr o))) (hok : mm_okP k S.1 = true) : ∀ x, o = .inr x → x = 0 ∨ x = 1 := by
  intro e he
  subst he
  obtain ⟨i, len, v, x, y, q, -, hd, Ok, hq, hact⟩ := mm_step_in h hok
  obtain ⟨pc, L, st, m⟩ := S
  dsimp only at hact hd Ok
  by_cases hi : mm_spec i = false
  · obtain ⟨S9, h9⟩ := mm_plain hi hact
    cases h9
  · have nocall : mm_call x y (pc + len) (mm_mask q L) st m = some (.inr (.inr (.inr e))) → False := by
      intro h
      obtain ⟨-, ⟨-, hj⟩ | ⟨-, hj⟩⟩ := mm_call_in h
      · obtain ⟨S9, h9⟩ := mm_jdk_in hj
        cases h9
      · cases hj
    cases i with
    | invokestatic a0 => exact (nocall hact).elim
    | invokevirtual a0 =>
      have h : (bif mm_recv x y st then mm_call x y (pc + len) (mm_mask q L) st m else none) = some (.inr (.inr (.inr e))) := hact
      cases hb : mm_recv x y st with
      | false => rw [hb] at h; cases h
      | true => rw [hb] at h; exact (nocall h).elim
    | ireturn =>
      rcases st with _ | ⟨b | b | b, _ | ⟨c | c | c, st⟩⟩
      · cases hact
      · cases x with
        | zero => cases hact
        | succ x9 =>
          have h : (if b = 0 ∨ b = 1 then some (.inr (.inr (.inl (some (.inl b))))) else none) = some (Sum.inr (Sum.inr (Sum.inr e)) : mm_A) := hact
          split at h <;> cases h
      all_goals cases hact
    | areturn => rcases st with _ | ⟨b | b | _ | b, _ | ⟨c | c | c, st⟩⟩ <;> cases hact
    | return_ => rcases st with _ | ⟨b | b | b, _ | ⟨c | c | c, st⟩⟩ <;> cases hact
    | new a0 =>
      have Ok := (Bool.and_eq_true _ _).mp Ok
      have Ok2 := (Bool.and_eq_true _ _).mp Ok.2
      have h3 := Nat.le_of_ble_eq_true Ok2.1
      rcases st with _ | ⟨b | b | b, _ | ⟨c | c | c, st⟩⟩ <;> cases hact
      omega
    | _ => exact absurd rfl hi
section MMX
variable {p : Program} {l : Launch} {e : Env} {R : Room} {s : State} {mid : MethodId} {args : Array Value} {below : List Frame} {meth : Method} {c : Code} {Q : State → Prop} {D : va_G} {ad : Nat → Nat → Nat} {cy : Nat → ClassId} {A : Nat → Prop} {xs : Nat → Int32} {xn : Nat} {mc ms : Nat} {k : Nat} {kk nn : Nat} {pc : Nat} {L : List (Option mm_V)} {st : List mm_V} {m : mm_M}
theorem s_ends {o : mm_O} (C : mm_Cx p s mid args meth c D ad cy A xs xn k) (hfl : l.stackTraces = false) (hET : c.exceptionTable.toList = tableOf (mm_hh k)) (hA : ∀ q, s.heap.size ≤ q → A q) (hR : 8 ≤ R.frames ∧ 200 ≤ R.locals ∧ mc ≤ R.cells ∧ ms ≤ R.slots) (hok : mm_okP k pc = true) (hst : mm_step k (pc, L, st, m) = some (.inr (.inr o))) :
    mm_G p l e R s mid args below meth c (vx_MQ below (mm_Qc D ad cy xs xn o m A) (mm_XC D ad cy xs xn o m A) args s mc ms A) D ad cy A xs xn mc ms k (mm_o1 o) (mm_o6 o) pc L st m := by
  obtain ⟨i, len, v, x, y, q, -, hd, Ok, hq, hact⟩ := mm_step_in hst hok
  dsimp only at hact hd Ok
  suffices h : mm_G p l e R s mid args below meth c (vx_MQ below (mm_Qc D ad cy xs xn o m A) (mm_XC D ad cy xs xn o m A) args s mc ms A) D ad cy A xs xn mc ms k (mm_o1 o) (mm_o6 o) pc (mm_mask q L) st m by
    intro H locs cells slots ls stk hP hcv hsv hS hl hs hc1 hc2
    exact h H locs cells slots ls stk hP hcv hsv hS (mm_mask_lr hl hq) hs hc1 hc2
  have nocall : mm_call x y (pc + len) (mm_mask q L) st m = some (.inr (.inr o)) → False := by
    intro h
    obtain ⟨-, ⟨-, hj⟩ | ⟨-, hj⟩⟩ := mm_call_in h
    · obtain ⟨S9, h9⟩ := mm_jdk_in hj
      cases h9
    · cases hj
  by_cases hi : mm_spec i = false
  · obtain ⟨S9, h9⟩ := mm_plain hi hact
    cases h9
  · cases i with
    | invokestatic a0 => exact (nocall hact).elim
    | invokevirtual a0 =>
      have h : (bif mm_recv x y st then mm_call x y (pc + len) (mm_mask q L) st m else none) = some (.inr (.inr o)) := hact
      cases hb : mm_recv x y st with
      | false => rw [hb] at h; cases h
      | true => rw [hb] at h; exact (nocall h).elim
    | ireturn =>
      have Ok := (Bool.and_eq_true _ _).mp Ok
      have e := Nat.eq_of_beq_eq_true Ok.1
      subst e
      have Ok := Ok.2
      rcases st with _ | ⟨b | b | b, _ | ⟨a, st⟩⟩
      · cases hact
      · cases x with
        | zero =>
          cases hact
          refine s_iret C hd ?_
          cases hr : mm_rt k with
          | none => rw [hr] at Ok; cases Ok
          | some t => rw [hr] at Ok; cases t <;> first | rfl | (cases Ok; done)
        | succ x9 =>
          have h : (if b = 0 ∨ b = 1 then some (.inr (.inr (.inl (some (.inl b))))) else none) = some (Sum.inr (Sum.inr o) : mm_A) := hact
          split at h
          · rename_i h01
            cases h
            refine s_zret C hd ?_ h01
            cases hr : mm_rt k with
            | none => rw [hr] at Ok; cases Ok
            | some t => rw [hr] at Ok; cases t <;> first | rfl | (cases Ok; done)
          · cases h
      · rcases a with a | a | a <;> cases hact
      · cases hact
      · cases hact
      · cases hact
      · cases hact
    | return_ =>
      have Ok := (Bool.and_eq_true _ _).mp Ok
      have e := Nat.eq_of_beq_eq_true Ok.1
      subst e
      have hr := Option.isNone_iff_eq_none.mp Ok.2
      rcases st with _ | ⟨b | b | b, _ | ⟨a | a | a, st⟩⟩ <;> cases hact
      exact s_vret C hd hr
    | areturn =>
      have Ok := (Bool.and_eq_true _ _).mp Ok
      have e := Nat.eq_of_beq_eq_true Ok.1
      subst e
      have Ok := Ok.2
      rcases st with _ | ⟨b | b | _ | b, _ | ⟨a, st⟩⟩
      · cases hact
      · cases hact
      · rcases a with a | a | a <;> cases hact
      · cases hact
      · cases hact
      · cases hact
      · cases hact
      · cases hact
        refine s_aret C hd ?_
        cases hr : mm_rt k with
        | none => rw [hr] at Ok; cases Ok
        | some t => rw [hr] at Ok; cases t <;> first | exact ⟨_, rfl⟩ | (cases Ok; done)
      · cases hact
    | new a0 =>
      have Ok := (Bool.and_eq_true _ _).mp Ok
      have e := Nat.eq_of_beq_eq_true Ok.1
      subst e
      have Ok := (Bool.and_eq_true _ _).mp Ok.2
      have Ok2 := (Bool.and_eq_true _ _).mp Ok.2
      have Ok3 := (Bool.and_eq_true _ _).mp Ok2.2
      have Ok4 := (Bool.and_eq_true _ _).mp Ok3.2
      have hx1 := Nat.le_of_ble_eq_true Ok.1
      have e := Nat.eq_of_beq_eq_true Ok2.1
      subst e
      have h11 := Nat.eq_of_beq_eq_true Ok3.1
      have hhs := List.isEmpty_iff.mp Ok4.1
      have hE := (Bool.and_eq_true _ _).mp Ok4.2
      have hT : c.exceptionTable.toList = [] := by
        rw [hET]
        unfold mm_hh
        rw [hhs]
        rfl
      rcases st with _ | ⟨b | b | b, _ | ⟨a | a | a, st⟩⟩ <;> cases hact
      have hE2 := hE.2
      have fin : ∀ n : Nat, mm_xt.any (fun t => Nat.beq t.1 11 && Nat.beq t.2.1 n) = true → ∃ tx, (11, n, tx) ∈ mm_xt := by
        intro n hn
        obtain ⟨t, h1, h2⟩ := List.any_eq_true.mp hn
        have h2 := (Bool.and_eq_true _ _).mp h2
        have e1 := Nat.eq_of_beq_eq_true h2.1
        have e2 := Nat.eq_of_beq_eq_true h2.2
        obtain ⟨t1, t2, tx⟩ := t
        dsimp only at e1 e2
        subst e1
        subst e2
        exact ⟨tx, h1⟩
      split at hE2
      · rename_i n h4
        have hE3 := (Bool.and_eq_true _ _).mp hE2
        have hE4 := (Bool.and_eq_true _ _).mp hE3.2
        obtain ⟨tx, htx⟩ := fin n hE4.2
        exact s_throw C (by omega) hfl h11 hT hA hR htx hd (of_decide_eq_true hE.1) (Or.inl ⟨h4, of_decide_eq_true hE3.1, of_decide_eq_true hE4.1⟩)
      · rename_i n h4
        have hE3 := (Bool.and_eq_true _ _).mp hE2
        have hE4 := (Bool.and_eq_true _ _).mp hE3.2
        obtain ⟨tx, htx⟩ := fin n hE4.2
        exact s_throw C (by omega) hfl h11 hT hA hR htx hd (of_decide_eq_true hE.1) (Or.inr ⟨h4, of_decide_eq_true hE3.1, of_decide_eq_true hE4.1⟩)
      · cases hE2
    | _ => exact absurd rfl hi
end MMX
/-- the run from S to r, as one on the JVM -/
def mm_Snd (l : Launch) (D : va_G) (ad : Nat → Nat → Nat) (cy : Nat → ClassId) (xs : Nat → Int32) (xn d k : Nat) (S : mm_S) (r : mm_R) : Prop :=
  ∀ (p : Program) (e : Env) (R : Room) (s : State) (mid : MethodId) (args : Array Value) (below : List Frame) (meth : Method) (c : Code) (Q : State → Prop) (A : Nat → Prop) (mc ms : Nat), mm_Cx p s mid args meth c D ad cy A xs xn k → c.exceptionTable.toList = tableOf (mm_hh k) → (∀ q, mm_Aw ad s.heap.size q → A q) → (d + 16 ≤ R.frames ∧ 64 * d + 400 ≤ R.locals ∧ mc ≤ R.cells ∧ ms ≤ R.slots) →
    (∀ pc L st, mm_step k (pc, L, st, r.2.1) = some (.inr (.inr r.1)) → mm_G p l e R s mid args below meth c Q D ad cy A xs xn mc ms k (mm_o1 r.1) (mm_o6 r.1) pc L st r.2.1) →
    (∀ x pc, r.1 = .inr x → mm_hd pc x (mm_hs k) = none → ∀ (H : Heap) (locs : List Loc) (cells slots : Nat) (ls : Array Slot) (rest : List Value) (q : Addr) (ce : Cell), mm_B D ad cy xs xn r.2.1 H → va_S A s.heap H locs → H[q]? = some ce → ce.vm = .none → s.vm.findClass (mm_xn x) = some ce.cls → cells ≤ mc → slots ≤ ms → vx_W p l e R s mid args below meth c H locs cells slots Q (F0 mid pc ls rest) q) →
    mm_G p l e R s mid args below meth c Q D ad cy A xs xn mc ms k r.2.2.1 r.2.2.2 S.1 S.2.1 S.2.2.1 S.2.2.2
/-- the addresses of our cells are apart -/
def mm_Ap (ad : Nat → Nat → Nat) (cy : Nat → ClassId) : Prop := ∀ m, va_D (fun _ => True) (mm_ws ad cy m)
theorem mm_Ap.in {ad : Nat → Nat → Nat} {cy : Nat → ClassId} (h : mm_Ap ad cy) {A : Nat → Prop} {n : Nat} (hA : ∀ q, mm_Aw ad n q → A q) (m : mm_M) : va_D A (mm_ws ad cy m) := by
  refine (h m).weaken (fun k q hk _ => hA q.1 (Or.inl ?_))
  unfold mm_ws at hk
  rw [List.getElem?_map] at hk
  cases hc : mm_cl[k]? with
  | none => rw [hc] at hk; cases hk
  | some z =>
    rw [hc] at hk
    cases hk
    exact ⟨z.1, z.2, List.mem_of_getElem? hc, rfl⟩
/-- the locals at a method's start -/
theorem mm_start {ad : Nat → Nat → Nat} {k : Nat} {as : List mm_V} {ws : List Value} (hs : mm_sr ad as ws) (hnl : ∀ v ∈ as, mm_nl v) (hlen : as.length ≤ (mm_mt k).2.2.2) : mm_lr ad ((lg_sl ws ++ List.replicate ((mm_mt k).2.2.2 - (lg_sl ws).length) Slot.unset).toArray) (mm_mt k).2.2.2 (mm_L0 k as) := by
  have hcat : ∀ (as : List mm_V) (ws : List Value), mm_sr ad as ws → (∀ v ∈ as, mm_nl v) → lg_sl ws = ws.map Slot.val := by
    intro as
    induction as with
    | nil =>
      intro ws hs _
      match ws, hs with
      | [], _ => rfl
    | cons v as ih =>
      intro ws hs hnl
      match ws, hs with
      | w :: ws, ⟨h1, h2⟩ =>
        have hc : w.category = 1 := mm_cat h1 (hnl v List.mem_cons_self)
        have ih2 := ih ws h2 (fun v hv => hnl v (List.mem_cons_of_mem _ hv))
        unfold lg_sl at ih2 ⊢
        rw [List.flatMap_cons, ih2, hc]
        rfl
  have hget : ∀ (as : List mm_V) (ws : List Value), mm_sr ad as ws → ∀ (k : Nat) (v : mm_V), as[k]? = some v → ∃ w, ws[k]? = some w ∧ mm_vr ad v w := by
    intro as
    induction as with
    | nil => intro ws _ k v h; simp at h
    | cons u as ih =>
      intro ws hs k v h
      match ws, hs with
      | w :: ws, ⟨h1, h2⟩ =>
        cases k with
        | zero => cases h; exact ⟨w, rfl, h1⟩
        | succ k => exact ih ws h2 k v h
  have e := hcat as ws hs hnl
  have hwl := mm_sr_len _ _ hs
  have hle : (lg_sl ws).length ≤ (mm_mt k).2.2.2 := by rw [e, List.length_map, hwl]; exact hlen
  have hl := lv_entry ws hle
  refine ⟨hl.1, hl.2.1, ?_, ?_⟩
  · unfold mm_L0
    rw [List.length_append, List.length_map, List.length_replicate]
    omega
  · intro j v hj
    unfold mm_L0 at hj
    have hja : j < as.length := by
      by_cases hja : j < as.length
      · exact hja
      · rw [List.getElem?_append_right (by rw [List.length_map]; omega)] at hj
        rw [List.getElem?_replicate] at hj
        split at hj <;> cases hj
    rw [List.getElem?_append_left (by rw [List.length_map]; exact hja), List.getElem?_map] at hj
    cases ha : as[j]? with
    | none => rw [ha] at hj; cases hj
    | some u =>
      rw [ha] at hj
      cases hj
      obtain ⟨w, hw, hv⟩ := hget as ws hs j v ha
      refine ⟨hnl v (List.mem_of_getElem? ha), w, ?_, hv⟩
      rw [e, List.getElem?_toArray, List.getElem?_append_left (by rw [List.length_map]; exact (List.getElem?_eq_some_iff.mp hw).1), List.getElem?_map, hw]
      rfl
/-- a method's contract out of its run -/
theorem mm_conS {l : Launch} (hfl : l.stackTraces = false) {D : va_G} {ad : Nat → Nat → Nat} {cy : Nat → ClassId} {xs : Nat → Int32} {xn d x : Nat} (hap : mm_Ap ad cy) {as : List mm_V} {m : mm_M} {r : mm_R} (h : mm_Snd l D ad cy xs xn d x (0, mm_L0 x as, [], m) r) (hxx : ∀ e, r.1 = .inr e → e = 0 ∨ e = 1) (hnl : ∀ v ∈ as, mm_nl v) (hlen : as.length ≤ (mm_mt x).2.2.2) (hx : x < 292)
    {p : Program} {e : Env} {s : State} {mid : MethodId} {args : Array Value} {below : List Frame} {meth : Method} {c : Code} {s₁ : State} {w : Cond} {sz : Nat} (B : BodyLoose p l (mm_yn x) (headSpec (w :: mm_tsG) (mm_rm d r.2.2.1 r.2.2.2)) (mm_by x) (mm_mt x).2.2.2 (mm_rt x) e s mid args below meth c s₁) (hml : c.maxLocals = (mm_mt x).2.2.2) (hET : c.exceptionTable.toList = tableOf (mm_hh x)) (hpc : mm_Pc D ad cy xs xn as m sz args s) :
    W p l e (headSpec (w :: mm_tsG) (mm_rm d r.2.2.1 r.2.2.2)).room s mid args below meth c s.heap [] 0 0 (vx_MQ below (mm_Qc D ad cy xs xn r.1 r.2.1 (mm_Aw ad sz)) (mm_XC D ad cy xs xn r.1 r.2.1 (mm_Aw ad sz)) args s r.2.2.1 r.2.2.2 (mm_Aw ad sz)) (entryFrame mid args (mm_mt x).2.2.2) := by
  obtain ⟨⟨ws, rfl, hs⟩, rfl, hB, hWd, hXs⟩ := hpc
  have hts0 := atoms_spec (ws := w :: mm_tsG) B.pre
  have hq := List.all_eq_true.mp mm_rnok x (List.mem_range.mpr hx)
  have hq := (Bool.and_eq_true _ _).mp hq
  have hown : s.vm.findClass (mm_rn (mm_mt x).1) = some mid.cls := by
    rw [of_decide_eq_true hq.1]
    exact findClass_of_methodNamed B.named
  have C : mm_Cx p s mid ws.toArray meth c D ad cy (mm_Aw ad s.heap.size) xs xn x := ⟨B.exec, B.bytes, hml, hown, fun w hw hg => hts0 w (List.mem_cons_of_mem _ (mm_tsG_in hw hg)), hWd, hap.in (fun q h => h), B.returns, B.notSynchronized, fun q h => Or.inr h, hXs⟩
  rw [lg_entry_eq]
  refine h p e (mm_rm d r.2.2.1 r.2.2.2) s mid ws.toArray below meth c _ (mm_Aw ad s.heap.size) r.2.2.1 r.2.2.2 C hET (fun q h => h) ⟨Nat.le_refl _, Nat.le_refl _, Nat.le_refl _, Nat.le_refl _⟩ ?_ ?_ s.heap [] 0 0 _ [] hB.1 hB.2.1 hB.2.2 va_S.rf (mm_start hs hnl hlen) trivial (by omega) (by omega)
  · intro pc L st hst
    exact s_ends C hfl hET (fun q h => Or.inr h) ⟨by show 8 ≤ d + 16; omega, by show 200 ≤ 64 * d + 400; omega, Nat.le_refl _, Nat.le_refl _⟩ (mm_kk x hx pc) hst
  · intro y pc hy hh H locs cells slots ls rest q ce hB1 hS1 hce hcv1 hcl hc1 hc2
    have hXC : ∀ t : State, t.heap = H → s.vm.Alike t.vm → mm_XC D ad cy xs xn r.1 r.2.1 (mm_Aw ad s.heap.size) (mm_xn y) s t := by
      intro t ht _
      refine ⟨⟨y, hy, rfl⟩, by rw [ht]; exact hB1, by rw [ht]; exact hS1.1, fun q h1 h2 => ?_⟩
      rw [ht]
      exact hS1.2.1 q h1 h2
    have hpass : ∀ z ∈ c.exceptionTable.toList, mm_pass c ws.toArray s RL pc (mm_xn y) z := by
      by_cases hne : mm_hs x = []
      · intro z hz
        rw [hET] at hz
        unfold mm_hh at hz
        rw [hne] at hz
        cases hz
      · obtain ⟨h13, h01⟩ := mm_hs_in hx hne
        rcases s_hd (pc := pc) C (hxx y hy) h13 (mm_hs x) [] h01 (by rw [hET]; rfl) (fun z hz => by cases hz) with ⟨-, h9⟩ | ⟨hp, pre2, y2, suf, h9, -⟩
        · exact h9
        · rw [hh] at h9
          cases h9
    by_cases hne : mm_hs x = []
    · refine vx_out (E := mm_xn y) ?_ C.2.2.2.2.2.2.2.2.1 hce hcv1 hcl hXC hS1.2.2 hc1 hc2
      intro z hz
      rw [hET] at hz
      unfold mm_hh at hz
      rw [hne] at hz
      cases hz
    · obtain ⟨h13, -⟩ := mm_hs_in hx hne
      have hown13 : s.vm.findClass RL = some mid.cls := by
        have h := C.2.2.2.1
        rw [h13] at h
        exact h
      exact vx_outP (own := RL) (E := mm_xn y) hown13 C.2.2.2.2.2.2.2.2.1 hpass hce hcv1 hcl hXC hS1.2.2 hc1 hc2
theorem mm_con_of {l : Launch} (hfl : l.stackTraces = false) {D : va_G} {ad : Nat → Nat → Nat} {cy : Nat → ClassId} {xs : Nat → Int32} {xn d x : Nat} (hap : mm_Ap ad cy) {as : List mm_V} {m : mm_M} {r : mm_R} (h : mm_Snd l D ad cy xs xn d x (0, mm_L0 x as, [], m) r) (hxx : ∀ e, r.1 = .inr e → e = 0 ∨ e = 1) (hnl : ∀ v ∈ as, mm_nl v) (hlen : as.length ≤ (mm_mt x).2.2.2) (hx : x < 292) :
    (mm_hs x = [] → mm_Con l D ad cy xs xn d x as m r.1 r.2.1 r.2.2.1 r.2.2.2) ∧ (mm_hs x ≠ [] → mm_ConW l D ad cy xs xn d x as m r.1 r.2.1 r.2.2.1 r.2.2.2) := by
  have hq := List.all_eq_true.mp mm_rnok x (List.mem_range.mpr hx)
  have hq := (Bool.and_eq_true _ _).mp hq
  constructor
  · intro hne sz
    refine vx_ofW (cc := mm_by x) (maxL := (mm_mt x).2.2.2) (ret := mm_rt x) hq.2 rfl ?_
    intro p e s mid args below meth c s₁ B hml hnil hpc
    refine mm_conS hfl hap h hxx hnl hlen hx B hml ?_ hpc
    unfold mm_hh
    rw [hne]
    exact List.eq_nil_iff_forall_not_mem.mpr (fun z hz => hnil z hz)
  · intro hne sz
    refine vx_ofWH (cc := mm_by x) (maxL := (mm_mt x).2.2.2) (ret := mm_rt x) (hh := mm_hh x) hq.2 rfl ?_
    intro p e s mid args below meth c s₁ B hml hpc
    refine mm_conS hfl hap h hxx hnl hlen hx B hml ?_ hpc
    exact vx_table (x := mm_yn x) B (atoms_spec (ws := mm_wkW x) B.pre _ List.mem_cons_self)
theorem mm_sound {l : Launch} (hfl : l.stackTraces = false) {D : va_G} {ad : Nat → Nat → Nat} {cy : Nat → ClassId} {xs : Nat → Int32} {xn : Nat} (hxn : xn < 2147483648) (hap : mm_Ap ad cy) : ∀ (n d k : Nat) (S : mm_S) (r : mm_R), mm_run n d k S = some r → k < 292 → mm_Snd l D ad cy xs xn d k S r ∧ ∀ x, r.1 = .inr x → x = 0 ∨ x = 1
  | 0, _, _, _, _, h, _ => by cases h
  | n + 1, d, k, S, r, h, hk => by
    unfold mm_run at h
    obtain ⟨pc, L, st, m⟩ := S
    cases hst : mm_step k (pc, L, st, m) with
    | none => rw [hst] at h; cases h
    | some a =>
      rw [hst] at h
      rcases a with S' | ⟨x, as, S2⟩ | o
      · dsimp only at h
        obtain ⟨ih1, ih2⟩ := mm_sound hfl hxn hap n d k S' r h hk
        refine ⟨?_, ih2⟩
        intro p e R s mid args below meth c Q A mc ms C hET hAw hR K1 K2
        obtain ⟨pc', L', st', m'⟩ := S'
        exact s_plain C hxn hAw ⟨by omega, by omega, hR.2.2.1, hR.2.2.2⟩ (mm_kk k hk pc) hst (ih1 p e R s mid args below meth c Q A mc ms C hET hAw hR K1 K2)
      · obtain ⟨q, st2, hq, rfl, rfl, hw, hnl, hci, hlen, hx⟩ := s_stepc (mm_kk k hk pc) hst
        dsimp only at h
        cases d with
        | zero => cases h
        | succ d =>
          dsimp only at h
          cases hrun : mm_run n d x (0, mm_L0 x as, [], m) with
          | none => rw [hrun] at h; cases h
          | some r1 =>
            rw [hrun] at h
            obtain ⟨ih1, ih2⟩ := mm_sound hfl hxn hap n d x _ r1 hrun hx
            obtain ⟨hc0, hc1⟩ := mm_con_of hfl hap ih1 ih2 hnl hlen hx
            obtain ⟨o1, m1, k1, n1⟩ := r1
            -- the frame, its locals that don't live forgotten
            have fr : ∀ {p : Program} {e : Env} {R : Room} {s : State} {mid : MethodId} {args : Array Value} {below : List Frame} {meth : Method} {c : Code} {Q : State → Prop} {A : Nat → Prop} {mc ms kk nn : Nat}, mm_G p l e R s mid args below meth c Q D ad cy A xs xn mc ms k kk nn pc (mm_mask q L) (as.reverse ++ st2) m → mm_G p l e R s mid args below meth c Q D ad cy A xs xn mc ms k kk nn pc L (as.reverse ++ st2) m := by
              intro p e R s mid args below meth c Q A mc ms kk nn hg H locs cells slots ls stk hP hcv hsv hS hl hs hc1 hc2
              exact hg H locs cells slots ls stk hP hcv hsv hS (mm_mask_lr hl hq) hs hc1 hc2
            rcases o1 with v | x1
            · dsimp only at h
              cases hr2 : mm_run n (d + 1) k (pc + 3, mm_mask q L, v.toList ++ st2, m1) with
              | none => rw [hr2] at h; cases h
              | some r2 =>
                rw [hr2] at h
                cases h
                obtain ⟨jh1, jh2⟩ := mm_sound hfl hxn hap n (d + 1) k _ r2 hr2 hk
                refine ⟨?_, jh2⟩
                intro p e R s mid args below meth c Q A mc ms C hET hAw hR K1 K2
                have hg := jh1 p e R s mid args below meth c Q A mc ms C hET hAw hR K1 K2
                refine fr (s_callG (k1 := k1) (n1 := n1) C hAw ⟨hR.2.2.1, hR.2.2.2⟩ (s_runs C hAw (by omega) (by omega) hw hci hc0 hc1) (fun v' hv => ?_) (fun x hx => by cases hx))
                cases hv
                exact hg
            · dsimp only at h
              cases hh : mm_hd pc x1 (mm_hs k) with
              | none =>
                rw [hh] at h
                cases h
                refine ⟨?_, ih2⟩
                intro p e R s mid args below meth c Q A mc ms C hET hAw hR K1 K2
                refine fr (s_callG (k2 := 0) (n2 := 0) C hAw ⟨hR.2.2.1, hR.2.2.2⟩ (s_runs C hAw (by omega) (by omega) hw hci hc0 hc1) (fun v' hv => by cases hv) (fun x hx H locs cells slots ls rest q2 ce hB1 hS1 hl1 hce hcv1 hcl hk1 hk2 => ?_))
                exact K2 x pc hx (by cases hx; exact hh) H locs cells slots ls rest q2 ce hB1 hS1 hce hcv1 hcl hk1 hk2
              | some hp =>
                rw [hh] at h
                dsimp only at h
                cases hr2 : mm_run n (d + 1) k (hp, mm_mask q L, [.inr (.inr (some (999, 0)))], m1) with
                | none => rw [hr2] at h; cases h
                | some r2 =>
                  rw [hr2] at h
                  cases h
                  obtain ⟨jh1, jh2⟩ := mm_sound hfl hxn hap n (d + 1) k _ r2 hr2 hk
                  refine ⟨?_, jh2⟩
                  intro p e R s mid args below meth c Q A mc ms C hET hAw hR K1 K2
                  have hg := jh1 p e R s mid args below meth c Q A mc ms C hET hAw hR K1 K2
                  refine fr (s_callG (k1 := k1) (n1 := n1) C hAw ⟨hR.2.2.1, hR.2.2.2⟩ (s_runs C hAw (by omega) (by omega) hw hci hc0 hc1) (fun v' hv => by cases hv) (fun x hx H locs cells slots ls rest q2 ce hB1 hS1 hl1 hce hcv1 hcl hk1 hk2 => ?_))
                  cases hx
                  have hne : mm_hs k ≠ [] := fun z => by rw [z] at hh; cases hh
                  obtain ⟨h13, h01⟩ := mm_hs_in hk hne
                  have hx01 := ih2 x1 rfl
                  have hown13 : s.vm.findClass RL = some mid.cls := by
                    have h := C.2.2.2.1
                    rw [h13] at h
                    exact h
                  rcases s_hd (pc := pc) C hx01 h13 (mm_hs k) [] h01 (by rw [hET]; rfl) (fun z hz => by cases hz) with ⟨h9, -⟩ | ⟨hp2, pre2, y2, suf, h9, hsp, hpass, hcov, hne0, hhp, hlk⟩
                  · rw [hh] at h9
                    cases h9
                  · rw [hh] at h9
                    cases h9
                    have hcas : (Cond.castable (mm_xn x1) (mm_xn x1)).before args s = true := by
                      rcases hx01 with rfl | rfl
                      · exact va_Nw.use rfl (C.2.2.2.2.2.1.2.1 _ mm_casI rfl)
                      · exact va_Nw.use rfl (C.2.2.2.2.2.1.2.1 _ mm_casN rfl)
                    refine vx_catch hown13 pre2 y2 suf hsp hpass hcov hne0 hlk hcas hce hcv1 hcl ?_
                    rw [hhp]
                    exact hg H locs cells slots ls [.ref q2] hB1.1 hB1.2.1 hB1.2.2 hS1 hl1 ⟨⟨q2, rfl⟩, trivial⟩ hk1 hk2
      · cases h
        refine ⟨?_, mm_en_in hst (mm_kk k hk pc)⟩
        intro p e R s mid args below meth c Q A mc ms C hET hAw hR K1 K2
        exact K1 pc L st hst
