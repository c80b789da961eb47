/-! a check of the code tables; what a plain step of the little machine means on the JVM (by program: wip/gen/gen_step.py) -/
def mm_okc (k n : Nat) (v : Int32) (x y : Nat) : Bool := match x with
  | 0 => (mm_COs (mm_mt k).1).any (fun q => Nat.beq q.1 n && decide (q.2 = v))
  | _ => (match mm_tx[y]? with
    | some t => Nat.beq t.1 (mm_mt k).1 && Nat.beq t.2.1 n
    | none => false) && Nat.blt y mm_ns
def mm_okf (k idx x y : Nat) : Bool := (mm_FLs (mm_mt k).1).any (fun q => Nat.beq q.1 idx && (Nat.beq q.2.1 x && Nat.beq q.2.2 y)) && Nat.blt x 13
def mm_okt (t : Option FieldType) (f : mm_F) : Bool := match t, f with
  | some .int, .inl 0 => true
  | some .boolean, .inl 1 => true
  | some (.object _), .inl (_ + 2) => true
  | _, _ => false
def mm_okp (ci y : Nat) : Bool := match vwCl[ci]?, (mm_fso ci)[y]? with
  | some q, some f => !(q.2.1 y).2.2.2 && mm_okt (parseFieldDescriptor (q.2.1 y).2.2.1) f
  | _, _ => false
def mm_okj (x y : Nat) (stat : Bool) : Bool := match x, y, stat with
  | 1000, 2, true => true
  | 1001, 2, true => true
  | 1002, 1, true => true
  | 1004, 5, true => true
  | 1006, 1, false => true
  | 1007, 2, false => true
  | _, _, _ => false
def mm_okm (k idx x y : Nat) (stat : Bool) : Bool := bif Nat.ble 1000 x then (mm_MBs (mm_mt k).1).any (fun q => Nat.beq q.1 idx && Nat.beq q.2.1 x) && mm_okj x y stat
  else (Nat.beq y (mm_mt x).2.2.1 && (Nat.ble y (mm_mt x).2.2.2 && (Nat.blt x 292 && ((mm_mt x).2.1 == stat)))) && (bif (mm_hs x).isEmpty then (mm_MLs (mm_mt k).1).any (fun q => Nat.beq q.1 idx && (Nat.beq q.2.1 x && ((q.2.2.1 == stat) && Nat.beq y (bif stat then q.2.2.2 else q.2.2.2 + 1))))
  else stat && (mm_MWs (mm_mt k).1).any (fun q => Nat.beq q.1 idx && (Nat.beq q.2.1 x && Nat.beq y q.2.2.2)))
def mm_oke (k pc x : Nat) : Bool := decide (decode (mm_by k) (pc + 3) = .ok (.dup, 1)) && (match decode (mm_by k) (pc + 4) with
  | .ok (.ldc n, 2) => decide (decode (mm_by k) (pc + 6) = .ok (.invokespecial (mm_ec x), 3)) && (decide (decode (mm_by k) (pc + 9) = .ok (.athrow, 1)) && mm_xt.any (fun t => Nat.beq t.1 11 && Nat.beq t.2.1 n))
  | .ok (.ldc_w n, 3) => decide (decode (mm_by k) (pc + 7) = .ok (.invokespecial (mm_ec x), 3)) && (decide (decode (mm_by k) (pc + 10) = .ok (.athrow, 1)) && mm_xt.any (fun t => Nat.beq t.1 11 && Nat.beq t.2.1 n))
  | _ => false)
def mm_okI (k pc : Nat) (i : Instr) (len : Nat) (v : Int32) (x y : Nat) : Bool := match i with
  | .iload _ => Nat.beq len 2
  | .aload _ => Nat.beq len 2
  | .istore _ => Nat.beq len 2
  | .astore _ => Nat.beq len 2
  | .iinc _ n => (Nat.beq len 3 || Nat.beq len 6) && decide (Int32.ofInt n = v)
  | .iconst n => Nat.beq len 1 && decide (Int32.ofInt n = v)
  | .bipush n => Nat.beq len 2 && decide ((Int8.ofInt n).toInt32 = v)
  | .sipush n => Nat.beq len 3 && decide ((Int16.ofInt n).toInt32 = v)
  | .ldc n => Nat.beq len 2 && mm_okc k n v x y
  | .ldc_w n => Nat.beq len 3 && mm_okc k n v x y
  | .lconst n => Nat.beq len 1 && decide (Int64.ofNat (n : Nat) = v.toInt64)
  | .getfield idx => Nat.beq len 3 && mm_okf k idx x y
  | .putfield idx => Nat.beq len 3 && (mm_okf k idx x y && mm_okp x y)
  | .goto off => Nat.beq len 3 && decide ((pc : Int) + off = (x : Int))
  | .ifCond _ off => Nat.beq len 3 && decide ((pc : Int) + off = (x : Int))
  | .if_icmp _ off => Nat.beq len 3 && decide ((pc : Int) + off = (x : Int))
  | .ifnonnull off => Nat.beq len 3 && decide ((pc : Int) + off = (x : Int))
  | .tableswitch d lo hi offs => mm_tsq pc lo (mm_sw y).1 offs.toList && (decide (lo + (offs.size : Int) = hi + 1) && decide ((pc : Int) + d = ((mm_sw y).2 : Int)))
  | .lookupswitch d ps => (ps.toList.zip (ps.toList.drop 1)).all (fun (a, next) => a.1 < next.1) && (mm_lsq pc (mm_sw y).1 ps.toList && decide ((pc : Int) + d = ((mm_sw y).2 : Int)))
  | .ireturn => Nat.beq len 1 && (match x, mm_rt k with
    | 0, some .int => true
    | _ + 1, some .boolean => true
    | _, _ => false)
  | .return_ => Nat.beq len 1 && (mm_rt k).isNone
  | .areturn => Nat.beq len 1 && (match mm_rt k with
    | some (.object _) => true
    | _ => false)
  | .new idx => Nat.beq len 3 && (Nat.ble x 1 && (Nat.beq idx (mm_ek x) && (Nat.beq (mm_mt k).1 11 && ((mm_hs k).isEmpty && mm_oke k pc x))))
  | .invokestatic idx => Nat.beq len 3 && mm_okm k idx x y true
  | .invokevirtual idx => Nat.beq len 3 && mm_okm k idx x y false
  | _ => Nat.beq len 1
/-- the tables say what the bytes say -/
def mm_okP (k pc : Nat) : Bool := match mm_cd k pc with
  | some (i, len, v, x, y, q) => decide (decode (mm_by k) pc = .ok (i, len)) && (mm_okI k pc i len v x y && (match q with
    | some bs => Nat.beq bs.length (mm_mt k).2.2.2
    | none => true))
  | none => true
theorem mm_okf_ok {k idx x y : Nat} (h : mm_okf k idx x y = true) : mm_flk (mm_mt k).1 idx x y ∧ x < 13 := by
  simp only [mm_okf, Bool.and_eq_true] at h
  obtain ⟨q, h1, h2⟩ := List.any_eq_true.mp h.1
  simp only [Bool.and_eq_true] at h2
  have e1 := Nat.eq_of_beq_eq_true h2.1
  have e2 := Nat.eq_of_beq_eq_true h2.2.1
  have e3 := Nat.eq_of_beq_eq_true h2.2.2
  have h3 := mm_FLok _ q h1
  rw [e1, e2, e3] at h3
  exact ⟨h3, Nat.le_of_ble_eq_true h.2⟩
theorem mm_okp_ok {ci y g : Nat} {fs : List mm_F} {f : mm_F} (h : mm_okp ci y = true) (hob : mm_ob g = some (ci, fs)) (hf : fs[y]? = some f) : (∀ q, vwCl[ci]? = some q → (q.2.1 y).2.2.2 = false) ∧ ∀ q ty, vwCl[ci]? = some q → parseFieldDescriptor (q.2.1 y).2.2.1 = some ty → mm_ft f ty := by
  have e := (mm_obf hob).1
  subst e
  unfold mm_okp at h
  rw [hf] at h
  cases hv : vwCl[ci]? with
  | none => rw [hv] at h; cases h
  | some q =>
    rw [hv] at h
    simp only [Bool.and_eq_true, Bool.not_eq_true'] at h
    refine ⟨fun q' hq => by cases hq; exact h.1, fun q' ty hq hty => ?_⟩
    cases hq
    have h2 := h.2
    rw [hty] at h2
    unfold mm_okt at h2
    split at h2
    · rename_i e2; cases e2; rfl
    · rename_i e2; cases e2; rfl
    · rename_i e2; cases e2; exact ⟨_, rfl⟩
    · cases h2

section MMU
variable {p : Program} {l : Launch} {e : Env} {R : Room} {s : State} {mid : MethodId} {args : Array Value} {below : List Frame} {meth : Method} {c : Code} {Q : State → Prop} {D : va_G} {ad : Nat → Nat → Nat} {cy : Nat → ClassId} {A : Nat → Prop} {xs : Nat → Int32} {xn : Nat} {mc ms : Nat} {k : Nat} {kk nn : Nat} {pc : Nat} {L : List (Option mm_V)} {st : List mm_V} {m : mm_M}
theorem s_slen {i : Nat} (C : mm_Cx p s mid args meth c D ad cy A xs xn k) (hxn : xn < 2147483648) (hd : decode (mm_by k) pc = .ok (.arraylength, 1)) (hG : mm_G p l e R s mid args below meth c Q D ad cy A xs xn mc ms k kk nn (pc + 1) (L) (.inl (m mm_gX 1 0) :: st) (m)) : mm_G p l e R s mid args below meth c Q D ad cy A xs xn mc ms k kk nn (pc) (L) (.inr (.inr (some (mm_gX, i))) :: st) (m) := by
  intro H locs cells slots ls stk hP hcv hsv hS hl hs hc1 hc2
  match stk, hs with
  | w :: stk, ⟨h1, hs2⟩ =>
    obtain ⟨hv, rfl⟩ := mm_vr_own (by decide) h1
    have hi : i = 0 := by
      rcases hv with h | ⟨h, -⟩ | ⟨-, h⟩
      · exact absurd rfl (mm_notX h)
      · cases h
      · exact h
    subst hi
    have hk := hG H locs cells slots ls (.int (m mm_gX 1 0) :: stk) hP hcv hsv hS hl ⟨rfl, hs2⟩ hc1 hc2
    rw [hsv.2] at hk
    exact va_slen C.1 C.2.1 C.2.2.2.2.2.2.2.2.2.2.1 C.2.2.2.2.2.2.2.2.2.2.2.1 C.2.2.2.2.2.2.2.2.2.2.2.2 hS hd hk
theorem ti_iload {j : Nat} {len x y : Nat} {v : Int32} {pc' : Nat} {L' : List (Option mm_V)} {st' : List mm_V} {m' : mm_M} (C : mm_Cx p s mid args meth c D ad cy A xs xn k) (Ok : mm_okI k pc (.iload j) len v x y = true) (hd : decode (mm_by k) pc = .ok (.iload j, len)) (hact : mm_act (.iload j) len v x y pc L st m = some (.inl (pc', L', st', m'))) (hG : mm_G p l e R s mid args below meth c Q D ad cy A xs xn mc ms k kk nn (pc') (L') (st') (m')) : mm_G p l e R s mid args below meth c Q D ad cy A xs xn mc ms k kk nn (pc) (L) (st) (m) := by
  have e : len = 2 := Nat.eq_of_beq_eq_true Ok
  subst e
  have h : (match mm_ld L j with
    | some (.inl a) => mm_k (pc + 2) L (.inl a :: st) m
    | _ => none) = some (.inl (pc', L', st', m')) := hact
  split at h
  · rename_i hL
    cases h
    exact s_iload (len := 0) C hd hL hG
  · cases h
theorem ti_iload_n {j : Fin 4} {len x y : Nat} {v : Int32} {pc' : Nat} {L' : List (Option mm_V)} {st' : List mm_V} {m' : mm_M} (C : mm_Cx p s mid args meth c D ad cy A xs xn k) (Ok : mm_okI k pc (.iload_n j) len v x y = true) (hd : decode (mm_by k) pc = .ok (.iload_n j, len)) (hact : mm_act (.iload_n j) len v x y pc L st m = some (.inl (pc', L', st', m'))) (hG : mm_G p l e R s mid args below meth c Q D ad cy A xs xn mc ms k kk nn (pc') (L') (st') (m')) : mm_G p l e R s mid args below meth c Q D ad cy A xs xn mc ms k kk nn (pc) (L) (st) (m) := by
  have e : len = 1 := Nat.eq_of_beq_eq_true Ok
  subst e
  have h : (match mm_ld L j.val with
    | some (.inl a) => mm_k (pc + 1) L (.inl a :: st) m
    | _ => none) = some (.inl (pc', L', st', m')) := hact
  split at h
  · rename_i hL
    cases h
    exact s_iload_n C hd hL hG
  · cases h
theorem ti_aload {j : Nat} {len x y : Nat} {v : Int32} {pc' : Nat} {L' : List (Option mm_V)} {st' : List mm_V} {m' : mm_M} (C : mm_Cx p s mid args meth c D ad cy A xs xn k) (Ok : mm_okI k pc (.aload j) len v x y = true) (hd : decode (mm_by k) pc = .ok (.aload j, len)) (hact : mm_act (.aload j) len v x y pc L st m = some (.inl (pc', L', st', m'))) (hG : mm_G p l e R s mid args below meth c Q D ad cy A xs xn mc ms k kk nn (pc') (L') (st') (m')) : mm_G p l e R s mid args below meth c Q D ad cy A xs xn mc ms k kk nn (pc) (L) (st) (m) := by
  have e : len = 2 := Nat.eq_of_beq_eq_true Ok
  subst e
  have h : (match mm_ld L j with
    | some (.inr (.inr r)) => mm_k (pc + 2) L (.inr (.inr r) :: st) m
    | _ => none) = some (.inl (pc', L', st', m')) := hact
  split at h
  · rename_i hL
    cases h
    exact s_aload C hd hL hG
  · cases h
theorem ti_aload_n {j : Fin 4} {len x y : Nat} {v : Int32} {pc' : Nat} {L' : List (Option mm_V)} {st' : List mm_V} {m' : mm_M} (C : mm_Cx p s mid args meth c D ad cy A xs xn k) (Ok : mm_okI k pc (.aload_n j) len v x y = true) (hd : decode (mm_by k) pc = .ok (.aload_n j, len)) (hact : mm_act (.aload_n j) len v x y pc L st m = some (.inl (pc', L', st', m'))) (hG : mm_G p l e R s mid args below meth c Q D ad cy A xs xn mc ms k kk nn (pc') (L') (st') (m')) : mm_G p l e R s mid args below meth c Q D ad cy A xs xn mc ms k kk nn (pc) (L) (st) (m) := by
  have e : len = 1 := Nat.eq_of_beq_eq_true Ok
  subst e
  have h : (match mm_ld L j.val with
    | some (.inr (.inr r)) => mm_k (pc + 1) L (.inr (.inr r) :: st) m
    | _ => none) = some (.inl (pc', L', st', m')) := hact
  split at h
  · rename_i hL
    cases h
    exact s_aload_n C hd hL hG
  · cases h
theorem ti_istore {j : Nat} {len x y : Nat} {v : Int32} {pc' : Nat} {L' : List (Option mm_V)} {st' : List mm_V} {m' : mm_M} (C : mm_Cx p s mid args meth c D ad cy A xs xn k) (Ok : mm_okI k pc (.istore j) len v x y = true) (hd : decode (mm_by k) pc = .ok (.istore j, len)) (hact : mm_act (.istore j) len v x y pc L st m = some (.inl (pc', L', st', m'))) (hG : mm_G p l e R s mid args below meth c Q D ad cy A xs xn mc ms k kk nn (pc') (L') (st') (m')) : mm_G p l e R s mid args below meth c Q D ad cy A xs xn mc ms k kk nn (pc) (L) (st) (m) := by
  have e : len = 2 := Nat.eq_of_beq_eq_true Ok
  subst e
  rcases st with _ | ⟨a | a | a, st⟩
  · cases hact
  · have h : (bif Nat.blt j L.length then mm_k (pc + 2) (L.set j (some (.inl a))) st m else none) = some (.inl (pc', L', st', m')) := hact
    cases hb : Nat.blt j L.length with
    | false => rw [hb] at h; cases h
    | true =>
      rw [hb] at h
      cases h
      exact s_istore C hd (Nat.le_of_ble_eq_true hb) hG
  · cases hact
  · cases hact
theorem ti_istore_n {j : Fin 4} {len x y : Nat} {v : Int32} {pc' : Nat} {L' : List (Option mm_V)} {st' : List mm_V} {m' : mm_M} (C : mm_Cx p s mid args meth c D ad cy A xs xn k) (Ok : mm_okI k pc (.istore_n j) len v x y = true) (hd : decode (mm_by k) pc = .ok (.istore_n j, len)) (hact : mm_act (.istore_n j) len v x y pc L st m = some (.inl (pc', L', st', m'))) (hG : mm_G p l e R s mid args below meth c Q D ad cy A xs xn mc ms k kk nn (pc') (L') (st') (m')) : mm_G p l e R s mid args below meth c Q D ad cy A xs xn mc ms k kk nn (pc) (L) (st) (m) := by
  have e : len = 1 := Nat.eq_of_beq_eq_true Ok
  subst e
  rcases st with _ | ⟨a | a | a, st⟩
  · cases hact
  · have h : (bif Nat.blt j.val L.length then mm_k (pc + 1) (L.set j.val (some (.inl a))) st m else none) = some (.inl (pc', L', st', m')) := hact
    cases hb : Nat.blt j.val L.length with
    | false => rw [hb] at h; cases h
    | true =>
      rw [hb] at h
      cases h
      exact s_istore_n C hd (Nat.le_of_ble_eq_true hb) hG
  · cases hact
  · cases hact
theorem ti_astore {j : Nat} {len x y : Nat} {v : Int32} {pc' : Nat} {L' : List (Option mm_V)} {st' : List mm_V} {m' : mm_M} (C : mm_Cx p s mid args meth c D ad cy A xs xn k) (Ok : mm_okI k pc (.astore j) len v x y = true) (hd : decode (mm_by k) pc = .ok (.astore j, len)) (hact : mm_act (.astore j) len v x y pc L st m = some (.inl (pc', L', st', m'))) (hG : mm_G p l e R s mid args below meth c Q D ad cy A xs xn mc ms k kk nn (pc') (L') (st') (m')) : mm_G p l e R s mid args below meth c Q D ad cy A xs xn mc ms k kk nn (pc) (L) (st) (m) := by
  have e : len = 2 := Nat.eq_of_beq_eq_true Ok
  subst e
  rcases st with _ | ⟨a | a | _ | a, st⟩
  · cases hact
  · rcases st with _ | ⟨b | b | b, st⟩ <;> cases hact
  · cases hact
  · cases hact
  · have h : (bif Nat.blt j L.length then mm_k (pc + 2) (L.set j (some (.inr (.inr (some a))))) st m else none) = some (.inl (pc', L', st', m')) := hact
    cases hb : Nat.blt j L.length with
    | false => rw [hb] at h; cases h
    | true =>
      rw [hb] at h
      cases h
      exact s_astore C hd (Nat.le_of_ble_eq_true hb) hG
theorem ti_astore_n {j : Fin 4} {len x y : Nat} {v : Int32} {pc' : Nat} {L' : List (Option mm_V)} {st' : List mm_V} {m' : mm_M} (C : mm_Cx p s mid args meth c D ad cy A xs xn k) (Ok : mm_okI k pc (.astore_n j) len v x y = true) (hd : decode (mm_by k) pc = .ok (.astore_n j, len)) (hact : mm_act (.astore_n j) len v x y pc L st m = some (.inl (pc', L', st', m'))) (hG : mm_G p l e R s mid args below meth c Q D ad cy A xs xn mc ms k kk nn (pc') (L') (st') (m')) : mm_G p l e R s mid args below meth c Q D ad cy A xs xn mc ms k kk nn (pc) (L) (st) (m) := by
  have e : len = 1 := Nat.eq_of_beq_eq_true Ok
  subst e
  rcases st with _ | ⟨a | a | _ | a, st⟩
  · cases hact
  · rcases st with _ | ⟨b | b | b, st⟩ <;> cases hact
  · cases hact
  · cases hact
  · have h : (bif Nat.blt j.val L.length then mm_k (pc + 1) (L.set j.val (some (.inr (.inr (some a))))) st m else none) = some (.inl (pc', L', st', m')) := hact
    cases hb : Nat.blt j.val L.length with
    | false => rw [hb] at h; cases h
    | true =>
      rw [hb] at h
      cases h
      exact s_astore_n C hd (Nat.le_of_ble_eq_true hb) hG
theorem ti_iinc {j : Nat} {n : Int} {len x y : Nat} {v : Int32} {pc' : Nat} {L' : List (Option mm_V)} {st' : List mm_V} {m' : mm_M} (C : mm_Cx p s mid args meth c D ad cy A xs xn k) (Ok : mm_okI k pc (.iinc j n) len v x y = true) (hd : decode (mm_by k) pc = .ok (.iinc j n, len)) (hact : mm_act (.iinc j n) len v x y pc L st m = some (.inl (pc', L', st', m'))) (hG : mm_G p l e R s mid args below meth c Q D ad cy A xs xn mc ms k kk nn (pc') (L') (st') (m')) : mm_G p l e R s mid args below meth c Q D ad cy A xs xn mc ms k kk nn (pc) (L) (st) (m) := by
  have Ok := (Bool.and_eq_true _ _).mp Ok
  have hn := of_decide_eq_true Ok.2
  have h : (match mm_ld L j with
    | some (.inl a) => mm_k (pc + len) (L.set j (some (.inl (a + v)))) st m
    | _ => none) = some (.inl (pc', L', st', m')) := hact
  split at h
  · rename_i hL
    cases h
    rcases (Bool.or_eq_true _ _).mp Ok.1 with e | e
    · have e := Nat.eq_of_beq_eq_true e
      subst e
      exact s_iinc C hd hn hL hG
    · have e := Nat.eq_of_beq_eq_true e
      subst e
      exact s_iincW C hd hn hL hG
  · cases h
theorem ti_iconst {n : Int} {len x y : Nat} {v : Int32} {pc' : Nat} {L' : List (Option mm_V)} {st' : List mm_V} {m' : mm_M} (C : mm_Cx p s mid args meth c D ad cy A xs xn k) (Ok : mm_okI k pc (.iconst n) len v x y = true) (hd : decode (mm_by k) pc = .ok (.iconst n, len)) (hact : mm_act (.iconst n) len v x y pc L st m = some (.inl (pc', L', st', m'))) (hG : mm_G p l e R s mid args below meth c Q D ad cy A xs xn mc ms k kk nn (pc') (L') (st') (m')) : mm_G p l e R s mid args below meth c Q D ad cy A xs xn mc ms k kk nn (pc) (L) (st) (m) := by
  have Ok := (Bool.and_eq_true _ _).mp Ok
  have e : len = 1 := Nat.eq_of_beq_eq_true Ok.1
  subst e
  have Ok := Ok.2
  have Ok := of_decide_eq_true Ok
  have h : mm_k (pc + 1) L (.inl v :: st) m = some (.inl (pc', L', st', m')) := hact
  cases h
  exact s_iconst C hd Ok hG
theorem ti_bipush {n : Int} {len x y : Nat} {v : Int32} {pc' : Nat} {L' : List (Option mm_V)} {st' : List mm_V} {m' : mm_M} (C : mm_Cx p s mid args meth c D ad cy A xs xn k) (Ok : mm_okI k pc (.bipush n) len v x y = true) (hd : decode (mm_by k) pc = .ok (.bipush n, len)) (hact : mm_act (.bipush n) len v x y pc L st m = some (.inl (pc', L', st', m'))) (hG : mm_G p l e R s mid args below meth c Q D ad cy A xs xn mc ms k kk nn (pc') (L') (st') (m')) : mm_G p l e R s mid args below meth c Q D ad cy A xs xn mc ms k kk nn (pc) (L) (st) (m) := by
  have Ok := (Bool.and_eq_true _ _).mp Ok
  have e : len = 2 := Nat.eq_of_beq_eq_true Ok.1
  subst e
  have Ok := Ok.2
  have Ok := of_decide_eq_true Ok
  have h : mm_k (pc + 2) L (.inl v :: st) m = some (.inl (pc', L', st', m')) := hact
  cases h
  exact s_bipush C hd Ok hG
theorem ti_sipush {n : Int} {len x y : Nat} {v : Int32} {pc' : Nat} {L' : List (Option mm_V)} {st' : List mm_V} {m' : mm_M} (C : mm_Cx p s mid args meth c D ad cy A xs xn k) (Ok : mm_okI k pc (.sipush n) len v x y = true) (hd : decode (mm_by k) pc = .ok (.sipush n, len)) (hact : mm_act (.sipush n) len v x y pc L st m = some (.inl (pc', L', st', m'))) (hG : mm_G p l e R s mid args below meth c Q D ad cy A xs xn mc ms k kk nn (pc') (L') (st') (m')) : mm_G p l e R s mid args below meth c Q D ad cy A xs xn mc ms k kk nn (pc) (L) (st) (m) := by
  have Ok := (Bool.and_eq_true _ _).mp Ok
  have e : len = 3 := Nat.eq_of_beq_eq_true Ok.1
  subst e
  have Ok := Ok.2
  have Ok := of_decide_eq_true Ok
  have h : mm_k (pc + 3) L (.inl v :: st) m = some (.inl (pc', L', st', m')) := hact
  cases h
  exact s_sipush C hd Ok hG
theorem ti_lconst {n : Fin 2} {len x y : Nat} {v : Int32} {pc' : Nat} {L' : List (Option mm_V)} {st' : List mm_V} {m' : mm_M} (C : mm_Cx p s mid args meth c D ad cy A xs xn k) (Ok : mm_okI k pc (.lconst n) len v x y = true) (hd : decode (mm_by k) pc = .ok (.lconst n, len)) (hact : mm_act (.lconst n) len v x y pc L st m = some (.inl (pc', L', st', m'))) (hG : mm_G p l e R s mid args below meth c Q D ad cy A xs xn mc ms k kk nn (pc') (L') (st') (m')) : mm_G p l e R s mid args below meth c Q D ad cy A xs xn mc ms k kk nn (pc) (L) (st) (m) := by
  have Ok := (Bool.and_eq_true _ _).mp Ok
  have e : len = 1 := Nat.eq_of_beq_eq_true Ok.1
  subst e
  have Ok := Ok.2
  have Ok := of_decide_eq_true Ok
  have h : mm_k (pc + 1) L (.inr (.inl v) :: st) m = some (.inl (pc', L', st', m')) := hact
  cases h
  exact s_lconst C hd Ok hG
theorem ti_ldc {n : Nat} {len x y : Nat} {v : Int32} {pc' : Nat} {L' : List (Option mm_V)} {st' : List mm_V} {m' : mm_M} (C : mm_Cx p s mid args meth c D ad cy A xs xn k) (Ok : mm_okI k pc (.ldc n) len v x y = true) (hd : decode (mm_by k) pc = .ok (.ldc n, len)) (hact : mm_act (.ldc n) len v x y pc L st m = some (.inl (pc', L', st', m'))) (hG : mm_G p l e R s mid args below meth c Q D ad cy A xs xn mc ms k kk nn (pc') (L') (st') (m')) : mm_G p l e R s mid args below meth c Q D ad cy A xs xn mc ms k kk nn (pc) (L) (st) (m) := by
  have Ok := (Bool.and_eq_true _ _).mp Ok
  have e : len = 2 := Nat.eq_of_beq_eq_true Ok.1
  subst e
  have Ok := Ok.2
  cases x with
  | zero =>
    obtain ⟨q, h1, h2⟩ := List.any_eq_true.mp (show (mm_COs (mm_mt k).1).any (fun q => Nat.beq q.1 n && decide (q.2 = v)) = true from Ok)
    simp only [Bool.and_eq_true, decide_eq_true_eq] at h2
    have h3 := mm_COok _ q h1
    rw [Nat.eq_of_beq_eq_true h2.1, h2.2] at h3
    have h : mm_k (pc + 2) L (.inl v :: st) m = some (.inl (pc', L', st', m')) := hact
    cases h
    exact s_ldc C hd h3 hG
  | succ x =>
    have Ok := (Bool.and_eq_true _ _).mp (show ((match mm_tx[y]? with
      | some t => Nat.beq t.1 (mm_mt k).1 && Nat.beq t.2.1 n
      | none => false) && Nat.blt y mm_ns) = true from Ok)
    have hy : y < mm_ns := Nat.le_of_ble_eq_true Ok.2
    have h1 := Ok.1
    split at h1
    · rename_i t ht
      simp only [Bool.and_eq_true] at h1
      have e1 := Nat.eq_of_beq_eq_true h1.1
      have e2 := Nat.eq_of_beq_eq_true h1.2
      obtain ⟨t1, t2, tx⟩ := t
      dsimp only at e1 e2
      subst e2
      rw [e1] at ht
      have h : mm_k (pc + 2) L (.inr (.inr (some (mm_gS, y))) :: st) m = some (.inl (pc', L', st', m')) := hact
      cases h
      exact s_ldcS C hd ht hy hG
    · cases h1
theorem ti_ldc_w {n : Nat} {len x y : Nat} {v : Int32} {pc' : Nat} {L' : List (Option mm_V)} {st' : List mm_V} {m' : mm_M} (C : mm_Cx p s mid args meth c D ad cy A xs xn k) (Ok : mm_okI k pc (.ldc_w n) len v x y = true) (hd : decode (mm_by k) pc = .ok (.ldc_w n, len)) (hact : mm_act (.ldc_w n) len v x y pc L st m = some (.inl (pc', L', st', m'))) (hG : mm_G p l e R s mid args below meth c Q D ad cy A xs xn mc ms k kk nn (pc') (L') (st') (m')) : mm_G p l e R s mid args below meth c Q D ad cy A xs xn mc ms k kk nn (pc) (L) (st) (m) := by
  have Ok := (Bool.and_eq_true _ _).mp Ok
  have e : len = 3 := Nat.eq_of_beq_eq_true Ok.1
  subst e
  have Ok := Ok.2
  cases x with
  | zero =>
    obtain ⟨q, h1, h2⟩ := List.any_eq_true.mp (show (mm_COs (mm_mt k).1).any (fun q => Nat.beq q.1 n && decide (q.2 = v)) = true from Ok)
    simp only [Bool.and_eq_true, decide_eq_true_eq] at h2
    have h3 := mm_COok _ q h1
    rw [Nat.eq_of_beq_eq_true h2.1, h2.2] at h3
    have h : mm_k (pc + 3) L (.inl v :: st) m = some (.inl (pc', L', st', m')) := hact
    cases h
    exact s_ldc_w C hd h3 hG
  | succ x =>
    have Ok := (Bool.and_eq_true _ _).mp (show ((match mm_tx[y]? with
      | some t => Nat.beq t.1 (mm_mt k).1 && Nat.beq t.2.1 n
      | none => false) && Nat.blt y mm_ns) = true from Ok)
    have hy : y < mm_ns := Nat.le_of_ble_eq_true Ok.2
    have h1 := Ok.1
    split at h1
    · rename_i t ht
      simp only [Bool.and_eq_true] at h1
      have e1 := Nat.eq_of_beq_eq_true h1.1
      have e2 := Nat.eq_of_beq_eq_true h1.2
      obtain ⟨t1, t2, tx⟩ := t
      dsimp only at e1 e2
      subst e2
      rw [e1] at ht
      have h : mm_k (pc + 3) L (.inr (.inr (some (mm_gS, y))) :: st) m = some (.inl (pc', L', st', m')) := hact
      cases h
      exact s_ldcSW C hd ht hy hG
    · cases h1
theorem ti_dup {len x y : Nat} {v : Int32} {pc' : Nat} {L' : List (Option mm_V)} {st' : List mm_V} {m' : mm_M} (C : mm_Cx p s mid args meth c D ad cy A xs xn k) (Ok : mm_okI k pc (.dup) len v x y = true) (hd : decode (mm_by k) pc = .ok (.dup, len)) (hact : mm_act (.dup) len v x y pc L st m = some (.inl (pc', L', st', m'))) (hG : mm_G p l e R s mid args below meth c Q D ad cy A xs xn mc ms k kk nn (pc') (L') (st') (m')) : mm_G p l e R s mid args below meth c Q D ad cy A xs xn mc ms k kk nn (pc) (L) (st) (m) := by
  have e : len = 1 := Nat.eq_of_beq_eq_true Ok
  subst e
  rcases st with _ | ⟨a | a | a, st⟩
  · cases hact
  · cases hact
    exact s_dup trivial C hd hG
  · cases hact
  · cases hact
    exact s_dup trivial C hd hG
theorem ti_pop {len x y : Nat} {v : Int32} {pc' : Nat} {L' : List (Option mm_V)} {st' : List mm_V} {m' : mm_M} (C : mm_Cx p s mid args meth c D ad cy A xs xn k) (Ok : mm_okI k pc (.pop) len v x y = true) (hd : decode (mm_by k) pc = .ok (.pop, len)) (hact : mm_act (.pop) len v x y pc L st m = some (.inl (pc', L', st', m'))) (hG : mm_G p l e R s mid args below meth c Q D ad cy A xs xn mc ms k kk nn (pc') (L') (st') (m')) : mm_G p l e R s mid args below meth c Q D ad cy A xs xn mc ms k kk nn (pc) (L) (st) (m) := by
  have e : len = 1 := Nat.eq_of_beq_eq_true Ok
  subst e
  rcases st with _ | ⟨a | a | a, st⟩
  · cases hact
  · cases hact
    exact s_pop trivial C hd hG
  · cases hact
  · cases hact
    exact s_pop trivial C hd hG
theorem ti_dup2 {len x y : Nat} {v : Int32} {pc' : Nat} {L' : List (Option mm_V)} {st' : List mm_V} {m' : mm_M} (C : mm_Cx p s mid args meth c D ad cy A xs xn k) (Ok : mm_okI k pc (.dup2) len v x y = true) (hd : decode (mm_by k) pc = .ok (.dup2, len)) (hact : mm_act (.dup2) len v x y pc L st m = some (.inl (pc', L', st', m'))) (hG : mm_G p l e R s mid args below meth c Q D ad cy A xs xn mc ms k kk nn (pc') (L') (st') (m')) : mm_G p l e R s mid args below meth c Q D ad cy A xs xn mc ms k kk nn (pc) (L) (st) (m) := by
  have e : len = 1 := Nat.eq_of_beq_eq_true Ok
  subst e
  rcases st with _ | ⟨b | b | b, _ | ⟨a | a | a, st⟩⟩ <;> cases hact
  exact s_dup2 trivial trivial C hd hG
theorem ti_iadd {len x y : Nat} {v : Int32} {pc' : Nat} {L' : List (Option mm_V)} {st' : List mm_V} {m' : mm_M} (C : mm_Cx p s mid args meth c D ad cy A xs xn k) (Ok : mm_okI k pc (.iadd) len v x y = true) (hd : decode (mm_by k) pc = .ok (.iadd, len)) (hact : mm_act (.iadd) len v x y pc L st m = some (.inl (pc', L', st', m'))) (hG : mm_G p l e R s mid args below meth c Q D ad cy A xs xn mc ms k kk nn (pc') (L') (st') (m')) : mm_G p l e R s mid args below meth c Q D ad cy A xs xn mc ms k kk nn (pc) (L) (st) (m) := by
  have e : len = 1 := Nat.eq_of_beq_eq_true Ok
  subst e
  rcases st with _ | ⟨b | b | b, _ | ⟨a | a | a, st⟩⟩ <;> cases hact
  exact s_iadd C hd hG
theorem ti_isub {len x y : Nat} {v : Int32} {pc' : Nat} {L' : List (Option mm_V)} {st' : List mm_V} {m' : mm_M} (C : mm_Cx p s mid args meth c D ad cy A xs xn k) (Ok : mm_okI k pc (.isub) len v x y = true) (hd : decode (mm_by k) pc = .ok (.isub, len)) (hact : mm_act (.isub) len v x y pc L st m = some (.inl (pc', L', st', m'))) (hG : mm_G p l e R s mid args below meth c Q D ad cy A xs xn mc ms k kk nn (pc') (L') (st') (m')) : mm_G p l e R s mid args below meth c Q D ad cy A xs xn mc ms k kk nn (pc) (L) (st) (m) := by
  have e : len = 1 := Nat.eq_of_beq_eq_true Ok
  subst e
  rcases st with _ | ⟨b | b | b, _ | ⟨a | a | a, st⟩⟩ <;> cases hact
  exact s_isub C hd hG
theorem ti_imul {len x y : Nat} {v : Int32} {pc' : Nat} {L' : List (Option mm_V)} {st' : List mm_V} {m' : mm_M} (C : mm_Cx p s mid args meth c D ad cy A xs xn k) (Ok : mm_okI k pc (.imul) len v x y = true) (hd : decode (mm_by k) pc = .ok (.imul, len)) (hact : mm_act (.imul) len v x y pc L st m = some (.inl (pc', L', st', m'))) (hG : mm_G p l e R s mid args below meth c Q D ad cy A xs xn mc ms k kk nn (pc') (L') (st') (m')) : mm_G p l e R s mid args below meth c Q D ad cy A xs xn mc ms k kk nn (pc) (L) (st) (m) := by
  have e : len = 1 := Nat.eq_of_beq_eq_true Ok
  subst e
  rcases st with _ | ⟨b | b | b, _ | ⟨a | a | a, st⟩⟩ <;> cases hact
  exact s_imul C hd hG
theorem ti_iand {len x y : Nat} {v : Int32} {pc' : Nat} {L' : List (Option mm_V)} {st' : List mm_V} {m' : mm_M} (C : mm_Cx p s mid args meth c D ad cy A xs xn k) (Ok : mm_okI k pc (.iand) len v x y = true) (hd : decode (mm_by k) pc = .ok (.iand, len)) (hact : mm_act (.iand) len v x y pc L st m = some (.inl (pc', L', st', m'))) (hG : mm_G p l e R s mid args below meth c Q D ad cy A xs xn mc ms k kk nn (pc') (L') (st') (m')) : mm_G p l e R s mid args below meth c Q D ad cy A xs xn mc ms k kk nn (pc) (L) (st) (m) := by
  have e : len = 1 := Nat.eq_of_beq_eq_true Ok
  subst e
  rcases st with _ | ⟨b | b | b, _ | ⟨a | a | a, st⟩⟩ <;> cases hact
  exact s_iand C hd hG
theorem ti_ior {len x y : Nat} {v : Int32} {pc' : Nat} {L' : List (Option mm_V)} {st' : List mm_V} {m' : mm_M} (C : mm_Cx p s mid args meth c D ad cy A xs xn k) (Ok : mm_okI k pc (.ior) len v x y = true) (hd : decode (mm_by k) pc = .ok (.ior, len)) (hact : mm_act (.ior) len v x y pc L st m = some (.inl (pc', L', st', m'))) (hG : mm_G p l e R s mid args below meth c Q D ad cy A xs xn mc ms k kk nn (pc') (L') (st') (m')) : mm_G p l e R s mid args below meth c Q D ad cy A xs xn mc ms k kk nn (pc) (L) (st) (m) := by
  have e : len = 1 := Nat.eq_of_beq_eq_true Ok
  subst e
  rcases st with _ | ⟨b | b | b, _ | ⟨a | a | a, st⟩⟩ <;> cases hact
  exact s_ior C hd hG
theorem ti_ixor {len x y : Nat} {v : Int32} {pc' : Nat} {L' : List (Option mm_V)} {st' : List mm_V} {m' : mm_M} (C : mm_Cx p s mid args meth c D ad cy A xs xn k) (Ok : mm_okI k pc (.ixor) len v x y = true) (hd : decode (mm_by k) pc = .ok (.ixor, len)) (hact : mm_act (.ixor) len v x y pc L st m = some (.inl (pc', L', st', m'))) (hG : mm_G p l e R s mid args below meth c Q D ad cy A xs xn mc ms k kk nn (pc') (L') (st') (m')) : mm_G p l e R s mid args below meth c Q D ad cy A xs xn mc ms k kk nn (pc) (L) (st) (m) := by
  have e : len = 1 := Nat.eq_of_beq_eq_true Ok
  subst e
  rcases st with _ | ⟨b | b | b, _ | ⟨a | a | a, st⟩⟩ <;> cases hact
  exact s_ixor C hd hG
theorem ti_ishl {len x y : Nat} {v : Int32} {pc' : Nat} {L' : List (Option mm_V)} {st' : List mm_V} {m' : mm_M} (C : mm_Cx p s mid args meth c D ad cy A xs xn k) (Ok : mm_okI k pc (.ishl) len v x y = true) (hd : decode (mm_by k) pc = .ok (.ishl, len)) (hact : mm_act (.ishl) len v x y pc L st m = some (.inl (pc', L', st', m'))) (hG : mm_G p l e R s mid args below meth c Q D ad cy A xs xn mc ms k kk nn (pc') (L') (st') (m')) : mm_G p l e R s mid args below meth c Q D ad cy A xs xn mc ms k kk nn (pc) (L) (st) (m) := by
  have e : len = 1 := Nat.eq_of_beq_eq_true Ok
  subst e
  rcases st with _ | ⟨b | b | b, _ | ⟨a | a | a, st⟩⟩ <;> cases hact
  exact s_ishl C hd hG
theorem ti_ishr {len x y : Nat} {v : Int32} {pc' : Nat} {L' : List (Option mm_V)} {st' : List mm_V} {m' : mm_M} (C : mm_Cx p s mid args meth c D ad cy A xs xn k) (Ok : mm_okI k pc (.ishr) len v x y = true) (hd : decode (mm_by k) pc = .ok (.ishr, len)) (hact : mm_act (.ishr) len v x y pc L st m = some (.inl (pc', L', st', m'))) (hG : mm_G p l e R s mid args below meth c Q D ad cy A xs xn mc ms k kk nn (pc') (L') (st') (m')) : mm_G p l e R s mid args below meth c Q D ad cy A xs xn mc ms k kk nn (pc) (L) (st) (m) := by
  have e : len = 1 := Nat.eq_of_beq_eq_true Ok
  subst e
  rcases st with _ | ⟨b | b | b, _ | ⟨a | a | a, st⟩⟩ <;> cases hact
  exact s_ishr C hd hG
theorem ti_iushr {len x y : Nat} {v : Int32} {pc' : Nat} {L' : List (Option mm_V)} {st' : List mm_V} {m' : mm_M} (C : mm_Cx p s mid args meth c D ad cy A xs xn k) (Ok : mm_okI k pc (.iushr) len v x y = true) (hd : decode (mm_by k) pc = .ok (.iushr, len)) (hact : mm_act (.iushr) len v x y pc L st m = some (.inl (pc', L', st', m'))) (hG : mm_G p l e R s mid args below meth c Q D ad cy A xs xn mc ms k kk nn (pc') (L') (st') (m')) : mm_G p l e R s mid args below meth c Q D ad cy A xs xn mc ms k kk nn (pc) (L) (st) (m) := by
  have e : len = 1 := Nat.eq_of_beq_eq_true Ok
  subst e
  rcases st with _ | ⟨b | b | b, _ | ⟨a | a | a, st⟩⟩ <;> cases hact
  exact s_iushr C hd hG
theorem ti_lcmp {len x y : Nat} {v : Int32} {pc' : Nat} {L' : List (Option mm_V)} {st' : List mm_V} {m' : mm_M} (C : mm_Cx p s mid args meth c D ad cy A xs xn k) (Ok : mm_okI k pc (.lcmp) len v x y = true) (hd : decode (mm_by k) pc = .ok (.lcmp, len)) (hact : mm_act (.lcmp) len v x y pc L st m = some (.inl (pc', L', st', m'))) (hG : mm_G p l e R s mid args below meth c Q D ad cy A xs xn mc ms k kk nn (pc') (L') (st') (m')) : mm_G p l e R s mid args below meth c Q D ad cy A xs xn mc ms k kk nn (pc) (L) (st) (m) := by
  have e : len = 1 := Nat.eq_of_beq_eq_true Ok
  subst e
  rcases st with _ | ⟨b | b | b, _ | ⟨a | a | a, st⟩⟩ <;> cases hact
  exact s_lcmp C hd hG
theorem ti_idiv {len x y : Nat} {v : Int32} {pc' : Nat} {L' : List (Option mm_V)} {st' : List mm_V} {m' : mm_M} (C : mm_Cx p s mid args meth c D ad cy A xs xn k) (Ok : mm_okI k pc (.idiv) len v x y = true) (hd : decode (mm_by k) pc = .ok (.idiv, len)) (hact : mm_act (.idiv) len v x y pc L st m = some (.inl (pc', L', st', m'))) (hG : mm_G p l e R s mid args below meth c Q D ad cy A xs xn mc ms k kk nn (pc') (L') (st') (m')) : mm_G p l e R s mid args below meth c Q D ad cy A xs xn mc ms k kk nn (pc) (L) (st) (m) := by
  have e : len = 1 := Nat.eq_of_beq_eq_true Ok
  subst e
  rcases st with _ | ⟨b | b | b, st⟩
  · cases hact
  · rcases st with _ | ⟨a | a | a, st⟩
    · cases hact
    · have h : (if b = 0 then none else mm_k (pc + 1) L (.inl (a / b) :: st) m) = some (.inl (pc', L', st', m')) := hact
      split at h
      · cases h
      · rename_i hb
        cases h
        exact s_idiv C hb hd hG
    · cases hact
    · cases hact
  · cases hact
  · cases hact
theorem ti_irem {len x y : Nat} {v : Int32} {pc' : Nat} {L' : List (Option mm_V)} {st' : List mm_V} {m' : mm_M} (C : mm_Cx p s mid args meth c D ad cy A xs xn k) (Ok : mm_okI k pc (.irem) len v x y = true) (hd : decode (mm_by k) pc = .ok (.irem, len)) (hact : mm_act (.irem) len v x y pc L st m = some (.inl (pc', L', st', m'))) (hG : mm_G p l e R s mid args below meth c Q D ad cy A xs xn mc ms k kk nn (pc') (L') (st') (m')) : mm_G p l e R s mid args below meth c Q D ad cy A xs xn mc ms k kk nn (pc) (L) (st) (m) := by
  have e : len = 1 := Nat.eq_of_beq_eq_true Ok
  subst e
  rcases st with _ | ⟨b | b | b, st⟩
  · cases hact
  · rcases st with _ | ⟨a | a | a, st⟩
    · cases hact
    · have h : (if b = 0 then none else mm_k (pc + 1) L (.inl (a % b) :: st) m) = some (.inl (pc', L', st', m')) := hact
      split at h
      · cases h
      · rename_i hb
        cases h
        exact s_irem C hb hd hG
    · cases hact
    · cases hact
  · cases hact
  · cases hact
theorem ti_i2l {len x y : Nat} {v : Int32} {pc' : Nat} {L' : List (Option mm_V)} {st' : List mm_V} {m' : mm_M} (C : mm_Cx p s mid args meth c D ad cy A xs xn k) (Ok : mm_okI k pc (.i2l) len v x y = true) (hd : decode (mm_by k) pc = .ok (.i2l, len)) (hact : mm_act (.i2l) len v x y pc L st m = some (.inl (pc', L', st', m'))) (hG : mm_G p l e R s mid args below meth c Q D ad cy A xs xn mc ms k kk nn (pc') (L') (st') (m')) : mm_G p l e R s mid args below meth c Q D ad cy A xs xn mc ms k kk nn (pc) (L) (st) (m) := by
  have e : len = 1 := Nat.eq_of_beq_eq_true Ok
  subst e
  rcases st with _ | ⟨b | b | b, st⟩ <;> cases hact
  exact s_i2l C hd hG
theorem ti_i2b {len x y : Nat} {v : Int32} {pc' : Nat} {L' : List (Option mm_V)} {st' : List mm_V} {m' : mm_M} (C : mm_Cx p s mid args meth c D ad cy A xs xn k) (Ok : mm_okI k pc (.i2b) len v x y = true) (hd : decode (mm_by k) pc = .ok (.i2b, len)) (hact : mm_act (.i2b) len v x y pc L st m = some (.inl (pc', L', st', m'))) (hG : mm_G p l e R s mid args below meth c Q D ad cy A xs xn mc ms k kk nn (pc') (L') (st') (m')) : mm_G p l e R s mid args below meth c Q D ad cy A xs xn mc ms k kk nn (pc) (L) (st) (m) := by
  have e : len = 1 := Nat.eq_of_beq_eq_true Ok
  subst e
  rcases st with _ | ⟨b | b | b, st⟩ <;> cases hact
  exact s_i2b C hd hG
theorem ti_i2s {len x y : Nat} {v : Int32} {pc' : Nat} {L' : List (Option mm_V)} {st' : List mm_V} {m' : mm_M} (C : mm_Cx p s mid args meth c D ad cy A xs xn k) (Ok : mm_okI k pc (.i2s) len v x y = true) (hd : decode (mm_by k) pc = .ok (.i2s, len)) (hact : mm_act (.i2s) len v x y pc L st m = some (.inl (pc', L', st', m'))) (hG : mm_G p l e R s mid args below meth c Q D ad cy A xs xn mc ms k kk nn (pc') (L') (st') (m')) : mm_G p l e R s mid args below meth c Q D ad cy A xs xn mc ms k kk nn (pc) (L) (st) (m) := by
  have e : len = 1 := Nat.eq_of_beq_eq_true Ok
  subst e
  rcases st with _ | ⟨b | b | b, st⟩ <;> cases hact
  exact s_i2s C hd hG
theorem ti_getfield {idx : Nat} {len x y : Nat} {v : Int32} {pc' : Nat} {L' : List (Option mm_V)} {st' : List mm_V} {m' : mm_M} (C : mm_Cx p s mid args meth c D ad cy A xs xn k) (Ok : mm_okI k pc (.getfield idx) len v x y = true) (hd : decode (mm_by k) pc = .ok (.getfield idx, len)) (hact : mm_act (.getfield idx) len v x y pc L st m = some (.inl (pc', L', st', m'))) (hG : mm_G p l e R s mid args below meth c Q D ad cy A xs xn mc ms k kk nn (pc') (L') (st') (m')) : mm_G p l e R s mid args below meth c Q D ad cy A xs xn mc ms k kk nn (pc) (L) (st) (m) := by
  have Ok := (Bool.and_eq_true _ _).mp Ok
  have e : len = 3 := Nat.eq_of_beq_eq_true Ok.1
  subst e
  have Ok := Ok.2
  obtain ⟨hlk, h13⟩ := mm_okf_ok Ok
  rcases st with _ | ⟨b | b | _ | ⟨g, i⟩, st⟩
  · cases hact
  · rcases st with _ | ⟨a | a | a, st⟩ <;> cases hact
  · cases hact
  · cases hact
  · have h : (match mm_ob g with
      | some (ci, fs) => bif Nat.beq ci x then (match fs[y]? with
        | some f => mm_getf (pc + 3) L st m g i y f
        | none => none) else none
      | none => none) = some (.inl (pc', L', st', m')) := hact
    cases hob : mm_ob g with
    | none => rw [hob] at h; cases h
    | some q =>
      obtain ⟨ci, fs⟩ := q
      rw [hob] at h
      dsimp only at h
      cases hb : Nat.beq ci x with
      | false => rw [hb] at h; cases h
      | true =>
        rw [hb] at h
        have e := Nat.eq_of_beq_eq_true hb
        subst e
        dsimp only [cond] at h
        cases hf : fs[y]? with
        | none => rw [hf] at h; cases h
        | some f =>
          rw [hf] at h
          exact s_getfield C hd hob hf hlk (mm_cfok _ h13) h hG
theorem ti_putfield {idx : Nat} {len x y : Nat} {v : Int32} {pc' : Nat} {L' : List (Option mm_V)} {st' : List mm_V} {m' : mm_M} (C : mm_Cx p s mid args meth c D ad cy A xs xn k) (Ok : mm_okI k pc (.putfield idx) len v x y = true) (hd : decode (mm_by k) pc = .ok (.putfield idx, len)) (hact : mm_act (.putfield idx) len v x y pc L st m = some (.inl (pc', L', st', m'))) (hG : mm_G p l e R s mid args below meth c Q D ad cy A xs xn mc ms k kk nn (pc') (L') (st') (m')) : mm_G p l e R s mid args below meth c Q D ad cy A xs xn mc ms k kk nn (pc) (L) (st) (m) := by
  have Ok := (Bool.and_eq_true _ _).mp Ok
  have e : len = 3 := Nat.eq_of_beq_eq_true Ok.1
  subst e
  have Ok := Ok.2
  have Ok := (Bool.and_eq_true _ _).mp Ok
  obtain ⟨hlk, h13⟩ := mm_okf_ok Ok.1
  rcases st with _ | ⟨u, _ | ⟨b | b | _ | ⟨g, i⟩, st⟩⟩
  · cases hact
  · rcases u with u | u | u <;> cases hact
  · rcases u with u | u | u <;> cases hact
  · rcases u with u | u | u <;> cases hact
  · rcases u with u | u | u <;> cases hact
  · have h : (match mm_ob g with
      | some (ci, fs) => bif Nat.beq ci x then (match fs[y]? with
        | some f => mm_putf (pc + 3) L st m g i y f u
        | none => none) else none
      | none => none) = some (.inl (pc', L', st', m')) := hact
    cases hob : mm_ob g with
    | none => rw [hob] at h; cases h
    | some q =>
      obtain ⟨ci, fs⟩ := q
      rw [hob] at h
      dsimp only at h
      cases hb : Nat.beq ci x with
      | false => rw [hb] at h; cases h
      | true =>
        rw [hb] at h
        have e := Nat.eq_of_beq_eq_true hb
        subst e
        dsimp only [cond] at h
        cases hf : fs[y]? with
        | none => rw [hf] at h; cases h
        | some f =>
          rw [hf] at h
          obtain ⟨hfin, hft⟩ := mm_okp_ok Ok.2 hob hf
          exact s_putfield C hd hob hf hlk (mm_cfok _ h13) hfin hft h hG
theorem ti_iaload {len x y : Nat} {v : Int32} {pc' : Nat} {L' : List (Option mm_V)} {st' : List mm_V} {m' : mm_M} (C : mm_Cx p s mid args meth c D ad cy A xs xn k) (hxn : xn < 2147483648) (Ok : mm_okI k pc (.iaload) len v x y = true) (hd : decode (mm_by k) pc = .ok (.iaload, len)) (hact : mm_act (.iaload) len v x y pc L st m = some (.inl (pc', L', st', m'))) (hG : mm_G p l e R s mid args below meth c Q D ad cy A xs xn mc ms k kk nn (pc') (L') (st') (m')) : mm_G p l e R s mid args below meth c Q D ad cy A xs xn mc ms k kk nn (pc) (L) (st) (m) := by
  have e : len = 1 := Nat.eq_of_beq_eq_true Ok
  subst e
  rcases st with _ | ⟨j | b | b, st⟩
  · cases hact
  · rcases st with _ | ⟨b | b | _ | ⟨g, i⟩, st⟩
    · cases hact
    · cases hact
    · cases hact
    · cases hact
    · have h : (bif Nat.beq g mm_gX then (if mm_in j (m g 1 0).toNatClampNeg then mm_k (pc + 1) L (.inl (m g 0 j.toNatClampNeg) :: st) m else none) else (match mm_ar g with
        | some (0, n, _) => if mm_in j n then mm_k (pc + 1) L (.inl (m g i j.toNatClampNeg) :: st) m else none
        | _ => none)) = some (.inl (pc', L', st', m')) := hact
      cases hb : Nat.beq g mm_gX with
      | true =>
        rw [hb] at h
        have e := Nat.eq_of_beq_eq_true hb
        subst e
        dsimp only [cond] at h
        split at h
        · rename_i hj
          cases h
          exact s_sload C hxn hd hj hG
        · cases h
      | false =>
        rw [hb] at h
        dsimp only [cond] at h
        split at h
        · rename_i ha
          split at h
          · rename_i hj
            cases h
            exact s_iaload C hd ha hj hG
          · cases h
        · cases h
  · cases hact
  · cases hact
theorem ti_baload {len x y : Nat} {v : Int32} {pc' : Nat} {L' : List (Option mm_V)} {st' : List mm_V} {m' : mm_M} (C : mm_Cx p s mid args meth c D ad cy A xs xn k) (Ok : mm_okI k pc (.baload) len v x y = true) (hd : decode (mm_by k) pc = .ok (.baload, len)) (hact : mm_act (.baload) len v x y pc L st m = some (.inl (pc', L', st', m'))) (hG : mm_G p l e R s mid args below meth c Q D ad cy A xs xn mc ms k kk nn (pc') (L') (st') (m')) : mm_G p l e R s mid args below meth c Q D ad cy A xs xn mc ms k kk nn (pc) (L) (st) (m) := by
  have e : len = 1 := Nat.eq_of_beq_eq_true Ok
  subst e
  rcases st with _ | ⟨j | b | b, st⟩
  · cases hact
  · rcases st with _ | ⟨b | b | _ | ⟨g, i⟩, st⟩
    · cases hact
    · cases hact
    · cases hact
    · cases hact
    · have h : (match mm_ar g with
        | some (1, n, _) => if mm_in j n then mm_k (pc + 1) L (.inl (m g i j.toNatClampNeg) :: st) m else none
        | some (2, n, _) => if mm_in j n then mm_k (pc + 1) L (.inl (m g i j.toNatClampNeg) :: st) m else none
        | _ => none) = some (.inl (pc', L', st', m')) := hact
      split at h
      · rename_i ha
        split at h
        · rename_i hj
          cases h
          exact s_baload C hd ha hj hG
        · cases h
      · rename_i ha
        split at h
        · rename_i hj
          cases h
          exact s_zaload C hd ha hj hG
        · cases h
      · cases h
  · cases hact
  · cases hact
theorem ti_laload {len x y : Nat} {v : Int32} {pc' : Nat} {L' : List (Option mm_V)} {st' : List mm_V} {m' : mm_M} (C : mm_Cx p s mid args meth c D ad cy A xs xn k) (Ok : mm_okI k pc (.laload) len v x y = true) (hd : decode (mm_by k) pc = .ok (.laload, len)) (hact : mm_act (.laload) len v x y pc L st m = some (.inl (pc', L', st', m'))) (hG : mm_G p l e R s mid args below meth c Q D ad cy A xs xn mc ms k kk nn (pc') (L') (st') (m')) : mm_G p l e R s mid args below meth c Q D ad cy A xs xn mc ms k kk nn (pc) (L) (st) (m) := by
  have e : len = 1 := Nat.eq_of_beq_eq_true Ok
  subst e
  rcases st with _ | ⟨j | b | b, st⟩
  · cases hact
  · rcases st with _ | ⟨b | b | _ | ⟨g, i⟩, st⟩
    · cases hact
    · cases hact
    · cases hact
    · cases hact
    · have h : (match mm_ar g with
        | some (3, n, _) => if mm_in j n then mm_k (pc + 1) L (.inr (.inl (m g i j.toNatClampNeg)) :: st) m else none
        | _ => none) = some (.inl (pc', L', st', m')) := hact
      split at h
      · rename_i ha
        split at h
        · rename_i hj
          cases h
          exact s_laload C hd ha hj hG
        · cases h
      · cases h
  · cases hact
  · cases hact
theorem ti_aaload {len x y : Nat} {v : Int32} {pc' : Nat} {L' : List (Option mm_V)} {st' : List mm_V} {m' : mm_M} (C : mm_Cx p s mid args meth c D ad cy A xs xn k) (Ok : mm_okI k pc (.aaload) len v x y = true) (hd : decode (mm_by k) pc = .ok (.aaload, len)) (hact : mm_act (.aaload) len v x y pc L st m = some (.inl (pc', L', st', m'))) (hG : mm_G p l e R s mid args below meth c Q D ad cy A xs xn mc ms k kk nn (pc') (L') (st') (m')) : mm_G p l e R s mid args below meth c Q D ad cy A xs xn mc ms k kk nn (pc) (L) (st) (m) := by
  have e : len = 1 := Nat.eq_of_beq_eq_true Ok
  subst e
  rcases st with _ | ⟨j | b | b, st⟩
  · cases hact
  · rcases st with _ | ⟨b | b | _ | ⟨g, i⟩, st⟩
    · cases hact
    · cases hact
    · cases hact
    · cases hact
    · have h : (match mm_ra g with
        | some (n, h, b) => if mm_in j n then mm_k (pc + 1) L (.inr (.inr (some (h, b + j.toNatClampNeg))) :: st) m else none
        | _ => none) = some (.inl (pc', L', st', m')) := hact
      split at h
      · rename_i ha
        split at h
        · rename_i hj
          cases h
          exact s_aaload C hd ha hj hG
        · cases h
      · cases h
  · cases hact
  · cases hact
theorem ti_iastore {len x y : Nat} {v : Int32} {pc' : Nat} {L' : List (Option mm_V)} {st' : List mm_V} {m' : mm_M} (C : mm_Cx p s mid args meth c D ad cy A xs xn k) (Ok : mm_okI k pc (.iastore) len v x y = true) (hd : decode (mm_by k) pc = .ok (.iastore, len)) (hact : mm_act (.iastore) len v x y pc L st m = some (.inl (pc', L', st', m'))) (hG : mm_G p l e R s mid args below meth c Q D ad cy A xs xn mc ms k kk nn (pc') (L') (st') (m')) : mm_G p l e R s mid args below meth c Q D ad cy A xs xn mc ms k kk nn (pc) (L) (st) (m) := by
  have e : len = 1 := Nat.eq_of_beq_eq_true Ok
  subst e
  rcases st with _ | ⟨a | a | a, st⟩
  · cases hact
  · rcases st with _ | ⟨j | b | b, st⟩
    · cases hact
    · rcases st with _ | ⟨b | b | _ | ⟨g, i⟩, st⟩
      · cases hact
      · cases hact
      · cases hact
      · cases hact
      · have h : (match mm_ar g with
          | some (0, n, _) => if mm_in j n then mm_k (pc + 1) L st (mm_w m g i j.toNatClampNeg a) else none
          | _ => none) = some (.inl (pc', L', st', m')) := hact
        split at h
        · rename_i ha
          split at h
          · rename_i hj
            cases h
            exact s_iastore C hd ha hj hG
          · cases h
        · cases h
    · cases hact
    · cases hact
  · cases hact
  · cases hact
theorem ti_bastore {len x y : Nat} {v : Int32} {pc' : Nat} {L' : List (Option mm_V)} {st' : List mm_V} {m' : mm_M} (C : mm_Cx p s mid args meth c D ad cy A xs xn k) (Ok : mm_okI k pc (.bastore) len v x y = true) (hd : decode (mm_by k) pc = .ok (.bastore, len)) (hact : mm_act (.bastore) len v x y pc L st m = some (.inl (pc', L', st', m'))) (hG : mm_G p l e R s mid args below meth c Q D ad cy A xs xn mc ms k kk nn (pc') (L') (st') (m')) : mm_G p l e R s mid args below meth c Q D ad cy A xs xn mc ms k kk nn (pc) (L) (st) (m) := by
  have e : len = 1 := Nat.eq_of_beq_eq_true Ok
  subst e
  rcases st with _ | ⟨a | a | a, st⟩
  · cases hact
  · rcases st with _ | ⟨j | b | b, st⟩
    · cases hact
    · rcases st with _ | ⟨b | b | _ | ⟨g, i⟩, st⟩
      · cases hact
      · cases hact
      · cases hact
      · cases hact
      · have h : (match mm_ar g with
          | some (1, n, _) => if mm_in j n then mm_k (pc + 1) L st (mm_w m g i j.toNatClampNeg a.toInt8.toInt32) else none
          | some (2, n, _) => if mm_in j n then (if a = 0 ∨ a = 1 then mm_k (pc + 1) L st (mm_w m g i j.toNatClampNeg a) else none) else none
          | _ => none) = some (.inl (pc', L', st', m')) := hact
        split at h
        · rename_i ha
          split at h
          · rename_i hj
            cases h
            exact s_bastore C hd ha hj hG
          · cases h
        · rename_i ha
          split at h
          · rename_i hj
            split at h
            · rename_i h01
              cases h
              exact s_zastore C hd ha hj h01 hG
            · cases h
          · cases h
        · cases h
    · cases hact
    · cases hact
  · cases hact
  · cases hact
theorem ti_lastore {len x y : Nat} {v : Int32} {pc' : Nat} {L' : List (Option mm_V)} {st' : List mm_V} {m' : mm_M} (C : mm_Cx p s mid args meth c D ad cy A xs xn k) (Ok : mm_okI k pc (.lastore) len v x y = true) (hd : decode (mm_by k) pc = .ok (.lastore, len)) (hact : mm_act (.lastore) len v x y pc L st m = some (.inl (pc', L', st', m'))) (hG : mm_G p l e R s mid args below meth c Q D ad cy A xs xn mc ms k kk nn (pc') (L') (st') (m')) : mm_G p l e R s mid args below meth c Q D ad cy A xs xn mc ms k kk nn (pc) (L) (st) (m) := by
  have e : len = 1 := Nat.eq_of_beq_eq_true Ok
  subst e
  rcases st with _ | ⟨a | a | a, st⟩
  · cases hact
  · rcases st with _ | ⟨j | b | b, st⟩ <;> cases hact
  · rcases st with _ | ⟨j | b | b, st⟩
    · cases hact
    · rcases st with _ | ⟨b | b | _ | ⟨g, i⟩, st⟩
      · cases hact
      · cases hact
      · cases hact
      · cases hact
      · have h : (match mm_ar g with
          | some (3, n, _) => if mm_in j n then mm_k (pc + 1) L st (mm_w m g i j.toNatClampNeg a) else none
          | _ => none) = some (.inl (pc', L', st', m')) := hact
        split at h
        · rename_i ha
          split at h
          · rename_i hj
            cases h
            exact s_lastore C hd ha hj hG
          · cases h
        · cases h
    · cases hact
    · cases hact
  · rcases st with _ | ⟨j | b | b, st⟩ <;> cases hact
theorem ti_alen {len x y : Nat} {v : Int32} {pc' : Nat} {L' : List (Option mm_V)} {st' : List mm_V} {m' : mm_M} (C : mm_Cx p s mid args meth c D ad cy A xs xn k) (hxn : xn < 2147483648) (Ok : mm_okI k pc (.arraylength) len v x y = true) (hd : decode (mm_by k) pc = .ok (.arraylength, len)) (hact : mm_act (.arraylength) len v x y pc L st m = some (.inl (pc', L', st', m'))) (hG : mm_G p l e R s mid args below meth c Q D ad cy A xs xn mc ms k kk nn (pc') (L') (st') (m')) : mm_G p l e R s mid args below meth c Q D ad cy A xs xn mc ms k kk nn (pc) (L) (st) (m) := by
  have e : len = 1 := Nat.eq_of_beq_eq_true Ok
  subst e
  rcases st with _ | ⟨b | b | _ | ⟨g, i⟩, st⟩
  · cases hact
  · rcases st with _ | ⟨a | a | a, st⟩ <;> cases hact
  · cases hact
  · cases hact
  · have h : (bif Nat.beq g mm_gX then mm_k (pc + 1) L (.inl (m g 1 0) :: st) m else (match mm_ar g with
      | some (_, _, z) => mm_k (pc + 1) L (.inl z :: st) m
      | none => (match mm_ra g with
        | some (n, _, _) => mm_k (pc + 1) L (.inl (Int32.ofNat n) :: st) m
        | none => none))) = some (.inl (pc', L', st', m')) := hact
    cases hb : Nat.beq g mm_gX with
    | true =>
      rw [hb] at h
      have e := Nat.eq_of_beq_eq_true hb
      subst e
      dsimp only [cond] at h
      cases h
      exact s_slen C hxn hd hG
    | false =>
      rw [hb] at h
      dsimp only [cond] at h
      split at h
      · rename_i ha
        cases h
        exact s_alen C hd ha hG
      · split at h
        · rename_i ha
          cases h
          exact s_alenR C hd ha hG
        · cases h
theorem ti_goto {off : Int} {len x y : Nat} {v : Int32} {pc' : Nat} {L' : List (Option mm_V)} {st' : List mm_V} {m' : mm_M} (C : mm_Cx p s mid args meth c D ad cy A xs xn k) (Ok : mm_okI k pc (.goto off) len v x y = true) (hd : decode (mm_by k) pc = .ok (.goto off, len)) (hact : mm_act (.goto off) len v x y pc L st m = some (.inl (pc', L', st', m'))) (hG : mm_G p l e R s mid args below meth c Q D ad cy A xs xn mc ms k kk nn (pc') (L') (st') (m')) : mm_G p l e R s mid args below meth c Q D ad cy A xs xn mc ms k kk nn (pc) (L) (st) (m) := by
  have Ok := (Bool.and_eq_true _ _).mp Ok
  have e : len = 3 := Nat.eq_of_beq_eq_true Ok.1
  subst e
  have Ok := Ok.2
  have Ok := of_decide_eq_true Ok
  have h : mm_k x L st m = some (.inl (pc', L', st', m')) := hact
  cases h
  exact s_goto C hd Ok hG
theorem ti_if {cn : ClassFile.Cond} {off : Int} {len x y : Nat} {v : Int32} {pc' : Nat} {L' : List (Option mm_V)} {st' : List mm_V} {m' : mm_M} (C : mm_Cx p s mid args meth c D ad cy A xs xn k) (Ok : mm_okI k pc (.ifCond cn off) len v x y = true) (hd : decode (mm_by k) pc = .ok (.ifCond cn off, len)) (hact : mm_act (.ifCond cn off) len v x y pc L st m = some (.inl (pc', L', st', m'))) (hG : mm_G p l e R s mid args below meth c Q D ad cy A xs xn mc ms k kk nn (pc') (L') (st') (m')) : mm_G p l e R s mid args below meth c Q D ad cy A xs xn mc ms k kk nn (pc) (L) (st) (m) := by
  have Ok := (Bool.and_eq_true _ _).mp Ok
  have e : len = 3 := Nat.eq_of_beq_eq_true Ok.1
  subst e
  have Ok := Ok.2
  have hOff := of_decide_eq_true Ok
  rcases st with _ | ⟨b | b | b, st⟩
  · cases hact
  · cases cn with
    | eq =>
      have h : (if b = (0 : Int32) then mm_k x L st m else mm_k (pc + 3) L st m) = some (.inl (pc', L', st', m')) := hact
      refine s_if_eq C hd hOff (fun hc => ?_) (fun hc => ?_)
      · rw [if_pos hc] at h
        cases h
        exact hG
      · rw [if_neg hc] at h
        cases h
        exact hG
    | ne =>
      have h : (if b ≠ (0 : Int32) then mm_k x L st m else mm_k (pc + 3) L st m) = some (.inl (pc', L', st', m')) := hact
      refine s_if_ne C hd hOff (fun hc => ?_) (fun hc => ?_)
      · rw [if_pos hc] at h
        cases h
        exact hG
      · rw [if_neg hc] at h
        cases h
        exact hG
    | lt =>
      have h : (if b < (0 : Int32) then mm_k x L st m else mm_k (pc + 3) L st m) = some (.inl (pc', L', st', m')) := hact
      refine s_if_lt C hd hOff (fun hc => ?_) (fun hc => ?_)
      · rw [if_pos hc] at h
        cases h
        exact hG
      · rw [if_neg hc] at h
        cases h
        exact hG
    | ge =>
      have h : (if (0 : Int32) ≤ b then mm_k x L st m else mm_k (pc + 3) L st m) = some (.inl (pc', L', st', m')) := hact
      refine s_if_ge C hd hOff (fun hc => ?_) (fun hc => ?_)
      · rw [if_pos hc] at h
        cases h
        exact hG
      · rw [if_neg hc] at h
        cases h
        exact hG
    | gt =>
      have h : (if (0 : Int32) < b then mm_k x L st m else mm_k (pc + 3) L st m) = some (.inl (pc', L', st', m')) := hact
      refine s_if_gt C hd hOff (fun hc => ?_) (fun hc => ?_)
      · rw [if_pos hc] at h
        cases h
        exact hG
      · rw [if_neg hc] at h
        cases h
        exact hG
    | le =>
      have h : (if b ≤ (0 : Int32) then mm_k x L st m else mm_k (pc + 3) L st m) = some (.inl (pc', L', st', m')) := hact
      refine s_if_le C hd hOff (fun hc => ?_) (fun hc => ?_)
      · rw [if_pos hc] at h
        cases h
        exact hG
      · rw [if_neg hc] at h
        cases h
        exact hG
  · cases hact
  · cases hact
theorem ti_icmp {cn : ClassFile.Cond} {off : Int} {len x y : Nat} {v : Int32} {pc' : Nat} {L' : List (Option mm_V)} {st' : List mm_V} {m' : mm_M} (C : mm_Cx p s mid args meth c D ad cy A xs xn k) (Ok : mm_okI k pc (.if_icmp cn off) len v x y = true) (hd : decode (mm_by k) pc = .ok (.if_icmp cn off, len)) (hact : mm_act (.if_icmp cn off) len v x y pc L st m = some (.inl (pc', L', st', m'))) (hG : mm_G p l e R s mid args below meth c Q D ad cy A xs xn mc ms k kk nn (pc') (L') (st') (m')) : mm_G p l e R s mid args below meth c Q D ad cy A xs xn mc ms k kk nn (pc) (L) (st) (m) := by
  have Ok := (Bool.and_eq_true _ _).mp Ok
  have e : len = 3 := Nat.eq_of_beq_eq_true Ok.1
  subst e
  have Ok := Ok.2
  have hOff := of_decide_eq_true Ok
  rcases st with _ | ⟨b | b | b, st⟩
  · cases hact
  · rcases st with _ | ⟨a | a | a, st⟩
    · cases hact
    · cases cn with
      | eq =>
        have h : (if a = b then mm_k x L st m else mm_k (pc + 3) L st m) = some (.inl (pc', L', st', m')) := hact
        refine s_icmp_eq C hd hOff (fun hc => ?_) (fun hc => ?_)
        · rw [if_pos hc] at h
          cases h
          exact hG
        · rw [if_neg hc] at h
          cases h
          exact hG
      | ne =>
        have h : (if a ≠ b then mm_k x L st m else mm_k (pc + 3) L st m) = some (.inl (pc', L', st', m')) := hact
        refine s_icmp_ne C hd hOff (fun hc => ?_) (fun hc => ?_)
        · rw [if_pos hc] at h
          cases h
          exact hG
        · rw [if_neg hc] at h
          cases h
          exact hG
      | lt =>
        have h : (if a < b then mm_k x L st m else mm_k (pc + 3) L st m) = some (.inl (pc', L', st', m')) := hact
        refine s_icmp_lt C hd hOff (fun hc => ?_) (fun hc => ?_)
        · rw [if_pos hc] at h
          cases h
          exact hG
        · rw [if_neg hc] at h
          cases h
          exact hG
      | ge =>
        have h : (if b ≤ a then mm_k x L st m else mm_k (pc + 3) L st m) = some (.inl (pc', L', st', m')) := hact
        refine s_icmp_ge C hd hOff (fun hc => ?_) (fun hc => ?_)
        · rw [if_pos hc] at h
          cases h
          exact hG
        · rw [if_neg hc] at h
          cases h
          exact hG
      | gt =>
        have h : (if b < a then mm_k x L st m else mm_k (pc + 3) L st m) = some (.inl (pc', L', st', m')) := hact
        refine s_icmp_gt C hd hOff (fun hc => ?_) (fun hc => ?_)
        · rw [if_pos hc] at h
          cases h
          exact hG
        · rw [if_neg hc] at h
          cases h
          exact hG
      | le =>
        have h : (if a ≤ b then mm_k x L st m else mm_k (pc + 3) L st m) = some (.inl (pc', L', st', m')) := hact
        refine s_icmp_le C hd hOff (fun hc => ?_) (fun hc => ?_)
        · rw [if_pos hc] at h
          cases h
          exact hG
        · rw [if_neg hc] at h
          cases h
          exact hG
    · cases hact
    · cases hact
  · cases hact
  · cases hact
theorem ti_nonnull {off : Int} {len x y : Nat} {v : Int32} {pc' : Nat} {L' : List (Option mm_V)} {st' : List mm_V} {m' : mm_M} (C : mm_Cx p s mid args meth c D ad cy A xs xn k) (Ok : mm_okI k pc (.ifnonnull off) len v x y = true) (hd : decode (mm_by k) pc = .ok (.ifnonnull off, len)) (hact : mm_act (.ifnonnull off) len v x y pc L st m = some (.inl (pc', L', st', m'))) (hG : mm_G p l e R s mid args below meth c Q D ad cy A xs xn mc ms k kk nn (pc') (L') (st') (m')) : mm_G p l e R s mid args below meth c Q D ad cy A xs xn mc ms k kk nn (pc) (L) (st) (m) := by
  have Ok := (Bool.and_eq_true _ _).mp Ok
  have e : len = 3 := Nat.eq_of_beq_eq_true Ok.1
  subst e
  have Ok := Ok.2
  have hOff := of_decide_eq_true Ok
  rcases st with _ | ⟨b | b | _ | r, st⟩
  · cases hact
  · rcases st with _ | ⟨a | a | a, st⟩ <;> cases hact
  · cases hact
  · cases hact
    exact s_nonnullN C hd hG
  · cases hact
    exact s_nonnull C hd hOff hG
theorem ti_tsw {d lo hi : Int} {offs : Array Int} {len x y : Nat} {v : Int32} {pc' : Nat} {L' : List (Option mm_V)} {st' : List mm_V} {m' : mm_M} (C : mm_Cx p s mid args meth c D ad cy A xs xn k) (Ok : mm_okI k pc (.tableswitch d lo hi offs) len v x y = true) (hd : decode (mm_by k) pc = .ok (.tableswitch d lo hi offs, len)) (hact : mm_act (.tableswitch d lo hi offs) len v x y pc L st m = some (.inl (pc', L', st', m'))) (hG : mm_G p l e R s mid args below meth c Q D ad cy A xs xn mc ms k kk nn (pc') (L') (st') (m')) : mm_G p l e R s mid args below meth c Q D ad cy A xs xn mc ms k kk nn (pc) (L) (st) (m) := by
  have Ok := (Bool.and_eq_true _ _).mp Ok
  have Ok2 := (Bool.and_eq_true _ _).mp Ok.2
  rcases st with _ | ⟨b | b | b, st⟩
  · cases hact
  · exact s_tsw C hd Ok.1 (of_decide_eq_true Ok2.1) (of_decide_eq_true Ok2.2) hact hG
  · cases hact
  · cases hact
theorem ti_lsw {d : Int} {ps : Array (Int × Int)} {len x y : Nat} {v : Int32} {pc' : Nat} {L' : List (Option mm_V)} {st' : List mm_V} {m' : mm_M} (C : mm_Cx p s mid args meth c D ad cy A xs xn k) (Ok : mm_okI k pc (.lookupswitch d ps) len v x y = true) (hd : decode (mm_by k) pc = .ok (.lookupswitch d ps, len)) (hact : mm_act (.lookupswitch d ps) len v x y pc L st m = some (.inl (pc', L', st', m'))) (hG : mm_G p l e R s mid args below meth c Q D ad cy A xs xn mc ms k kk nn (pc') (L') (st') (m')) : mm_G p l e R s mid args below meth c Q D ad cy A xs xn mc ms k kk nn (pc) (L) (st) (m) := by
  have Ok := (Bool.and_eq_true _ _).mp Ok
  have Ok2 := (Bool.and_eq_true _ _).mp Ok.2
  rcases st with _ | ⟨b | b | b, st⟩
  · cases hact
  · exact s_lsw C hd Ok.1 Ok2.1 (of_decide_eq_true Ok2.2) hact hG
  · cases hact
  · cases hact
end MMU
