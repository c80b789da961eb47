/-! a step of a constructor on the JVM (by program: wip/gen/gen_cc2.py) -/
section CCU
variable {p : Program} {l : Launch} {e : Env} {R : Room} {s : State} {mid : MethodId} {args : Array Value} {below : List Frame} {meth : Method} {c : Code} {Q : State → Prop} {D : va_G} {tx : Nat → Nat} {cy : Nat → ClassId} {z0 : Nat} {ad0 : Nat → Nat} {n0 mc ms k kk nn pc : Nat} {L : List (Option cc_V)} {st : List cc_V} {hp : cc_H}
theorem c_act {i : Instr} {len x y a b : Nat} {v : Int32} {pc' : Nat} {L' : List (Option cc_V)} {st' : List cc_V} {hp' : cc_H} (C : cc_Cx p s mid args meth c D tx cy z0 k) (hR : mc ≤ R.cells ∧ ms ≤ R.slots) (hRf : 1 ≤ R.frames ∧ 200 ≤ R.locals) (Ok : cc_okI k pc i len v x y = true) (hd : decode (cc_by k) pc = .ok (i, len)) (hact : cc_act i len v x y pc L st hp = some (.inl ((pc', L', st', hp'), a, b))) (hG : cc_G p l e R s mid args below meth c Q D tx cy z0 ad0 n0 mc ms k (kk) (nn) (pc') (L') (st') (hp')) : cc_G p l e R s mid args below meth c Q D tx cy z0 ad0 n0 mc ms k (a + kk) (b + nn) (pc) (L) (st) (hp) := by
  cases i with
  | aaload  => cases hact
  | aastore  =>
    have e : len = 1 := Nat.eq_of_beq_eq_true Ok
    subst e
    rcases st with _ | ⟨w | _ | r, st⟩
    · cases hact
    · cases hact
    · cases hact
    · rcases st with _ | ⟨j | j, _ | ⟨w | _ | i | w, st⟩⟩
      · cases hact
      · cases hact
      · cases hact
      · cases hact
      · have h : (match hp[i]? with
          | some (.inr (kd, n, .inr lr)) => if 0 ≤ j ∧ j.toNatClampNeg < n then (bif cc_sto hp kd r && Nat.beq lr.length n then cc_k (pc + 1) L st (hp.set i (.inr (kd, n, .inr (lr.set j.toNatClampNeg (some r))))) else none) else none
          | _ => none) = some (.inl ((pc', L', st', hp'), a, b)) := hact
        split at h
        · rename_i kd n lr hi
          split at h
          · rename_i hj
            cases hb : (cc_sto hp kd r && Nat.beq lr.length n) with
            | false => rw [hb] at h; cases h
            | true =>
              rw [hb] at h
              have hb := (Bool.and_eq_true _ _).mp hb
              cases h
              rw [Nat.zero_add, Nat.zero_add]
              exact c_aast C hd hi hj hb.1 (Nat.eq_of_beq_eq_true hb.2) hG
          · cases h
        · cases h
      · cases hact
      · cases hact
      · cases hact
      · cases hact
      · cases hact
      · cases hact
  | aconst_null  =>
    have e : len = 1 := Nat.eq_of_beq_eq_true Ok
    subst e
    have h : cc_k (pc + 1) L (.inr none :: st) hp = some (.inl ((pc', L', st', hp'), a, b)) := hact
    cases h
    rw [Nat.zero_add, Nat.zero_add]
    intro ad H locs cells slots ls stk hB hS hls hs hc1 hc2
    exact lv_null C.1 C.2.1 hd (hG ad H locs cells slots ls _ hB hS hls ⟨⟨rfl, rfl⟩, hs⟩ hc1 hc2)
  | aload a0 => cases hact
  | aload_n a0 =>
    have e : len = 1 := Nat.eq_of_beq_eq_true Ok
    subst e
    have h : (match L[a0.val]? with
      | some (some (.inr r)) => cc_k (pc + 1) L (.inr r :: st) hp
      | _ => none) = some (.inl ((pc', L', st', hp'), a, b)) := hact
    split at h
    · rename_i r hL
      cases h
      rw [Nat.zero_add, Nat.zero_add]
      intro ad H locs cells slots ls stk hB hS hls hs hc1 hc2
      obtain ⟨w, hw, hv⟩ := hls.2.2.2 a0.val _ hL
      obtain ⟨hvb, rfl⟩ := hv
      rcases r with _ | r
      · exact lv_aload_nN C.1 C.2.1 hd rfl hw (hG ad H locs cells slots ls _ hB hS hls ⟨⟨hvb, rfl⟩, hs⟩ hc1 hc2)
      · exact lv_aload_n C.1 C.2.1 hd rfl hw (hG ad H locs cells slots ls _ hB hS hls ⟨⟨hvb, rfl⟩, hs⟩ hc1 hc2)
    · cases h
  | anewarray a0 =>
    have Ok := (Bool.and_eq_true _ _).mp Ok
    have e : len = 3 := Nat.eq_of_beq_eq_true Ok.1
    subst e
    have Ok2 := (Bool.and_eq_true _ _).mp Ok.2
    have hl := cc_any Ok2.2
    rcases st with _ | ⟨n | n, st⟩
    · cases hact
    · have h : (if 0 ≤ n ∧ n.toNatClampNeg ≤ 10000 then cc_push (pc + 3) L st hp [.inr (x, n.toNatClampNeg, .inr (List.replicate n.toNatClampNeg none))] 1 n.toNatClampNeg else none) = some (.inl ((pc', L', st', hp'), a, b)) := hact
      split at h
      · rename_i hn
        cases h
        rcases (Bool.or_eq_true _ _).mp Ok2.1 with hx | hx
        · have e := Nat.eq_of_beq_eq_true hx
          subst e
          exact c_newq C hR hd rfl hl C.2.2.2.2.2.2.2.2.2.2.1 hn.1 rfl hn.2 hG
        · rcases (Bool.or_eq_true _ _).mp hx with hx | hx
          · have e := Nat.eq_of_beq_eq_true hx
            subst e
            exact c_newq C hR hd rfl hl C.2.2.2.2.2.2.2.2.2.2.2.1 hn.1 rfl hn.2 hG
          · have e := Nat.eq_of_beq_eq_true hx
            subst e
            exact c_newq C hR hd rfl hl C.2.2.2.2.2.2.2.2.2.2.2.2.1 hn.1 rfl hn.2 hG
      · cases h
    · cases hact
  | areturn  => cases hact
  | arraylength  =>
    have e : len = 1 := Nat.eq_of_beq_eq_true Ok
    subst e
    rcases st with _ | ⟨w | _ | i | w, st⟩
    · cases hact
    · cases hact
    · cases hact
    · have h : (match hp[i]? with
        | some (.inr (0, n, .inl _)) => cc_k (pc + 1) L (.inl (Int32.ofNat n) :: st) hp
        | _ => none) = some (.inl ((pc', L', st', hp'), a, b)) := hact
      split at h
      · rename_i n f hi
        cases h
        rw [Nat.zero_add, Nat.zero_add]
        exact c_alen C hd hi hG
      · cases h
    · cases hact
  | astore a0 => cases hact
  | astore_n a0 => cases hact
  | athrow  => cases hact
  | baload  => cases hact
  | bastore  => cases hact
  | bipush a0 =>
    have Ok := (Bool.and_eq_true _ _).mp Ok
    have e : len = 2 := Nat.eq_of_beq_eq_true Ok.1
    subst e
    have hn := of_decide_eq_true Ok.2
    have h : cc_k (pc + 2) L (.inl v :: st) hp = some (.inl ((pc', L', st', hp'), a, b)) := hact
    cases h
    rw [Nat.zero_add, Nat.zero_add]
    intro ad H locs cells slots ls stk hB hS hls hs hc1 hc2
    exact lv_bipush C.1 C.2.1 hd hn (hG ad H locs cells slots ls _ hB hS hls ⟨⟨rfl, rfl⟩, hs⟩ hc1 hc2)
  | caload  => cases hact
  | castore  => cases hact
  | checkcast a0 => cases hact
  | d2f  => cases hact
  | d2i  => cases hact
  | d2l  => cases hact
  | dadd  => cases hact
  | daload  => cases hact
  | dastore  => cases hact
  | dcmp a0 => cases hact
  | dconst a0 => cases hact
  | ddiv  => cases hact
  | dload a0 => cases hact
  | dload_n a0 => cases hact
  | dmul  => cases hact
  | dneg  => cases hact
  | drem  => cases hact
  | dreturn  => cases hact
  | dstore a0 => cases hact
  | dstore_n a0 => cases hact
  | dsub  => cases hact
  | dup  =>
    have e : len = 1 := Nat.eq_of_beq_eq_true Ok
    subst e
    cases st with
    | nil => cases hact
    | cons u st =>
      have h : cc_k (pc + 1) L (u :: u :: st) hp = some (.inl ((pc', L', st', hp'), a, b)) := hact
      cases h
      rw [Nat.zero_add, Nat.zero_add]
      intro ad H locs cells slots ls stk hB hS hls hs hc1 hc2
      match stk, hs with
      | w :: stk, ⟨h1, hs⟩ => exact lv_dup C.1 C.2.1 hd (cc_cat h1) (hG ad H locs cells slots ls _ hB hS hls ⟨h1, h1, hs⟩ hc1 hc2)
  | dup_x1  => cases hact
  | dup_x2  => cases hact
  | dup2  => cases hact
  | dup2_x1  => cases hact
  | dup2_x2  => cases hact
  | f2d  => cases hact
  | f2i  => cases hact
  | f2l  => cases hact
  | fadd  => cases hact
  | faload  => cases hact
  | fastore  => cases hact
  | fcmp a0 => cases hact
  | fconst a0 => cases hact
  | fdiv  => cases hact
  | fload a0 => cases hact
  | fload_n a0 => cases hact
  | fmul  => cases hact
  | fneg  => cases hact
  | frem  => cases hact
  | freturn  => cases hact
  | fstore a0 => cases hact
  | fstore_n a0 => cases hact
  | fsub  => cases hact
  | getfield a0 =>
    have Ok := (Bool.and_eq_true _ _).mp Ok
    have e : len = 3 := Nat.eq_of_beq_eq_true Ok.1
    subst e
    have Ok2 := (Bool.and_eq_true _ _).mp Ok.2
    have hx : x < 13 := Nat.le_of_ble_eq_true Ok2.1
    have hfl := cc_anyf Ok2.2
    rcases st with _ | ⟨w | _ | i | w, st⟩
    · cases hact
    · cases hact
    · cases hact
    · have h : (match hp[i]? with
        | some (.inl (c, fs)) => bif Nat.beq c x then (match fs[y]? with
          | some u => cc_k (pc + 3) L (u :: st) hp
          | none => none) else none
        | _ => none) = some (.inl ((pc', L', st', hp'), a, b)) := hact
      split at h
      · rename_i c9 fs hi
        cases hb : Nat.beq c9 x with
        | false => rw [hb] at h; cases h
        | true =>
          rw [hb] at h
          have e := Nat.eq_of_beq_eq_true hb
          subst e
          dsimp only [cond] at h
          split at h
          · rename_i u hu
            cases h
            rw [Nat.zero_add, Nat.zero_add]
            exact c_get C hd hx hfl hi hu hG
          · cases h
      · cases h
    · cases hact
  | getstatic a0 => cases hact
  | goto a0 =>
    have Ok := (Bool.and_eq_true _ _).mp Ok
    have e : len = 3 := Nat.eq_of_beq_eq_true Ok.1
    subst e
    have hOff := of_decide_eq_true Ok.2
    have h : cc_k x L st hp = some (.inl ((pc', L', st', hp'), a, b)) := hact
    cases h
    rw [Nat.zero_add, Nat.zero_add]
    intro ad H locs cells slots ls stk hB hS hls hs hc1 hc2
    exact lv_goto C.1 C.2.1 hd hOff (hG ad H locs cells slots ls stk hB hS hls hs hc1 hc2)
  | goto_w a0 => cases hact
  | i2b  => cases hact
  | i2c  => cases hact
  | i2d  => cases hact
  | i2f  => cases hact
  | i2l  => cases hact
  | i2s  => cases hact
  | iadd  => cases hact
  | iaload  => cases hact
  | iand  => cases hact
  | iastore  =>
    have e : len = 1 := Nat.eq_of_beq_eq_true Ok
    subst e
    rcases st with _ | ⟨u | u, st⟩
    · cases hact
    · rcases st with _ | ⟨j | j, _ | ⟨w | _ | i | w, st⟩⟩
      · cases hact
      · cases hact
      · cases hact
      · cases hact
      · have h : (match hp[i]? with
          | some (.inr (0, n, .inl f)) => if 0 ≤ j ∧ j.toNatClampNeg < n then cc_k (pc + 1) L st (hp.set i (.inr (0, n, .inl ((j.toNatClampNeg, u) :: f)))) else none
          | _ => none) = some (.inl ((pc', L', st', hp'), a, b)) := hact
        split at h
        · rename_i n f hi
          split at h
          · rename_i hj
            cases h
            rw [Nat.zero_add, Nat.zero_add]
            exact c_iast C hd hi hj hG
          · cases h
        · cases h
      · cases hact
      · cases hact
      · cases hact
      · cases hact
      · cases hact
      · cases hact
    · cases hact
  | iconst a0 =>
    have Ok := (Bool.and_eq_true _ _).mp Ok
    have e : len = 1 := Nat.eq_of_beq_eq_true Ok.1
    subst e
    have hn := of_decide_eq_true Ok.2
    have h : cc_k (pc + 1) L (.inl v :: st) hp = some (.inl ((pc', L', st', hp'), a, b)) := hact
    cases h
    rw [Nat.zero_add, Nat.zero_add]
    intro ad H locs cells slots ls stk hB hS hls hs hc1 hc2
    exact lv_iconst C.1 C.2.1 hd hn (hG ad H locs cells slots ls _ hB hS hls ⟨⟨rfl, rfl⟩, hs⟩ hc1 hc2)
  | idiv  => cases hact
  | if_acmp a0 a1 => cases hact
  | if_icmp a0 a1 =>
    have Ok := (Bool.and_eq_true _ _).mp Ok
    have e : len = 3 := Nat.eq_of_beq_eq_true Ok.1
    subst e
    have hOff := of_decide_eq_true Ok.2
    cases a0 with
    | ge =>
      rcases st with _ | ⟨u | u, _ | ⟨w | w, st⟩⟩
      · cases hact
      · cases hact
      · have h : (if u ≤ w then cc_k x L st hp else cc_k (pc + 3) L st hp) = some (.inl ((pc', L', st', hp'), a, b)) := hact
        split at h
        · rename_i hc
          cases h
          rw [Nat.zero_add, Nat.zero_add]
          intro ad H locs cells slots ls stk hB hS hls hs hc1 hc2
          match stk, hs with
          | _ :: _ :: stk, ⟨⟨_, rfl⟩, ⟨_, rfl⟩, hs⟩ => exact lv_icmp_ge C.1 C.2.1 hd hOff (fun _ => hG ad H locs cells slots ls stk hB hS hls hs hc1 hc2) (fun z => absurd hc z)
        · rename_i hc
          cases h
          rw [Nat.zero_add, Nat.zero_add]
          intro ad H locs cells slots ls stk hB hS hls hs hc1 hc2
          match stk, hs with
          | _ :: _ :: stk, ⟨⟨_, rfl⟩, ⟨_, rfl⟩, hs⟩ => exact lv_icmp_ge C.1 C.2.1 hd hOff (fun z => absurd z hc) (fun _ => hG ad H locs cells slots ls stk hB hS hls hs hc1 hc2)
      · cases hact
      · cases hact
      · cases hact
      · cases hact
    | _ => cases hact
  | ifCond a0 a1 => cases hact
  | ifnonnull a0 => cases hact
  | ifnull a0 => cases hact
  | iinc a0 a1 =>
    have Ok := (Bool.and_eq_true _ _).mp Ok
    have e : len = 3 := Nat.eq_of_beq_eq_true Ok.1
    subst e
    have hn := of_decide_eq_true Ok.2
    have h : (match L[a0]? with
      | some (some (.inl r)) => cc_k (pc + 3) (L.set a0 (some (.inl (r + v)))) st hp
      | _ => none) = some (.inl ((pc', L', st', hp'), a, b)) := hact
    split at h
    · rename_i r hL
      cases h
      rw [Nat.zero_add, Nat.zero_add]
      intro ad H locs cells slots ls stk hB hS hls hs hc1 hc2
      obtain ⟨w, hw, hv⟩ := hls.2.2.2 a0 _ hL
      obtain ⟨hvb, rfl⟩ := hv
      have hj : a0 < cc_ml k := by rw [← hls.2.2.1]; exact (List.getElem?_eq_some_iff.mp hL).1
      obtain ⟨q, hq⟩ : ∃ q : Nat, (mm_lv ls)[q]? = some (a0, Value.int r) := List.getElem?_of_mem (mm_lv_mem hw rfl)
      refine lv_iinc C.1 C.2.1 hd (mm_lv_has hls.1 hls.2.1) hq (by rw [hn]) hj rfl (fun ls' hl' => ?_)
      exact hG ad H locs cells slots ls' stk hB hS (cc_lr_set hls hj ⟨rfl, rfl⟩ hl') hs hc1 hc2
    · cases h
  | iload a0 => cases hact
  | iload_n a0 =>
    have e : len = 1 := Nat.eq_of_beq_eq_true Ok
    subst e
    have h : (match L[a0.val]? with
      | some (some (.inl r)) => cc_k (pc + 1) L (.inl r :: st) hp
      | _ => none) = some (.inl ((pc', L', st', hp'), a, b)) := hact
    split at h
    · rename_i r hL
      cases h
      rw [Nat.zero_add, Nat.zero_add]
      intro ad H locs cells slots ls stk hB hS hls hs hc1 hc2
      obtain ⟨w, hw, hv⟩ := hls.2.2.2 a0.val _ hL
      obtain ⟨hvb, rfl⟩ := hv
      exact lv_iload_n C.1 C.2.1 hd rfl hw (hG ad H locs cells slots ls _ hB hS hls ⟨⟨rfl, rfl⟩, hs⟩ hc1 hc2)
    · cases h
  | imul  => cases hact
  | ineg  => cases hact
  | instanceof a0 => cases hact
  | invokedynamic a0 => cases hact
  | invokeinterface a0 a1 => cases hact
  | invokespecial a0 =>
    have Ok := (Bool.and_eq_true _ _).mp Ok
    have e : len = 3 := Nat.eq_of_beq_eq_true Ok.1
    subst e
    have hm := cc_anym Ok.2
    rcases st with _ | ⟨w | _ | i | w, st⟩
    · cases hact
    · cases hact
    · cases hact
    · have h : (bif Nat.beq x 99 then (bif Nat.ble st.length 8 then cc_k (pc + 3) L st hp else none) else (bif Nat.blt x 13 && (Nat.ble st.length 8 && Nat.blt i hp.length) then some (.inr (.inl (x, [.inr (some (.inl i))], (pc + 3, L, st, hp)))) else none)) = some (.inl ((pc', L', st', hp'), a, b)) := hact
      cases hb : Nat.beq x 99 with
      | true =>
        rw [hb] at h
        have e := Nat.eq_of_beq_eq_true hb
        subst e
        dsimp only [cond] at h
        cases hb8 : Nat.ble st.length 8 with
        | false => rw [hb8] at h; cases h
        | true =>
        rw [hb8] at h
        have h8 := Nat.le_of_ble_eq_true hb8
        cases h
        rw [Nat.zero_add, Nat.zero_add]
        intro ad H locs cells slots ls stk hB hS hls hs hc1 hc2
        have hlk : Cond.methodLink (cc_rn k) a0 Lib.objectInit ∈ lw_tbl := by
          rcases hm with ⟨-, h9⟩ | ⟨h9, -⟩ | ⟨h9, -⟩
          · exact h9
          · omega
          · omega
        match stk, hs with
        | w :: stk, ⟨hz, hs⟩ =>
          have hz := cc_ref_in hz
          subst hz
          have hwd := cc_sr_wd _ _ hs
          refine W.objInit C.1 C.2.1 C.2.2.2.1 (C.2.2.2.2.1 _ hlk rfl) (C.2.2.2.2.1 _ cc_wOi rfl) (C.2.2.2.2.1 _ cc_wOc rfl) (g := F0 mid pc ls (.ref (ad i) :: stk)) rfl (hls.1.trans C.2.2.1.symm) rfl hd hRf.1 (by show 2 * 0 + _ + 12 ≤ _; omega) ?_
          exact hG ad H locs cells slots ls stk hB hS hls hs hc1 hc2
      | false =>
        rw [hb] at h
        dsimp only [cond] at h
        cases hb2 : (Nat.blt x 13 && (Nat.ble st.length 8 && Nat.blt i hp.length)) with
        | false => rw [hb2] at h; cases h
        | true => rw [hb2] at h; cases h
    · cases hact
  | invokestatic a0 =>
    rcases st with _ | ⟨u | u, _ | ⟨w | _ | i | w, st⟩⟩
    · cases hact
    · cases hact
    · cases hact
    · cases hact
    · have h : (bif Nat.beq x 13 && (Nat.ble st.length 8 && Nat.blt i hp.length) then some (Sum.inr (Sum.inl (x, [Sum.inr (some (Sum.inl i)), Sum.inl u], (pc + len, L, st, hp)))) else none) = (some (.inl ((pc', L', st', hp'), a, b)) : Option cc_A) := hact
      cases hb : (Nat.beq x 13 && (Nat.ble st.length 8 && Nat.blt i hp.length)) with
      | false => rw [hb] at h; cases h
      | true => rw [hb] at h; cases h
    · cases hact
    · cases hact
    · cases hact
    · cases hact
    · cases hact
    · cases hact
  | invokevirtual a0 => cases hact
  | ior  => cases hact
  | irem  => cases hact
  | ireturn  => cases hact
  | ishl  => cases hact
  | ishr  => cases hact
  | istore a0 => cases hact
  | istore_n a0 =>
    have e : len = 1 := Nat.eq_of_beq_eq_true Ok
    subst e
    rcases st with _ | ⟨u | u, st⟩
    · cases hact
    · have h : (bif Nat.blt a0.val L.length then cc_k (pc + 1) (L.set a0.val (some (.inl u))) st hp else none) = some (.inl ((pc', L', st', hp'), a, b)) := hact
      cases hb : Nat.blt a0.val L.length with
      | false => rw [hb] at h; cases h
      | true =>
        rw [hb] at h
        cases h
        rw [Nat.zero_add, Nat.zero_add]
        intro ad H locs cells slots ls stk hB hS hls hs hc1 hc2
        match stk, hs with
        | _ :: stk, ⟨⟨_, rfl⟩, hs⟩ =>
          have hj : a0.val < cc_ml k := by rw [← hls.2.2.1]; exact Nat.le_of_ble_eq_true hb
          refine lv_istore_n C.1 C.2.1 hd rfl (mm_lv_has hls.1 hls.2.1) hj rfl (fun ls' hl' => ?_)
          exact hG ad H locs cells slots ls' stk hB hS (cc_lr_set hls hj ⟨rfl, rfl⟩ hl') hs hc1 hc2
    · cases hact
  | isub  => cases hact
  | iushr  => cases hact
  | ixor  => cases hact
  | jsr a0 => cases hact
  | jsr_w a0 => cases hact
  | l2d  => cases hact
  | l2f  => cases hact
  | l2i  => cases hact
  | ladd  => cases hact
  | laload  => cases hact
  | land  => cases hact
  | lastore  => cases hact
  | lcmp  => cases hact
  | lconst a0 => cases hact
  | ldc a0 =>
    have Ok := (Bool.and_eq_true _ _).mp Ok
    have e : len = 2 := Nat.eq_of_beq_eq_true Ok.1
    subst e
    have Ok2 := (Bool.and_eq_true _ _).mp Ok.2
    have Ok3 := (Bool.and_eq_true _ _).mp Ok2.2
    have hy : y < mm_ns := Nat.le_of_ble_eq_true Ok3.1
    have h13 : k < 13 := Nat.le_of_ble_eq_true Ok3.2
    have h1 := Ok2.1
    split at h1
    · rename_i t ht
      have h2 := (Bool.and_eq_true _ _).mp h1
      have e1 := Nat.eq_of_beq_eq_true h2.1
      have e2 := Nat.eq_of_beq_eq_true h2.2
      obtain ⟨t1, t2, tt⟩ := t
      dsimp only at e1 e2
      subst e1
      subst e2
      have h : cc_k (pc + 2) L (.inr (some (.inr y)) :: st) hp = some (.inl ((pc', L', st', hp'), a, b)) := hact
      cases h
      rw [Nat.zero_add, Nat.zero_add]
      intro ad H locs cells slots ls stk hB hS hls hs hc1 hc2
      have hown : s.vm.findClass (mm_rn t1) = some mid.cls := by
        have h9 := List.all_eq_true.mp cc_rnm t1 (List.mem_range.mpr h13)
        rw [← of_decide_eq_true h9]
        exact C.2.2.2.1
      exact va_ldcS C.1 C.2.1 hown (C.2.2.2.2.2.1.2.2.2.1 y _ _ tt ht) hd (hG ad H locs cells slots ls _ hB hS hls ⟨⟨Nat.ble_eq_true_of_le hy, rfl⟩, hs⟩ hc1 hc2)
    · cases h1
  | ldc_w a0 => cases hact
  | ldc2_w a0 => cases hact
  | ldiv  => cases hact
  | lload a0 => cases hact
  | lload_n a0 => cases hact
  | lmul  => cases hact
  | lneg  => cases hact
  | lookupswitch a0 a1 => cases hact
  | lor  => cases hact
  | lrem  => cases hact
  | lreturn  => cases hact
  | lshl  => cases hact
  | lshr  => cases hact
  | lstore a0 => cases hact
  | lstore_n a0 => cases hact
  | lsub  => cases hact
  | lushr  => cases hact
  | lxor  => cases hact
  | monitorenter  => cases hact
  | monitorexit  => cases hact
  | multianewarray a0 a1 =>
    have Ok := (Bool.and_eq_true _ _).mp Ok
    have e : len = 4 := Nat.eq_of_beq_eq_true Ok.1
    subst e
    have Ok2 := (Bool.and_eq_true _ _).mp Ok.2
    have e := Nat.eq_of_beq_eq_true Ok2.1
    subst e
    have hl := cc_any Ok2.2
    rcases st with _ | ⟨m | m, _ | ⟨n | n, st⟩⟩
    · cases hact
    · cases hact
    · have h : (if (0 ≤ n ∧ n.toNatClampNeg ≤ 100) ∧ (0 ≤ m ∧ m.toNatClampNeg ≤ 100) then cc_push (pc + 4) L st hp (.inr (7, n.toNatClampNeg, .inr ((List.range n.toNatClampNeg).map (fun i => some (.inl (hp.length + 1 + i))))) :: List.replicate n.toNatClampNeg (.inr (0, m.toNatClampNeg, .inl []))) (1 + n.toNatClampNeg) (n.toNatClampNeg + n.toNatClampNeg * m.toNatClampNeg) else none) = some (.inl ((pc', L', st', hp'), a, b)) := hact
      split at h
      · rename_i hn
        cases h
        exact c_mna C hR hd hl hn.1.1 rfl hn.1.2 hn.2.1 rfl hn.2.2 hG
      · cases h
    · cases hact
    · cases hact
    · cases hact
    · cases hact
  | new a0 =>
    have Ok := (Bool.and_eq_true _ _).mp Ok
    have e : len = 3 := Nat.eq_of_beq_eq_true Ok.1
    subst e
    have Ok2 := (Bool.and_eq_true _ _).mp Ok.2
    have hx : x < 13 := Nat.le_of_ble_eq_true Ok2.1
    have hl := cc_any Ok2.2
    have hcn : cc_cn x = cc_rn x := by
      unfold cc_cn
      split <;> first | omega | rfl
    rw [hcn] at hl
    have h : cc_push (pc + 3) L st hp [.inl (x, cc_df x)] 1 (cc_df x).length = some (.inl ((pc', L', st', hp'), a, b)) := hact
    cases h
    exact c_new C hR hd hx hl hG
  | newarray a0 =>
    have Ok := (Bool.and_eq_true _ _).mp Ok
    have e : len = 2 := Nat.eq_of_beq_eq_true Ok.1
    subst e
    rcases st with _ | ⟨n | n, st⟩
    · cases hact
    · have h : (if 0 ≤ n ∧ n.toNatClampNeg ≤ 10000 then cc_push (pc + 2) L st hp [.inr (x, n.toNatClampNeg, .inl [])] 1 n.toNatClampNeg else none) = some (.inl ((pc', L', st', hp'), a, b)) := hact
      split at h
      · rename_i hn
        cases h
        have hok := Ok.2
        split at hok
        · exact c_newa C hR hd rfl rfl (by decide) cc_waI (fun _ _ => rfl) (by decide) hn.1 rfl hn.2 hG
        · exact c_newa C hR hd rfl rfl (by decide) cc_waB (fun _ _ => rfl) (by decide) hn.1 rfl hn.2 hG
        · exact c_newa C hR hd rfl rfl (by decide) cc_waZ (fun _ _ => rfl) (by decide) hn.1 rfl hn.2 hG
        · cases hok
      · cases h
    · cases hact
  | nop  => cases hact
  | pop  => cases hact
  | pop2  => cases hact
  | putfield a0 =>
    have Ok := (Bool.and_eq_true _ _).mp Ok
    have e : len = 3 := Nat.eq_of_beq_eq_true Ok.1
    subst e
    have Ok2 := (Bool.and_eq_true _ _).mp Ok.2
    have Ok3 := (Bool.and_eq_true _ _).mp Ok2.1
    have Ok4 := (Bool.and_eq_true _ _).mp Ok3.2
    have hx : x < 13 := Nat.le_of_ble_eq_true Ok3.1
    have hxk := Nat.eq_of_beq_eq_true Ok4.1
    have hfl := cc_anyf Ok2.2
    rcases st with _ | ⟨u, _ | ⟨w | _ | i | w, st⟩⟩
    · cases hact
    · cases hact
    · cases hact
    · cases hact
    · have h : (match hp[i]? with
        | some (.inl (c, fs)) => bif Nat.beq c x && (Nat.blt y fs.length && cc_tyb x y u) then cc_k (pc + 3) L st (hp.set i (.inl (c, fs.set y u))) else none
        | _ => none) = some (.inl ((pc', L', st', hp'), a, b)) := hact
      split at h
      · rename_i c9 fs hi
        cases hb : (Nat.beq c9 x && (Nat.blt y fs.length && cc_tyb x y u)) with
        | false => rw [hb] at h; cases h
        | true =>
          rw [hb] at h
          have hb := (Bool.and_eq_true _ _).mp hb
          have hb2 := (Bool.and_eq_true _ _).mp hb.2
          have e := Nat.eq_of_beq_eq_true hb.1
          subst e
          cases h
          rw [Nat.zero_add, Nat.zero_add]
          exact c_put C hd hx hxk hfl Ok4.2 hi (Nat.le_of_ble_eq_true hb2.1) hb2.2 hG
      · cases h
    · cases hact
  | putstatic a0 => cases hact
  | ret a0 => cases hact
  | return_ => cases st <;> cases hact
  | saload  => cases hact
  | sastore  => cases hact
  | sipush a0 =>
    have Ok := (Bool.and_eq_true _ _).mp Ok
    have e : len = 3 := Nat.eq_of_beq_eq_true Ok.1
    subst e
    have hn := of_decide_eq_true Ok.2
    have h : cc_k (pc + 3) L (.inl v :: st) hp = some (.inl ((pc', L', st', hp'), a, b)) := hact
    cases h
    rw [Nat.zero_add, Nat.zero_add]
    intro ad H locs cells slots ls stk hB hS hls hs hc1 hc2
    exact lv_sipush C.1 C.2.1 hd hn (hG ad H locs cells slots ls _ hB hS hls ⟨⟨rfl, rfl⟩, hs⟩ hc1 hc2)
  | swap  => cases hact
  | tableswitch a0 a1 a2 a3 => cases hact
end CCU
