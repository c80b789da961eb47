theorem mm_k_in {pc : Nat} {L : List (Option mm_V)} {st : List mm_V} {m : mm_M} {a : mm_A} (h : mm_k pc L st m = some a) : ∃ S, a = .inl S := ⟨_, (Option.some.inj h).symm⟩
theorem mm_getf_in {pc g i k : Nat} {L : List (Option mm_V)} {st : List mm_V} {m : mm_M} {f : mm_F} {a : mm_A} (h : mm_getf pc L st m g i k f = some a) : ∃ S, a = .inl S := by
  unfold mm_getf at h
  split at h
  · exact mm_k_in h
  · exact mm_k_in h
  · split at h
    · exact mm_k_in h
    · exact mm_k_in h
  · exact mm_k_in h
  · exact mm_k_in h
theorem mm_putf_in {pc g i k : Nat} {L : List (Option mm_V)} {st : List mm_V} {m : mm_M} {f : mm_F} {u : mm_V} {a : mm_A} (h : mm_putf pc L st m g i k f u = some a) : ∃ S, a = .inl S := by
  unfold mm_putf at h
  split at h
  · exact mm_k_in h
  · split at h
    · exact mm_k_in h
    · cases h
  · rename_i h1 h2 j
    cases hb : Nat.beq h1 h2 with
    | false => rw [hb] at h; cases h
    | true => rw [hb] at h; exact mm_k_in h
  · cases h
theorem mm_cond_in {c : ClassFile.Cond} {x y : Int32} {p1 p2 : Nat} {L : List (Option mm_V)} {st : List mm_V} {m : mm_M} {a : mm_A} (h : mm_cond c x y (mm_k p1 L st m) (mm_k p2 L st m) = some a) : ∃ S, a = .inl S := by
  unfold mm_cond at h
  split at h <;> split at h <;> exact mm_k_in h
theorem mm_swgo_in {x : Int32} {L : List (Option mm_V)} {st : List mm_V} {m : mm_M} {df : Nat} {a : mm_A} : ∀ (ps : List (Int32 × Nat)), mm_swgo x (fun t => mm_k t L st m) df ps = some a → ∃ S, a = .inl S
  | [], h => mm_k_in h
  | (k, t) :: ps, h => by
    unfold mm_swgo at h
    split at h
    · exact mm_k_in h
    · exact mm_swgo_in ps h
def mm_spec : Instr → Bool
  | .invokestatic _ => true
  | .invokevirtual _ => true
  | .ireturn => true
  | .return_ => true
  | .areturn => true
  | .new _ => true
  | _ => false
theorem mm_bifn {b : Bool} {X : Option mm_A} {a : mm_A} (h : (bif b then X else none) = some a) : X = some a := by
  cases b with
  | true => exact h
  | false => cases h
theorem mm_bif2 {b : Bool} {X Y : Option mm_A} {a : mm_A} (h : (bif b then X else Y) = some a) : X = some a ∨ Y = some a := by
  cases b with
  | true => exact Or.inl h
  | false => exact Or.inr h
theorem mm_jdk_in {x pc : Nat} {L : List (Option mm_V)} {st : List mm_V} {m : mm_M} {a : mm_A} (h : mm_jdk x pc L st m = some a) : ∃ S, a = .inl S := by
  unfold mm_jdk at h
  split at h
  all_goals first
    | exact mm_k_in h
    | exact mm_k_in (mm_bifn h)
    | (cases h; done)
    | (split at h <;> first | (cases h; done) | (split at h <;> first | exact mm_k_in h | (cases h; done)))
    | (have h := mm_bifn h; split at h <;> first | exact mm_k_in h | (cases h; done))
set_option maxHeartbeats 8000000 in
theorem mm_plain {i : Instr} {len x y pc : Nat} {v : Int32} {L : List (Option mm_V)} {st : List mm_V} {m : mm_M} {a : mm_A} (hi : mm_spec i = false) (h : mm_act i len v x y pc L st m = some a) : ∃ S, a = .inl S := by
  unfold mm_act at h
  split at h
  all_goals first
    | (cases hi; done)
    | exact mm_k_in h
    | exact mm_k_in (mm_bifn h)
    | (cases h; done)
    | exact mm_cond_in h
    | exact mm_swgo_in _ h
    | (split at h <;> first | exact mm_k_in h | (cases h; done) | (split at h <;> first | exact mm_k_in h | (cases h; done) | (split at h <;> first | exact mm_k_in h | (cases h; done))))
    | (split at h <;> first | (cases h; done) | (have h := mm_bifn h; split at h <;> first | exact mm_getf_in h | exact mm_putf_in h | (cases h; done)))
    | (rcases mm_bif2 h with h | h <;> first | exact mm_k_in h | (split at h <;> first | exact mm_k_in h | (cases h; done) | (split at h <;> first | exact mm_k_in h | (cases h; done))))
theorem mm_endk {i : Instr} {len x y pc : Nat} {v : Int32} {L : List (Option mm_V)} {st : List mm_V} {m : mm_M} {a : mm_A} (hi : mm_spec i = true) (h1 : ∀ z, i ≠ .invokestatic z) (h2 : ∀ z, i ≠ .invokevirtual z) (h : mm_act i len v x y pc L st m = some a) : ∃ o, a = .inr (.inr o) := by
  cases i with
  | ireturn =>
    rcases st with _ | ⟨b | b | b, _ | ⟨c | c | c, st⟩⟩
    · cases h
    · cases x with
      | zero => cases h; exact ⟨_, rfl⟩
      | succ x9 =>
        have h : (if b = 0 ∨ b = 1 then some (.inr (.inr (.inl (some (.inl b))))) else none) = some a := h
        split at h
        · cases h; exact ⟨_, rfl⟩
        · cases h
    all_goals cases h
  | areturn =>
    rcases st with _ | ⟨b | b | _ | b, _ | ⟨c | c | c, st⟩⟩
    all_goals first
      | (cases h; done)
      | (cases h; exact ⟨_, rfl⟩)
  | return_ =>
    rcases st with _ | ⟨b | b | b, _ | ⟨c | c | c, st⟩⟩
    all_goals first
      | (cases h; done)
      | (cases h; exact ⟨_, rfl⟩)
  | new z =>
    rcases st with _ | ⟨b | b | b, _ | ⟨c | c | c, st⟩⟩
    all_goals first
      | (cases h; done)
      | (cases h; exact ⟨_, rfl⟩)
  | invokestatic z => exact absurd rfl (h1 z)
  | invokevirtual z => exact absurd rfl (h2 z)
  | _ => cases hi
/-! a plain step; runs of the little machine are runs on the JVM (by program: wip/gen/gen_sound.py) -/
section MMW
variable {p : Program} {l : Launch} {e : Env} {R : Room} {s : State} {mid : MethodId} {args : Array Value} {below : List Frame} {meth : Method} {c : Code} {Q : State → Prop} {D : va_G} {ad : Nat → Nat → Nat} {cy : Nat → ClassId} {A : Nat → Prop} {xs : Nat → Int32} {xn : Nat} {mc ms : Nat} {k : Nat} {kk nn : Nat} {pc : Nat} {L : List (Option mm_V)} {st : List mm_V} {m : mm_M}
set_option maxHeartbeats 8000000 in
theorem s_act {i : Instr} {len x y : Nat} {v : Int32} {pc' : Nat} {L' : List (Option mm_V)} {st' : List mm_V} {m' : mm_M} (C : mm_Cx p s mid args meth c D ad cy A xs xn k) (hxn : xn < 2147483648) (hAw : ∀ q, mm_Aw ad s.heap.size q → A q) (hR : 8 ≤ R.frames ∧ 200 ≤ R.locals ∧ mc ≤ R.cells ∧ ms ≤ R.slots) (Ok : mm_okI k pc i len v x y = true) (hd : decode (mm_by k) pc = .ok (i, len)) (hact : mm_act i len v x y pc L st m = some (.inl (pc', L', st', m'))) (hG : mm_G p l e R s mid args below meth c Q D ad cy A xs xn mc ms k kk nn (pc') (L') (st') (m')) : mm_G p l e R s mid args below meth c Q D ad cy A xs xn mc ms k kk nn (pc) (L) (st) (m) := by
  cases i with
  | aaload  => exact ti_aaload C Ok hd hact hG
  | aastore  => rcases st with _ | ⟨b | b | b, _ | ⟨a | a | a, st⟩⟩ <;> cases hact
  | aconst_null  => rcases st with _ | ⟨b | b | b, _ | ⟨a | a | a, st⟩⟩ <;> cases hact
  | aload a0 => exact ti_aload C Ok hd hact hG
  | aload_n a0 => exact ti_aload_n C Ok hd hact hG
  | anewarray a0 => rcases st with _ | ⟨b | b | b, _ | ⟨a | a | a, st⟩⟩ <;> cases hact
  | areturn  => exact (by obtain ⟨o9, h9⟩ := mm_endk rfl (fun _ z => by cases z) (fun _ z => by cases z) hact; cases h9)
  | arraylength  => exact ti_alen C hxn Ok hd hact hG
  | astore a0 => exact ti_astore C Ok hd hact hG
  | astore_n a0 => exact ti_astore_n C Ok hd hact hG
  | athrow  => rcases st with _ | ⟨b | b | b, _ | ⟨a | a | a, st⟩⟩ <;> cases hact
  | baload  => exact ti_baload C Ok hd hact hG
  | bastore  => exact ti_bastore C Ok hd hact hG
  | bipush a0 => exact ti_bipush C Ok hd hact hG
  | caload  => rcases st with _ | ⟨b | b | b, _ | ⟨a | a | a, st⟩⟩ <;> cases hact
  | castore  => rcases st with _ | ⟨b | b | b, _ | ⟨a | a | a, st⟩⟩ <;> cases hact
  | checkcast a0 => rcases st with _ | ⟨b | b | b, _ | ⟨a | a | a, st⟩⟩ <;> cases hact
  | d2f  => rcases st with _ | ⟨b | b | b, _ | ⟨a | a | a, st⟩⟩ <;> cases hact
  | d2i  => rcases st with _ | ⟨b | b | b, _ | ⟨a | a | a, st⟩⟩ <;> cases hact
  | d2l  => rcases st with _ | ⟨b | b | b, _ | ⟨a | a | a, st⟩⟩ <;> cases hact
  | dadd  => rcases st with _ | ⟨b | b | b, _ | ⟨a | a | a, st⟩⟩ <;> cases hact
  | daload  => rcases st with _ | ⟨b | b | b, _ | ⟨a | a | a, st⟩⟩ <;> cases hact
  | dastore  => rcases st with _ | ⟨b | b | b, _ | ⟨a | a | a, st⟩⟩ <;> cases hact
  | dcmp a0 => rcases st with _ | ⟨b | b | b, _ | ⟨a | a | a, st⟩⟩ <;> cases hact
  | dconst a0 => rcases st with _ | ⟨b | b | b, _ | ⟨a | a | a, st⟩⟩ <;> cases hact
  | ddiv  => rcases st with _ | ⟨b | b | b, _ | ⟨a | a | a, st⟩⟩ <;> cases hact
  | dload a0 => rcases st with _ | ⟨b | b | b, _ | ⟨a | a | a, st⟩⟩ <;> cases hact
  | dload_n a0 => rcases st with _ | ⟨b | b | b, _ | ⟨a | a | a, st⟩⟩ <;> cases hact
  | dmul  => rcases st with _ | ⟨b | b | b, _ | ⟨a | a | a, st⟩⟩ <;> cases hact
  | dneg  => rcases st with _ | ⟨b | b | b, _ | ⟨a | a | a, st⟩⟩ <;> cases hact
  | drem  => rcases st with _ | ⟨b | b | b, _ | ⟨a | a | a, st⟩⟩ <;> cases hact
  | dreturn  => rcases st with _ | ⟨b | b | b, _ | ⟨a | a | a, st⟩⟩ <;> cases hact
  | dstore a0 => rcases st with _ | ⟨b | b | b, _ | ⟨a | a | a, st⟩⟩ <;> cases hact
  | dstore_n a0 => rcases st with _ | ⟨b | b | b, _ | ⟨a | a | a, st⟩⟩ <;> cases hact
  | dsub  => rcases st with _ | ⟨b | b | b, _ | ⟨a | a | a, st⟩⟩ <;> cases hact
  | dup  => exact ti_dup C Ok hd hact hG
  | dup_x1  => rcases st with _ | ⟨b | b | b, _ | ⟨a | a | a, st⟩⟩ <;> cases hact
  | dup_x2  => rcases st with _ | ⟨b | b | b, _ | ⟨a | a | a, st⟩⟩ <;> cases hact
  | dup2  => exact ti_dup2 C Ok hd hact hG
  | dup2_x1  => rcases st with _ | ⟨b | b | b, _ | ⟨a | a | a, st⟩⟩ <;> cases hact
  | dup2_x2  => rcases st with _ | ⟨b | b | b, _ | ⟨a | a | a, st⟩⟩ <;> cases hact
  | f2d  => rcases st with _ | ⟨b | b | b, _ | ⟨a | a | a, st⟩⟩ <;> cases hact
  | f2i  => rcases st with _ | ⟨b | b | b, _ | ⟨a | a | a, st⟩⟩ <;> cases hact
  | f2l  => rcases st with _ | ⟨b | b | b, _ | ⟨a | a | a, st⟩⟩ <;> cases hact
  | fadd  => rcases st with _ | ⟨b | b | b, _ | ⟨a | a | a, st⟩⟩ <;> cases hact
  | faload  => rcases st with _ | ⟨b | b | b, _ | ⟨a | a | a, st⟩⟩ <;> cases hact
  | fastore  => rcases st with _ | ⟨b | b | b, _ | ⟨a | a | a, st⟩⟩ <;> cases hact
  | fcmp a0 => rcases st with _ | ⟨b | b | b, _ | ⟨a | a | a, st⟩⟩ <;> cases hact
  | fconst a0 => rcases st with _ | ⟨b | b | b, _ | ⟨a | a | a, st⟩⟩ <;> cases hact
  | fdiv  => rcases st with _ | ⟨b | b | b, _ | ⟨a | a | a, st⟩⟩ <;> cases hact
  | fload a0 => rcases st with _ | ⟨b | b | b, _ | ⟨a | a | a, st⟩⟩ <;> cases hact
  | fload_n a0 => rcases st with _ | ⟨b | b | b, _ | ⟨a | a | a, st⟩⟩ <;> cases hact
  | fmul  => rcases st with _ | ⟨b | b | b, _ | ⟨a | a | a, st⟩⟩ <;> cases hact
  | fneg  => rcases st with _ | ⟨b | b | b, _ | ⟨a | a | a, st⟩⟩ <;> cases hact
  | frem  => rcases st with _ | ⟨b | b | b, _ | ⟨a | a | a, st⟩⟩ <;> cases hact
  | freturn  => rcases st with _ | ⟨b | b | b, _ | ⟨a | a | a, st⟩⟩ <;> cases hact
  | fstore a0 => rcases st with _ | ⟨b | b | b, _ | ⟨a | a | a, st⟩⟩ <;> cases hact
  | fstore_n a0 => rcases st with _ | ⟨b | b | b, _ | ⟨a | a | a, st⟩⟩ <;> cases hact
  | fsub  => rcases st with _ | ⟨b | b | b, _ | ⟨a | a | a, st⟩⟩ <;> cases hact
  | getfield a0 => exact ti_getfield C Ok hd hact hG
  | getstatic a0 => rcases st with _ | ⟨b | b | b, _ | ⟨a | a | a, st⟩⟩ <;> cases hact
  | goto a0 => exact ti_goto C Ok hd hact hG
  | goto_w a0 => rcases st with _ | ⟨b | b | b, _ | ⟨a | a | a, st⟩⟩ <;> cases hact
  | i2b  => exact ti_i2b C Ok hd hact hG
  | i2c  => rcases st with _ | ⟨b | b | b, _ | ⟨a | a | a, st⟩⟩ <;> cases hact
  | i2d  => rcases st with _ | ⟨b | b | b, _ | ⟨a | a | a, st⟩⟩ <;> cases hact
  | i2f  => rcases st with _ | ⟨b | b | b, _ | ⟨a | a | a, st⟩⟩ <;> cases hact
  | i2l  => exact ti_i2l C Ok hd hact hG
  | i2s  => exact ti_i2s C Ok hd hact hG
  | iadd  => exact ti_iadd C Ok hd hact hG
  | iaload  => exact ti_iaload C hxn Ok hd hact hG
  | iand  => exact ti_iand C Ok hd hact hG
  | iastore  => exact ti_iastore C Ok hd hact hG
  | iconst a0 => exact ti_iconst C Ok hd hact hG
  | idiv  => exact ti_idiv C Ok hd hact hG
  | if_acmp a0 a1 => rcases st with _ | ⟨b | b | b, _ | ⟨a | a | a, st⟩⟩ <;> cases hact
  | if_icmp a0 a1 => exact ti_icmp C Ok hd hact hG
  | ifCond a0 a1 => exact ti_if C Ok hd hact hG
  | ifnonnull a0 => exact ti_nonnull C Ok hd hact hG
  | ifnull a0 => rcases st with _ | ⟨b | b | b, _ | ⟨a | a | a, st⟩⟩ <;> cases hact
  | iinc a0 a1 => exact ti_iinc C Ok hd hact hG
  | iload a0 => exact ti_iload C Ok hd hact hG
  | iload_n a0 => exact ti_iload_n C Ok hd hact hG
  | imul  => exact ti_imul C Ok hd hact hG
  | ineg  => rcases st with _ | ⟨b | b | b, _ | ⟨a | a | a, st⟩⟩ <;> cases hact
  | instanceof a0 => rcases st with _ | ⟨b | b | b, _ | ⟨a | a | a, st⟩⟩ <;> cases hact
  | invokedynamic a0 => rcases st with _ | ⟨b | b | b, _ | ⟨a | a | a, st⟩⟩ <;> cases hact
  | invokeinterface a0 a1 => rcases st with _ | ⟨b | b | b, _ | ⟨a | a | a, st⟩⟩ <;> cases hact
  | invokespecial a0 => rcases st with _ | ⟨b | b | b, _ | ⟨a | a | a, st⟩⟩ <;> cases hact
  | invokestatic a0 =>
    have Ok := (Bool.and_eq_true _ _).mp Ok
    have e : len = 3 := Nat.eq_of_beq_eq_true Ok.1
    subst e
    have h : mm_call x y (pc + 3) L st m = some (.inl (pc', L', st', m')) := hact
    obtain ⟨⟨-, hw, -⟩, ⟨hx, hj⟩ | ⟨-, hj⟩⟩ := mm_call_in h
    · exact s_jdk (b := true) C hAw hR Ok.2 hd hx hw hj hG
    · cases hj
  | invokevirtual a0 =>
    have Ok := (Bool.and_eq_true _ _).mp Ok
    have e : len = 3 := Nat.eq_of_beq_eq_true Ok.1
    subst e
    have h : mm_call x y (pc + 3) L st m = some (.inl (pc', L', st', m')) := by
      have h : (bif mm_recv x y st then mm_call x y (pc + 3) L st m else none) = some (.inl (pc', L', st', m')) := hact
      cases hb : mm_recv x y st with
      | false => rw [hb] at h; cases h
      | true => rw [hb] at h; exact h
    obtain ⟨⟨-, hw, -⟩, ⟨hx, hj⟩ | ⟨-, hj⟩⟩ := mm_call_in h
    · exact s_jdk (b := false) C hAw hR Ok.2 hd hx hw hj hG
    · cases hj
  | ior  => exact ti_ior C Ok hd hact hG
  | irem  => exact ti_irem C Ok hd hact hG
  | ireturn  => exact (by obtain ⟨o9, h9⟩ := mm_endk rfl (fun _ z => by cases z) (fun _ z => by cases z) hact; cases h9)
  | ishl  => exact ti_ishl C Ok hd hact hG
  | ishr  => exact ti_ishr C Ok hd hact hG
  | istore a0 => exact ti_istore C Ok hd hact hG
  | istore_n a0 => exact ti_istore_n C Ok hd hact hG
  | isub  => exact ti_isub C Ok hd hact hG
  | iushr  => exact ti_iushr C Ok hd hact hG
  | ixor  => exact ti_ixor C Ok hd hact hG
  | jsr a0 => rcases st with _ | ⟨b | b | b, _ | ⟨a | a | a, st⟩⟩ <;> cases hact
  | jsr_w a0 => rcases st with _ | ⟨b | b | b, _ | ⟨a | a | a, st⟩⟩ <;> cases hact
  | l2d  => rcases st with _ | ⟨b | b | b, _ | ⟨a | a | a, st⟩⟩ <;> cases hact
  | l2f  => rcases st with _ | ⟨b | b | b, _ | ⟨a | a | a, st⟩⟩ <;> cases hact
  | l2i  => rcases st with _ | ⟨b | b | b, _ | ⟨a | a | a, st⟩⟩ <;> cases hact
  | ladd  => rcases st with _ | ⟨b | b | b, _ | ⟨a | a | a, st⟩⟩ <;> cases hact
  | laload  => exact ti_laload C Ok hd hact hG
  | land  => rcases st with _ | ⟨b | b | b, _ | ⟨a | a | a, st⟩⟩ <;> cases hact
  | lastore  => exact ti_lastore C Ok hd hact hG
  | lcmp  => exact ti_lcmp C Ok hd hact hG
  | lconst a0 => exact ti_lconst C Ok hd hact hG
  | ldc a0 => exact ti_ldc C Ok hd hact hG
  | ldc_w a0 => exact ti_ldc_w C Ok hd hact hG
  | ldc2_w a0 => rcases st with _ | ⟨b | b | b, _ | ⟨a | a | a, st⟩⟩ <;> cases hact
  | ldiv  => rcases st with _ | ⟨b | b | b, _ | ⟨a | a | a, st⟩⟩ <;> cases hact
  | lload a0 => rcases st with _ | ⟨b | b | b, _ | ⟨a | a | a, st⟩⟩ <;> cases hact
  | lload_n a0 => rcases st with _ | ⟨b | b | b, _ | ⟨a | a | a, st⟩⟩ <;> cases hact
  | lmul  => rcases st with _ | ⟨b | b | b, _ | ⟨a | a | a, st⟩⟩ <;> cases hact
  | lneg  => rcases st with _ | ⟨b | b | b, _ | ⟨a | a | a, st⟩⟩ <;> cases hact
  | lookupswitch a0 a1 => exact ti_lsw C Ok hd hact hG
  | lor  => rcases st with _ | ⟨b | b | b, _ | ⟨a | a | a, st⟩⟩ <;> cases hact
  | lrem  => rcases st with _ | ⟨b | b | b, _ | ⟨a | a | a, st⟩⟩ <;> cases hact
  | lreturn  => rcases st with _ | ⟨b | b | b, _ | ⟨a | a | a, st⟩⟩ <;> cases hact
  | lshl  => rcases st with _ | ⟨b | b | b, _ | ⟨a | a | a, st⟩⟩ <;> cases hact
  | lshr  => rcases st with _ | ⟨b | b | b, _ | ⟨a | a | a, st⟩⟩ <;> cases hact
  | lstore a0 => rcases st with _ | ⟨b | b | b, _ | ⟨a | a | a, st⟩⟩ <;> cases hact
  | lstore_n a0 => rcases st with _ | ⟨b | b | b, _ | ⟨a | a | a, st⟩⟩ <;> cases hact
  | lsub  => rcases st with _ | ⟨b | b | b, _ | ⟨a | a | a, st⟩⟩ <;> cases hact
  | lushr  => rcases st with _ | ⟨b | b | b, _ | ⟨a | a | a, st⟩⟩ <;> cases hact
  | lxor  => rcases st with _ | ⟨b | b | b, _ | ⟨a | a | a, st⟩⟩ <;> cases hact
  | monitorenter  => rcases st with _ | ⟨b | b | b, _ | ⟨a | a | a, st⟩⟩ <;> cases hact
  | monitorexit  => rcases st with _ | ⟨b | b | b, _ | ⟨a | a | a, st⟩⟩ <;> cases hact
  | multianewarray a0 a1 => rcases st with _ | ⟨b | b | b, _ | ⟨a | a | a, st⟩⟩ <;> cases hact
  | new a0 => exact (by obtain ⟨o9, h9⟩ := mm_endk rfl (fun _ z => by cases z) (fun _ z => by cases z) hact; cases h9)
  | newarray a0 => rcases st with _ | ⟨b | b | b, _ | ⟨a | a | a, st⟩⟩ <;> cases hact
  | nop  => rcases st with _ | ⟨b | b | b, _ | ⟨a | a | a, st⟩⟩ <;> cases hact
  | pop  => exact ti_pop C Ok hd hact hG
  | pop2  => rcases st with _ | ⟨b | b | b, _ | ⟨a | a | a, st⟩⟩ <;> cases hact
  | putfield a0 => exact ti_putfield C Ok hd hact hG
  | putstatic a0 => rcases st with _ | ⟨b | b | b, _ | ⟨a | a | a, st⟩⟩ <;> cases hact
  | ret a0 => rcases st with _ | ⟨b | b | b, _ | ⟨a | a | a, st⟩⟩ <;> cases hact
  | return_  => exact (by obtain ⟨o9, h9⟩ := mm_endk rfl (fun _ z => by cases z) (fun _ z => by cases z) hact; cases h9)
  | saload  => rcases st with _ | ⟨b | b | b, _ | ⟨a | a | a, st⟩⟩ <;> cases hact
  | sastore  => rcases st with _ | ⟨b | b | b, _ | ⟨a | a | a, st⟩⟩ <;> cases hact
  | sipush a0 => exact ti_sipush C Ok hd hact hG
  | swap  => rcases st with _ | ⟨b | b | b, _ | ⟨a | a | a, st⟩⟩ <;> cases hact
  | tableswitch a0 a1 a2 a3 => exact ti_tsw C Ok hd hact hG
theorem mm_step_in {k : Nat} {S : mm_S} {a : mm_A} (h : mm_step k S = some a) (hok : mm_okP k S.1 = true) : ∃ i len v x y q, mm_cd k S.1 = some (i, len, v, x, y, q) ∧ decode (mm_by k) S.1 = .ok (i, len) ∧ mm_okI k S.1 i len v x y = true ∧ (∀ bs, q = some bs → bs.length = (mm_mt k).2.2.2) ∧ mm_act i len v x y S.1 (mm_mask q S.2.1) S.2.2.1 S.2.2.2 = some a := by
  unfold mm_step at h
  unfold mm_okP at hok
  cases hc : mm_cd k S.1 with
  | none => rw [hc] at h; cases h
  | some e =>
    obtain ⟨i, len, v, x, y, q⟩ := e
    rw [hc] at h hok
    have hok := (Bool.and_eq_true _ _).mp hok
    have hok2 := (Bool.and_eq_true _ _).mp hok.2
    refine ⟨i, len, v, x, y, q, rfl, of_decide_eq_true hok.1, hok2.1, fun bs hbs => ?_, h⟩
    subst hbs
    exact Nat.eq_of_beq_eq_true hok2.2
theorem s_plain {pc' : Nat} {L' : List (Option mm_V)} {st' : List mm_V} {m' : mm_M} (C : mm_Cx p s mid args meth c D ad cy A xs xn k) (hxn : xn < 2147483648) (hAw : ∀ q, mm_Aw ad s.heap.size q → A q) (hR : 8 ≤ R.frames ∧ 200 ≤ R.locals ∧ mc ≤ R.cells ∧ ms ≤ R.slots) (hok : mm_okP k pc = true) (hst : mm_step k (pc, L, st, m) = some (.inl (pc', L', st', m'))) (hG : mm_G p l e R s mid args below meth c Q D ad cy A xs xn mc ms k kk nn (pc') (L') (st') (m')) : mm_G p l e R s mid args below meth c Q D ad cy A xs xn mc ms k kk nn (pc) (L) (st) (m) := by
  obtain ⟨i, len, v, x, y, q, -, hd, Ok, hq, hact⟩ := mm_step_in hst hok
  have h := s_act (pc := pc) C hxn hAw hR Ok hd hact hG
  intro H locs cells slots ls stk hP hcv hsv hS hl hs hc1 hc2
  exact h H locs cells slots ls stk hP hcv hsv hS (mm_mask_lr hl hq) hs hc1 hc2
/-- a step that calls -/
theorem s_stepc {k pc x : Nat} {L : List (Option mm_V)} {st as : List mm_V} {m : mm_M} {S : mm_S} (hok : mm_okP k pc = true) (hst : mm_step k (pc, L, st, m) = some (.inr (.inl (x, as, S)))) : ∃ q st2, (∀ bs, q = some bs → bs.length = (mm_mt k).2.2.2) ∧ S = (pc + 3, mm_mask q L, st2, m) ∧ st = as.reverse ++ st2 ∧ mm_wd st2 ≤ 8 ∧ (∀ v ∈ as, mm_nl v) ∧ mm_CallI k pc x as ∧ as.length ≤ (mm_mt x).2.2.2 ∧ x < 292 := by
  obtain ⟨i, len, v, x', y, q, -, hd, Ok, hq, hact⟩ := mm_step_in hst hok
  have key : ∀ (b : Bool) (idx : Nat), mm_okm k idx x' y b = true → decode (mm_by k) pc = .ok (bif b then .invokestatic idx else .invokevirtual idx, 3) → (b = false → mm_recv x' y st = true) → mm_call x' y (pc + 3) (mm_mask q L) st m = some (.inr (.inl (x, as, S))) → ∃ q st2, (∀ bs, q = some bs → bs.length = (mm_mt k).2.2.2) ∧ S = (pc + 3, mm_mask q L, st2, m) ∧ st = as.reverse ++ st2 ∧ mm_wd st2 ≤ 8 ∧ (∀ v ∈ as, mm_nl v) ∧ mm_CallI k pc x as ∧ as.length ≤ (mm_mt x).2.2.2 ∧ x < 292 := by
    intro b idx hokm hd hrec hcall
    obtain ⟨⟨hy, hw, hnl⟩, ⟨hx, hj⟩ | ⟨hx, hj⟩⟩ := mm_call_in hcall
    · exfalso
      unfold mm_jdk at hj
      split at hj
      all_goals first
        | (cases hj; done)
        | skip
      · split at hj
        · split at hj
          · cases hj
          · cases hj
        · cases hj
      · rename_i g9 i9 st9
        cases hb : Nat.beq g9 mm_gS with
        | false => rw [hb] at hj; cases hj
        | true => rw [hb] at hj; cases hj
      · rename_i j9 g9 i9 st9
        cases hb : Nat.beq g9 mm_gS with
        | false => rw [hb] at hj; cases hj
        | true =>
          rw [hb] at hj
          dsimp only [cond] at hj
          split at hj
          · cases hj
          · cases hj
    · cases hj
      obtain ⟨h1, h2, h3⟩ := s_calli hokm hd hx hy hrec
      refine ⟨q, st.drop y, hq, rfl, ?_, hw, fun v hv => hnl v (List.mem_reverse.mp hv), h1, ?_, h3⟩
      · rw [List.reverse_reverse, List.take_append_drop]
      · rw [List.length_reverse, List.length_take, Nat.min_eq_left hy]
        exact h2
  cases i with
  | aaload  => exact (by obtain ⟨S9, h9⟩ := mm_plain rfl hact; cases h9)
  | aastore  => exact (by obtain ⟨S9, h9⟩ := mm_plain rfl hact; cases h9)
  | aconst_null  => exact (by obtain ⟨S9, h9⟩ := mm_plain rfl hact; cases h9)
  | aload a0 => exact (by obtain ⟨S9, h9⟩ := mm_plain rfl hact; cases h9)
  | aload_n a0 => exact (by obtain ⟨S9, h9⟩ := mm_plain rfl hact; cases h9)
  | anewarray a0 => exact (by obtain ⟨S9, h9⟩ := mm_plain rfl hact; cases h9)
  | areturn  => exact (by obtain ⟨o9, h9⟩ := mm_endk rfl (fun _ z => by cases z) (fun _ z => by cases z) hact; cases h9)
  | arraylength  => exact (by obtain ⟨S9, h9⟩ := mm_plain rfl hact; cases h9)
  | astore a0 => exact (by obtain ⟨S9, h9⟩ := mm_plain rfl hact; cases h9)
  | astore_n a0 => exact (by obtain ⟨S9, h9⟩ := mm_plain rfl hact; cases h9)
  | athrow  => exact (by obtain ⟨S9, h9⟩ := mm_plain rfl hact; cases h9)
  | baload  => exact (by obtain ⟨S9, h9⟩ := mm_plain rfl hact; cases h9)
  | bastore  => exact (by obtain ⟨S9, h9⟩ := mm_plain rfl hact; cases h9)
  | bipush a0 => exact (by obtain ⟨S9, h9⟩ := mm_plain rfl hact; cases h9)
  | caload  => exact (by obtain ⟨S9, h9⟩ := mm_plain rfl hact; cases h9)
  | castore  => exact (by obtain ⟨S9, h9⟩ := mm_plain rfl hact; cases h9)
  | checkcast a0 => exact (by obtain ⟨S9, h9⟩ := mm_plain rfl hact; cases h9)
  | d2f  => exact (by obtain ⟨S9, h9⟩ := mm_plain rfl hact; cases h9)
  | d2i  => exact (by obtain ⟨S9, h9⟩ := mm_plain rfl hact; cases h9)
  | d2l  => exact (by obtain ⟨S9, h9⟩ := mm_plain rfl hact; cases h9)
  | dadd  => exact (by obtain ⟨S9, h9⟩ := mm_plain rfl hact; cases h9)
  | daload  => exact (by obtain ⟨S9, h9⟩ := mm_plain rfl hact; cases h9)
  | dastore  => exact (by obtain ⟨S9, h9⟩ := mm_plain rfl hact; cases h9)
  | dcmp a0 => exact (by obtain ⟨S9, h9⟩ := mm_plain rfl hact; cases h9)
  | dconst a0 => exact (by obtain ⟨S9, h9⟩ := mm_plain rfl hact; cases h9)
  | ddiv  => exact (by obtain ⟨S9, h9⟩ := mm_plain rfl hact; cases h9)
  | dload a0 => exact (by obtain ⟨S9, h9⟩ := mm_plain rfl hact; cases h9)
  | dload_n a0 => exact (by obtain ⟨S9, h9⟩ := mm_plain rfl hact; cases h9)
  | dmul  => exact (by obtain ⟨S9, h9⟩ := mm_plain rfl hact; cases h9)
  | dneg  => exact (by obtain ⟨S9, h9⟩ := mm_plain rfl hact; cases h9)
  | drem  => exact (by obtain ⟨S9, h9⟩ := mm_plain rfl hact; cases h9)
  | dreturn  => exact (by obtain ⟨S9, h9⟩ := mm_plain rfl hact; cases h9)
  | dstore a0 => exact (by obtain ⟨S9, h9⟩ := mm_plain rfl hact; cases h9)
  | dstore_n a0 => exact (by obtain ⟨S9, h9⟩ := mm_plain rfl hact; cases h9)
  | dsub  => exact (by obtain ⟨S9, h9⟩ := mm_plain rfl hact; cases h9)
  | dup  => exact (by obtain ⟨S9, h9⟩ := mm_plain rfl hact; cases h9)
  | dup_x1  => exact (by obtain ⟨S9, h9⟩ := mm_plain rfl hact; cases h9)
  | dup_x2  => exact (by obtain ⟨S9, h9⟩ := mm_plain rfl hact; cases h9)
  | dup2  => exact (by obtain ⟨S9, h9⟩ := mm_plain rfl hact; cases h9)
  | dup2_x1  => exact (by obtain ⟨S9, h9⟩ := mm_plain rfl hact; cases h9)
  | dup2_x2  => exact (by obtain ⟨S9, h9⟩ := mm_plain rfl hact; cases h9)
  | f2d  => exact (by obtain ⟨S9, h9⟩ := mm_plain rfl hact; cases h9)
  | f2i  => exact (by obtain ⟨S9, h9⟩ := mm_plain rfl hact; cases h9)
  | f2l  => exact (by obtain ⟨S9, h9⟩ := mm_plain rfl hact; cases h9)
  | fadd  => exact (by obtain ⟨S9, h9⟩ := mm_plain rfl hact; cases h9)
  | faload  => exact (by obtain ⟨S9, h9⟩ := mm_plain rfl hact; cases h9)
  | fastore  => exact (by obtain ⟨S9, h9⟩ := mm_plain rfl hact; cases h9)
  | fcmp a0 => exact (by obtain ⟨S9, h9⟩ := mm_plain rfl hact; cases h9)
  | fconst a0 => exact (by obtain ⟨S9, h9⟩ := mm_plain rfl hact; cases h9)
  | fdiv  => exact (by obtain ⟨S9, h9⟩ := mm_plain rfl hact; cases h9)
  | fload a0 => exact (by obtain ⟨S9, h9⟩ := mm_plain rfl hact; cases h9)
  | fload_n a0 => exact (by obtain ⟨S9, h9⟩ := mm_plain rfl hact; cases h9)
  | fmul  => exact (by obtain ⟨S9, h9⟩ := mm_plain rfl hact; cases h9)
  | fneg  => exact (by obtain ⟨S9, h9⟩ := mm_plain rfl hact; cases h9)
  | frem  => exact (by obtain ⟨S9, h9⟩ := mm_plain rfl hact; cases h9)
  | freturn  => exact (by obtain ⟨S9, h9⟩ := mm_plain rfl hact; cases h9)
  | fstore a0 => exact (by obtain ⟨S9, h9⟩ := mm_plain rfl hact; cases h9)
  | fstore_n a0 => exact (by obtain ⟨S9, h9⟩ := mm_plain rfl hact; cases h9)
  | fsub  => exact (by obtain ⟨S9, h9⟩ := mm_plain rfl hact; cases h9)
  | getfield a0 => exact (by obtain ⟨S9, h9⟩ := mm_plain rfl hact; cases h9)
  | getstatic a0 => exact (by obtain ⟨S9, h9⟩ := mm_plain rfl hact; cases h9)
  | goto a0 => exact (by obtain ⟨S9, h9⟩ := mm_plain rfl hact; cases h9)
  | goto_w a0 => exact (by obtain ⟨S9, h9⟩ := mm_plain rfl hact; cases h9)
  | i2b  => exact (by obtain ⟨S9, h9⟩ := mm_plain rfl hact; cases h9)
  | i2c  => exact (by obtain ⟨S9, h9⟩ := mm_plain rfl hact; cases h9)
  | i2d  => exact (by obtain ⟨S9, h9⟩ := mm_plain rfl hact; cases h9)
  | i2f  => exact (by obtain ⟨S9, h9⟩ := mm_plain rfl hact; cases h9)
  | i2l  => exact (by obtain ⟨S9, h9⟩ := mm_plain rfl hact; cases h9)
  | i2s  => exact (by obtain ⟨S9, h9⟩ := mm_plain rfl hact; cases h9)
  | iadd  => exact (by obtain ⟨S9, h9⟩ := mm_plain rfl hact; cases h9)
  | iaload  => exact (by obtain ⟨S9, h9⟩ := mm_plain rfl hact; cases h9)
  | iand  => exact (by obtain ⟨S9, h9⟩ := mm_plain rfl hact; cases h9)
  | iastore  => exact (by obtain ⟨S9, h9⟩ := mm_plain rfl hact; cases h9)
  | iconst a0 => exact (by obtain ⟨S9, h9⟩ := mm_plain rfl hact; cases h9)
  | idiv  => exact (by obtain ⟨S9, h9⟩ := mm_plain rfl hact; cases h9)
  | if_acmp a0 a1 => exact (by obtain ⟨S9, h9⟩ := mm_plain rfl hact; cases h9)
  | if_icmp a0 a1 => exact (by obtain ⟨S9, h9⟩ := mm_plain rfl hact; cases h9)
  | ifCond a0 a1 => exact (by obtain ⟨S9, h9⟩ := mm_plain rfl hact; cases h9)
  | ifnonnull a0 => exact (by obtain ⟨S9, h9⟩ := mm_plain rfl hact; cases h9)
  | ifnull a0 => exact (by obtain ⟨S9, h9⟩ := mm_plain rfl hact; cases h9)
  | iinc a0 a1 => exact (by obtain ⟨S9, h9⟩ := mm_plain rfl hact; cases h9)
  | iload a0 => exact (by obtain ⟨S9, h9⟩ := mm_plain rfl hact; cases h9)
  | iload_n a0 => exact (by obtain ⟨S9, h9⟩ := mm_plain rfl hact; cases h9)
  | imul  => exact (by obtain ⟨S9, h9⟩ := mm_plain rfl hact; cases h9)
  | ineg  => exact (by obtain ⟨S9, h9⟩ := mm_plain rfl hact; cases h9)
  | instanceof a0 => exact (by obtain ⟨S9, h9⟩ := mm_plain rfl hact; cases h9)
  | invokedynamic a0 => exact (by obtain ⟨S9, h9⟩ := mm_plain rfl hact; cases h9)
  | invokeinterface a0 a1 => exact (by obtain ⟨S9, h9⟩ := mm_plain rfl hact; cases h9)
  | invokespecial a0 => exact (by obtain ⟨S9, h9⟩ := mm_plain rfl hact; cases h9)
  | invokestatic a0 =>
    have Ok := (Bool.and_eq_true _ _).mp Ok
    have e : len = 3 := Nat.eq_of_beq_eq_true Ok.1
    subst e
    exact key true a0 Ok.2 hd (fun z => by cases z) hact
  | invokevirtual a0 =>
    have Ok := (Bool.and_eq_true _ _).mp Ok
    have e : len = 3 := Nat.eq_of_beq_eq_true Ok.1
    subst e
    have h : (bif mm_recv x' y st then mm_call x' y (pc + 3) (mm_mask q L) st m else none) = some (.inr (.inl (x, as, S))) := hact
    cases hb : mm_recv x' y st with
    | false => rw [hb] at h; cases h
    | true =>
      rw [hb] at h
      exact key false a0 Ok.2 hd (fun _ => hb) h
  | ior  => exact (by obtain ⟨S9, h9⟩ := mm_plain rfl hact; cases h9)
  | irem  => exact (by obtain ⟨S9, h9⟩ := mm_plain rfl hact; cases h9)
  | ireturn  => exact (by obtain ⟨o9, h9⟩ := mm_endk rfl (fun _ z => by cases z) (fun _ z => by cases z) hact; cases h9)
  | ishl  => exact (by obtain ⟨S9, h9⟩ := mm_plain rfl hact; cases h9)
  | ishr  => exact (by obtain ⟨S9, h9⟩ := mm_plain rfl hact; cases h9)
  | istore a0 => exact (by obtain ⟨S9, h9⟩ := mm_plain rfl hact; cases h9)
  | istore_n a0 => exact (by obtain ⟨S9, h9⟩ := mm_plain rfl hact; cases h9)
  | isub  => exact (by obtain ⟨S9, h9⟩ := mm_plain rfl hact; cases h9)
  | iushr  => exact (by obtain ⟨S9, h9⟩ := mm_plain rfl hact; cases h9)
  | ixor  => exact (by obtain ⟨S9, h9⟩ := mm_plain rfl hact; cases h9)
  | jsr a0 => exact (by obtain ⟨S9, h9⟩ := mm_plain rfl hact; cases h9)
  | jsr_w a0 => exact (by obtain ⟨S9, h9⟩ := mm_plain rfl hact; cases h9)
  | l2d  => exact (by obtain ⟨S9, h9⟩ := mm_plain rfl hact; cases h9)
  | l2f  => exact (by obtain ⟨S9, h9⟩ := mm_plain rfl hact; cases h9)
  | l2i  => exact (by obtain ⟨S9, h9⟩ := mm_plain rfl hact; cases h9)
  | ladd  => exact (by obtain ⟨S9, h9⟩ := mm_plain rfl hact; cases h9)
  | laload  => exact (by obtain ⟨S9, h9⟩ := mm_plain rfl hact; cases h9)
  | land  => exact (by obtain ⟨S9, h9⟩ := mm_plain rfl hact; cases h9)
  | lastore  => exact (by obtain ⟨S9, h9⟩ := mm_plain rfl hact; cases h9)
  | lcmp  => exact (by obtain ⟨S9, h9⟩ := mm_plain rfl hact; cases h9)
  | lconst a0 => exact (by obtain ⟨S9, h9⟩ := mm_plain rfl hact; cases h9)
  | ldc a0 => exact (by obtain ⟨S9, h9⟩ := mm_plain rfl hact; cases h9)
  | ldc_w a0 => exact (by obtain ⟨S9, h9⟩ := mm_plain rfl hact; cases h9)
  | ldc2_w a0 => exact (by obtain ⟨S9, h9⟩ := mm_plain rfl hact; cases h9)
  | ldiv  => exact (by obtain ⟨S9, h9⟩ := mm_plain rfl hact; cases h9)
  | lload a0 => exact (by obtain ⟨S9, h9⟩ := mm_plain rfl hact; cases h9)
  | lload_n a0 => exact (by obtain ⟨S9, h9⟩ := mm_plain rfl hact; cases h9)
  | lmul  => exact (by obtain ⟨S9, h9⟩ := mm_plain rfl hact; cases h9)
  | lneg  => exact (by obtain ⟨S9, h9⟩ := mm_plain rfl hact; cases h9)
  | lookupswitch a0 a1 => exact (by obtain ⟨S9, h9⟩ := mm_plain rfl hact; cases h9)
  | lor  => exact (by obtain ⟨S9, h9⟩ := mm_plain rfl hact; cases h9)
  | lrem  => exact (by obtain ⟨S9, h9⟩ := mm_plain rfl hact; cases h9)
  | lreturn  => exact (by obtain ⟨S9, h9⟩ := mm_plain rfl hact; cases h9)
  | lshl  => exact (by obtain ⟨S9, h9⟩ := mm_plain rfl hact; cases h9)
  | lshr  => exact (by obtain ⟨S9, h9⟩ := mm_plain rfl hact; cases h9)
  | lstore a0 => exact (by obtain ⟨S9, h9⟩ := mm_plain rfl hact; cases h9)
  | lstore_n a0 => exact (by obtain ⟨S9, h9⟩ := mm_plain rfl hact; cases h9)
  | lsub  => exact (by obtain ⟨S9, h9⟩ := mm_plain rfl hact; cases h9)
  | lushr  => exact (by obtain ⟨S9, h9⟩ := mm_plain rfl hact; cases h9)
  | lxor  => exact (by obtain ⟨S9, h9⟩ := mm_plain rfl hact; cases h9)
  | monitorenter  => exact (by obtain ⟨S9, h9⟩ := mm_plain rfl hact; cases h9)
  | monitorexit  => exact (by obtain ⟨S9, h9⟩ := mm_plain rfl hact; cases h9)
  | multianewarray a0 a1 => exact (by obtain ⟨S9, h9⟩ := mm_plain rfl hact; cases h9)
  | new a0 => exact (by obtain ⟨o9, h9⟩ := mm_endk rfl (fun _ z => by cases z) (fun _ z => by cases z) hact; cases h9)
  | newarray a0 => exact (by obtain ⟨S9, h9⟩ := mm_plain rfl hact; cases h9)
  | nop  => exact (by obtain ⟨S9, h9⟩ := mm_plain rfl hact; cases h9)
  | pop  => exact (by obtain ⟨S9, h9⟩ := mm_plain rfl hact; cases h9)
  | pop2  => exact (by obtain ⟨S9, h9⟩ := mm_plain rfl hact; cases h9)
  | putfield a0 => exact (by obtain ⟨S9, h9⟩ := mm_plain rfl hact; cases h9)
  | putstatic a0 => exact (by obtain ⟨S9, h9⟩ := mm_plain rfl hact; cases h9)
  | ret a0 => exact (by obtain ⟨S9, h9⟩ := mm_plain rfl hact; cases h9)
  | return_  => exact (by obtain ⟨o9, h9⟩ := mm_endk rfl (fun _ z => by cases z) (fun _ z => by cases z) hact; cases h9)
  | saload  => exact (by obtain ⟨S9, h9⟩ := mm_plain rfl hact; cases h9)
  | sastore  => exact (by obtain ⟨S9, h9⟩ := mm_plain rfl hact; cases h9)
  | sipush a0 => exact (by obtain ⟨S9, h9⟩ := mm_plain rfl hact; cases h9)
  | swap  => exact (by obtain ⟨S9, h9⟩ := mm_plain rfl hact; cases h9)
  | tableswitch a0 a1 a2 a3 => exact (by obtain ⟨S9, h9⟩ := mm_plain rfl hact; cases h9)
end MMW
