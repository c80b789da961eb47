/-! THE LITTLE MACHINE: its steps -/
abbrev mm_i (x : Int32) : mm_V := .inl x
abbrev mm_l (x : Int32) : mm_V := .inr (.inl x)
abbrev mm_r (g i : Nat) : mm_V := .inr (.inr (some (g, i)))
abbrev mm_n : mm_V := .inr (.inr none)
/-- a whole row anew -/
def mm_wa (m : mm_M) (g i : Nat) (f : Nat → Int32) : mm_M := fun g' i' => if g' = g ∧ i' = i then f else m g' i'
/-- one place anew -/
def mm_w (m : mm_M) (g i k : Nat) (v : Int32) : mm_M := mm_wa m g i (upd (m g i) k v)
abbrev mm_in (j : Int32) (n : Nat) : Prop := 0 ≤ j ∧ j.toNatClampNeg < n
def mm_max (a b : Int32) : Int32 := if a < b then b else a
def mm_min (a b : Int32) : Int32 := if b < a then b else a
def mm_abs (a : Int32) : Int32 := if 0 ≤ a then a else 0 - a
def mm_cmp (a b : Int32) : Int32 := if a = b then 0 else if a < b then -1 else 1
def mm_ushr (a b : Int32) : Int32 := (a.toUInt32 >>> (b.toUInt32 &&& Int32.toUInt32 31)).toInt32
def mm_k (pc : Nat) (L : List (Option mm_V)) (st : List mm_V) (m : mm_M) : Option mm_A := some (.inl (pc, L, st, m))
def mm_ld (L : List (Option mm_V)) (k : Nat) : Option mm_V := match L[k]? with
  | some (some v) => some v
  | _ => none
def mm_mask (q : Option (List Bool)) (L : List (Option mm_V)) : List (Option mm_V) := match q with
  | none => L
  | some bs => List.zipWith (fun b o => bif b then o else none) bs L
def mm_cond (c : ClassFile.Cond) (a b : Int32) (t f : Option mm_A) : Option mm_A := match c with
  | .eq => if a = b then t else f
  | .ne => if a ≠ b then t else f
  | .lt => if a < b then t else f
  | .ge => if b ≤ a then t else f
  | .gt => if b < a then t else f
  | .le => if a ≤ b then t else f
def mm_swgo (a : Int32) (f : Nat → Option mm_A) (dflt : Nat) : List (Int32 × Nat) → Option mm_A
  | [] => f dflt
  | (k, t) :: r => if a = k then f t else mm_swgo a f dflt r
/-- operations on two ints -/
def mm_bin (i : Instr) (a b : Int32) : Option Int32 := match i with
  | .iadd => some (a + b)
  | .isub => some (a - b)
  | .imul => some (a * b)
  | .iand => some (a &&& b)
  | .ior => some (a ||| b)
  | .ixor => some (a ^^^ b)
  | .ishl => some (a <<< (b &&& 31))
  | .ishr => some (a >>> (b &&& 31))
  | .iushr => some (mm_ushr a b)
  | _ => none
def mm_getf (pc : Nat) (L : List (Option mm_V)) (st : List mm_V) (m : mm_M) (g i k : Nat) (f : mm_F) : Option mm_A := match f with
  | .inl 0 => mm_k pc L (.inl (m g i k) :: st) m
  | .inl 1 => mm_k pc L (.inl (m g i k) :: st) m
  | .inl (h + 2) => if m g i k = -1 then mm_k pc L (.inr (.inr none) :: st) m else mm_k pc L (.inr (.inr (some (h, (m g i k).toNatClampNeg))) :: st) m
  | .inr (h, none) => mm_k pc L (.inr (.inr (some (h, i))) :: st) m
  | .inr (h, some j) => mm_k pc L (.inr (.inr (some (h, j))) :: st) m
def mm_putf (pc : Nat) (L : List (Option mm_V)) (st : List mm_V) (m : mm_M) (g i k : Nat) (f : mm_F) (v : mm_V) : Option mm_A := match f, v with
  | .inl 0, .inl a => mm_k pc L st (mm_w m g i k a)
  | .inl 1, .inl a => if a = 0 ∨ a = 1 then mm_k pc L st (mm_w m g i k a) else none
  | .inl (h + 2), .inr (.inr (some (h', j))) => bif Nat.beq h h' then mm_k pc L st (mm_w m g i k (Int32.ofNat j)) else none
  | _, _ => none
def mm_txt (n : Nat) : List Char := match mm_tx[n]? with
  | some t => t.2.2.toList
  | none => []
/-- the methods of the JDK that are called -/
def mm_jdk (x pc : Nat) (L : List (Option mm_V)) (st : List mm_V) (m : mm_M) : Option mm_A := match x, st with
  | 1000, .inl b :: .inl a :: st => mm_k pc L (.inl (mm_max a b) :: st) m
  | 1001, .inl b :: .inl a :: st => mm_k pc L (.inl (mm_min a b) :: st) m
  | 1002, .inl a :: st => mm_k pc L (.inl (mm_abs a) :: st) m
  | 1004, .inl n :: .inl dp :: .inr (.inr (some (g1, i1))) :: .inl sp :: .inr (.inr (some (g0, i0))) :: st => match mm_ar g0, mm_ar g1 with
    | some (0, n0, _), some (0, n1, _) => if (0 ≤ sp ∧ 0 ≤ dp ∧ 0 ≤ n) ∧ sp.toNatClampNeg + n.toNatClampNeg ≤ n0 ∧ dp.toNatClampNeg + n.toNatClampNeg ≤ n1 then mm_k pc L st (mm_wa m g1 i1 (va_cpy (m g0 i0) (m g1 i1) sp.toNatClampNeg dp.toNatClampNeg n.toNatClampNeg)) else none
    | _, _ => none
  | 1006, .inr (.inr (some (g, i))) :: st => bif Nat.beq g mm_gS then mm_k pc L (.inl (Int32.ofNat (mm_txt i).length) :: st) m else none
  | 1007, .inl j :: .inr (.inr (some (g, i))) :: st => bif Nat.beq g mm_gS then (if mm_in j (mm_txt i).length then mm_k pc L (.inl (Int32.ofNat ((mm_txt i).getD j.toNatClampNeg ' ').toNat) :: st) m else none) else none
  | _, _ => none
/-- the words of a stack -/
def mm_wd : List mm_V → Nat
  | [] => 0
  | .inl _ :: r => mm_wd r + 1
  | .inr (.inl _) :: r => mm_wd r + 2
  | .inr (.inr _) :: r => mm_wd r + 1
def mm_nlb : mm_V → Bool
  | .inr (.inl _) => false
  | _ => true
/-- a call: of a method of our own, or of the JDK's -/
def mm_call (x y pc : Nat) (L : List (Option mm_V)) (st : List mm_V) (m : mm_M) : Option mm_A :=
  bif Nat.ble y st.length && (Nat.ble (mm_wd (st.drop y)) 8 && (st.take y).all mm_nlb) then (bif Nat.ble 1000 x then mm_jdk x pc L st m else some (.inr (.inl (x, (st.take y).reverse, (pc, L, st.drop y, m))))) else none
/-- the receiver's class is the callee's -/
def mm_recv (x y : Nat) (st : List mm_V) : Bool := Nat.ble 1000 x || (match (st.take y).reverse with
  | .inr (.inr (some (g, _))) :: _ => (match mm_ob g with
    | some (c, _) => Nat.beq c (mm_mt x).1
    | none => false)
  | _ => false)
def mm_act (i : Instr) (len : Nat) (v : Int32) (x y : Nat) (pc : Nat) (L : List (Option mm_V)) (st : List mm_V) (m : mm_M) : Option mm_A := match i, st with
  | .iload k, st => (match mm_ld L k with
    | some (.inl a) => mm_k (pc + len) L (.inl a :: st) m
    | _ => none)
  | .iload_n k, st => (match mm_ld L k.val with
    | some (.inl a) => mm_k (pc + len) L (.inl a :: st) m
    | _ => none)
  | .aload k, st => (match mm_ld L k with
    | some (.inr (.inr r)) => mm_k (pc + len) L (.inr (.inr r) :: st) m
    | _ => none)
  | .aload_n k, st => (match mm_ld L k.val with
    | some (.inr (.inr r)) => mm_k (pc + len) L (.inr (.inr r) :: st) m
    | _ => none)
  | .istore k, .inl a :: st => bif Nat.blt k L.length then mm_k (pc + len) (L.set k (some (.inl a))) st m else none
  | .istore_n k, .inl a :: st => bif Nat.blt k.val L.length then mm_k (pc + len) (L.set k.val (some (.inl a))) st m else none
  | .astore k, .inr (.inr (some r)) :: st => bif Nat.blt k L.length then mm_k (pc + len) (L.set k (some (.inr (.inr (some r))))) st m else none
  | .astore_n k, .inr (.inr (some r)) :: st => bif Nat.blt k.val L.length then mm_k (pc + len) (L.set k.val (some (.inr (.inr (some r))))) st m else none
  | .iinc k _, st => (match mm_ld L k with
    | some (.inl a) => mm_k (pc + len) (L.set k (some (.inl (a + v)))) st m
    | _ => none)
  | .iconst _, st => mm_k (pc + len) L (.inl v :: st) m
  | .bipush _, st => mm_k (pc + len) L (.inl v :: st) m
  | .sipush _, st => mm_k (pc + len) L (.inl v :: st) m
  | .ldc _, st => (match x with
    | 0 => mm_k (pc + len) L (.inl v :: st) m
    | _ => mm_k (pc + len) L (.inr (.inr (some (mm_gS, y))) :: st) m)
  | .ldc_w _, st => (match x with
    | 0 => mm_k (pc + len) L (.inl v :: st) m
    | _ => mm_k (pc + len) L (.inr (.inr (some (mm_gS, y))) :: st) m)
  | .lconst _, st => mm_k (pc + len) L (.inr (.inl v) :: st) m
  | .dup, .inl a :: st => mm_k (pc + len) L (.inl a :: .inl a :: st) m
  | .dup, .inr (.inr r) :: st => mm_k (pc + len) L (.inr (.inr r) :: .inr (.inr r) :: st) m
  | .dup2, .inl a :: .inr (.inr r) :: st => mm_k (pc + len) L (.inl a :: .inr (.inr r) :: .inl a :: .inr (.inr r) :: st) m
  | .pop, .inl _ :: st => mm_k (pc + len) L st m
  | .pop, .inr (.inr _) :: st => mm_k (pc + len) L st m
  | .idiv, .inl b :: .inl a :: st => if b = 0 then none else mm_k (pc + len) L (.inl (a / b) :: st) m
  | .irem, .inl b :: .inl a :: st => if b = 0 then none else mm_k (pc + len) L (.inl (a % b) :: st) m
  | .i2l, .inl a :: st => mm_k (pc + len) L (.inr (.inl a) :: st) m
  | .i2b, .inl a :: st => mm_k (pc + len) L (.inl a.toInt8.toInt32 :: st) m
  | .i2s, .inl a :: st => mm_k (pc + len) L (.inl a.toInt16.toInt32 :: st) m
  | .lcmp, .inr (.inl b) :: .inr (.inl a) :: st => mm_k (pc + len) L (.inl (mm_cmp a b) :: st) m
  | .getfield _, .inr (.inr (some (g, i))) :: st => (match mm_ob g with
    | some (c, fs) => bif Nat.beq c x then (match fs[y]? with
      | some f => mm_getf (pc + len) L st m g i y f
      | none => none) else none
    | none => none)
  | .putfield _, a :: .inr (.inr (some (g, i))) :: st => (match mm_ob g with
    | some (c, fs) => bif Nat.beq c x then (match fs[y]? with
      | some f => mm_putf (pc + len) L st m g i y f a
      | none => none) else none
    | none => none)
  | .iaload, .inl j :: .inr (.inr (some (g, i))) :: st => bif Nat.beq g mm_gX then (if mm_in j (m g 1 0).toNatClampNeg then mm_k (pc + len) L (.inl (m g 0 j.toNatClampNeg) :: st) m else none) else (match mm_ar g with
    | some (0, n, _) => if mm_in j n then mm_k (pc + len) L (.inl (m g i j.toNatClampNeg) :: st) m else none
    | _ => none)
  | .baload, .inl j :: .inr (.inr (some (g, i))) :: st => (match mm_ar g with
    | some (1, n, _) => if mm_in j n then mm_k (pc + len) L (.inl (m g i j.toNatClampNeg) :: st) m else none
    | some (2, n, _) => if mm_in j n then mm_k (pc + len) L (.inl (m g i j.toNatClampNeg) :: st) m else none
    | _ => none)
  | .laload, .inl j :: .inr (.inr (some (g, i))) :: st => (match mm_ar g with
    | some (3, n, _) => if mm_in j n then mm_k (pc + len) L (.inr (.inl (m g i j.toNatClampNeg)) :: st) m else none
    | _ => none)
  | .iastore, .inl a :: .inl j :: .inr (.inr (some (g, i))) :: st => (match mm_ar g with
    | some (0, n, _) => if mm_in j n then mm_k (pc + len) L st (mm_w m g i j.toNatClampNeg a) else none
    | _ => none)
  | .bastore, .inl a :: .inl j :: .inr (.inr (some (g, i))) :: st => (match mm_ar g with
    | some (1, n, _) => if mm_in j n then mm_k (pc + len) L st (mm_w m g i j.toNatClampNeg a.toInt8.toInt32) else none
    | some (2, n, _) => if mm_in j n then (if a = 0 ∨ a = 1 then mm_k (pc + len) L st (mm_w m g i j.toNatClampNeg a) else none) else none
    | _ => none)
  | .lastore, .inr (.inl a) :: .inl j :: .inr (.inr (some (g, i))) :: st => (match mm_ar g with
    | some (3, n, _) => if mm_in j n then mm_k (pc + len) L st (mm_w m g i j.toNatClampNeg a) else none
    | _ => none)
  | .aaload, .inl j :: .inr (.inr (some (g, _))) :: st => (match mm_ra g with
    | some (n, h, b) => if mm_in j n then mm_k (pc + len) L (.inr (.inr (some (h, b + j.toNatClampNeg))) :: st) m else none
    | _ => none)
  | .arraylength, .inr (.inr (some (g, _))) :: st => bif Nat.beq g mm_gX then mm_k (pc + len) L (.inl (m g 1 0) :: st) m else (match mm_ar g with
    | some (_, _, z) => mm_k (pc + len) L (.inl z :: st) m
    | none => (match mm_ra g with
      | some (n, _, _) => mm_k (pc + len) L (.inl (Int32.ofNat n) :: st) m
      | none => none))
  | .goto _, st => mm_k x L st m
  | .ifCond c _, .inl a :: st => mm_cond c a 0 (mm_k x L st m) (mm_k (pc + len) L st m)
  | .if_icmp c _, .inl b :: .inl a :: st => mm_cond c a b (mm_k x L st m) (mm_k (pc + len) L st m)
  | .ifnonnull _, .inr (.inr (some _)) :: st => mm_k x L st m
  | .ifnonnull _, .inr (.inr none) :: st => mm_k (pc + len) L st m
  | .tableswitch _ _ _ _, .inl a :: st => mm_swgo a (fun t => mm_k t L st m) (mm_sw y).2 (mm_sw y).1
  | .lookupswitch _ _, .inl a :: st => mm_swgo a (fun t => mm_k t L st m) (mm_sw y).2 (mm_sw y).1
  | .ireturn, [.inl a] => (match x with
    | 0 => some (.inr (.inr (.inl (some (.inl a)))))
    | _ => if a = 0 ∨ a = 1 then some (.inr (.inr (.inl (some (.inl a))))) else none)
  | .return_, [] => some (.inr (.inr (.inl none)))
  | .areturn, [.inr (.inr (some r))] => some (.inr (.inr (.inl (some (.inr (.inr (some r)))))))
  | .new _, [] => some (.inr (.inr (.inr x)))
  | .invokestatic _, st => mm_call x y (pc + len) L st m
  | .invokevirtual _, st => bif mm_recv x y st then mm_call x y (pc + len) L st m else none
  | i, .inl b :: .inl a :: st => (match mm_bin i a b with
    | some z => mm_k (pc + len) L (.inl z :: st) m
    | none => none)
  | _, _ => none
def mm_step (k : Nat) (s : mm_S) : Option mm_A := match mm_cd k s.1 with
  | some (i, len, v, x, y, q) => mm_act i len v x y s.1 (mm_mask q s.2.1) s.2.2.1 s.2.2.2
  | none => none
abbrev mm_O : Type := Option mm_V ⊕ Nat
abbrev mm_R : Type := mm_O × mm_M × Nat × Nat
def mm_L0 (k : Nat) (as : List mm_V) : List (Option mm_V) := as.map some ++ List.replicate ((mm_mt k).2.2.2 - as.length) none
def mm_hd (pc e : Nat) : List (Nat × Nat × Nat × Nat) → Option Nat
  | [] => none
  | (a, b, h, x) :: r => bif Nat.ble a pc && Nat.blt pc b && Nat.beq x e then some h else mm_hd pc e r
def mm_o1 (o : mm_O) : Nat := match o with
  | .inl _ => 0
  | .inr _ => 1
def mm_o6 (o : mm_O) : Nat := match o with
  | .inl _ => 0
  | .inr _ => 6
def mm_ad (c z : Nat) (r : mm_R) : mm_R := (r.1, r.2.1, c + r.2.2.1, z + r.2.2.2)
def mm_run : Nat → Nat → Nat → mm_S → Option mm_R
  | 0, _, _, _ => none
  | n + 1, d, k, s => match mm_step k s with
    | none => none
    | some (.inl s') => mm_run n d k s'
    | some (.inr (.inr o)) => some (o, s.2.2.2, mm_o1 o, mm_o6 o)
    | some (.inr (.inl (k', as, (pc, L, st, m)))) => match d with
      | 0 => none
      | d + 1 => match mm_run n d k' (0, mm_L0 k' as, [], m) with
        | none => none
        | some (.inl v, m', c, z) => (mm_run n (d + 1) k (pc, L, v.toList ++ st, m')).map (mm_ad c z)
        | some (.inr e, m', c, z) => match mm_hd s.1 e (mm_hs k) with
          | none => some (.inr e, m', c, z)
          | some h => (mm_run n (d + 1) k (h, L, [.inr (.inr (some (999, 0)))], m')).map (mm_ad c z)
