/-! the law's start: the memory as the constructors leave it -/
theorem st_arrV (cA : ClassId) (n : Nat) (f g : Nat → Value) (h : ∀ j, j < n → f j = g j) : arrV cA n f = arrV cA n g := by
  unfold arrV
  congr 1
  apply Array.ext
  · simp
  · intro i h1 h2
    simp
    exact h i (by simpa using h1)
/-- where a cell of ours lies among the constructors' -/
def st_lk : List (Nat × Nat) → List Nat → Nat → Nat → Nat
  | (g', i') :: r, q :: ps, g, i => bif Nat.beq g' g && Nat.beq i' i then q else st_lk r ps g i
  | _, _, _, _ => 9999
def st_p (g i : Nat) : Nat := st_lk mm_cl cc_ps g i
def st_ix : List (Nat × Nat) → List Nat → Nat → Nat → Int32
  | (g', i') :: r, q' :: ps, h, q => bif Nat.beq g' h && Nat.beq q' q then Int32.ofNat i' else st_ix r ps h q
  | _, _, _, _ => -7
def st_fz (f : mm_F) (v : cc_V) : Int32 := match v, f with
  | .inl x, _ => x
  | .inr none, _ => -1
  | .inr (some (.inl q)), .inl (h + 2) => st_ix mm_cl cc_ps h q
  | _, _ => 0
/-- the memory at the law's start, the script apart -/
def st_mb (g i k : Nat) : Int32 := match cc_h3[st_p g i]? with
  | some (.inl (_, vs)) => (match mm_ob g with
    | some (_, fs) => (match fs[k]?, vs[k]? with
      | some f, some v => st_fz f v
      | _, _ => 0)
    | none => 0)
  | some (.inr (_, _, .inl f)) => cc_fn f k
  | _ => 0
def st_m0 (xs : Nat → Int32) (n : Nat) : mm_M := fun g i k => if g = mm_gX then (if i = 0 then xs k else Int32.ofNat n) else st_mb g i k
def st_ad (ad tx : Nat → Nat) (b : Nat) (g i : Nat) : Nat := if g = mm_gS then tx i else if g = mm_gX then b else ad (st_p g i)
def st_fm (g i k : Nat) (f : mm_F) (v : cc_V) : Bool := match f, v with
  | .inl 0, .inl x => decide (st_mb g i k = x)
  | .inl 1, .inl x => decide (st_mb g i k = x)
  | .inl (_ + 2), .inr none => decide (st_mb g i k = -1)
  | .inl (h + 2), .inr (some (.inl q)) => (!(decide (st_mb g i k = -1)) && decide (0 ≤ st_mb g i k)) && (Nat.blt h 134 && (Nat.beq (st_p h (st_mb g i k).toNatClampNeg) q && mm_cl.any (fun z => Nat.beq z.1 h && Nat.beq z.2 (st_mb g i k).toNatClampNeg)))
  | .inr (h, none), .inr (some (.inl q)) => Nat.blt h 134 && Nat.beq (st_p h i) q
  | .inr (h, some j), .inr (some (.inl q)) => Nat.blt h 134 && Nat.beq (st_p h j) q
  | _, _ => false
def st_fsm (g i : Nat) : Nat → List mm_F → List cc_V → Bool
  | _, [], [] => true
  | k, f :: fs, v :: vs => st_fm g i k f v && st_fsm g i (k + 1) fs vs
  | _, _, _ => false
def st_cm (g i : Nat) (e : cc_E) : Bool := match mm_ob g with
  | some (c, fs) => (match e with
    | .inl (c', vs) => Nat.beq c c' && st_fsm g i 0 fs vs
    | .inr _ => false)
  | none => (match mm_ar g with
    | some (ty, n, _) => (match e with
      | .inr (ty', n', .inl _) => Nat.beq ty ty' && Nat.beq n n'
      | _ => false)
    | none => (match mm_ra g with
      | some (n, h, b) => (match e with
        | .inr (k, n', .inr l) => (Nat.beq k (mm_rk g) && Nat.beq n n') && (List.range n).all (fun j => match l[j]? with
          | some (some (.inl q)) => Nat.blt h 134 && Nat.beq (st_p h (b + j)) q
          | some (some (.inr t)) => Nat.beq h 135 && Nat.beq t (b + j)
          | _ => false)
        | _ => false)
      | none => false))
def st_okc (z : (Nat × Nat) × Nat) : Bool := (Nat.blt z.1.1 134 && Nat.beq (st_p z.1.1 z.1.2) z.2) && (match cc_h3[z.2]? with
  | some e => st_cm z.1.1 z.1.2 e
  | none => false)
def st_ndn : List Nat → Bool
  | [] => true
  | a :: r => !(r.any (Nat.beq a)) && st_ndn r
set_option maxRecDepth 100000 in
theorem st_oks : (mm_cl.zip cc_ps).all st_okc = true := by decide +kernel
theorem st_len : mm_cl.length = cc_ps.length := by decide +kernel
theorem st_nds : st_ndn cc_ps = true := by decide +kernel
