/-! tokens -/
def z_let (b : Nat) : Bool := decide (97 ≤ b ∧ b ≤ 122)
def z_dgt (b : Nat) : Bool := decide (48 ≤ b ∧ b ≤ 57)
def z_blk (b : Nat) : Bool := decide (b = 32 ∨ b = 10)
def z_sgn (b : Nat) : Bool := decide (b = 59 ∨ b = 40 ∨ b = 41 ∨ b = 43 ∨ b = 45 ∨ b = 42 ∨ b = 47 ∨ b = 60 ∨ b = 61)
def z_run (p : Nat → Bool) (B : Nat → Nat) (n : Nat) : Nat → Nat → Nat
  | 0, x => x
  | f + 1, x => if x < n ∧ p (B x) = true then z_run p B n f (x + 1) else x
theorem z_run_u {p : Nat → Bool} {B : Nat → Nat} {n : Nat} : ∀ f x r, x ≤ r → r ≤ n → n ≤ x + f → (∀ y, x ≤ y → y < r → p (B y) = true) → (r = n ∨ p (B r) = false) → z_run p B n f x = r
  | 0, x, r, h1, h2, h3, _, _ => by
    show x = r
    omega
  | f + 1, x, r, h1, h2, h3, h4, h5 => by
    show (if x < n ∧ p (B x) = true then z_run p B n f (x + 1) else x) = r
    by_cases hx : x < n ∧ p (B x) = true
    · rw [if_pos hx]
      by_cases e : x = r
      · exfalso
        rcases h5 with h5 | h5
        · omega
        · rw [← e, hx.2] at h5
          cases h5
      · exact z_run_u f (x + 1) r (by omega) h2 (by omega) (fun y hy hr => h4 y (by omega) hr) h5
    · rw [if_neg hx]
      by_cases e : x = r
      · exact e
      · exact absurd ⟨by omega, h4 x (Nat.le_refl x) (by omega)⟩ hx
theorem z_run_p {p : Nat → Bool} {B : Nat → Nat} {n : Nat} : ∀ f x, x ≤ n → n ≤ x + f → x ≤ z_run p B n f x ∧ z_run p B n f x ≤ n ∧ (∀ y, x ≤ y → y < z_run p B n f x → p (B y) = true) ∧ (z_run p B n f x = n ∨ p (B (z_run p B n f x)) = false)
  | 0, x, h1, h2 => by
    show x ≤ x ∧ x ≤ n ∧ (∀ y, x ≤ y → y < x → p (B y) = true) ∧ (x = n ∨ p (B x) = false)
    exact ⟨Nat.le_refl x, h1, fun y a b => by omega, Or.inl (by omega)⟩
  | f + 1, x, h1, h2 => by
    have e : z_run p B n (f + 1) x = if x < n ∧ p (B x) = true then z_run p B n f (x + 1) else x := rfl
    rw [e]
    by_cases hx : x < n ∧ p (B x) = true
    · rw [if_pos hx]
      obtain ⟨a1, a2, a3, a4⟩ := z_run_p (p := p) (B := B) f (x + 1) (show x + 1 ≤ n by omega) (by omega)
      refine ⟨by omega, a2, fun y b1 b2 => ?_, a4⟩
      by_cases ey : y = x
      · rw [ey]
        exact hx.2
      · exact a3 y (by omega) b2
    · rw [if_neg hx]
      refine ⟨Nat.le_refl x, h1, fun y a b => by omega, ?_⟩
      by_cases e2 : x = n
      · exact Or.inl e2
      · refine Or.inr ?_
        cases hp : p (B x)
        · rfl
        · exact absurd ⟨by omega, hp⟩ hx
/-- a token's start, behind blanks; its end, kind and number, by its start -/
def z_ts (B : Nat → Nat) (n p : Nat) : Nat := z_run z_blk B n n p
def z_tE (B : Nat → Nat) (n s : Nat) : Nat := if n ≤ s then n else if z_let (B s) = true then z_run z_let B n n (s + 1) else if z_dgt (B s) = true then z_run z_dgt B n n (s + 1) else s + 1
def z_word (B : Nat → Nat) (s e : Nat) : List Nat := (List.range (e - s)).map fun j => B (s + j)
def z_tx (i : Nat) : List Nat := (mm_txt i).map Char.toNat
def z_wcd (w : List Nat) : Nat := if w = z_tx 13 then 256 else if w = z_tx 14 then 257 else if w = z_tx 15 then 258 else if w = z_tx 16 then 259 else if w = z_tx 17 then 260 else if w = z_tx 18 then 261 else if w = z_tx 19 then 262 else if w = z_tx 20 then 263 else if w = z_tx 21 then 264 else if w = z_tx 22 then 265 else if w = z_tx 23 then 266 else if w = z_tx 24 then 267 else if w = z_tx 25 then 268 else 3
def z_kD (B : Nat → Nat) (n s : Nat) : Nat := if n ≤ s then 0 else if z_let (B s) = true then z_wcd (z_word B s (z_tE B n s)) else if z_dgt (B s) = true then 2 else if z_sgn (B s) = true then B s else 1
def z_nv (B : Nat → Nat) (s : Nat) : Nat → Nat
  | 0 => 0
  | j + 1 => z_nv B s j * 10 + (B (s + j) - 48)
def z_nM (B : Nat → Nat) (n s : Nat) : Nat := if n ≤ s then 0 else if z_let (B s) = true then 0 else if z_dgt (B s) = true then (if z_tE B n s - s ≤ 5 then z_nv B s (z_tE B n s - s) else 100000) else 0
def z_te (B : Nat → Nat) (n p : Nat) : Nat := z_tE B n (z_ts B n p)
def z_kd (B : Nat → Nat) (n p : Nat) : Nat := z_kD B n (z_ts B n p)
def z_nm (B : Nat → Nat) (n p : Nat) : Nat := z_nM B n (z_ts B n p)
theorem z_ts_b {B : Nat → Nat} {n p : Nat} (hp : p ≤ n) : p ≤ z_ts B n p ∧ z_ts B n p ≤ n ∧ (z_ts B n p = n ∨ z_blk (B (z_ts B n p)) = false) := by
  obtain ⟨a1, a2, _, a4⟩ := z_run_p (p := z_blk) (B := B) n p hp (by omega)
  exact ⟨a1, a2, a4⟩
theorem z_tE_b {B : Nat → Nat} {n s : Nat} (hs : s ≤ n) : z_tE B n s ≤ n ∧ (s < n → s < z_tE B n s) := by
  unfold z_tE
  by_cases h : n ≤ s
  · rw [if_pos h]
    omega
  · rw [if_neg h]
    by_cases h2 : z_let (B s) = true
    · rw [if_pos h2]
      obtain ⟨a1, a2, _⟩ := z_run_p (p := z_let) (B := B) n (s + 1) (show s + 1 ≤ n by omega) (by omega)
      omega
    · rw [if_neg h2]
      by_cases h3 : z_dgt (B s) = true
      · rw [if_pos h3]
        obtain ⟨a1, a2, _⟩ := z_run_p (p := z_dgt) (B := B) n (s + 1) (show s + 1 ≤ n by omega) (by omega)
        omega
      · rw [if_neg h3]
        omega
theorem z_te_b {B : Nat → Nat} {n p : Nat} (hp : p ≤ n) : z_te B n p ≤ n := (z_tE_b (z_ts_b hp).2.1).1
/-- texts -/
def z_chr (i j : Nat) : Nat := ((mm_txt i).getD j ' ').toNat
theorem z_chr_b : ∀ i : Fin 29, ∀ j : Fin 7, z_chr i.val j.val < 128 := by decide +kernel
theorem z_tx_l : ∀ i : Fin 29, (mm_txt i.val).length ≤ 6 := by decide +kernel
theorem z_weq {B : Nat → Nat} {s e i : Nat} : z_word B s e = z_tx i ↔ e - s = (mm_txt i).length ∧ ∀ j, j < e - s → B (s + j) = z_chr i j := by
  unfold z_word z_tx z_chr
  constructor
  · intro h
    have hl : e - s = (mm_txt i).length := by
      have := congrArg List.length h
      rw [List.length_map, List.length_range, List.length_map] at this
      exact this
    refine ⟨hl, fun j hj => ?_⟩
    have h2 : ((List.range (e - s)).map fun j => B (s + j))[j]? = ((mm_txt i).map Char.toNat)[j]? := by rw [h]
    rw [List.getElem?_map, List.getElem?_map, List.getElem?_range hj, List.getElem?_eq_getElem (show j < (mm_txt i).length by omega)] at h2
    rw [List.getD_eq_getElem?_getD, List.getElem?_eq_getElem (show j < (mm_txt i).length by omega)]
    exact Option.some.inj h2
  · intro ⟨hl, h⟩
    apply List.ext_getElem?
    intro j
    by_cases hj : j < e - s
    · rw [List.getElem?_map, List.getElem?_map, List.getElem?_range hj, List.getElem?_eq_getElem (show j < (mm_txt i).length by omega)]
      have := h j hj
      rw [List.getD_eq_getElem?_getD, List.getElem?_eq_getElem (show j < (mm_txt i).length by omega)] at this
      show some (B (s + j)) = some _
      rw [this]
      rfl
    · rw [List.getElem?_eq_none (by rw [List.length_map, List.length_range]; omega), List.getElem?_eq_none (by rw [List.length_map]; omega)]
/-- the class's bytes -/
theorem z_sb8 : ∀ b : Fin 256, (Int32.ofNat b.val).toInt8.toInt32.toInt = if b.val < 128 then (b.val : Int) else (b.val : Int) - 256 := by decide +kernel
theorem z_sb {b : Nat} (h : b < 256) : (Int32.ofNat b).toInt8.toInt32.toInt = if b < 128 then (b : Int) else (b : Int) - 256 := z_sb8 ⟨b, h⟩
def z_sg (x : Int32) (b : Nat) : Prop := (b < 128 ∧ x.toInt = (b : Int)) ∨ (128 ≤ b ∧ x.toInt < 0)
theorem z_sb2 {b : Nat} (h : b < 256) : z_sg (Int32.ofNat b).toInt8.toInt32 b := by
  have := z_sb h
  by_cases hb : b < 128
  · rw [if_pos hb] at this
    exact Or.inl ⟨hb, this⟩
  · rw [if_neg hb] at this
    exact Or.inr ⟨by omega, by omega⟩
theorem i_n (k : Nat) (h : k < 2147483648) : (Int32.ofNat k).toInt = (k : Int) := nJ_T h
theorem c_blk {x : Int32} {b : Nat} {m : mm_M} (h : z_sg x b) : f_X9_isBlank x m = some (if z_blk b = true then 1 else 0) := by
  have i32 : (32 : Int32).toInt = 32 := by decide
  have i10 : (10 : Int32).toInt = 10 := by decide
  apply v_is
  unfold f_X9_isBlank
  by_cases h1 : b = 32
  · refine v_ifp (by rw [iA_eq, i32]; rcases h with h | h <;> omega) (v_so ?_)
    exact (if_pos (decide_eq_true (Or.inl h1))).symm
  refine v_ifn (by rw [iA_eq, i32]; rcases h with h | h <;> omega) ?_
  by_cases h2 : b = 10
  · refine v_ifn (fun z => z (by rw [iA_eq, i10]; rcases h with h | h <;> omega)) (v_so ?_)
    exact (if_pos (decide_eq_true (Or.inr h2))).symm
  · refine v_ifp (fun z => h2 (by rw [iA_eq, i10] at z; rcases h with h | h <;> omega)) (v_so ?_)
    exact (if_neg (fun z => by have := of_decide_eq_true z; omega)).symm
theorem c_let {x : Int32} {b : Nat} {m : mm_M} (h : z_sg x b) : f_X9_isLetter x m = some (if z_let b = true then 1 else 0) := by
  have i97 : (97 : Int32).toInt = 97 := by decide
  have i122 : (122 : Int32).toInt = 122 := by decide
  apply v_is
  unfold f_X9_isLetter
  by_cases h1 : x.toInt < 97
  · refine v_ifp (by rw [iA_lt, i97]; exact h1) (v_so ?_)
    exact (if_neg (fun z => by have := of_decide_eq_true z; rcases h with h | h <;> omega)).symm
  refine v_ifn (by rw [iA_lt, i97]; exact h1) ?_
  by_cases h2 : 122 < x.toInt
  · refine v_ifp (by rw [iA_lt, i122]; exact h2) (v_so ?_)
    exact (if_neg (fun z => by have := of_decide_eq_true z; rcases h with h | h <;> omega)).symm
  · refine v_ifn (by rw [iA_lt, i122]; exact h2) (v_so ?_)
    exact (if_pos (decide_eq_true (by rcases h with h | h <;> omega))).symm
theorem c_dgt {x : Int32} {b : Nat} {m : mm_M} (h : z_sg x b) : f_X9_isDigit x m = some (if z_dgt b = true then 1 else 0) := by
  have i48 : (48 : Int32).toInt = 48 := by decide
  have i57 : (57 : Int32).toInt = 57 := by decide
  apply v_is
  unfold f_X9_isDigit
  by_cases h1 : x.toInt < 48
  · refine v_ifp (by rw [iA_lt, i48]; exact h1) (v_so ?_)
    exact (if_neg (fun z => by have := of_decide_eq_true z; rcases h with h | h <;> omega)).symm
  refine v_ifn (by rw [iA_lt, i48]; exact h1) ?_
  by_cases h2 : 57 < x.toInt
  · refine v_ifp (by rw [iA_lt, i57]; exact h2) (v_so ?_)
    exact (if_neg (fun z => by have := of_decide_eq_true z; rcases h with h | h <;> omega)).symm
  · refine v_ifn (by rw [iA_lt, i57]; exact h2) (v_so ?_)
    exact (if_pos (decide_eq_true (by rcases h with h | h <;> omega))).symm
theorem z_sgE {x : Int32} {b k : Nat} (h : z_sg x b) (hk : k < 128) : x = Int32.ofNat k ↔ b = k := by
  rw [iA_eq, nJ_T (by omega)]
  rcases h with h | h
  · omega
  · omega
theorem c_sgn {x : Int32} {b : Nat} {m : mm_M} (h : z_sg x b) : f_X9_isSign x m = some (if z_sgn b = true then 1 else 0) := by
  have e : ∀ k : Nat, k < 128 → (x = Int32.ofNat k ↔ b = k) := fun k hk => z_sgE h hk
  have yes : z_sgn b = true → vW (some (1 : Int32)) (fun r => r = if z_sgn b = true then 1 else 0) := fun z => v_so (if_pos z).symm
  apply v_is
  unfold f_X9_isSign
  by_cases h1 : b = 59
  · exact v_ifp ((e 59 (by omega)).mpr h1) (yes (decide_eq_true (by omega)))
  refine v_ifn (fun z => h1 ((e 59 (by omega)).mp z)) ?_
  by_cases h2 : b = 40
  · exact v_ifp ((e 40 (by omega)).mpr h2) (yes (decide_eq_true (by omega)))
  refine v_ifn (fun z => h2 ((e 40 (by omega)).mp z)) ?_
  by_cases h3 : b = 41
  · exact v_ifp ((e 41 (by omega)).mpr h3) (yes (decide_eq_true (by omega)))
  refine v_ifn (fun z => h3 ((e 41 (by omega)).mp z)) ?_
  by_cases h4 : b = 43
  · exact v_ifp ((e 43 (by omega)).mpr h4) (yes (decide_eq_true (by omega)))
  refine v_ifn (fun z => h4 ((e 43 (by omega)).mp z)) ?_
  by_cases h5 : b = 45
  · exact v_ifp ((e 45 (by omega)).mpr h5) (yes (decide_eq_true (by omega)))
  refine v_ifn (fun z => h5 ((e 45 (by omega)).mp z)) ?_
  by_cases h6 : b = 42
  · exact v_ifp ((e 42 (by omega)).mpr h6) (yes (decide_eq_true (by omega)))
  refine v_ifn (fun z => h6 ((e 42 (by omega)).mp z)) ?_
  by_cases h7 : b = 47
  · exact v_ifp ((e 47 (by omega)).mpr h7) (yes (decide_eq_true (by omega)))
  refine v_ifn (fun z => h7 ((e 47 (by omega)).mp z)) ?_
  by_cases h8 : b = 60
  · exact v_ifp ((e 60 (by omega)).mpr h8) (yes (decide_eq_true (by omega)))
  refine v_ifn (fun z => h8 ((e 60 (by omega)).mp z)) ?_
  by_cases h9 : b = 61
  · exact v_ifn (fun z => z ((e 61 (by omega)).mpr h9)) (yes (decide_eq_true (by omega)))
  refine v_ifp (fun z => h9 ((e 61 (by omega)).mp z)) (v_so ?_)
  exact (if_neg (fun z => by have := of_decide_eq_true z; omega)).symm
/-- bytes in the class's tape -/
def z_byC (c : mm_M) (B : Nat → Nat) (n : Nat) : Prop := n ≤ 400 ∧ ∀ k, k < n → B k < 256 ∧ c 15 0 k = (Int32.ofNat (B k)).toInt8.toInt32
theorem z_byS {c : mm_M} {B : Nat → Nat} {n k : Nat} (h : z_byC c B n) (hk : k < n) : z_sg (c 15 0 k) (B k) := by
  obtain ⟨h1, h2⟩ := h.2 k hk
  rw [h2]
  exact z_sb2 h1
theorem c_spl {c : mm_M} {B : Nat → Nat} {n s e i : Nat} {a1 a2 : Int32} (hb : z_byC c B n) (hi : i < 29) (h1 : a1.toInt = (s : Int)) (h2 : a2.toInt = (e : Int)) (hse : s ≤ e) (hen : e ≤ n) : f_X9_spells a1 a2 i c = some (if z_word B s e = z_tx i then 1 else 0) := by
  have hn := hb.1
  have hl := z_tx_l ⟨i, hi⟩
  dsimp only at hl
  have hd : (a2 - a1).toInt = ((e - s : Nat) : Int) := by
    rw [iA_sub (by omega) (by omega), h1, h2]
    omega
  apply v_is
  unfold f_X9_spells
  by_cases hlen : e - s = (mm_txt i).length
  · refine v_ifp (by rw [iA_eq, hd, nJ_T (by omega)]; omega) ?_
    refine v_s1 (P := fun t => match t with
      | .inl _ => ¬ z_word B s e = z_tx i
      | .inr _ => z_word B s e = z_tx i) ?_ (fun t ht => ?_)
    · refine v_for (fun j v => v.toInt = ((s + j : Nat) : Int) ∧ ∀ x, x < j → B (s + x) = z_chr i x) 0 (e - s) (Nat.zero_le _) (by omega) ⟨h1, fun x hx => absurd hx (Nat.not_lt_zero x)⟩ ?_ ?_
      · rintro j v hj ⟨hv, hx⟩
        have kv := n_k hv
        have hvd : (v - a1).toInt = (j : Int) := by
          rw [iA_sub (by omega) (by omega), h1, hv]
          omega
        have kvd := n_k hvd
        have hin : mm_in (v - a1) (mm_txt i).length := v_in.mpr (by rw [hvd]; omega)
        have hcb := z_chr_b ⟨i, hi⟩ ⟨j, by omega⟩
        dsimp only at hcb
        have hsg := z_byS hb (show s + j < n by omega)
        clear hvd
        refine v_ifn (by rw [iA_le, h2, hv]; omega) ?_
        refine v_ifp (v_in.mpr (by omega)) ?_
        refine v_ifp hin ?_
        by_cases hc : B (s + j) = z_chr i j
        · refine v_ifp (by rw [kv, kvd]; exact (z_sgE hsg hcb).mpr hc) ?_
          refine v_l1 ?_
          refine v_il ⟨show (v + 1).toInt = ((s + j + 1 : Nat) : Int) from n_s3 hv (by omega), fun x hxj => ?_⟩
          by_cases e2 : x = j
          · rw [e2]
            exact hc
          · exact hx x (by omega)
        · refine v_ifn (by rw [kv, kvd]; exact fun z => hc ((z_sgE hsg hcb).mp z)) ?_
          exact v_ir (fun z => hc ((z_weq.mp z).2 j hj))
      · rintro v ⟨hv, hx⟩
        refine v_ifp (by rw [iA_le, h2, hv]; omega) ?_
        exact v_ir (z_weq.mpr ⟨hlen, hx⟩)
    · cases t with
      | inl z => exact v_so (if_neg ht).symm
      | inr z => exact v_so (if_pos ht).symm
  · refine v_ifn (by rw [iA_eq, hd, nJ_T (by omega)]; omega) ?_
    exact v_so (if_neg (fun z => hlen (z_weq.mp z).1)).symm
theorem c_wat {c : mm_M} {B : Nat → Nat} {n s e : Nat} {a1 a2 : Int32} (hb : z_byC c B n) (h1 : a1.toInt = (s : Int)) (h2 : a2.toInt = (e : Int)) (hse : s ≤ e) (hen : e ≤ n) : f_X9_wordAt a1 a2 c = some (Int32.ofNat (z_wcd (z_word B s e))) := by
  have sp : ∀ i, i < 29 → f_X9_spells a1 a2 i c = some (if z_word B s e = z_tx i then 1 else 0) := fun i hi => c_spl hb hi h1 h2 hse hen
  generalize z_word B s e = w at sp ⊢
  apply v_is
  unfold f_X9_wordAt z_wcd
  refine v_b1e (sp 13 (by omega)) ?_
  by_cases e13 : w = z_tx 13
  · exact v_ifn (by rw [if_pos e13]; decide) (v_so (by rw [if_pos e13]; rfl))
  refine v_ifp (by rw [if_neg e13]) ?_
  rw [if_neg e13]
  refine v_b1e (sp 14 (by omega)) ?_
  by_cases e14 : w = z_tx 14
  · exact v_ifn (by rw [if_pos e14]; decide) (v_so (by rw [if_pos e14]; rfl))
  refine v_ifp (by rw [if_neg e14]) ?_
  rw [if_neg e14]
  refine v_b1e (sp 15 (by omega)) ?_
  by_cases e15 : w = z_tx 15
  · exact v_ifn (by rw [if_pos e15]; decide) (v_so (by rw [if_pos e15]; rfl))
  refine v_ifp (by rw [if_neg e15]) ?_
  rw [if_neg e15]
  refine v_b1e (sp 16 (by omega)) ?_
  by_cases e16 : w = z_tx 16
  · exact v_ifn (by rw [if_pos e16]; decide) (v_so (by rw [if_pos e16]; rfl))
  refine v_ifp (by rw [if_neg e16]) ?_
  rw [if_neg e16]
  refine v_b1e (sp 17 (by omega)) ?_
  by_cases e17 : w = z_tx 17
  · exact v_ifn (by rw [if_pos e17]; decide) (v_so (by rw [if_pos e17]; rfl))
  refine v_ifp (by rw [if_neg e17]) ?_
  rw [if_neg e17]
  refine v_b1e (sp 18 (by omega)) ?_
  by_cases e18 : w = z_tx 18
  · exact v_ifn (by rw [if_pos e18]; decide) (v_so (by rw [if_pos e18]; rfl))
  refine v_ifp (by rw [if_neg e18]) ?_
  rw [if_neg e18]
  refine v_b1e (sp 19 (by omega)) ?_
  by_cases e19 : w = z_tx 19
  · exact v_ifn (by rw [if_pos e19]; decide) (v_so (by rw [if_pos e19]; rfl))
  refine v_ifp (by rw [if_neg e19]) ?_
  rw [if_neg e19]
  refine v_b1e (sp 20 (by omega)) ?_
  by_cases e20 : w = z_tx 20
  · exact v_ifn (by rw [if_pos e20]; decide) (v_so (by rw [if_pos e20]; rfl))
  refine v_ifp (by rw [if_neg e20]) ?_
  rw [if_neg e20]
  refine v_b1e (sp 21 (by omega)) ?_
  by_cases e21 : w = z_tx 21
  · exact v_ifn (by rw [if_pos e21]; decide) (v_so (by rw [if_pos e21]; rfl))
  refine v_ifp (by rw [if_neg e21]) ?_
  rw [if_neg e21]
  refine v_b1e (sp 22 (by omega)) ?_
  by_cases e22 : w = z_tx 22
  · exact v_ifn (by rw [if_pos e22]; decide) (v_so (by rw [if_pos e22]; rfl))
  refine v_ifp (by rw [if_neg e22]) ?_
  rw [if_neg e22]
  refine v_b1e (sp 23 (by omega)) ?_
  by_cases e23 : w = z_tx 23
  · exact v_ifn (by rw [if_pos e23]; decide) (v_so (by rw [if_pos e23]; rfl))
  refine v_ifp (by rw [if_neg e23]) ?_
  rw [if_neg e23]
  refine v_b1e (sp 24 (by omega)) ?_
  by_cases e24 : w = z_tx 24
  · exact v_ifn (by rw [if_pos e24]; decide) (v_so (by rw [if_pos e24]; rfl))
  refine v_ifp (by rw [if_neg e24]) ?_
  rw [if_neg e24]
  refine v_b1e (sp 25 (by omega)) ?_
  by_cases e25 : w = z_tx 25
  · exact v_ifn (by rw [if_pos e25]; decide) (v_so (by rw [if_pos e25]; rfl))
  refine v_ifp (by rw [if_neg e25]) ?_
  rw [if_neg e25]
  exact v_so rfl
theorem z_nv_b {B : Nat → Nat} {s : Nat} : ∀ j, (∀ x, x < j → z_dgt (B (s + x)) = true) → z_nv B s j < 10 ^ j
  | 0, _ => by
    show 0 < 1
    omega
  | j + 1, h => by
    have ih := z_nv_b j (fun x hx => h x (by omega))
    have hd := of_decide_eq_true (h j (by omega))
    show z_nv B s j * 10 + (B (s + j) - 48) < 10 ^ (j + 1)
    rw [Nat.pow_succ]
    omega
theorem z_p10 {j : Nat} (h : j ≤ 5) : 10 ^ j ≤ 100000 := Nat.pow_le_pow_right (by decide) h
theorem c_nat {c : mm_M} {B : Nat → Nat} {n s e : Nat} {a1 a2 : Int32} (hb : z_byC c B n) (h1 : a1.toInt = (s : Int)) (h2 : a2.toInt = (e : Int)) (hse : s ≤ e) (hen : e ≤ n) (hd : ∀ y, s ≤ y → y < e → z_dgt (B y) = true) : f_X9_numberAt a1 a2 c = some (Int32.ofNat (if e - s ≤ 5 then z_nv B s (e - s) else 100000)) := by
  have hn := hb.1
  have hdf : (a2 - a1).toInt = ((e - s : Nat) : Int) := by
    rw [iA_sub (by omega) (by omega), h1, h2]
    omega
  have i5 : (5 : Int32).toInt = 5 := by decide
  apply v_is
  unfold f_X9_numberAt
  by_cases h5 : e - s ≤ 5
  · rw [if_pos h5]
    refine v_ifp (by rw [iA_le, hdf, i5]; omega) ?_
    clear hdf
    refine v_s1 (P := fun r => r = Int32.ofNat (z_nv B s (e - s))) ?_ (fun r h => v_so h)
    refine v_for (fun j t => t.2.toInt = ((s + j : Nat) : Int) ∧ t.1 = Int32.ofNat (z_nv B s j)) 0 (e - s) (Nat.zero_le _) (by omega) ⟨h1, rfl⟩ ?_ ?_
    · rintro j ⟨x, v⟩ hj ⟨hv, hx⟩
      dsimp only at hv hx ⊢
      have kv := n_k hv
      have hdj := of_decide_eq_true (hd (s + j) (by omega) (by omega))
      have hnb := z_nv_b (B := B) (s := s) j (fun x hx => hd (s + x) (by omega) (by omega))
      have hpb := z_p10 (show j ≤ 5 by omega)
      have hby : c 15 0 v.toNatClampNeg = Int32.ofNat (B (s + j)) := by
        rw [kv]
        exact (z_sgE (z_byS hb (show s + j < n by omega)) (by omega)).mpr rfl
      refine v_ifn (by rw [iA_le, h2, hv]; omega) ?_
      refine v_ifp (v_in.mpr (by omega)) ?_
      refine v_l ?_
      refine v_l1 ?_
      refine v_il ⟨show (v + 1).toInt = ((s + j + 1 : Nat) : Int) from n_s3 hv (by omega), ?_⟩
      dsimp only
      rw [hx, hby]
      show (Int32.ofNat (z_nv B s j) * Int32.ofNat 10 + Int32.ofNat (B (s + j))) - Int32.ofNat 48 = Int32.ofNat (z_nv B s j * 10 + (B (s + j) - 48))
      rw [n_mul, nJ_a, n_sb (by omega)]
      congr 1
      omega
    · rintro ⟨x, v⟩ ⟨hv, hx⟩
      dsimp only at hv hx ⊢
      refine v_ifp (by rw [iA_le, h2, hv]; omega) ?_
      exact v_ir hx
  · rw [if_neg h5]
    refine v_ifn (by rw [iA_le, hdf, i5]; omega) ?_
    exact v_so rfl
theorem c_putT {c : mm_M} {K : Nat} {a1 a2 a3 : Int32} (hK : c 1 0 5 = Int32.ofNat K) (h : K ≤ 400) : vW (f_X9_put a1 a2 a3 c) (fun r => fp [(1, none, some 5), (16, none, none), (17, none, none), (18, none, none)] c r ∧ r 1 0 5 = Int32.ofNat (K + 1) ∧ (r 16 0 K = a1 ∧ r 17 0 K = a2 ∧ r 18 0 K = a3) ∧ ∀ j, ¬ j = K → r 16 0 j = c 16 0 j ∧ r 17 0 j = c 17 0 j ∧ r 18 0 j = c 18 0 j) := by
  have kK : (c 1 0 5).toNatClampNeg = K := by rw [hK, nJ_N (by omega)]
  have iK : mm_in (Int32.ofNat K) 401 := nJ_in (by omega) (by omega)
  have i401 : (401 : Int32).toInt = 401 := by decide
  unfold f_X9_put
  refine v_ifn (by rw [hK, iA_le, i401, nJ_T (by omega)]; omega) ?_
  refine v_ifp (by rw [hK]; exact iK) ?_
  refine v_lM ?_
  rw [kK]
  have e1 : mm_w c 16 0 K a1 1 0 5 = Int32.ofNat K := (mw_g (by decide)).trans hK
  refine v_ifp (by rw [e1]; exact iK) ?_
  refine v_lM ?_
  rw [show (mm_w c 16 0 K a1 1 0 5).toNatClampNeg = K by rw [e1, nJ_N (by omega)]]
  have e2 : mm_w (mm_w c 16 0 K a1) 17 0 K a2 1 0 5 = Int32.ofNat K := (mw_g (by decide)).trans e1
  refine v_ifp (by rw [e2]; exact iK) ?_
  refine v_lM ?_
  rw [show (mm_w (mm_w c 16 0 K a1) 17 0 K a2 1 0 5).toNatClampNeg = K by rw [e2, nJ_N (by omega)]]
  refine v_lM ?_
  refine v_so ⟨fp_w rfl (fp_w rfl (fp_w rfl (fp_w rfl fp_rf))), ?_, ⟨?_, ?_, ?_⟩, fun j hj => ⟨?_, ?_, ?_⟩⟩
  · rw [mw_s, mw_g (by decide), e2, n_a1]
  · rw [mw_g (by decide), mw_g (by decide), mw_g (by decide), mw_s]
  · rw [mw_g (by decide), mw_g (by decide), mw_s]
  · rw [mw_g (by decide), mw_s]
  · rw [mw_g (by decide), mw_g (by decide), mw_g (by decide), mw_k hj]
  · rw [mw_g (by decide), mw_g (by decide), mw_k hj, mw_g (by decide)]
  · rw [mw_g (by decide), mw_k hj, mw_g (by decide), mw_g (by decide)]
abbrev zPt : zT := [(1, none, some 5), (16, none, none), (17, none, none), (18, none, none)]
theorem c_tok {c : mm_M} {B : Nat → Nat} {n s K : Nat} {a1 a2 : Int32} (hb : z_byC c B n) (hK : c 1 0 5 = Int32.ofNat K) (hK4 : K ≤ 400) (h1 : a1.toInt = (s : Int)) (hs : s < n) (h2 : a2.toInt = (n : Int)) : vW (f_X9_takeToken a1 a2 c) (fun q => q.1.toInt = (z_tE B n s : Int) ∧ fp zPt c q.2 ∧ q.2 1 0 5 = Int32.ofNat (K + 1) ∧ (q.2 16 0 K = Int32.ofNat (z_kD B n s) ∧ q.2 17 0 K = Int32.ofNat (z_nM B n s) ∧ q.2 18 0 K = Int32.ofNat s) ∧ ∀ j, ¬ j = K → q.2 16 0 j = c 16 0 j ∧ q.2 17 0 j = c 17 0 j ∧ q.2 18 0 j = c 18 0 j) := by
  have hn := hb.1
  have k1 := n_k h1
  have i1 : mm_in a1 400 := v_in.mpr (by omega)
  have hsg := z_byS hb hs
  have e1 : a1 = Int32.ofNat s := n_0L (by omega) h1
  have hns : ¬ n ≤ s := by omega
  -- a run of letters, or of digits
  have run : ∀ (p : Nat → Bool) (v0 : Int32), v0.toInt = ((s + 1 : Nat) : Int) → ∀ (f : Int32 → mm_M → Option Int32), (∀ v : Int32, ∀ x : Nat, v.toInt = (x : Int) → x < n → f (c 15 0 v.toNatClampNeg) c = some (if p (B x) = true then 1 else 0)) → vW (mm_loop (σ := Int32) (ρ := (Int32)) (fun (v10 : Int32) => (if a2 ≤ v10 then (some (.inr v10))
else (if mm_in v10 400 then (
mm_b1 (f (c 15 0 v10.toNatClampNeg) c) fun r11 =>
if r11 = 0 then (some (.inr v10))
else (mm_let (v10 + 1) fun v12 =>
some (.inl v12))) else none) : Option ((Int32) ⊕ ((Int32))))) mm_fu v0) (fun r => r.toInt = (z_run p B n n (s + 1) : Int)) := fun p v0 hv0 f hf => by
    obtain ⟨r1, r2, r3, r4⟩ := z_run_p (p := p) (B := B) n (s + 1) (show s + 1 ≤ n by omega) (by omega)
    generalize hR : z_run p B n n (s + 1) = R at r1 r2 r3 r4
    refine v_for (fun j v => v.toInt = ((s + 1 + j : Nat) : Int)) 0 (R - (s + 1)) (Nat.zero_le _) (by omega) hv0 ?_ ?_
    · rintro j v hj hv
      refine v_ifn (by rw [iA_le, h2, hv]; omega) ?_
      refine v_ifp (v_in.mpr (by omega)) ?_
      refine v_b1e (hf v (s + 1 + j) hv (by omega)) ?_
      refine v_ifn (by rw [if_pos (r3 (s + 1 + j) (by omega) (by omega))]; decide) ?_
      refine v_l1 ?_
      exact v_il (show (v + 1).toInt = ((s + 1 + j + 1 : Nat) : Int) from n_s3 hv (by omega))
    · rintro v hv
      have hve : v.toInt = (R : Int) := by omega
      by_cases hRn : R = n
      · refine v_ifp (by rw [iA_le, h2, hve]; omega) ?_
        exact v_ir hve
      · refine v_ifn (by rw [iA_le, h2, hve]; omega) ?_
        refine v_ifp (v_in.mpr (by omega)) ?_
        refine v_b1e (hf v R hve (by omega)) ?_
        refine v_ifp ?_ (v_ir hve)
        rcases r4 with r4 | r4
        · exact absurd r4 hRn
        · rw [if_neg (by rw [r4]; decide)]
  unfold f_X9_takeToken
  refine v_ifp i1 ?_
  refine v_b1e (by rw [k1]; exact c_let hsg) ?_
  by_cases hl : z_let (B s) = true
  · have eE : z_tE B n s = z_run z_let B n n (s + 1) := (if_neg hns).trans (if_pos hl)
    obtain ⟨r1, r2, r3, r4⟩ := z_run_p (p := z_let) (B := B) n (s + 1) (show s + 1 ≤ n by omega) (by omega)
    refine v_ifn (by rw [if_pos hl]; decide) ?_
    refine v_l1 ?_
    refine v_s1 (run z_let (a1 + 1) (n_s3 h1 (by omega)) f_X9_isLetter (fun v x hv hx => by rw [n_k hv]; exact c_let (z_byS hb hx))) (fun v hv => ?_)
    refine v_b1e (c_wat hb h1 hv (by omega) r2) ?_
    refine v_s1 (c_putT hK hK4) (fun r hr => ?_)
    refine v_so ⟨?_, hr.1, hr.2.1, ⟨?_, ?_, ?_⟩, hr.2.2.2⟩
    · rw [eE]
      exact hv
    · dsimp only
      rw [hr.2.2.1.1, ← eE]
      exact congrArg _ ((if_neg hns).trans (if_pos hl)).symm
    · dsimp only
      rw [hr.2.2.1.2.1]
      exact congrArg Int32.ofNat ((if_neg hns).trans (if_pos hl) : z_nM B n s = 0).symm
    · dsimp only
      rw [hr.2.2.1.2.2]
      exact e1
  · refine v_ifp (by rw [if_neg hl]) ?_
    refine v_ifp i1 ?_
    refine v_b1e (by rw [k1]; exact c_dgt hsg) ?_
    by_cases hd : z_dgt (B s) = true
    · have eE : z_tE B n s = z_run z_dgt B n n (s + 1) := (if_neg hns).trans ((if_neg hl).trans (if_pos hd))
      obtain ⟨r1, r2, r3, r4⟩ := z_run_p (p := z_dgt) (B := B) n (s + 1) (show s + 1 ≤ n by omega) (by omega)
      refine v_ifn (by rw [if_pos hd]; decide) ?_
      refine v_l1 ?_
      refine v_s1 (run z_dgt (a1 + 1) (n_s3 h1 (by omega)) f_X9_isDigit (fun v x hv hx => by rw [n_k hv]; exact c_dgt (z_byS hb hx))) (fun v hv => ?_)
      refine v_b1e (c_nat hb h1 hv (by omega) r2 (fun y hy1 hy2 => ?_)) ?_
      · by_cases ey : y = s
        · rw [ey]
          exact hd
        · exact r3 y (by omega) hy2
      refine v_s1 (c_putT hK hK4) (fun r hr => ?_)
      refine v_so ⟨?_, hr.1, hr.2.1, ⟨?_, ?_, ?_⟩, hr.2.2.2⟩
      · rw [eE]
        exact hv
      · dsimp only
        rw [hr.2.2.1.1]
        exact congrArg Int32.ofNat ((if_neg hns).trans ((if_neg hl).trans (if_pos hd)) : z_kD B n s = 2).symm
      · dsimp only
        rw [hr.2.2.1.2.1, ← eE]
        exact congrArg Int32.ofNat ((if_neg hns).trans ((if_neg hl).trans (if_pos hd)) : z_nM B n s = _).symm
      · dsimp only
        rw [hr.2.2.1.2.2]
        exact e1
    · have eE : z_tE B n s = s + 1 := (if_neg hns).trans ((if_neg hl).trans (if_neg hd))
      have eM : z_nM B n s = 0 := (if_neg hns).trans ((if_neg hl).trans (if_neg hd))
      refine v_ifp (by rw [if_neg hd]) ?_
      refine v_ifp i1 ?_
      refine v_b1e (by rw [k1]; exact c_sgn hsg) ?_
      refine v_lF ?_
      have fin : ∀ x : Int32, x = Int32.ofNat (z_kD B n s) → vW (mm_b1 (f_X9_put x 0 a1 c) fun m7 => some ((a1 + 1), m7)) (fun q => q.1.toInt = (z_tE B n s : Int) ∧ fp zPt c q.2 ∧ q.2 1 0 5 = Int32.ofNat (K + 1) ∧ (q.2 16 0 K = Int32.ofNat (z_kD B n s) ∧ q.2 17 0 K = Int32.ofNat (z_nM B n s) ∧ q.2 18 0 K = Int32.ofNat s) ∧ ∀ j, ¬ j = K → q.2 16 0 j = c 16 0 j ∧ q.2 17 0 j = c 17 0 j ∧ q.2 18 0 j = c 18 0 j) := fun x hx => by
        refine v_s1 (c_putT hK hK4) (fun r hr => ?_)
        refine v_so ⟨?_, hr.1, hr.2.1, ⟨?_, ?_, ?_⟩, hr.2.2.2⟩
        · rw [eE]
          exact n_s3 h1 (by omega)
        · dsimp only
          rw [hr.2.2.1.1]
          exact hx
        · dsimp only
          rw [hr.2.2.1.2.1, eM]
          rfl
        · dsimp only
          rw [hr.2.2.1.2.2]
          exact e1
      by_cases hg : z_sgn (B s) = true
      · refine v_ifn (by rw [if_pos hg]; decide) ?_
        refine v_ifp i1 ?_
        refine fin _ ?_
        rw [k1, show z_kD B n s = B s from (if_neg hns).trans ((if_neg hl).trans ((if_neg hd).trans (if_pos hg)))]
        have hbs := of_decide_eq_true hg
        exact (z_sgE hsg (by omega)).mpr rfl
      · refine v_ifp (by rw [if_neg hg]) ?_
        refine fin _ ?_
        rw [show z_kD B n s = 1 from (if_neg hns).trans ((if_neg hl).trans ((if_neg hd).trans (if_neg hg)))]
        rfl
