/-! a calculus: what a function comes to -/
def vW {α : Type} (o : Option α) (Q : α → Prop) : Prop := ∃ r, o = some r ∧ Q r
theorem v_some {α : Type} {r : α} {Q : α → Prop} : vW (some r) Q ↔ Q r := ⟨fun ⟨_, h, q⟩ => by cases h; exact q, fun q => ⟨r, rfl, q⟩⟩
theorem v_let {α β : Type} {a : α} {B : α → Option β} {Q : β → Prop} : vW (mm_let a B) Q ↔ vW (B a) Q := Iff.rfl
theorem v_b1 {α β : Type} {o : Option α} {B : α → Option β} {Q : β → Prop} : vW (mm_b1 o B) Q ↔ vW o (fun r => vW (B r) Q) := by
  cases o with
  | none => exact ⟨fun ⟨_, h, _⟩ => (by cases h), fun ⟨_, h, _⟩ => (by cases h)⟩
  | some a => exact ⟨fun h => ⟨a, rfl, h⟩, fun ⟨r, h, q⟩ => by cases h; exact q⟩
theorem v_b2 {α γ β : Type} {o : Option (α × γ)} {B : α → γ → Option β} {Q : β → Prop} : vW (mm_b2 o B) Q ↔ vW o (fun p => vW (B p.1 p.2) Q) := by
  cases o with
  | none => exact ⟨fun ⟨_, h, _⟩ => (by cases h), fun ⟨_, h, _⟩ => (by cases h)⟩
  | some a => exact ⟨fun h => ⟨a, rfl, h⟩, fun ⟨r, h, q⟩ => by cases h; exact q⟩
theorem v_mono {α : Type} {o : Option α} {P Q : α → Prop} (h : vW o P) (hq : ∀ r, P r → Q r) : vW o Q := by
  obtain ⟨r, h1, h2⟩ := h
  exact ⟨r, h1, hq r h2⟩
theorem v_s1 {α β : Type} {o : Option α} {B : α → Option β} {P : α → Prop} {Q : β → Prop} (h : vW o P) (k : ∀ r, P r → vW (B r) Q) : vW (mm_b1 o B) Q := v_b1.mpr (v_mono h k)
theorem v_s2 {α γ β : Type} {o : Option (α × γ)} {B : α → γ → Option β} {P : α × γ → Prop} {Q : β → Prop} (h : vW o P) (k : ∀ a b, P (a, b) → vW (B a b) Q) : vW (mm_b2 o B) Q := v_b2.mpr (v_mono h (fun r hr => k r.1 r.2 hr))
theorem v_sx {α β : Type} {o : Option (Nat ⊕ α)} {B : α → Option (Nat ⊕ β)} {P : Nat ⊕ α → Prop} {Q : Nat ⊕ β → Prop} (h : vW o P) (k1 : ∀ e, P (.inl e) → Q (.inl e)) (k2 : ∀ a, P (.inr a) → vW (B a) Q) : vW (mm_bx o B) Q := by
  obtain ⟨r, h1, h2⟩ := h
  rw [h1]
  cases r with
  | inl e => exact ⟨_, rfl, k1 e h2⟩
  | inr a => exact k2 a h2
theorem v_gd {α : Type} {c : Prop} [Decidable c] {X : Option α} {Q : α → Prop} (hc : c) (h : vW X Q) : vW (if c then X else none) Q := by
  rw [if_pos hc]
  exact h
theorem v_if {α : Type} {c : Prop} [Decidable c] {X Y : Option α} {Q : α → Prop} (h1 : c → vW X Q) (h2 : ¬ c → vW Y Q) : vW (if c then X else Y) Q := by
  by_cases hc : c
  · rw [if_pos hc]
    exact h1 hc
  · rw [if_neg hc]
    exact h2 hc
theorem v_is {α : Type} {o : Option α} {x : α} (h : vW o (fun r => r = x)) : o = some x := by
  obtain ⟨r, h1, h2⟩ := h
  rw [h1, h2]
theorem v_of {α : Type} {o : Option α} {x : α} {Q : α → Prop} (h : o = some x) (q : Q x) : vW o Q := ⟨x, h, q⟩
/-- what a step of a loop comes to -/
def v_st {σ ρ : Type} (P : σ → Prop) (Q : ρ → Prop) (t : σ ⊕ ρ) : Prop := match t with
  | .inl s => P s
  | .inr r => Q r
theorem v_pl {σ ρ : Type} {P : σ → Prop} {Q : ρ → Prop} {s : σ} : v_st P Q (.inl s) ↔ P s := Iff.rfl
theorem v_pr {σ ρ : Type} {P : σ → Prop} {Q : ρ → Prop} {r : ρ} : v_st P Q (.inr r) ↔ Q r := Iff.rfl
/-- a loop by an invariant and a measure -/
theorem v_loopn {σ ρ : Type} {step : σ → Option (σ ⊕ ρ)} (μ : σ → Nat) (Inv : σ → Prop) {Q : ρ → Prop} (hs : ∀ s, Inv s → vW (step s) (v_st (fun s' => Inv s' ∧ μ s' < μ s) Q)) : ∀ (n : Nat) (s : σ), Inv s → μ s < n → vW (mm_loop step n s) Q
  | 0, s, _, h => absurd h (Nat.not_lt_zero _)
  | n + 1, s, hi, h => by
    unfold mm_loop
    obtain ⟨t, h1, h2⟩ := hs s hi
    rw [h1]
    cases t with
    | inl s' => exact v_loopn μ Inv hs n s' h2.1 (by have := h2.2; omega)
    | inr r => exact ⟨r, rfl, h2⟩
theorem v_loop {σ ρ : Type} {step : σ → Option (σ ⊕ ρ)} {s : σ} {Q : ρ → Prop} (μ : σ → Nat) (Inv : σ → Prop) (hi : Inv s) (hm : μ s < 4294967296) (hs : ∀ s, Inv s → vW (step s) (v_st (fun s' => Inv s' ∧ μ s' < μ s) Q)) : vW (mm_loop step mm_fu s) Q := v_loopn μ Inv hs mm_fu s hi hm
/-- a loop that counts: from j0 on, below n it goes on or comes to its end, at n it ends -/
theorem v_forn {σ ρ : Type} {step : σ → Option (σ ⊕ ρ)} {Q : ρ → Prop} (Inv : Nat → σ → Prop) (n : Nat) (hs : ∀ j s, j < n → Inv j s → vW (step s) (v_st (Inv (j + 1)) Q)) (he : ∀ s, Inv n s → vW (step s) (v_st (fun _ => False) Q)) : ∀ (k j : Nat) (s : σ), j + k = n → Inv j s → ∀ f, k < f → vW (mm_loop step f s) Q
  | 0, j, s, hjk, hi, f, hf => by
    obtain rfl : j = n := by omega
    cases f with
    | zero => omega
    | succ f =>
      unfold mm_loop
      obtain ⟨t, h1, h2⟩ := he s hi
      rw [h1]
      cases t with
      | inl s' => exact absurd h2 (fun h => h)
      | inr r => exact ⟨r, rfl, h2⟩
  | k + 1, j, s, hjk, hi, f, hf => by
    cases f with
    | zero => omega
    | succ f =>
      unfold mm_loop
      obtain ⟨t, h1, h2⟩ := hs j s (by omega) hi
      rw [h1]
      cases t with
      | inl s' => exact v_forn Inv n hs he k (j + 1) s' (by omega) h2 f (by omega)
      | inr r => exact ⟨r, rfl, h2⟩
theorem v_for {σ ρ : Type} {step : σ → Option (σ ⊕ ρ)} {s : σ} {Q : ρ → Prop} (Inv : Nat → σ → Prop) (j n : Nat) (hj : j ≤ n) (hn : n < 4294967296) (hi : Inv j s) (hs : ∀ j s, j < n → Inv j s → vW (step s) (v_st (Inv (j + 1)) Q)) (he : ∀ s, Inv n s → vW (step s) (v_st (fun _ => False) Q)) : vW (mm_loop step mm_fu s) Q := v_forn Inv n hs he (n - j) j s (by omega) hi mm_fu (by unfold mm_fu; omega)
/-! indices -/
theorem n_a1 {j : Nat} : Int32.ofNat j + 1 = Int32.ofNat (j + 1) := nJ_a j 1
theorem n_1 {a : Int32} (h : a.toInt + 1 ≤ 2147483647) : (a + 1).toInt = a.toInt + 1 := by
  have := iA_lo a
  rw [iA_add (by rw [i_1]; omega) (by rw [i_1]; omega), i_1]
theorem n_0 {a : Int32} (h : -2147483648 ≤ a.toInt - 1) : (a - 1).toInt = a.toInt - 1 := by
  have := iA_hi a
  rw [iA_sub (by rw [i_1]; omega) (by rw [i_1]; omega), i_1]
theorem n_d {j : Nat} (h : 0 < j) : Int32.ofNat j - 1 = Int32.ofNat (j - 1) := by
  obtain ⟨k, rfl⟩ : ∃ k, j = k + 1 := ⟨j - 1, by omega⟩
  rw [← n_a1]
  show Int32.ofNat k + 1 - 1 = Int32.ofNat k
  rw [Int32.add_sub_cancel]
theorem n_d2 {j : Nat} (h : 0 < j) : Int32.ofNat j + (-1) = Int32.ofNat (j - 1) := by
  rw [← n_d h, Int32.sub_eq_add_neg]
theorem v_in {j : Int32} {n : Nat} : mm_in j n ↔ 0 ≤ j.toInt ∧ j.toInt.toNat < n := by
  show (0 ≤ j ∧ j.toNatClampNeg < n) ↔ _
  rw [iA_le, i_0, iA_cl]
theorem n_of {a : Int32} (h : 0 ≤ a.toInt) : a = Int32.ofNat a.toInt.toNat := by
  have := iA_hi a
  rw [iA_eq, nJ_T (by omega)]
  omega
theorem n_mul {a b : Nat} : Int32.ofNat a * Int32.ofNat b = Int32.ofNat (a * b) := (Int32.ofNat_mul a b).symm
theorem n_eq {a b : Nat} (ha : a < 2147483648) (hb : b < 2147483648) : Int32.ofNat a = Int32.ofNat b ↔ a = b := by
  rw [iA_eq, nJ_T ha, nJ_T hb]
  omega
theorem n_m1 {a : Nat} (ha : a < 2147483648) : ¬ Int32.ofNat a = -1 := by
  rw [iA_eq, nJ_T ha, i_m1]
  omega
theorem n_ex {a : Int32} {n : Nat} (h0 : 0 ≤ a.toInt) (h1 : a.toInt ≤ (n : Int)) (hn : n < 2147483648) : ∃ k, k ≤ n ∧ a = Int32.ofNat k := ⟨a.toInt.toNat, by omega, n_of h0⟩
/-! memory: reads behind a write -/
theorem mw_s {m : mm_M} {g i k : Nat} {x : Int32} : mm_w m g i k x g i k = x := by
  rw [mw_get, if_pos ⟨rfl, rfl, rfl⟩]
theorem mw_g {m : mm_M} {g i k g' i' k' : Nat} {x : Int32} (h : g' ≠ g) : mm_w m g i k x g' i' k' = m g' i' k' := by
  rw [mw_get, if_neg (fun z => h z.1)]
theorem mw_i {m : mm_M} {g i k i' k' : Nat} {x : Int32} (h : i' ≠ i) : mm_w m g i k x g i' k' = m g i' k' := by
  rw [mw_get, if_neg (fun z => h z.2.1)]
theorem mw_k {m : mm_M} {g i k k' : Nat} {x : Int32} (h : k' ≠ k) : mm_w m g i k x g i k' = m g i k' := by
  rw [mw_get, if_neg (fun z => h z.2.2)]
/-! memory: places that may change -/
abbrev zT : Type := List (Nat × Option Nat × Option Nat)
def z_o (a : Option Nat) (b : Nat) : Bool := match a with
  | none => true
  | some x => Nat.beq x b
def z_in (L : zT) (g i k : Nat) : Bool := match L with
  | [] => false
  | e :: r => (Nat.beq e.1 g && (z_o e.2.1 i && z_o e.2.2 k)) || z_in r g i k
def z_oo (a b : Option Nat) : Bool := match a, b with
  | some x, some y => Nat.beq x y
  | _, _ => true
def z_os (a b : Option Nat) : Bool := match a, b with
  | _, none => true
  | some x, some y => Nat.beq x y
  | none, some _ => false
def z_dis (L1 L2 : zT) : Bool := L1.all fun a => L2.all fun b => !(Nat.beq a.1 b.1 && (z_oo a.2.1 b.2.1 && z_oo a.2.2 b.2.2))
def z_sub (L1 L2 : zT) : Bool := L1.all fun a => L2.any fun b => Nat.beq a.1 b.1 && (z_os a.2.1 b.2.1 && z_os a.2.2 b.2.2)
theorem z_in_ex {L : zT} {g i k : Nat} (h : z_in L g i k = true) : ∃ e ∈ L, e.1 = g ∧ z_o e.2.1 i = true ∧ z_o e.2.2 k = true := by
  induction L with
  | nil => cases h
  | cons e r ih =>
    unfold z_in at h
    rcases Bool.or_eq_true _ _ ▸ h with h | h
    · rw [Bool.and_eq_true, Bool.and_eq_true] at h
      exact ⟨e, List.mem_cons_self, Nat.eq_of_beq_eq_true h.1, h.2.1, h.2.2⟩
    · obtain ⟨e', h1, h2⟩ := ih h
      exact ⟨e', List.mem_cons_of_mem _ h1, h2⟩
theorem z_in_of {L : zT} {g i k : Nat} {e : Nat × Option Nat × Option Nat} (he : e ∈ L) (h : e.1 = g ∧ z_o e.2.1 i = true ∧ z_o e.2.2 k = true) : z_in L g i k = true := by
  induction L with
  | nil => cases he
  | cons e' r ih =>
    unfold z_in
    rcases List.mem_cons.mp he with rfl | he
    · rw [h.1, h.2.1, h.2.2, Nat.beq_refl]
      rfl
    · rw [ih he, Bool.or_true]
theorem z_oo_of {a b : Option Nat} {k : Nat} (h1 : z_o a k = true) (h2 : z_o b k = true) : z_oo a b = true := by
  cases a with
  | none => cases b <;> rfl
  | some x => cases b with
    | none => rfl
    | some y =>
      have e1 := Nat.eq_of_beq_eq_true h1
      have e2 := Nat.eq_of_beq_eq_true h2
      show Nat.beq x y = true
      rw [e1, e2]
      exact Nat.beq_refl k
theorem z_dis_of {L1 L2 : zT} (h : z_dis L1 L2 = true) {g i k : Nat} (h1 : z_in L1 g i k = true) : z_in L2 g i k = false := by
  cases h2 : z_in L2 g i k with
  | false => rfl
  | true =>
    exfalso
    obtain ⟨e, he, a1, a2, a3⟩ := z_in_ex h1
    obtain ⟨f, hf, b1, b2, b3⟩ := z_in_ex h2
    have := List.all_eq_true.mp (List.all_eq_true.mp h e he) f hf
    rw [a1, b1, Nat.beq_refl, z_oo_of a2 b2, z_oo_of a3 b3] at this
    cases this
theorem z_os_of {a b : Option Nat} {k : Nat} (h : z_os a b = true) (h1 : z_o a k = true) : z_o b k = true := by
  cases b with
  | none => rfl
  | some y => cases a with
    | none => cases h
    | some x =>
      have e1 := Nat.eq_of_beq_eq_true h1
      have e2 := Nat.eq_of_beq_eq_true h
      show Nat.beq y k = true
      rw [← e2, e1]
      exact Nat.beq_refl k
theorem z_sub_of {L1 L2 : zT} (h : z_sub L1 L2 = true) {g i k : Nat} (h1 : z_in L1 g i k = true) : z_in L2 g i k = true := by
  obtain ⟨e, he, a1, a2, a3⟩ := z_in_ex h1
  obtain ⟨f, hf, hb⟩ := List.any_eq_true.mp (List.all_eq_true.mp h e he)
  rw [Bool.and_eq_true, Bool.and_eq_true] at hb
  exact z_in_of hf ⟨(Nat.eq_of_beq_eq_true hb.1).symm.trans a1, z_os_of hb.2.1 a2, z_os_of hb.2.2 a3⟩
/-- nothing else has changed -/
abbrev fp (L : zT) (m m' : mm_M) : Prop := ∀ g i k, z_in L g i k = false → m' g i k = m g i k
theorem fp_rf {L : zT} {m : mm_M} : fp L m m := fun _ _ _ _ => rfl
theorem fp_tr {L : zT} {m m1 m2 : mm_M} (h1 : fp L m m1) (h2 : fp L m1 m2) : fp L m m2 := fun g i k h => (h2 g i k h).trans (h1 g i k h)
theorem fp_sb {L1 L2 : zT} {m m1 : mm_M} (hs : z_sub L1 L2 = true) (h1 : fp L1 m m1) : fp L2 m m1 := fun g i k h => h1 g i k (by
  cases h3 : z_in L1 g i k with
  | false => rfl
  | true =>
    rw [z_sub_of hs h3] at h
    cases h)
theorem fp_w {L : zT} {m m1 : mm_M} {g i k : Nat} {x : Int32} (h : z_in L g i k = true) (h1 : fp L m m1) : fp L m (mm_w m1 g i k x) := fun g' i' k' h' => by
  rw [mw_get, if_neg (fun z => by rw [z.1, z.2.1, z.2.2, h] at h'; cases h')]
  exact h1 g' i' k' h'
theorem fp_wa {L : zT} {m m1 : mm_M} {g i : Nat} {f : Nat → Int32} (h : ∀ k, z_in L g i k = true) (h1 : fp L m m1) : fp L m (mm_wa m1 g i f) := fun g' i' k' h' => by
  have : mm_wa m1 g i f g' i' = m1 g' i' := if_neg (fun z => by rw [z.1, z.2, h] at h'; cases h')
  rw [this]
  exact h1 g' i' k' h'
theorem fp_d {L R : zT} {m m1 : mm_M} (h : fp L m m1) (d : z_dis R L = true) : ∀ g i k, z_in R g i k = true → m1 g i k = m g i k := fun g i k hr => h g i k (z_dis_of d hr)
theorem mwa_s {m : mm_M} {g i k : Nat} {f : Nat → Int32} : mm_wa m g i f g i k = f k := by
  have : mm_wa m g i f g i = f := if_pos ⟨rfl, rfl⟩
  rw [this]
theorem mwa_g {m : mm_M} {g i g' i' k' : Nat} {f : Nat → Int32} (h : g' ≠ g) : mm_wa m g i f g' i' k' = m g' i' k' := by
  have : mm_wa m g i f g' i' = m g' i' := if_neg (fun z => h z.1)
  rw [this]
theorem mwa_i {m : mm_M} {g i i' k' : Nat} {f : Nat → Int32} (h : i' ≠ i) : mm_wa m g i f g i' k' = m g i' k' := by
  have : mm_wa m g i f g i' = m g i' := if_neg (fun z => h z.2)
  rw [this]
theorem n_sb {a b : Nat} (h : b ≤ a) : Int32.ofNat a - Int32.ofNat b = Int32.ofNat (a - b) := (Int32.ofNat_sub a b h).symm
theorem n_24 {a : Nat} : (24 : Int32) * Int32.ofNat a = Int32.ofNat (24 * a) := (Int32.ofNat_mul 24 a).symm
theorem n_ne {a b : Int32} (h : ¬ a.toInt = b.toInt) : ¬ a = b := fun e => h (by rw [e])
theorem v_no {α : Type} {Q : α → Prop} (h : vW (none : Option α) Q) : False := by
  obtain ⟨_, h1, _⟩ := h
  cases h1
theorem n_0N {j : Nat} (h : j < 2147483648) : (Int32.ofNat j - 1).toInt = (j : Int) - 1 := by
  rw [n_0 (by rw [nJ_T h]; omega), nJ_T h]
theorem n_o1 : Int32.ofNat 1 = 1 := by decide
theorem n_o0 : Int32.ofNat 0 = 0 := by decide
/-! tests that are decided -/
theorem v_tle {a b : Int} (h : a ≤ b) : (a ≤ b) = True := eq_true h
theorem v_fle {a b : Int} (h : b < a) : (a ≤ b) = False := eq_false (by omega)
theorem v_tlt {a b : Int} (h : a < b) : (a < b) = True := eq_true h
theorem v_flt {a b : Int} (h : b ≤ a) : (a < b) = False := eq_false (by omega)
theorem v_tln {a b : Nat} (h : a < b) : (a < b) = True := eq_true h
theorem v_fln {a b : Nat} (h : b ≤ a) : (a < b) = False := eq_false (by omega)
theorem v_ten {a b : Nat} (h : a = b) : (a = b) = True := eq_true h
theorem v_fen {a b : Nat} (h : ¬ a = b) : (a = b) = False := eq_false h
theorem v_feq {a b : Int32} (h : ¬ a = b) : (a = b) = False := eq_false h
theorem n_0L {j : Nat} {a : Int32} (h : j < 2147483648) (ha : a.toInt = (j : Int)) : a = Int32.ofNat j := by
  rw [iA_eq, nJ_T h, ha]
theorem v_fan {p q : Prop} (h : ¬ (p ∧ q)) : (p ∧ q) = False := eq_false h
/-! one step at a time -/
theorem v_ifp {α : Type} {c : Prop} [Decidable c] {X Y : Option α} {Q : α → Prop} (hc : c) (h : vW X Q) : vW (if c then X else Y) Q := by
  rw [if_pos hc]
  exact h
theorem v_ifn {α : Type} {c : Prop} [Decidable c] {X Y : Option α} {Q : α → Prop} (hc : ¬ c) (h : vW Y Q) : vW (if c then X else Y) Q := by
  rw [if_neg hc]
  exact h
theorem v_l {α β : Type} {a : α} {B : α → Option β} {Q : β → Prop} (h : vW (B a) Q) : vW (mm_let a B) Q := h
theorem v_b1e {α β : Type} {o : Option α} {a : α} {B : α → Option β} {Q : β → Prop} (ho : o = some a) (h : vW (B a) Q) : vW (mm_b1 o B) Q := by
  rw [ho]
  exact h
theorem v_b2e {α γ β : Type} {o : Option (α × γ)} {a : α} {b : γ} {B : α → γ → Option β} {Q : β → Prop} (ho : o = some (a, b)) (h : vW (B a b) Q) : vW (mm_b2 o B) Q := by
  rw [ho]
  exact h
theorem v_bxe {α β : Type} {o : Option (Nat ⊕ α)} {a : α} {B : α → Option (Nat ⊕ β)} {Q : Nat ⊕ β → Prop} (ho : o = some (.inr a)) (h : vW (B a) Q) : vW (mm_bx o B) Q := by
  rw [ho]
  exact h
theorem v_bxi {α β : Type} {o : Option (Nat ⊕ α)} {e : Nat} {B : α → Option (Nat ⊕ β)} {Q : Nat ⊕ β → Prop} (ho : o = some (.inl e)) (h : Q (.inl e)) : vW (mm_bx o B) Q := by
  rw [ho]
  exact ⟨_, rfl, h⟩
theorem n_p1 {a : Int32} (h : -2147483648 ≤ a.toInt - 1) : (a + (-1)).toInt = a.toInt - 1 := by
  have := iA_hi a
  rw [iA_add (by rw [i_m1]; omega) (by rw [i_m1]; omega), i_m1]
  omega
theorem n_k {a : Int32} {j : Nat} (h : a.toInt = (j : Int)) : a.toNatClampNeg = j := by
  rw [iA_cl, h]
  rfl
theorem v_il {σ ρ : Type} {P : σ → Prop} {Q : ρ → Prop} {s : σ} (h : P s) : vW (some (Sum.inl s : σ ⊕ ρ)) (v_st P Q) := ⟨_, rfl, h⟩
theorem v_ir {σ ρ : Type} {P : σ → Prop} {Q : ρ → Prop} {r : ρ} (h : Q r) : vW (some (Sum.inr r : σ ⊕ ρ)) (v_st P Q) := ⟨_, rfl, h⟩
theorem v_so {α : Type} {Q : α → Prop} {r : α} (h : Q r) : vW (some r) Q := ⟨_, rfl, h⟩
theorem v_lI {β : Type} {a : Int32} {B : Int32 → Option β} {Q : β → Prop} (h : ∀ w, w = a → vW (B w) Q) : vW (mm_let a B) Q := h a rfl
theorem v_l1 {β : Type} {a : Int32} {B : Int32 → Option β} {Q : β → Prop} (h : vW (B (a + 1)) Q) : vW (mm_let (a + 1) B) Q := h
theorem v_lM {β : Type} {a : mm_M} {B : mm_M → Option β} {Q : β → Prop} (h : vW (B a) Q) : vW (mm_let a B) Q := h
theorem v_lN {β : Type} {a : Nat} {B : Nat → Option β} {Q : β → Prop} (h : vW (B a) Q) : vW (mm_let a B) Q := h
theorem v_lO {α β : Type} {a : Option α} {B : Option α → Option β} {Q : β → Prop} (h : vW (B a) Q) : vW (mm_let a B) Q := h
theorem v_lF {α β γ : Type} {a : γ → α} {B : (γ → α) → Option β} {Q : β → Prop} (h : vW (B a) Q) : vW (mm_let a B) Q := h
theorem n_s1 {a : Int32} {k : Nat} (h : a.toInt = ((k + 1 : Nat) : Int)) : (a - 1).toInt = (k : Int) := by
  rw [n_0 (by omega)]
  omega
theorem n_s2 {a : Int32} {k : Nat} (h : a.toInt = ((k + 1 : Nat) : Int)) : (a + (-1)).toInt = (k : Int) := by
  rw [n_p1 (by omega)]
  omega
theorem n_s3 {a : Int32} {k : Nat} (h : a.toInt = (k : Int)) (hk : k < 2147483647) : (a + 1).toInt = ((k + 1 : Nat) : Int) := by
  rw [n_1 (by omega)]
  omega
