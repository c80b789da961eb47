/-! ways over the net: bits -/
def z_bt (a : Int32) (k : Nat) : Bool := a.toBitVec.getLsbD k
theorem z_bt_or {a b : Int32} {k : Nat} : z_bt (a ||| b) k = (z_bt a k || z_bt b k) := by
  unfold z_bt
  rw [Int32.toBitVec_or, BitVec.getLsbD_or]
theorem z_bt_and {a b : Int32} {k : Nat} : z_bt (a &&& b) k = (z_bt a k && z_bt b k) := by
  unfold z_bt
  rw [Int32.toBitVec_and, BitVec.getLsbD_and]
theorem z_bt_xor {a b : Int32} {k : Nat} : z_bt (a ^^^ b) k = (z_bt a k ^^ z_bt b k) := by
  unfold z_bt
  rw [Int32.toBitVec_xor, BitVec.getLsbD_xor]
theorem z_bt_ge {a : Int32} {k : Nat} (h : 32 ≤ k) : z_bt a k = false := BitVec.getLsbD_of_ge _ _ h
theorem z_bt_0 {k : Nat} : z_bt 0 k = false := BitVec.getLsbD_zero
theorem z_bt_sh : ∀ w : Fin 10, ∀ k : Fin 32, z_bt ((1 : Int32) <<< (Int32.ofNat w.val &&& 31)) k.val = decide (k.val = w.val) := by decide +kernel
theorem z_bt_s {w k : Nat} {v : Int32} (hv : v.toInt = (w : Int)) (hw : w < 10) : z_bt ((1 : Int32) <<< (v &&& 31)) k = decide (k = w) := by
  rw [n_0L (by omega) hv]
  by_cases hk : k < 32
  · exact z_bt_sh ⟨w, hw⟩ ⟨k, hk⟩
  · rw [z_bt_ge (by omega), decide_eq_false (by omega)]
theorem z_bt_m1 : ∀ k : Fin 32, z_bt (-1) k.val = true := by decide +kernel
theorem z_bt_n {w k : Nat} {a v : Int32} (hv : v.toInt = (w : Int)) (hw : w < 10) : z_bt (a &&& (((1 : Int32) <<< (v &&& 31)) ^^^ (-1))) k = (z_bt a k && !decide (k = w)) := by
  rw [z_bt_and, z_bt_xor, z_bt_s hv hw]
  by_cases hk : k < 32
  · rw [show z_bt (-1) k = true from z_bt_m1 ⟨k, hk⟩, Bool.xor_true]
  · rw [z_bt_ge (a := a) (by omega), Bool.false_and, Bool.false_and]
theorem z_s31 : ∀ w : Fin 10, (Int32.ofNat w.val &&& 31).toBitVec.smod 32 = BitVec.ofNat 32 w.val := by decide +kernel
theorem z_one : ∀ i : Fin 32, ¬ i.val = 0 → (1 : Int32).toBitVec.getLsbD i.val = false ∧ (0 : Int32).toBitVec.getLsbD i.val = false := by decide +kernel
theorem z_one0 : (1 : Int32).toBitVec.getLsbD 0 = true ∧ (0 : Int32).toBitVec.getLsbD 0 = false := by decide +kernel
theorem z_bt_t {w : Nat} {v a : Int32} (hv : v.toInt = (w : Int)) (hw : w < 10) : ((a >>> (v &&& 31)) &&& 1) = if z_bt a w = true then 1 else 0 := by
  rw [n_0L (by omega) hv]
  have e : (a >>> (Int32.ofNat w &&& 31)).toBitVec = a.toBitVec.sshiftRight w := by
    show a.toBitVec.sshiftRight' ((Int32.ofNat w &&& 31).toBitVec.smod 32) = _
    rw [z_s31 ⟨w, hw⟩]
    show a.toBitVec.sshiftRight (BitVec.ofNat 32 w).toNat = _
    rw [BitVec.toNat_ofNat, Nat.mod_eq_of_lt (by omega)]
  apply Int32.toBitVec_inj.mp
  apply BitVec.eq_of_getLsbD_eq
  intro i hi
  rw [Int32.toBitVec_and, BitVec.getLsbD_and, e]
  by_cases h0 : i = 0
  · subst h0
    have e0 : (a.toBitVec.sshiftRight w).getLsbD 0 = z_bt a w := by
      rw [BitVec.getLsbD_sshiftRight, if_pos (by omega)]
      rfl
    rw [e0]
    cases hb : z_bt a w
    · rw [Bool.false_and, if_neg (by decide)]
      exact z_one0.2.symm
    · rw [Bool.true_and, if_pos rfl]
  · have e1 := z_one ⟨i, hi⟩ h0
    rw [e1.1, Bool.and_false]
    by_cases hb : z_bt a w = true
    · rw [if_pos hb]
      exact e1.1.symm
    · rw [if_neg hb]
      exact e1.2.symm
theorem z_bt_t1 {w : Nat} {v a : Int32} (hv : v.toInt = (w : Int)) (hw : w < 10) (h : z_bt a w = true) : ((a >>> (v &&& 31)) &&& 1) = 1 := by rw [z_bt_t hv hw, if_pos h]
theorem z_bt_t0 {w : Nat} {v a : Int32} (hv : v.toInt = (w : Int)) (hw : w < 10) (h : z_bt a w = false) : ((a >>> (v &&& 31)) &&& 1) = 0 := by rw [z_bt_t hv hw, if_neg (by rw [h]; decide)]
theorem z_and0 {x y : Int32} : x &&& y = 0 ↔ ∀ k, ¬ (z_bt x k = true ∧ z_bt y k = true) := by
  constructor
  · intro h k hk
    have := z_bt_and (a := x) (b := y) (k := k)
    rw [h, z_bt_0, hk.1, hk.2] at this
    cases this
  · intro h
    apply Int32.toBitVec_inj.mp
    apply BitVec.eq_of_getLsbD_eq
    intro i hi
    rw [Int32.toBitVec_and, BitVec.getLsbD_and]
    have h0 : (0 : Int32).toBitVec.getLsbD i = false := z_bt_0
    rw [h0]
    have := h i
    unfold z_bt at this
    cases h1 : x.toBitVec.getLsbD i
    · rfl
    · cases h2 : y.toBitVec.getLsbD i
      · rfl
      · exact absurd ⟨h1, h2⟩ this
/-! ways over the net: counting -/
def z_ct (f : Nat → Bool) : Nat → Nat
  | 0 => 0
  | n + 1 => z_ct f n + (if f n = true then 1 else 0)
theorem z_ct_le (f : Nat → Bool) : ∀ n, z_ct f n ≤ n
  | 0 => Nat.le_refl _
  | n + 1 => by
    have := z_ct_le f n
    show z_ct f n + _ ≤ _
    split <;> omega
theorem z_ct_pos {f : Nat → Bool} {w : Nat} (h : f w = true) : ∀ n, w < n → 1 ≤ z_ct f n
  | 0, hw => absurd hw (Nat.not_lt_zero w)
  | n + 1, hw => by
    show 1 ≤ z_ct f n + _
    by_cases e : w = n
    · subst e
      rw [if_pos h]
      omega
    · have := z_ct_pos h n (by omega)
      omega
theorem z_ct_no {f : Nat → Bool} : ∀ n, z_ct f n = 0 → ∀ i, i < n → f i = false
  | 0, _, i, hi => absurd hi (Nat.not_lt_zero i)
  | n + 1, h, i, hi => by
    have h' : z_ct f n + (if f n = true then 1 else 0) = 0 := h
    by_cases e : f n = true
    · rw [if_pos e] at h'
      omega
    · by_cases ei : i = n
      · subst ei
        cases hf : f i
        · rfl
        · exact absurd hf e
      · exact z_ct_no n (by omega) i (by omega)
theorem z_cnt {e b r : Nat → Bool} : ∀ n, (∀ x, x < n → b x = true → e x = true) → (∀ x, x < n → r x = true → e x = true) → (∀ x, x < n → b x = true → r x = false) → z_ct b n + z_ct r n ≤ z_ct e n
  | 0, _, _, _ => Nat.le_refl _
  | n + 1, h1, h2, h3 => by
    have ih := z_cnt (e := e) (b := b) (r := r) n (fun x hx => h1 x (by omega)) (fun x hx => h2 x (by omega)) (fun x hx => h3 x (by omega))
    show z_ct b n + (if b n = true then 1 else 0) + (z_ct r n + (if r n = true then 1 else 0)) ≤ z_ct e n + (if e n = true then 1 else 0)
    by_cases hb : b n = true
    · have hr := h3 n (by omega) hb
      rw [if_pos hb, if_pos (h1 n (by omega) hb), if_neg (show ¬ r n = true by rw [hr]; decide)]
      omega
    · by_cases hr : r n = true
      · rw [if_neg hb, if_pos hr, if_pos (h2 n (by omega) hr)]
        omega
      · rw [if_neg hb, if_neg hr]
        split <;> omega
def z_g (e : Nat) : Nat := [1, 1, 2, 3, 4, 6, 9, 12, 18, 27, 36].getD e 36
theorem z_g_m : ∀ a b : Fin 11, a.val ≤ b.val → z_g a.val ≤ z_g b.val := by decide +kernel
theorem z_g_k : ∀ e k : Fin 11, k.val ≤ e.val → 1 ≤ k.val → k.val * z_g (e.val - k.val) ≤ z_g e.val := by decide +kernel
theorem z_g_1 : ∀ e : Fin 11, 1 ≤ z_g e.val := by decide +kernel
theorem z_g_36 : ∀ e : Fin 11, z_g e.val ≤ 36 := by decide +kernel
/-! ways over the net: the list -/
theorem z_apx {p : List Nat} {x y k : Nat} (h : (p ++ [x])[k]? = some y) : (k < p.length ∧ p[k]? = some y) ∨ (k = p.length ∧ y = x) := by
  by_cases hk : k < p.length
  · rw [List.getElem?_append_left hk] at h
    exact Or.inl ⟨hk, h⟩
  · rw [List.getElem?_append_right (by omega)] at h
    by_cases e : k = p.length
    · rw [e, Nat.sub_self] at h
      have h2 : some x = some y := h
      cases h2
      exact Or.inr ⟨e, rfl⟩
    · obtain ⟨j, hj⟩ : ∃ j, k - p.length = j + 1 := ⟨k - p.length - 1, by omega⟩
      rw [hj] at h
      cases h
theorem z_apl {p : List Nat} {x : Nat} : (p ++ [x])[p.length]? = some x := by
  rw [List.getElem?_append_right (Nat.le_refl _), Nat.sub_self]
  rfl
theorem z_fl {F : Nat → List (List Nat)} {j : Nat} : (List.range (j + 1)).flatMap F = (List.range j).flatMap F ++ F j := by
  rw [List.range_succ, List.flatMap_append]
  show _ ++ (F j ++ []) = _
  rw [List.append_nil]
theorem z_pfx {F : Nat → List (List Nat)} {j : Nat} : ∀ n, j ≤ n → ((List.range j).flatMap F).length ≤ ((List.range n).flatMap F).length
  | 0, h => by
    obtain rfl : j = 0 := by omega
    exact Nat.le_refl _
  | n + 1, h => by
    by_cases e : j = n + 1
    · rw [e]
      exact Nat.le_refl _
    · have := z_pfx (F := F) n (show j ≤ n by omega)
      rw [z_fl, List.length_append]
      omega
theorem z_fm {F : Nat → List (List Nat)} {b : Nat → Bool} {B : Nat} : ∀ n, (∀ i, i < n → b i = true → (F i).length ≤ B) → (∀ i, i < n → b i = false → F i = []) → ((List.range n).flatMap F).length ≤ z_ct b n * B
  | 0, _, _ => Nat.zero_le _
  | n + 1, h1, h2 => by
    have ih := z_fm (F := F) (b := b) (B := B) n (fun i hi => h1 i (by omega)) (fun i hi => h2 i (by omega))
    rw [z_fl, List.length_append]
    show _ ≤ (z_ct b n + (if b n = true then 1 else 0)) * B
    rw [Nat.add_mul]
    by_cases hb : b n = true
    · have := h1 n (by omega) hb
      rw [if_pos hb]
      omega
    · have hf : b n = false := by
        cases hx : b n
        · rfl
        · exact absurd hx hb
      rw [h2 n (by omega) hf, if_neg hb]
      show _ + 0 ≤ _
      omega
/-- the other end of a cable -/
def z_oth (P Q : Nat → Nat) (i u : Nat) : Option Nat := if P i = u then some (Q i) else if Q i = u then some (P i) else none
/-- where a cable leads on to -/
def z_br (P Q : Nat → Nat) (bar : Nat → Bool) (S : List Nat) (u i : Nat) : Option Nat := if bar i = true then none else match z_oth P Q i u with
  | none => none
  | some w => if w ∈ S then none else some w
def z_on (o : Option Nat) (f : Nat → List (List Nat)) : List (List Nat) := match o with
  | none => []
  | some w => f w
/-- the ways from u to d that stand on a way p over the nodes S -/
def z_ws (P Q : Nat → Nat) (C : Nat) (bar : Nat → Bool) (d : Nat) : Nat → List Nat → List Nat → Nat → List (List Nat)
  | 0, _, _, _ => []
  | n + 1, S, p, u => if u = d then [p] else (List.range C).flatMap fun i => z_on (z_br P Q bar S u i) (fun w => z_ws P Q C bar d n (w :: S) (p ++ [i]) w)
theorem z_ws_d {P Q : Nat → Nat} {C : Nat} {bar : Nat → Bool} {d n : Nat} {S p : List Nat} {u : Nat} (h : u = d) : z_ws P Q C bar d (n + 1) S p u = [p] := if_pos h
theorem z_ws_n {P Q : Nat → Nat} {C : Nat} {bar : Nat → Bool} {d n : Nat} {S p : List Nat} {u : Nat} (h : ¬ u = d) : z_ws P Q C bar d (n + 1) S p u = (List.range C).flatMap fun i => z_on (z_br P Q bar S u i) (fun w => z_ws P Q C bar d n (w :: S) (p ++ [i]) w) := if_neg h
theorem z_br_b {P Q : Nat → Nat} {bar : Nat → Bool} {S : List Nat} {u i : Nat} (h : bar i = true) : z_br P Q bar S u i = none := if_pos h
theorem z_br_n {P Q : Nat → Nat} {bar : Nat → Bool} {S : List Nat} {u i : Nat} (h : z_oth P Q i u = none) : z_br P Q bar S u i = none := by
  unfold z_br
  split
  · rfl
  · rw [h]
theorem z_br_s {P Q : Nat → Nat} {bar : Nat → Bool} {S : List Nat} {u i w : Nat} (h : z_oth P Q i u = some w) (hw : w ∈ S) : z_br P Q bar S u i = none := by
  unfold z_br
  split
  · rfl
  · rw [h]
    exact if_pos hw
theorem z_br_w {P Q : Nat → Nat} {bar : Nat → Bool} {S : List Nat} {u i w : Nat} (hb : bar i = false) (h : z_oth P Q i u = some w) (hw : ¬ w ∈ S) : z_br P Q bar S u i = some w := by
  unfold z_br
  rw [if_neg (by rw [hb]; decide), h]
  exact if_neg hw
theorem z_oth_e {P Q : Nat → Nat} {i u w : Nat} (h : z_oth P Q i u = some w) : (P i = u ∧ Q i = w) ∨ (Q i = u ∧ P i = w) := by
  unfold z_oth at h
  by_cases h1 : P i = u
  · rw [if_pos h1] at h
    cases h
    exact Or.inl ⟨h1, rfl⟩
  · rw [if_neg h1] at h
    by_cases h2 : Q i = u
    · rw [if_pos h2] at h
      cases h
      exact Or.inr ⟨h2, rfl⟩
    · rw [if_neg h2] at h
      cases h
theorem z_br_e {P Q : Nat → Nat} {bar : Nat → Bool} {S : List Nat} {u i w : Nat} (h : z_br P Q bar S u i = some w) : bar i = false ∧ ¬ w ∈ S ∧ ((P i = u ∧ Q i = w) ∨ (Q i = u ∧ P i = w)) := by
  by_cases hb : bar i = true
  · rw [z_br_b hb] at h
    cases h
  · have hf : bar i = false := by
      cases hx : bar i
      · rfl
      · exact absurd hx hb
    cases ho : z_oth P Q i u with
    | none =>
      rw [z_br_n ho] at h
      cases h
    | some x =>
      by_cases hx : x ∈ S
      · rw [z_br_s ho hx] at h
        cases h
      · rw [z_br_w hf ho hx] at h
        cases h
        exact ⟨hf, hx, z_oth_e ho⟩
/-- how many nodes aren't on the way -/
def z_uv (S : List Nat) : Nat := z_ct (fun x => decide (¬ x ∈ S)) 8
theorem z_uv_c {S : List Nat} {w : Nat} (hw : w < 8) (h : ¬ w ∈ S) : z_uv (w :: S) + 1 ≤ z_uv S := by
  have h1 := z_cnt (e := fun x => decide (¬ x ∈ S)) (b := fun x => decide (x = w)) (r := fun x => decide (¬ x ∈ w :: S)) 8 (fun x _ hx => by
    have e := of_decide_eq_true hx
    rw [e]
    exact decide_eq_true h) (fun x _ hx => decide_eq_true (fun hs => (of_decide_eq_true hx) (List.mem_cons_of_mem _ hs))) (fun x _ hx => by
    have e := of_decide_eq_true hx
    rw [e]
    exact decide_eq_false (fun z => z List.mem_cons_self))
  have h2 := z_ct_pos (f := fun x => decide (x = w)) (w := w) (decide_eq_true rfl) 8 hw
  unfold z_uv
  omega
theorem z_uv_1 {u : Nat} (hu : u < 8) : z_uv [u] ≤ 7 := by
  have h := z_uv_c (S := []) hu (fun h => by cases h)
  have : z_uv [] = 8 := by decide +kernel
  omega
/-- the cables that may be walked from u on -/
def z_us (P Q : Nat → Nat) (bar : Nat → Bool) (S : List Nat) (u : Nat) (i : Nat) : Bool := decide (bar i = false ∧ (P i = u ∨ ¬ P i ∈ S) ∧ (Q i = u ∨ ¬ Q i ∈ S))
def z_bb (P Q : Nat → Nat) (bar : Nat → Bool) (S : List Nat) (u i : Nat) : Bool := (z_br P Q bar S u i).isSome
theorem z_ws_l {P Q : Nat → Nat} {C : Nat} {bar : Nat → Bool} {d : Nat} (hC : C ≤ 10) : ∀ (n : Nat) (S p : List Nat) (u : Nat), u ∈ S → (z_ws P Q C bar d n S p u).length ≤ z_g (z_ct (z_us P Q bar S u) C)
  | 0, S, p, u, _ => Nat.zero_le _
  | n + 1, S, p, u, hu => by
    have hE := z_ct_le (z_us P Q bar S u) C
    by_cases hud : u = d
    · rw [z_ws_d hud]
      exact z_g_1 ⟨_, by omega⟩
    · rw [z_ws_n hud]
      have hch : ∀ w, ¬ w ∈ S → z_ct (z_bb P Q bar S u) C + z_ct (z_us P Q bar (w :: S) w) C ≤ z_ct (z_us P Q bar S u) C := fun w hw => by
        refine z_cnt C (fun i _ hb => ?_) (fun i _ hr => ?_) (fun i _ hb => ?_)
        · obtain ⟨x, hx⟩ := Option.isSome_iff_exists.mp hb
          obtain ⟨e1, e2, e3⟩ := z_br_e hx
          refine decide_eq_true ⟨e1, ?_⟩
          rcases e3 with ⟨e3, e4⟩ | ⟨e3, e4⟩
          · exact ⟨Or.inl e3, Or.inr (by rw [e4]; exact e2)⟩
          · exact ⟨Or.inr (by rw [e4]; exact e2), Or.inl e3⟩
        · obtain ⟨e1, e2, e3⟩ := of_decide_eq_true hr
          refine decide_eq_true ⟨e1, Or.inr ?_, Or.inr ?_⟩
          · rcases e2 with e2 | e2
            · rw [e2]
              exact hw
            · exact fun z => e2 (List.mem_cons_of_mem _ z)
          · rcases e3 with e3 | e3
            · rw [e3]
              exact hw
            · exact fun z => e3 (List.mem_cons_of_mem _ z)
        · obtain ⟨x, hx⟩ := Option.isSome_iff_exists.mp hb
          obtain ⟨e1, e2, e3⟩ := z_br_e hx
          refine decide_eq_false (fun z => ?_)
          obtain ⟨_, z2, z3⟩ := z
          have hwu : ¬ u = w := fun e => hw (by rw [← e]; exact hu)
          rcases e3 with ⟨e3, e4⟩ | ⟨e3, e4⟩
          · rw [e3] at z2
            rcases z2 with z2 | z2
            · exact hwu z2
            · exact z2 (List.mem_cons_of_mem _ hu)
          · rw [e3] at z3
            rcases z3 with z3 | z3
            · exact hwu z3
            · exact z3 (List.mem_cons_of_mem _ hu)
      have hb10 := z_ct_le (z_bb P Q bar S u) C
      have hfm := z_fm (F := fun i => z_on (z_br P Q bar S u i) (fun w => z_ws P Q C bar d n (w :: S) (p ++ [i]) w)) (b := z_bb P Q bar S u) (B := z_g (z_ct (z_us P Q bar S u) C - z_ct (z_bb P Q bar S u) C)) C (fun i hi hb => by
        obtain ⟨x, hx⟩ := Option.isSome_iff_exists.mp hb
        have e2 := (z_br_e hx).2.1
        have h1 := z_ws_l (P := P) (Q := Q) (C := C) (bar := bar) (d := d) hC n (x :: S) (p ++ [i]) x List.mem_cons_self
        have h2 := hch x e2
        have h3 := z_g_m ⟨z_ct (z_us P Q bar (x :: S) x) C, by omega⟩ ⟨z_ct (z_us P Q bar S u) C - z_ct (z_bb P Q bar S u) C, by omega⟩ (by dsimp only; omega)
        dsimp only at h3 ⊢
        rw [hx]
        exact Nat.le_trans h1 h3) (fun i hi hb => by
        have : z_br P Q bar S u i = none := by
          cases hx : z_br P Q bar S u i with
          | none => rfl
          | some x =>
            have hb' : (z_br P Q bar S u i).isSome = false := hb
            rw [hx] at hb'
            cases hb'
        rw [this]
        rfl)
      by_cases hk : z_ct (z_bb P Q bar S u) C = 0
      · rw [hk, Nat.zero_mul] at hfm
        exact Nat.le_trans hfm (Nat.zero_le _)
      · have hle : z_ct (z_bb P Q bar S u) C ≤ z_ct (z_us P Q bar S u) C := by
          by_cases hex : ∃ w, ¬ w ∈ S
          · obtain ⟨w, hw⟩ := hex
            have := hch w hw
            omega
          · exfalso
            apply hk
            have hall : ∀ i, i < C → z_bb P Q bar S u i = false := fun i hi => by
              cases hbi : z_bb P Q bar S u i
              · rfl
              · obtain ⟨x, hx⟩ := Option.isSome_iff_exists.mp hbi
                exact absurd ⟨x, (z_br_e hx).2.1⟩ hex
            cases hz : z_ct (z_bb P Q bar S u) C with
            | zero => rfl
            | succ k =>
              exfalso
              have : ∀ n, n ≤ C → z_ct (z_bb P Q bar S u) n = 0 := fun n => by
                induction n with
                | zero => exact fun _ => rfl
                | succ j ih =>
                  intro hj
                  show z_ct (z_bb P Q bar S u) j + _ = 0
                  rw [ih (by omega), if_neg (by rw [hall j (by omega)]; decide)]
              have := this C (Nat.le_refl _)
              omega
        have h4 := z_g_k ⟨z_ct (z_us P Q bar S u) C, by omega⟩ ⟨z_ct (z_bb P Q bar S u) C, by omega⟩ hle (by dsimp only; omega)
        exact Nat.le_trans hfm h4
theorem z_ws_36 {P Q : Nat → Nat} {C : Nat} {bar : Nat → Bool} {d n : Nat} {S p : List Nat} {u : Nat} (hC : C ≤ 10) (hu : u ∈ S) : (z_ws P Q C bar d n S p u).length ≤ 36 := by
  have h1 := z_ws_l (P := P) (Q := Q) (bar := bar) (d := d) hC n S p u hu
  have h2 := z_ct_le (z_us P Q bar S u) C
  exact Nat.le_trans h1 (z_g_36 ⟨_, by omega⟩)
/-- what a way costs -/
def z_co (W : Nat → Nat) : List Nat → Nat
  | [] => 0
  | i :: r => W i + z_co W r
theorem z_co_a {W : Nat → Nat} {x : Nat} : ∀ p : List Nat, z_co W (p ++ [x]) = z_co W p + W x
  | [] => by
    show W x + 0 = 0 + W x
    omega
  | i :: r => by
    show W i + z_co W (r ++ [x]) = W i + z_co W r + W x
    rw [z_co_a r]
    omega
theorem z_co_b {W : Nat → Nat} (hW : ∀ i, W i ≤ 2400000) : ∀ p : List Nat, z_co W p ≤ 2400000 * p.length
  | [] => Nat.le_refl _
  | i :: r => by
    have h1 := z_co_b hW r
    have h2 := hW i
    show W i + z_co W r ≤ 2400000 * (r.length + 1)
    omega
def z_lt2 (W : Nat → Nat) (p q : List Nat) : Bool := decide (z_co W p < z_co W q ∨ (z_co W p = z_co W q ∧ p.length < q.length))
def z_up (W : Nat → Nat) (o : Option (List Nat)) (p : List Nat) : Option (List Nat) := match o with
  | none => some p
  | some q => if z_lt2 W p q = true then some p else some q
/-- the least of ways, the first of like ones -/
def z_bst (W : Nat → Nat) (L : List (List Nat)) (o : Option (List Nat)) : Option (List Nat) := L.foldl (z_up W) o
theorem z_bst_a {W : Nat → Nat} {L M : List (List Nat)} {o : Option (List Nat)} : z_bst W (L ++ M) o = z_bst W M (z_bst W L o) := List.foldl_append
