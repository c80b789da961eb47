/-! expressions: pure -/
abbrev zCd : Type := List (Int32 × Int32)
abbrev zRs : Type := zEr ⊕ (zCd × Nat)
def z_tkC (B : Nat → Nat) (n p : Nat) : Int32 × Int32 := (Int32.ofNat (z_kd B n p), Int32.ofNat (z_nm B n p))
def z_cl2 (B : Nat → Nat) (n : Nat) (o : zRs) : zRs := match o with
  | .inl e => .inl e
  | .inr x => if z_kd B n x.2 = 41 then .inr (x.1, z_te B n x.2) else .inl (1, z_ts B n x.2)
def z_pt (B : Nat → Nat) (n : Nat) (E : Nat → zRs) (p : Nat) : zRs := if z_kd B n p = 40 then z_cl2 B n (E (z_te B n p)) else if z_kd B n p = 2 then (if z_nm B n p ≤ 99999 then .inr ([z_tkC B n p], z_te B n p) else .inl (2, z_ts B n p)) else if 264 ≤ z_kd B n p then .inr ([z_tkC B n p], z_te B n p) else if z_kd B n p = 3 ∨ 256 ≤ z_kd B n p then .inl (3, z_ts B n p) else .inl (1, z_ts B n p)
/-- operators of a level -/
def z_opl (l k : Nat) : Bool := decide ((l = 0 ∧ k = 261) ∨ (l = 1 ∧ k = 262) ∨ (l = 3 ∧ (k = 60 ∨ k = 61)) ∨ (l = 4 ∧ (k = 43 ∨ k = 45)) ∨ (l = 5 ∧ (k = 42 ∨ k = 47)))
def z_lp (B : Nat → Nat) (n l : Nat) (f : Nat → zRs) : Nat → zCd → Nat → zRs
  | 0, cd, p => .inr (cd, p)
  | k + 1, cd, p => if z_opl l (z_kd B n p) = true then (match f (z_te B n p) with
    | .inl e => .inl e
    | .inr x => z_lp B n l f k (cd ++ x.1 ++ [(Int32.ofNat (z_kd B n p), 0)]) x.2) else .inr (cd, p)
def z_cn (B : Nat → Nat) (n l : Nat) (f : Nat → zRs) (k p : Nat) : zRs := match f p with
  | .inl e => .inl e
  | .inr x => z_lp B n l f k x.1 x.2
def z_nn (B : Nat → Nat) (n : Nat) : Nat → Nat → Nat × Nat
  | 0, p => (0, p)
  | k + 1, p => if z_kd B n p = 263 then ((z_nn B n k (z_te B n p)).1 + 1, (z_nn B n k (z_te B n p)).2) else (0, p)
def z_nx (c : Nat) (o : zRs) : zRs := match o with
  | .inl e => .inl e
  | .inr x => .inr (x.1 ++ List.replicate c (263, 0), x.2)
def z_nts (B : Nat → Nat) (n : Nat) (f : Nat → zRs) (p : Nat) : zRs := if z_kd B n (z_nn B n 6 p).2 = 263 then .inl (2, z_ts B n (z_nn B n 6 p).2) else z_nx (z_nn B n 6 p).1 (f (z_nn B n 6 p).2)
def z_l5 (B : Nat → Nat) (n : Nat) (E : Nat → zRs) : Nat → zRs := z_cn B n 5 (z_pt B n E) 400
def z_l4 (B : Nat → Nat) (n : Nat) (E : Nat → zRs) : Nat → zRs := z_cn B n 4 (z_l5 B n E) 400
def z_l3 (B : Nat → Nat) (n : Nat) (E : Nat → zRs) : Nat → zRs := z_cn B n 3 (z_l4 B n E) 1
def z_l2 (B : Nat → Nat) (n : Nat) (E : Nat → zRs) : Nat → zRs := z_nts B n (z_l3 B n E)
def z_l1 (B : Nat → Nat) (n : Nat) (E : Nat → zRs) : Nat → zRs := z_cn B n 1 (z_l2 B n E) 400
def z_l0 (B : Nat → Nat) (n : Nat) (E : Nat → zRs) : Nat → zRs := z_cn B n 0 (z_l1 B n E) 400
/-- an expression, so many brackets still free -/
def z_exx (B : Nat → Nat) (n : Nat) : Nat → Nat → zRs
  | 0, p => .inl (if z_kd B n p = 2 ∨ z_kd B n p = 40 ∨ z_kd B n p = 3 ∨ 256 ≤ z_kd B n p then 2 else 1, z_ts B n p)
  | k + 1, p => z_l0 B n (z_exx B n k) p
theorem z_lp_n {B : Nat → Nat} {n l k p : Nat} {f : Nat → zRs} {cd : zCd} (h : ¬ z_opl l (z_kd B n p) = true) : z_lp B n l f k cd p = .inr (cd, p) := by
  cases k with
  | zero => rfl
  | succ k => exact if_neg h
theorem z_lp_e {B : Nat → Nat} {n l k p : Nat} {f : Nat → zRs} {cd : zCd} {e : zEr} (h : z_opl l (z_kd B n p) = true) (hf : f (z_te B n p) = .inl e) : z_lp B n l f (k + 1) cd p = .inl e := by
  show (if z_opl l (z_kd B n p) = true then (match f (z_te B n p) with
    | .inl e => (Sum.inl e : zRs)
    | .inr x => z_lp B n l f k (cd ++ x.1 ++ [(Int32.ofNat (z_kd B n p), 0)]) x.2) else Sum.inr (cd, p)) = _
  rw [if_pos h, hf]
theorem z_lp_s {B : Nat → Nat} {n l k p : Nat} {f : Nat → zRs} {cd : zCd} {x : zCd × Nat} (h : z_opl l (z_kd B n p) = true) (hf : f (z_te B n p) = .inr x) : z_lp B n l f (k + 1) cd p = z_lp B n l f k (cd ++ x.1 ++ [(Int32.ofNat (z_kd B n p), 0)]) x.2 := by
  show (if z_opl l (z_kd B n p) = true then (match f (z_te B n p) with
    | .inl e => (Sum.inl e : zRs)
    | .inr x => z_lp B n l f k (cd ++ x.1 ++ [(Int32.ofNat (z_kd B n p), 0)]) x.2) else Sum.inr (cd, p)) = _
  rw [if_pos h, hf]
theorem z_cn_e {B : Nat → Nat} {n l k p : Nat} {f : Nat → zRs} {e : zEr} (hf : f p = .inl e) : z_cn B n l f k p = .inl e := by
  unfold z_cn
  rw [hf]
theorem z_cn_s {B : Nat → Nat} {n l k p : Nat} {f : Nat → zRs} {x : zCd × Nat} (hf : f p = .inr x) : z_cn B n l f k p = z_lp B n l f k x.1 x.2 := by
  unfold z_cn
  rw [hf]
theorem z_cn_n {B : Nat → Nat} {n l k p : Nat} {f : Nat → zRs} {e : zEr} (hf : f p = .inl e) : z_cn B n l f k p = .inl e := z_cn_e hf
/-- what comes out of a reading: how far, how long, how many are held -/
def z_gr (n b : Nat) (p : Nat) (o : zRs) : Prop := match o with
  | .inl e => 1 ≤ e.1 ∧ e.1 ≤ 3
  | .inr x => p < x.2 ∧ x.2 ≤ n ∧ x.1.length + p ≤ x.2 ∧ ∀ h, h ≤ b → z_dep x.1 h = some (h + 1)
theorem z_dep_u {e : Int32 × Int32} {r : zCd} {h : Nat} : z_dep (e :: r) h = if e.1 = 2 ∨ (264 ≤ e.1.toInt ∧ e.1.toInt ≤ 268) then (if h < 40 then z_dep r (h + 1) else none) else if e.1 = 263 then (if 0 < h then z_dep r h else none) else if e.1 = 43 ∨ e.1 = 45 ∨ e.1 = 42 ∨ e.1 = 47 ∨ e.1 = 60 ∨ e.1 = 61 ∨ e.1 = 262 ∨ e.1 = 261 then (if 1 < h then z_dep r (h - 1) else none) else none := rfl
theorem z_dep_a : ∀ (a b : zCd) (h k : Nat), z_dep a h = some k → z_dep (a ++ b) h = z_dep b k
  | [], b, h, k, hk => by
    have : some h = some k := hk
    rw [Option.some.inj this]
    rfl
  | e :: r, b, h, k, hk => by
    show z_dep (e :: (r ++ b)) h = _
    rw [z_dep_u] at hk ⊢
    by_cases h1 : e.1 = 2 ∨ (264 ≤ e.1.toInt ∧ e.1.toInt ≤ 268)
    · rw [if_pos h1] at hk ⊢
      by_cases h2 : h < 40
      · rw [if_pos h2] at hk ⊢
        exact z_dep_a r b (h + 1) k hk
      · rw [if_neg h2] at hk
        cases hk
    rw [if_neg h1] at hk ⊢
    by_cases h2 : e.1 = 263
    · rw [if_pos h2] at hk ⊢
      by_cases h3 : 0 < h
      · rw [if_pos h3] at hk ⊢
        exact z_dep_a r b h k hk
      · rw [if_neg h3] at hk
        cases hk
    rw [if_neg h2] at hk ⊢
    by_cases h3 : e.1 = 43 ∨ e.1 = 45 ∨ e.1 = 42 ∨ e.1 = 47 ∨ e.1 = 60 ∨ e.1 = 61 ∨ e.1 = 262 ∨ e.1 = 261
    · rw [if_pos h3] at hk ⊢
      by_cases h4 : 1 < h
      · rw [if_pos h4] at hk ⊢
        exact z_dep_a r b (h - 1) k hk
      · rw [if_neg h4] at hk
        cases hk
    · rw [if_neg h3] at hk
      cases hk
theorem z_dep_op {l k h : Nat} (ho : z_opl l k = true) : z_dep [(Int32.ofNat k, 0)] (h + 1 + 1) = some (h + 1) := by
  have hk := of_decide_eq_true ho
  have e : ∀ x : Nat, x < 300 → (Int32.ofNat x).toInt = (x : Int) := fun x hx => nJ_T (by omega)
  have hkl : k < 300 := by omega
  unfold z_dep
  rw [if_neg (fun z => by
    rcases z with z | z
    · have := iA_eq.mp z
      rw [e k hkl, show (2 : Int32).toInt = 2 by decide] at this
      omega
    · have h1 : 264 ≤ (Int32.ofNat k).toInt := z.1
      rw [e k hkl] at h1
      omega), if_neg (fun z => by
      have h1 : Int32.ofNat k = 263 := z
      have := iA_eq.mp h1
      rw [e k hkl, show (263 : Int32).toInt = 263 by decide] at this
      omega)]
  rw [if_pos (show (((Int32.ofNat k, 0) : Int32 × Int32).1 = 43 ∨ ((Int32.ofNat k, 0) : Int32 × Int32).1 = 45 ∨ ((Int32.ofNat k, 0) : Int32 × Int32).1 = 42 ∨ ((Int32.ofNat k, 0) : Int32 × Int32).1 = 47 ∨ ((Int32.ofNat k, 0) : Int32 × Int32).1 = 60 ∨ ((Int32.ofNat k, 0) : Int32 × Int32).1 = 61 ∨ ((Int32.ofNat k, 0) : Int32 × Int32).1 = 262 ∨ ((Int32.ofNat k, 0) : Int32 × Int32).1 = 261) from by
    rcases (by omega : k = 43 ∨ k = 45 ∨ k = 42 ∨ k = 47 ∨ k = 60 ∨ k = 61 ∨ k = 262 ∨ k = 261) with rfl | rfl | rfl | rfl | rfl | rfl | rfl | rfl
    · exact Or.inl rfl
    · exact Or.inr (Or.inl rfl)
    · exact Or.inr (Or.inr (Or.inl rfl))
    · exact Or.inr (Or.inr (Or.inr (Or.inl rfl)))
    · exact Or.inr (Or.inr (Or.inr (Or.inr (Or.inl rfl))))
    · exact Or.inr (Or.inr (Or.inr (Or.inr (Or.inr (Or.inl rfl)))))
    · exact Or.inr (Or.inr (Or.inr (Or.inr (Or.inr (Or.inr (Or.inl rfl))))))
    · exact Or.inr (Or.inr (Or.inr (Or.inr (Or.inr (Or.inr (Or.inr rfl))))))), if_pos (by omega)]
  rfl
theorem z_dep_nt : ∀ (c h : Nat), z_dep (List.replicate c ((263, 0) : Int32 × Int32)) (h + 1) = some (h + 1)
  | 0, h => rfl
  | c + 1, h => by
    show z_dep ((263, 0) :: List.replicate c (263, 0)) (h + 1) = _
    unfold z_dep
    rw [if_neg (by decide), if_pos rfl, if_pos (by omega)]
    exact z_dep_nt c h
theorem z_te_n {B : Nat → Nat} {n p : Nat} (hp : p ≤ n) (h : ¬ z_kd B n p = 0) : z_ts B n p < n ∧ p ≤ z_ts B n p ∧ z_ts B n p < z_te B n p ∧ z_te B n p ≤ n := by
  have h1 := z_ts_b (B := B) hp
  have h2 : ¬ n ≤ z_ts B n p := fun z => h (z_kD_b.2.mpr z)
  have h3 := z_tE_b (B := B) (n := n) (s := z_ts B n p) h1.2.1
  exact ⟨by omega, h1.1, h3.2 (by omega), h3.1⟩
theorem z_gr_lp {B : Nat → Nat} {n l b : Nat} {f : Nat → zRs} (hf : ∀ p, p ≤ n → z_gr n (b + 1) p (f p)) (p0 : Nat) : ∀ (k : Nat) (cd : zCd) (p : Nat), p0 < p → p ≤ n → cd.length + p0 ≤ p → (∀ h, h ≤ b → z_dep cd h = some (h + 1)) → z_gr n b p0 (z_lp B n l f k cd p)
  | 0, cd, p, h1, h2, h3, h4 => ⟨h1, h2, h3, h4⟩
  | k + 1, cd, p, h1, h2, h3, h4 => by
    by_cases ho : z_opl l (z_kd B n p) = true
    · have hk0 : ¬ z_kd B n p = 0 := fun z => by
        have := of_decide_eq_true ho
        omega
      obtain ⟨t1, t2, t3, t4⟩ := z_te_n h2 hk0
      have hg := hf (z_te B n p) t4
      cases hr : f (z_te B n p) with
      | inl e =>
        rw [z_lp_e ho hr]
        rw [hr] at hg
        exact hg
      | inr x =>
        rw [z_lp_s ho hr]
        rw [hr] at hg
        obtain ⟨g1, g2, g3, g4⟩ := hg
        refine z_gr_lp hf p0 k _ x.2 (by omega) g2 ?_ (fun h hh => ?_)
        · rw [List.length_append, List.length_append]
          show cd.length + x.1.length + 1 + p0 ≤ x.2
          omega
        · rw [z_dep_a _ _ h (h + 1 + 1) (by
            rw [z_dep_a _ _ h (h + 1) (h4 h hh)]
            exact g4 (h + 1) (by omega))]
          exact z_dep_op ho
    · rw [z_lp_n ho]
      exact ⟨h1, h2, h3, h4⟩
theorem z_gr_m {n b c p : Nat} {o : zRs} (h : c ≤ b) (hg : z_gr n b p o) : z_gr n c p o := by
  cases o with
  | inl e => exact hg
  | inr x => exact ⟨hg.1, hg.2.1, hg.2.2.1, fun h' hh => hg.2.2.2 h' (by omega)⟩
theorem z_gr_cn {B : Nat → Nat} {n l b k : Nat} {f : Nat → zRs} (hf : ∀ p, p ≤ n → z_gr n (b + 1) p (f p)) : ∀ p, p ≤ n → z_gr n b p (z_cn B n l f k p) := fun p hp => by
  have hg := hf p hp
  cases hr : f p with
  | inl e =>
    rw [z_cn_e hr]
    rw [hr] at hg
    exact hg
  | inr x =>
    rw [z_cn_s hr]
    rw [hr] at hg
    exact z_gr_lp hf p k x.1 x.2 hg.1 hg.2.1 hg.2.2.1 (fun h hh => hg.2.2.2 h (by omega))
theorem z_nn_b {B : Nat → Nat} {n : Nat} : ∀ (k p : Nat), p ≤ n → (z_nn B n k p).2 ≤ n ∧ (z_nn B n k p).1 + p ≤ (z_nn B n k p).2 ∧ (z_nn B n k p).1 ≤ k
  | 0, p, hp => by
    show p ≤ n ∧ 0 + p ≤ p ∧ 0 ≤ 0
    omega
  | k + 1, p, hp => by
    by_cases h : z_kd B n p = 263
    · have e : z_nn B n (k + 1) p = ((z_nn B n k (z_te B n p)).1 + 1, (z_nn B n k (z_te B n p)).2) := if_pos h
      obtain ⟨t1, t2, t3, t4⟩ := z_te_n (B := B) hp (by omega)
      obtain ⟨i1, i2, i3⟩ := z_nn_b (B := B) k (z_te B n p) t4
      rw [e]
      dsimp only
      omega
    · have e : z_nn B n (k + 1) p = (0, p) := if_neg h
      rw [e]
      dsimp only
      omega
theorem z_gr_nt {B : Nat → Nat} {n b : Nat} {f : Nat → zRs} (hf : ∀ p, p ≤ n → z_gr n b p (f p)) : ∀ p, p ≤ n → z_gr n b p (z_nts B n f p) := fun p hp => by
  obtain ⟨i1, i2, i3⟩ := z_nn_b (B := B) 6 p hp
  unfold z_nts
  by_cases h : z_kd B n (z_nn B n 6 p).2 = 263
  · rw [if_pos h]
    show 1 ≤ 2 ∧ 2 ≤ 3
    omega
  · rw [if_neg h]
    have hg := hf (z_nn B n 6 p).2 i1
    cases hr : f (z_nn B n 6 p).2 with
    | inl e =>
      rw [hr] at hg
      exact hg
    | inr x =>
      rw [hr] at hg
      obtain ⟨g1, g2, g3, g4⟩ := hg
      refine ⟨by show p < x.2; omega, g2, ?_, fun h hh => ?_⟩
      · show (x.1 ++ List.replicate _ _).length + p ≤ x.2
        rw [List.length_append, List.length_replicate]
        omega
      · show z_dep (x.1 ++ List.replicate _ _) h = _
        rw [z_dep_a _ _ h (h + 1) (g4 h hh)]
        exact z_dep_nt _ h
theorem z_dep_v {e : Int32 × Int32} {h : Nat} (he : e.1 = 2 ∨ (264 ≤ e.1.toInt ∧ e.1.toInt ≤ 268)) (hh : h < 40) : z_dep [e] h = some (h + 1) := by
  unfold z_dep
  rw [if_pos he, if_pos hh]
  rfl
theorem z_gr_pt {B : Nat → Nat} {n b : Nat} {E : Nat → zRs} (hb : b < 40) (hE : ∀ p, p ≤ n → z_gr n b p (E p)) : ∀ p, p ≤ n → z_gr n b p (z_pt B n E p) := fun p hp => by
  have hkb := z_kd_b (B := B) (n := n) (p := p)
  unfold z_pt
  by_cases h40 : z_kd B n p = 40
  · rw [if_pos h40]
    obtain ⟨t1, t2, t3, t4⟩ := z_te_n (B := B) hp (by omega)
    have hg := hE (z_te B n p) t4
    cases hr : E (z_te B n p) with
    | inl e =>
      rw [hr] at hg
      exact hg
    | inr x =>
      rw [hr] at hg
      obtain ⟨g1, g2, g3, g4⟩ := hg
      show z_gr n b p (if z_kd B n x.2 = 41 then .inr (x.1, z_te B n x.2) else .inl (1, z_ts B n x.2))
      by_cases h41 : z_kd B n x.2 = 41
      · rw [if_pos h41]
        obtain ⟨u1, u2, u3, u4⟩ := z_te_n (B := B) g2 (by omega)
        exact ⟨by show p < z_te B n x.2; omega, u4, by show x.1.length + p ≤ z_te B n x.2; omega, g4⟩
      · rw [if_neg h41]
        show 1 ≤ 1 ∧ 1 ≤ 3
        omega
  rw [if_neg h40]
  by_cases h2 : z_kd B n p = 2
  · rw [if_pos h2]
    by_cases h9 : z_nm B n p ≤ 99999
    · rw [if_pos h9]
      obtain ⟨t1, t2, t3, t4⟩ := z_te_n (B := B) hp (by omega)
      refine ⟨by show p < z_te B n p; omega, t4, by show 1 + p ≤ z_te B n p; omega, fun h hh => z_dep_v (Or.inl ?_) (by omega)⟩
      show Int32.ofNat (z_kd B n p) = 2
      rw [h2]
      rfl
    · rw [if_neg h9]
      show 1 ≤ 2 ∧ 2 ≤ 3
      omega
  rw [if_neg h2]
  by_cases h3 : 264 ≤ z_kd B n p
  · rw [if_pos h3]
    obtain ⟨t1, t2, t3, t4⟩ := z_te_n (B := B) hp (by omega)
    refine ⟨by show p < z_te B n p; omega, t4, by show 1 + p ≤ z_te B n p; omega, fun h hh => z_dep_v (Or.inr ?_) (by omega)⟩
    show 264 ≤ (Int32.ofNat (z_kd B n p)).toInt ∧ (Int32.ofNat (z_kd B n p)).toInt ≤ 268
    rw [nJ_T (by omega)]
    omega
  rw [if_neg h3]
  by_cases h4 : z_kd B n p = 3 ∨ 256 ≤ z_kd B n p
  · rw [if_pos h4]
    show 1 ≤ 3 ∧ 3 ≤ 3
    omega
  · rw [if_neg h4]
    show 1 ≤ 1 ∧ 1 ≤ 3
    omega
theorem z_gr_5 {B : Nat → Nat} {n b : Nat} {E : Nat → zRs} (hb : b + 1 < 40) (hE : ∀ p, p ≤ n → z_gr n (b + 1) p (E p)) : ∀ p, p ≤ n → z_gr n b p (z_l5 B n E p) := z_gr_cn (z_gr_pt hb hE)
theorem z_gr_0 {B : Nat → Nat} {n b : Nat} {E : Nat → zRs} (hb : b + 5 < 40) (hE : ∀ p, p ≤ n → z_gr n (b + 5) p (E p)) : ∀ p, p ≤ n → z_gr n b p (z_l0 B n E p) := z_gr_cn (z_gr_cn (z_gr_nt (z_gr_cn (z_gr_cn (z_gr_5 hb hE)))))
theorem z_gr_ex {B : Nat → Nat} {n : Nat} : ∀ k, k ≤ 6 → ∀ p, p ≤ n → z_gr n (5 * (6 - k)) p (z_exx B n k p)
  | 0, _, p, hp => by
    show 1 ≤ (if z_kd B n p = 2 ∨ z_kd B n p = 40 ∨ z_kd B n p = 3 ∨ 256 ≤ z_kd B n p then 2 else 1) ∧ (if z_kd B n p = 2 ∨ z_kd B n p = 40 ∨ z_kd B n p = 3 ∨ 256 ≤ z_kd B n p then 2 else 1) ≤ 3
    split <;> omega
  | k + 1, hk, p, hp => by
    refine z_gr_0 (by omega) (fun p hp => ?_) p hp
    have := z_gr_ex (B := B) k (by omega) p hp
    rw [show 5 * (6 - (k + 1)) + 5 = 5 * (6 - k) by omega]
    exact this
/-- where nothing can begin -/
theorem z_nb0 {B : Nat → Nat} {n p : Nat} {E : Nat → zRs} (h : ¬ (z_kd B n p = 2 ∨ z_kd B n p = 40 ∨ z_kd B n p = 3 ∨ 256 ≤ z_kd B n p)) : z_l0 B n E p = .inl (1, z_ts B n p) := by
  have e0 : z_pt B n E p = .inl (1, z_ts B n p) := by
    unfold z_pt
    rw [if_neg (by omega), if_neg (by omega), if_neg (by omega), if_neg (by omega)]
  have e3 : z_l3 B n E p = .inl (1, z_ts B n p) := z_cn_e (z_cn_e (z_cn_e e0))
  have e2 : z_l2 B n E p = .inl (1, z_ts B n p) := by
    show z_nts B n (z_l3 B n E) p = _
    have en : z_nn B n 6 p = (0, p) := if_neg (by omega)
    unfold z_nts
    rw [en]
    dsimp only
    rw [if_neg (by omega), e3]
    rfl
  exact z_cn_e (z_cn_e e2)
