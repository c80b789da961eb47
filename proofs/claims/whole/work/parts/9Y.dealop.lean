/-! colours dealt: the search, and the op -/
/-- the first of j that comes to something -/
def z_fst {α : Type} (f : Nat → Option α) : Nat → Option α
  | 0 => none
  | j + 1 => match z_fst f j with
    | some r => some r
    | none => f j
theorem z_fst_n {α : Type} {f : Nat → Option α} {j : Nat} (h : z_fst f j = none) : z_fst f (j + 1) = f j := by
  show (match z_fst f j with
    | some r => some r
    | none => f j) = _
  rw [h]
theorem z_fst_s {α : Type} {f : Nat → Option α} {j : Nat} {r : α} (h : z_fst f j = some r) : ∀ n, j ≤ n → z_fst f n = some r
  | 0, hn => by
    obtain rfl : j = 0 := by omega
    exact h
  | n + 1, hn => by
    by_cases e : j = n + 1
    · rw [← e]
      exact h
    · have := z_fst_s h n (by omega)
      show (match z_fst f n with
        | some r => some r
        | none => f n) = _
      rw [this]
/-- a colour is free for the next task -/
def z_fre (w : Nat → List Nat) (cs : List Nat) (x : Nat) (j : Nat) : Bool := (List.range j).all fun i => !decide (cs[i]? = some x) || z_dj (w i) (w cs.length)
theorem z_fre_s {w : Nat → List Nat} {cs : List Nat} {x j : Nat} : z_fre w cs x (j + 1) = (z_fre w cs x j && (!decide (cs[j]? = some x) || z_dj (w j) (w cs.length))) := by
  unfold z_fre
  rw [List.range_succ, List.all_append]
  show (_ && (_ && true)) = _
  rw [Bool.and_true]
theorem z_fre_n {w : Nat → List Nat} {cs : List Nat} {x j : Nat} (h : z_fre w cs x j = false) : ∀ n, j ≤ n → z_fre w cs x n = false
  | 0, hn => by
    obtain rfl : j = 0 := by omega
    exact h
  | n + 1, hn => by
    by_cases e : j = n + 1
    · rw [← e]
      exact h
    · rw [z_fre_s, z_fre_n h n (by omega)]
      rfl
def z_dl (w : Nat → List Nat) (k many : Nat) (lim : Nat → Nat) : Nat → List Nat → Option (List Nat)
  | 0, _ => none
  | n + 1, cs => if cs.length = k then some cs else z_fst (fun x => if z_fre w cs x cs.length = true then z_dl w k many lim n (cs ++ [x]) else none) (min many (lim cs.length))
def z_cl (c : mm_M) (g : Nat) (cs : List Nat) : Prop := ∀ i x, cs[i]? = some x → c g 0 i = Int32.ofNat x
theorem c_free {c : mm_M} {w : Nat → List Nat} {k x : Nat} {cs : List Nat} {a1 a2 : Int32} (hk : k ≤ 6) (ha : a1.toInt = (cs.length : Int)) (hlt : cs.length < k) (h2 : a2.toInt = (x : Int)) (hx : x < 100) (hcs : ∀ i y : Nat, cs[i]? = some y → y < 100) (h60 : z_cl c 60 cs) (h59 : ∀ t, t < k → ∀ b, z_bt (c 59 0 t) b = decide (b ∈ w t)) : f_X4_isFree a1 a2 c = some (if z_fre w cs x cs.length = true then 1 else 0) := by
  have ka := n_k ha
  apply v_is
  unfold f_X4_isFree
  refine v_s1 (P := fun t => match t with
    | .inl _ => z_fre w cs x cs.length = false
    | .inr _ => z_fre w cs x cs.length = true) ?_ (fun t ht => ?_)
  · refine v_for (fun j s => s.toInt = (j : Int) ∧ z_fre w cs x j = true) 0 cs.length (Nat.zero_le _) (by omega) ⟨i_0, rfl⟩ ?_ ?_
    · rintro j v hj ⟨hv, hfr⟩
      have kv := n_k hv
      have iv : mm_in v 6 := v_in.mpr (by omega)
      have hy : cs[j]? = some cs[j] := List.getElem?_eq_getElem hj
      have g60 := h60 j _ hy
      have hy100 := hcs j _ hy
      have ea2 : a2 = Int32.ofNat x := n_0L (by omega) h2
      refine v_ifn (by rw [iA_le, ha, hv]; omega) ?_
      have r60 : c 60 0 v.toNatClampNeg = Int32.ofNat cs[j] := by rw [kv]; exact g60
      refine v_ifp iv ?_
      by_cases hxy : cs[j] = x
      · refine v_ifn (fun z => z (by rw [r60, ea2, hxy])) ?_
        refine v_ifp iv ?_
        refine v_ifp (v_in.mpr (by omega)) ?_
        have hd : decide (cs[j]? = some x) = true := decide_eq_true (by rw [hy, hxy])
        by_cases hdj : z_dj (w j) (w cs.length) = true
        · refine v_ifp (by rw [kv, ka]; exact (z_dj_e (h59 j (by omega)) (h59 cs.length hlt)).mpr hdj) ?_
          refine v_l1 ?_
          refine v_il ⟨n_s3 hv (by omega), ?_⟩
          rw [z_fre_s, hfr, hdj, Bool.or_true]
          rfl
        · refine v_ifn (by rw [kv, ka]; exact fun z => hdj ((z_dj_e (h59 j (by omega)) (h59 cs.length hlt)).mp z)) ?_
          refine v_ir ?_
          have hdf : z_dj (w j) (w cs.length) = false := by
            cases hz : z_dj (w j) (w cs.length)
            · rfl
            · exact absurd hz hdj
          exact z_fre_n (j := j + 1) (by rw [z_fre_s, hd, hdf, Bool.not_true, Bool.or_false, Bool.and_false]) cs.length (by omega)
      · refine v_ifp (fun z => hxy ((n_eq (by omega) (by omega)).mp (r60.symm.trans (z.trans ea2)))) ?_
        refine v_l1 ?_
        refine v_il ⟨n_s3 hv (by omega), ?_⟩
        have hd : decide (cs[j]? = some x) = false := decide_eq_false (by rw [hy]; exact fun z => hxy (Option.some.inj z))
        rw [z_fre_s, hfr, hd, Bool.not_false, Bool.true_or]
        rfl
    · rintro v ⟨hv, hfr⟩
      refine v_ifp (by rw [iA_le, ha, hv]; omega) ?_
      exact v_ir hfr
  · cases t with
    | inl z =>
      have hz : z_fre w cs x cs.length = false := ht
      refine v_so ?_
      rw [hz]
      rfl
    | inr z =>
      have hz : z_fre w cs x cs.length = true := ht
      refine v_so ?_
      rw [hz]
      rfl
theorem c_dfrom {w : Nat → List Nat} {k many C : Nat} {X lim : Nat → Nat} {a2 : Int32} (hC : C ≤ 10) (hk : k ≤ 6) (h2 : a2.toInt = (many : Int)) (hm : many ≤ 8) (hlim : ∀ t, t < k → z_lc X (w t) C = Int32.ofNat (lim t) ∧ lim t ≤ 8) : ∀ (n : Nat) (cs : List Nat) (a1 : Int32) (c : mm_M), a1.toInt = (cs.length : Int) → cs.length ≤ k → 16 ≤ n + cs.length → (∀ i y : Nat, cs[i]? = some y → y < 100) → c 9 0 8 = Int32.ofNat k → c 9 0 5 = Int32.ofNat C → (∀ i, i < C → c 55 0 i = Int32.ofNat (X i)) → z_cl c 60 cs → (∀ t, t < k → ∀ b, z_bt (c 59 0 t) b = decide (b ∈ w t)) → vW (f_X4_dealFrom n a1 a2 c) (fun q => fp [(60, none, none)] c q.2 ∧ ((q.1 = 0 ∧ z_dl w k many lim n cs = none ∧ z_cl q.2 60 cs) ∨ ∃ ds, q.1 = 1 ∧ z_dl w k many lim n cs = some ds ∧ ds.length = k ∧ z_cl q.2 60 ds))
  | 0, cs, a1, c, _, hlk, h16, _, _, _, _, _, _ => by omega
  | n + 1, cs, a1, c, ha, hlk, h16, hcs, h98, h95, h55, h60, h59 => by
    rw [f_X4_dealFrom]
    have ka := n_k ha
    by_cases hlt : cs.length < k
    · have ia : mm_in a1 6 := v_in.mpr (by omega)
      refine v_ifp (by rw [iA_lt, h98, ha, nJ_T (by omega)]; omega) ?_
      refine v_ifp ia ?_
      rw [show c 59 0 a1.toNatClampNeg = c 59 0 cs.length by rw [ka]]
      refine v_b1e (c_lcol hC h95 h55 (h59 cs.length hlt)) ?_
      obtain ⟨hl1, hl2⟩ := hlim cs.length hlt
      refine v_lI (fun mx hmx => ?_)
      have hmxI : mx.toInt = ((min many (lim cs.length) : Nat) : Int) := by
        have hlI : (Int32.ofNat (lim cs.length)).toInt = (lim cs.length : Int) := nJ_T (by omega)
        rw [hmx, hl1]
        unfold mm_min
        split
        · rename_i h
          rw [iA_lt, hlI, h2] at h
          rw [hlI, Nat.min_eq_right (by omega)]
        · rename_i h
          rw [iA_lt, hlI, h2] at h
          rw [h2, Nat.min_eq_left (by omega)]
      clear hmx
      have hmin8 : min many (lim cs.length) ≤ 8 := Nat.le_trans (Nat.min_le_left _ _) hm
      have edl : z_dl w k many lim (n + 1) cs = z_fst (fun x => if z_fre w cs x cs.length = true then z_dl w k many lim n (cs ++ [x]) else none) (min many (lim cs.length)) := if_neg (by omega)
      rw [edl]
      generalize min many (lim cs.length) = M at hmxI hmin8 ⊢
      refine v_s1 (P := fun t => match t with
        | .inl r => fp [(60, none, none)] c r ∧ ∃ ds, z_fst (fun x => if z_fre w cs x cs.length = true then z_dl w k many lim n (cs ++ [x]) else none) M = some ds ∧ ds.length = k ∧ z_cl r 60 ds
        | .inr r => fp [(60, none, none)] c r ∧ z_fst (fun x => if z_fre w cs x cs.length = true then z_dl w k many lim n (cs ++ [x]) else none) M = none ∧ z_cl r 60 cs) ?_ (fun t ht => ?_)
      · refine v_for (fun x s => s.1.toInt = (x : Int) ∧ fp [(60, none, none)] c s.2 ∧ z_cl s.2 60 cs ∧ z_fst (fun x => if z_fre w cs x cs.length = true then z_dl w k many lim n (cs ++ [x]) else none) x = none) 0 M (Nat.zero_le _) (by omega) ⟨i_0, fp_rf, h60, rfl⟩ ?_ ?_
        · rintro x ⟨v, e⟩ hx ⟨hv, hf, he60, hno⟩
          dsimp only at hv hf he60 hno ⊢
          have e59 : ∀ t, t < k → ∀ b, z_bt (e 59 0 t) b = decide (b ∈ w t) := fun t ht b => by
            rw [hf 59 0 t rfl]
            exact h59 t ht b
          have efs := z_fst_n hno
          refine v_ifn (by rw [iA_le, hmxI, hv]; omega) ?_
          refine v_b1e (c_free hk ha hlt hv (by omega) hcs he60 e59) ?_
          by_cases hfr : z_fre w cs x cs.length = true
          · refine v_ifn (by rw [if_pos hfr]; decide) ?_
            refine v_ifp ia ?_
            rw [ka]
            refine v_lM ?_
            have f1 : fp [(60, none, none)] c (mm_w e 60 0 cs.length v) := fp_w rfl hf
            have hlx : (cs ++ [x]).length = cs.length + 1 := by rw [List.length_append]; rfl
            refine v_s2 (c_dfrom hC hk h2 hm hlim n (cs ++ [x]) (a1 + 1) (mm_w e 60 0 cs.length v) (by rw [hlx]; exact n_s3 ha (by omega)) (by omega) (by omega) (fun i y hy => ?_) ((f1 9 0 8 rfl).trans h98) ((f1 9 0 5 rfl).trans h95) (fun i hi => (f1 55 0 i rfl).trans (h55 i hi)) (fun i y hy => ?_) (fun t ht b => by rw [f1 59 0 t rfl]; exact h59 t ht b)) ?_
            · rcases z_apx hy with ⟨_, hy⟩ | ⟨_, hy⟩
              · exact hcs i y hy
              · omega
            · rcases z_apx hy with ⟨hi, hy⟩ | ⟨hi, hy⟩
              · rw [mw_k (by omega)]
                exact he60 i y hy
              · rw [hi, hy, mw_s]
                exact n_0L (by omega) hv
            · rintro r e2 ⟨hf2, hr⟩
              dsimp only at hf2 hr ⊢
              rw [if_pos hfr] at efs
              rcases hr with ⟨hr, hdl, hcl⟩ | ⟨ds, hr, hdl, hdk, hcl⟩
              · refine v_ifp hr ?_
                refine v_l1 ?_
                refine v_il ⟨n_s3 hv (by omega), fp_tr f1 hf2, fun i y hy => hcl i y ?_, efs.trans hdl⟩
                rw [List.getElem?_append_left (List.getElem?_eq_some_iff.mp hy).1]
                exact hy
              · refine v_ifn (by rw [hr]; decide) ?_
                refine v_ir ⟨fp_tr f1 hf2, ds, z_fst_s (efs.trans hdl) M (by omega), hdk, hcl⟩
          · refine v_ifp (by rw [if_neg hfr]) ?_
            refine v_l1 ?_
            rw [if_neg hfr] at efs
            exact v_il ⟨n_s3 hv (by omega), hf, he60, efs⟩
        · rintro ⟨v, e⟩ ⟨hv, hf, he60, hno⟩
          dsimp only at hv hf he60 hno ⊢
          refine v_ifp (by rw [iA_le, hmxI, hv]; omega) ?_
          exact v_ir ⟨hf, hno, he60⟩
      · cases t with
        | inl r =>
          obtain ⟨hf, ds, hds, hdk, hcl⟩ := ht
          exact v_so ⟨hf, Or.inr ⟨ds, rfl, hds, hdk, hcl⟩⟩
        | inr r =>
          obtain ⟨hf, hno, hcl⟩ := ht
          exact v_so ⟨hf, Or.inl ⟨rfl, hno, hcl⟩⟩
    · refine v_ifn (by rw [iA_lt, h98, ha, nJ_T (by omega)]; omega) ?_
      have edl : z_dl w k many lim (n + 1) cs = some cs := if_pos (by omega)
      exact v_so ⟨fp_rf, Or.inr ⟨cs, rfl, edl, by omega, h60⟩⟩
theorem r_deals {w : Nat → List Nat} {k many C : Nat} {X lim : Nat → Nat} {a2 : Int32} (hk : k ≤ 6) (h2 : a2.toInt = (many : Int)) (hm : many ≤ 8) (hlim : ∀ t, t < k → z_lc X (w t) C = Int32.ofNat (lim t) ∧ lim t ≤ 8) : ∀ (n : Nat) (cs : List Nat) (a1 : Int32) (c : mm_M), a1.toInt = (cs.length : Int) → cs.length ≤ k → 16 ≤ n + cs.length → (∀ i y : Nat, cs[i]? = some y → y < 100) → c 12 0 78 = Int32.ofNat k → (∀ t, t < k → c 126 0 t = z_lc X (w t) C) → z_cl c 127 cs → (∀ t, t < k → ∀ b, z_bt (c 125 0 t) b = decide (b ∈ w t)) → vW (f_X12_deals n a1 a2 c) (fun q => fp [(127, none, none)] c q.2 ∧ ((q.1 = 0 ∧ z_dl w k many lim n cs = none ∧ z_cl q.2 127 cs) ∨ ∃ ds, q.1 = 1 ∧ z_dl w k many lim n cs = some ds ∧ ds.length = k ∧ z_cl q.2 127 ds))
  | 0, cs, a1, c, _, hlk, h16, _, _, _, _, _ => by omega
  | n + 1, cs, a1, c, ha, hlk, h16, hcs, h78, h126, h127, h125 => by
    rw [f_X12_deals]
    have ka := n_k ha
    by_cases hlt : cs.length < k
    · have ia : mm_in a1 6 := v_in.mpr (by omega)
      refine v_ifp (by rw [h78]; exact n_ne (by rw [ha, nJ_T (by omega)]; omega)) ?_
      obtain ⟨hl1, hl2⟩ := hlim cs.length hlt
      have hlI : (z_lc X (w cs.length) C).toInt = (lim cs.length : Int) := by rw [hl1]; exact nJ_T (by omega)
      have edl : z_dl w k many lim (n + 1) cs = z_fst (fun x => if z_fre w cs x cs.length = true then z_dl w k many lim n (cs ++ [x]) else none) (min many (lim cs.length)) := if_neg (by omega)
      rw [edl]
      have hmin : min many (lim cs.length) ≤ 8 := Nat.le_trans (Nat.min_le_left _ _) hm
      have hmin2 : ∀ x : Nat, (x < min many (lim cs.length) ↔ x < many ∧ x < lim cs.length) := fun x => Nat.lt_min
      generalize min many (lim cs.length) = M at hmin hmin2 ⊢
      refine v_s1 (P := fun t => match t with
        | .inl r => fp [(127, none, none)] c r ∧ ∃ ds, z_fst (fun x => if z_fre w cs x cs.length = true then z_dl w k many lim n (cs ++ [x]) else none) M = some ds ∧ ds.length = k ∧ z_cl r 127 ds
        | .inr r => fp [(127, none, none)] c r ∧ z_fst (fun x => if z_fre w cs x cs.length = true then z_dl w k many lim n (cs ++ [x]) else none) M = none ∧ z_cl r 127 cs) ?_ (fun t ht => ?_)
      · refine v_for (fun x s => s.1.toInt = (x : Int) ∧ fp [(127, none, none)] c s.2 ∧ z_cl s.2 127 cs ∧ z_fst (fun x => if z_fre w cs x cs.length = true then z_dl w k many lim n (cs ++ [x]) else none) x = none) 0 M (Nat.zero_le _) (by omega) ⟨i_0, fp_rf, h127, rfl⟩ ?_ ?_
        · rintro x ⟨v, e⟩ hx ⟨hv, hf, he, hno⟩
          dsimp only at hv hf he hno ⊢
          obtain ⟨hx1, hx2⟩ := (hmin2 x).mp hx
          have e125 : ∀ t, t < k → ∀ b, z_bt (e 125 0 t) b = decide (b ∈ w t) := fun t ht b => by
            rw [hf 125 0 t rfl]
            exact h125 t ht b
          have efs := z_fst_n hno
          refine v_ifn (by rw [iA_le, h2, hv]; omega) ?_
          refine v_ifp ia ?_
          have r126 : e 126 0 a1.toNatClampNeg = z_lc X (w cs.length) C := by rw [ka, hf 126 0 cs.length rfl]; exact h126 cs.length hlt
          refine v_ifn (by rw [r126, iA_le, hlI, hv]; omega) ?_
          refine v_s1 (P := fun z => z = if z_fre w cs x cs.length = true then 1 else 0) ?_ (fun z hz => ?_)
          · refine v_for (fun j s => s.2.toInt = (j : Int) ∧ s.1 = if z_fre w cs x j = true then 1 else 0) 0 cs.length (Nat.zero_le _) (by omega) ⟨i_0, rfl⟩ ?_ ?_
            · rintro j ⟨z, y⟩ hj ⟨hy, hz⟩
              dsimp only at hy hz ⊢
              have ky := n_k hy
              have iy : mm_in y 6 := v_in.mpr (by omega)
              have hyj : cs[j]? = some cs[j] := List.getElem?_eq_getElem hj
              have g127 := he j _ hyj
              have hy100 := hcs j _ hyj
              have ev : v = Int32.ofNat x := n_0L (by omega) hv
              refine v_ifn (by rw [iA_le, ha, hy]; omega) ?_
              by_cases hfr : z_fre w cs x j = true
              · rw [if_pos hfr] at hz
                refine v_ifn (by rw [hz]; decide) ?_
                refine v_ifp iy ?_
                have r127 : e 127 0 y.toNatClampNeg = Int32.ofNat cs[j] := by rw [ky]; exact g127
                by_cases hxy : cs[j] = x
                · refine v_ifn (fun z => z (by rw [r127, ev, hxy])) ?_
                  refine v_ifp iy ?_
                  refine v_ifp ia ?_
                  have hd : decide (cs[j]? = some x) = true := decide_eq_true (by rw [hyj, hxy])
                  by_cases hdj : z_dj (w j) (w cs.length) = true
                  · refine v_ifn (by rw [ky, ka]; exact fun z => z ((z_dj_e (e125 j (by omega)) (e125 cs.length hlt)).mpr hdj)) ?_
                    refine v_l1 ?_
                    refine v_il ⟨n_s3 hy (by omega), ?_⟩
                    dsimp only
                    rw [z_fre_s, hfr, hdj, Bool.or_true]
                    rfl
                  · refine v_ifp (by rw [ky, ka]; exact fun z => hdj ((z_dj_e (e125 j (by omega)) (e125 cs.length hlt)).mp z)) ?_
                    refine v_l1 ?_
                    refine v_il ⟨n_s3 hy (by omega), ?_⟩
                    have hdf : z_dj (w j) (w cs.length) = false := by
                      cases hz : z_dj (w j) (w cs.length)
                      · rfl
                      · exact absurd hz hdj
                    dsimp only
                    rw [z_fre_s, hd, hdf, Bool.not_true, Bool.or_false, Bool.and_false]
                    rfl
                · refine v_ifp (fun z => hxy ((n_eq (by omega) (by omega)).mp (r127.symm.trans (z.trans ev)))) ?_
                  refine v_l1 ?_
                  refine v_il ⟨n_s3 hy (by omega), ?_⟩
                  have hd : decide (cs[j]? = some x) = false := decide_eq_false (by rw [hyj]; exact fun z => hxy (Option.some.inj z))
                  dsimp only
                  rw [z_fre_s, hfr, hd, Bool.not_false, Bool.true_or]
                  rfl
              · rw [if_neg hfr] at hz
                refine v_ifp hz ?_
                refine v_l1 ?_
                refine v_il ⟨n_s3 hy (by omega), ?_⟩
                have hff : z_fre w cs x j = false := by
                  cases hz : z_fre w cs x j
                  · rfl
                  · exact absurd hz hfr
                dsimp only
                rw [z_fre_s, hff, Bool.false_and]
                rfl
            · rintro ⟨z, y⟩ ⟨hy, hz⟩
              dsimp only at hy hz ⊢
              refine v_ifp (by rw [iA_le, ha, hy]; omega) ?_
              exact v_ir hz
          · refine v_ifp ia ?_
            rw [ka]
            refine v_lM ?_
            have f1 : fp [(127, none, none)] c (mm_w e 127 0 cs.length v) := fp_w rfl hf
            have hlx : (cs ++ [x]).length = cs.length + 1 := by rw [List.length_append]; rfl
            have hcl1 : z_cl (mm_w e 127 0 cs.length v) 127 cs := fun i y hy => by
              rw [mw_k (by have := (List.getElem?_eq_some_iff.mp hy).1; omega)]
              exact he i y hy
            by_cases hfr : z_fre w cs x cs.length = true
            · rw [if_pos hfr] at hz efs
              refine v_ifn (by rw [hz]; decide) ?_
              refine v_s2 (r_deals hk h2 hm hlim n (cs ++ [x]) (a1 + 1) (mm_w e 127 0 cs.length v) (by rw [hlx]; exact n_s3 ha (by omega)) (by omega) (by omega) (fun i y hy => ?_) ((f1 12 0 78 rfl).trans h78) (fun t ht => (f1 126 0 t rfl).trans (h126 t ht)) (fun i y hy => ?_) (fun t ht b => by rw [f1 125 0 t rfl]; exact h125 t ht b)) ?_
              · rcases z_apx hy with ⟨_, hy⟩ | ⟨_, hy⟩
                · exact hcs i y hy
                · omega
              · rcases z_apx hy with ⟨hi, hy⟩ | ⟨hi, hy⟩
                · exact hcl1 i y hy
                · rw [hi, hy, mw_s]
                  exact n_0L (by omega) hv
              · rintro r e2 ⟨hf2, hr⟩
                dsimp only at hf2 hr ⊢
                rcases hr with ⟨hr, hdl, hcl⟩ | ⟨ds, hr, hdl, hdk, hcl⟩
                · refine v_ifp hr ?_
                  refine v_l1 ?_
                  refine v_il ⟨n_s3 hv (by omega), fp_tr f1 hf2, fun i y hy => hcl i y ?_, efs.trans hdl⟩
                  rw [List.getElem?_append_left (List.getElem?_eq_some_iff.mp hy).1]
                  exact hy
                · refine v_ifn (by rw [hr]; decide) ?_
                  refine v_ir ⟨fp_tr f1 hf2, ds, z_fst_s (efs.trans hdl) M (by omega), hdk, hcl⟩
            · rw [if_neg hfr] at hz efs
              refine v_ifp hz ?_
              refine v_l1 ?_
              exact v_il ⟨n_s3 hv (by omega), f1, hcl1, efs⟩
        · rintro ⟨v, e⟩ ⟨hv, hf, he, hno⟩
          dsimp only at hv hf he hno ⊢
          have hM : ¬ (M < many ∧ M < lim cs.length) := fun z => by have := (hmin2 M).mpr z; omega
          by_cases hmm : M < many
          · refine v_ifn (by rw [iA_le, h2, hv]; omega) ?_
            refine v_ifp ia ?_
            have r126 : e 126 0 a1.toNatClampNeg = z_lc X (w cs.length) C := by rw [ka, hf 126 0 cs.length rfl]; exact h126 cs.length hlt
            refine v_ifp (by rw [r126, iA_le, hlI, hv]; omega) ?_
            exact v_ir ⟨hf, hno, he⟩
          · refine v_ifp (by rw [iA_le, h2, hv]; omega) ?_
            exact v_ir ⟨hf, hno, he⟩
      · cases t with
        | inl r =>
          obtain ⟨hf, ds, hds, hdk, hcl⟩ := ht
          exact v_so ⟨hf, Or.inr ⟨ds, rfl, hds, hdk, hcl⟩⟩
        | inr r =>
          obtain ⟨hf, hno, hcl⟩ := ht
          exact v_so ⟨hf, Or.inl ⟨rfl, hno, hcl⟩⟩
    · refine v_ifn (fun z => z (by rw [h78]; exact n_0L (by omega) (by rw [ha]; omega))) ?_
      have edl : z_dl w k many lim (n + 1) cs = some cs := if_pos (by omega)
      exact v_so ⟨fp_rf, Or.inr ⟨cs, rfl, edl, by omega, h127⟩⟩
/-- with how many colours it can be dealt, and how -/
def z_dm (w : Nat → List Nat) (k : Nat) (lim : Nat → Nat) (many : Nat) : Option (Nat × List Nat) := match z_dl w k many lim 16 [] with
  | none => none
  | some ds => some (many, ds)
theorem z_dm_n {w : Nat → List Nat} {k : Nat} {lim : Nat → Nat} {many : Nat} (h : z_dl w k many lim 16 [] = none) : z_dm w k lim many = none := by
  unfold z_dm
  rw [h]
theorem z_dm_s {w : Nat → List Nat} {k : Nat} {lim : Nat → Nat} {many : Nat} {ds : List Nat} (h : z_dl w k many lim 16 [] = some ds) : z_dm w k lim many = some (many, ds) := by
  unfold z_dm
  rw [h]
abbrev zDC : zT := [(10, some 0, none), (62, some 0, none), (10, some 1, none), (62, some 1, none), (59, none, none), (60, none, none)]
theorem c_dealC {c : mm_M} {P Q W X F G : Nat → Nat} {C k : Nat} {w : Nat → List Nat} {lim : Nat → Nat} (hC : C ≤ 10) (hk : k ≤ 6) (hP : ∀ i, i < C → P i < 8 ∧ Q i < 8) (hW : ∀ i, W i ≤ 2400000) (hnt : z_nt c P Q W C) (h98 : c 9 0 8 = Int32.ofNat k) (hF : ∀ t, t < k → (F t < 8 ∧ G t < 8) ∧ c 57 0 t = Int32.ofNat (F t) ∧ c 58 0 t = Int32.ofNat (G t)) (h55 : ∀ i, i < C → c 55 0 i = Int32.ofNat (X i)) (hw : ∀ t p, z_tw P Q W C F G t = some p → w t = p) (hlim : ∀ t, t < k → z_lc X (w t) C = Int32.ofNat (lim t) ∧ lim t ≤ 8) : vW (f_X4_dealColours c) (fun q => ((∃ t, t < k ∧ z_tw P Q W C F G t = none) ∧ q.1 = -1 ∧ fp zDC c q.2) ∨ ((∀ t, t < k → ¬ z_tw P Q W C F G t = none) ∧ z_fst (z_dm w k lim) 9 = none ∧ q.1 = -1 ∧ fp zDC c q.2) ∨ ((∀ t, t < k → ¬ z_tw P Q W C F G t = none) ∧ ∃ many ds, z_fst (z_dm w k lim) 9 = some (many, ds) ∧ ds.length = k ∧ q.1 = Int32.ofNat many ∧ q.2 9 0 18 = Int32.ofNat k ∧ (∀ i x, ds[i]? = some x → q.2 61 0 i = Int32.ofNat x) ∧ fp ((9, none, some 18) :: (61, none, none) :: zDC) c q.2)) := by
  unfold f_X4_dealColours
  refine v_s1 (P := fun t => match t with
    | .inl r => (∃ t, t < k ∧ z_tw P Q W C F G t = none) ∧ fp zDC c r
    | .inr r => (∀ t, t < k → (¬ z_tw P Q W C F G t = none) ∧ ∀ b, z_bt (r 59 0 t) b = decide (b ∈ w t)) ∧ fp zDC c r) ?_ (fun t ht => ?_)
  · refine v_for (fun t s => s.1.toInt = (t : Int) ∧ fp zDC c s.2 ∧ ∀ x, x < t → (¬ z_tw P Q W C F G x = none) ∧ ∀ b, z_bt (s.2 59 0 x) b = decide (b ∈ w x)) 0 k (Nat.zero_le _) (by omega) ⟨i_0, fp_rf, fun x hx => absurd hx (Nat.not_lt_zero x)⟩ ?_ ?_
    · rintro t ⟨v, e⟩ ht ⟨hv, hf, hx⟩
      dsimp only at hv hf hx ⊢
      obtain ⟨⟨hF8, hG8⟩, g57, g58⟩ := hF t ht
      have kv := n_k hv
      have iv : mm_in v 6 := v_in.mpr (by omega)
      refine v_ifn (by rw [iA_le, hf 9 0 8 rfl, h98, hv, nJ_T (by omega)]; omega) ?_
      refine v_ifp iv ?_
      refine v_ifp iv ?_
      have r57 : e 57 0 v.toNatClampNeg = Int32.ofNat (F t) := by rw [kv, hf 57 0 t rfl]; exact g57
      have r58 : e 58 0 v.toNatClampNeg = Int32.ofNat (G t) := by rw [kv, hf 58 0 t rfl]; exact g58
      rw [r57, r58]
      refine v_s2 (c_findL (bar := fun _ => false) hC hP hW (fun i _ => z_bt_0) (nJ_T (show G t < 2147483648 by omega)) (nJ_T (show F t < 2147483648 by omega)) hF8 (z_nt_fr hf (by decide) hnt)) ?_
      rintro r e2 ⟨hf2, hh, hr⟩
      dsimp only at hf2 hh hr
      have etw : z_tw P Q W C F G t = z_bst W (z_ws P Q C (fun _ => false) (G t) 16 [F t] [] (F t)) none := rfl
      have hf3 : fp zDC c e2 := fp_tr hf (fp_sb (by decide) hf2)
      rw [← etw] at hh hr
      cases hz : z_tw P Q W C F G t with
      | none =>
        rw [hz] at hr
        refine v_ifn (fun z => z hr) ?_
        exact v_ir ⟨⟨t, ht, hz⟩, hf3⟩
      | some p =>
        rw [hz] at hr hh
        have hwp := hw t p hz
        have hp : z_wak e2 1 W p := hh
        refine v_ifp (by rw [hr]; show (1 : Int32) ≠ 0; decide) ?_
        refine v_ifp iv ?_
        refine v_lM ?_
        refine v_l1 ?_
        refine v_il ⟨n_s3 hv (by omega), fp_w rfl hf3, fun x hxt => ?_⟩
        dsimp only
        rw [kv]
        by_cases hxe : x = t
        · rw [hxe, mw_s, hwp]
          exact ⟨by rw [hz]; exact fun z => (by cases z), hp.2.2.2.2.1⟩
        · rw [mw_k hxe, hf2 59 0 x rfl]
          exact hx x (by omega)
    · rintro ⟨v, e⟩ ⟨hv, hf, hx⟩
      dsimp only at hv hf hx ⊢
      refine v_ifp (by rw [iA_le, hf 9 0 8 rfl, h98, hv, nJ_T (by omega)]; omega) ?_
      exact v_ir ⟨hx, hf⟩
  · cases t with
    | inl r => exact v_so (Or.inl ⟨ht.1, rfl, ht.2⟩)
    | inr r =>
      obtain ⟨hx, hf⟩ := ht
      have hne : ∀ t, t < k → ¬ z_tw P Q W C F G t = none := fun t h => (hx t h).1
      have r98 : r 9 0 8 = Int32.ofNat k := (hf 9 0 8 rfl).trans h98
      refine v_s1 (P := fun t => match t with
        | .inl q => ∃ many ds, z_fst (z_dm w k lim) 9 = some (many, ds) ∧ ds.length = k ∧ q.1 = Int32.ofNat many ∧ z_cl q.2 60 ds ∧ fp [(60, none, none)] r q.2
        | .inr q => z_fst (z_dm w k lim) 9 = none ∧ fp [(60, none, none)] r q) ?_ (fun t ht => ?_)
      · refine v_for (fun x s => s.1.toInt = (x : Int) ∧ fp [(60, none, none)] r s.2 ∧ z_fst (z_dm w k lim) x = none) 0 9 (Nat.zero_le _) (by omega) ⟨i_0, fp_rf, rfl⟩ ?_ ?_
        · rintro x ⟨v, e⟩ hx9 ⟨hv, hf2, hno⟩
          dsimp only at hv hf2 hno ⊢
          have efs := z_fst_n hno
          refine v_ifn (by rw [iA_lt, i_8, hv]; omega) ?_
          refine v_s2 (c_dfrom (X := X) hC hk hv (by omega) hlim 16 [] 0 e i_0 (Nat.zero_le _) (by omega) (fun i y hy => (by cases hy)) ((hf2 9 0 8 rfl).trans r98) ((hf2 9 0 5 rfl).trans ((hf 9 0 5 rfl).trans hnt.1)) (fun i hi => (hf2 55 0 i rfl).trans ((hf 55 0 i rfl).trans (h55 i hi))) (fun i y hy => (by cases hy)) (fun t ht b => by rw [hf2 59 0 t rfl]; exact (hx t ht).2 b)) ?_
          rintro z e2 ⟨hf3, hz⟩
          dsimp only at hf3 hz ⊢
          rcases hz with ⟨hz, hdl, _⟩ | ⟨ds, hz, hdl, hdk, hcl⟩
          · refine v_ifp hz ?_
            refine v_l1 ?_
            exact v_il ⟨n_s3 hv (by omega), fp_tr hf2 hf3, efs.trans (z_dm_n hdl)⟩
          · refine v_ifn (by rw [hz]; decide) ?_
            exact v_ir ⟨x, ds, z_fst_s (efs.trans (z_dm_s hdl)) 9 (by omega), hdk, n_0L (by omega) hv, hcl, fp_tr hf2 hf3⟩
        · rintro ⟨v, e⟩ ⟨hv, hf2, hno⟩
          dsimp only at hv hf2 hno ⊢
          refine v_ifp (by rw [iA_lt, i_8, hv]; omega) ?_
          exact v_ir ⟨hno, hf2⟩
      · cases t with
        | inl q =>
          obtain ⟨v, e⟩ := q
          obtain ⟨many, ds, h1, h2, h3, h4, h5⟩ := ht
          dsimp only at h3 h4 h5 ⊢
          have e98 : e 9 0 8 = Int32.ofNat k := (h5 9 0 8 rfl).trans r98
          refine v_ifp ?_ ?_
          · rw [e98, nJ_N (by omega)]
            refine ⟨⟨by decide, by decide, ?_⟩, by omega, by omega⟩
            rw [iA_le, i_0, nJ_T (by omega)]
            omega
          rw [e98, nJ_N (show k < 2147483648 by omega)]
          refine v_lM ?_
          refine v_lM ?_
          refine v_so (Or.inr (Or.inr ⟨hne, many, ds, h1, h2, h3, ?_, fun i x hi => ?_, ?_⟩))
          · dsimp only
            rw [mw_s, mwa_g (by decide)]
            exact e98
          · dsimp only
            have hil := (List.getElem?_eq_some_iff.mp hi).1
            rw [mw_g (by decide), mwa_s, pk_cpy_in (Nat.zero_le _) (by omega), Nat.sub_zero, Nat.zero_add]
            exact h4 i x hi
          · exact fp_w rfl (fp_wa (fun k => rfl) (fp_tr (fp_sb (by decide) hf) (fp_sb (by decide) h5)))
        | inr q => exact v_so (Or.inr (Or.inl ⟨hne, ht.1, rfl, fp_tr hf (fp_sb (by decide) ht.2)⟩))
theorem r_dlast {m : mm_M} {w : Nat → List Nat} {lim : Nat → Nat} {X : Nat → Nat} {C k j0 : Nat} {s0 : Int32} (hk : k ≤ 6) (hs : s0.toInt = (j0 : Int)) (hj0 : j0 ≤ 9) (h0 : z_fst (z_dm w k lim) j0 = none) (h78 : m 12 0 78 = Int32.ofNat k) (hlim : ∀ t, t < k → z_lc X (w t) C = Int32.ofNat (lim t) ∧ lim t ≤ 8) (h126 : ∀ t, t < k → m 126 0 t = z_lc X (w t) C) (h125 : ∀ t, t < k → ∀ b, z_bt (m 125 0 t) b = decide (b ∈ w t)) : vW (mm_b1 (mm_loop (σ := Int32 × mm_M) (ρ := (Int32 × mm_M)) (fun (s : Int32 × mm_M) => match s with
| (v8, m9) => (if 8 < v8 then (some (.inr (v8, m9)))
else (mm_b2 (f_X12_deals 16 0 v8 m9) fun r10 m11 =>
if r10 ≠ 0 then (some (.inr (v8, m11)))
else (mm_let (v8 + 1) fun v12 =>
some (.inl (v12, m11)))) : Option ((Int32 × mm_M) ⊕ ((Int32 × mm_M))))) mm_fu (s0, m)) fun t => match t with
| (v13, m14) => if v13 ≤ 8 then (mm_let (mm_w m14 12 0 94 (m14 12 0 78)) fun m15 =>
(mm_b1 (mm_loop (σ := Int32 × mm_M) (ρ := (mm_M)) (fun (s : Int32 × mm_M) => match s with
| (v17, m18) => (if (m18 12 0 78) ≤ v17 then (some (.inr m18))
else (if mm_in v17 6 then (
if mm_in v17 6 then (
mm_let (mm_w m18 128 0 v17.toNatClampNeg (m18 127 0 v17.toNatClampNeg)) fun m19 =>
mm_let (v17 + 1) fun v20 =>
some (.inl (v20, m19))) else none) else none) : Option ((Int32 × mm_M) ⊕ ((mm_M))))) mm_fu (0, m15)) fun m21 =>
some (v13, m21)))
else (some ((-1), m14))) (fun q => (z_fst (z_dm w k lim) 9 = none ∧ q.1 = -1 ∧ fp [(127, none, none)] m q.2) ∨ ∃ many ds, z_fst (z_dm w k lim) 9 = some (many, ds) ∧ ds.length = k ∧ q.1 = Int32.ofNat many ∧ q.2 12 0 94 = Int32.ofNat k ∧ (∀ i x, ds[i]? = some x → q.2 128 0 i = Int32.ofNat x) ∧ fp [(127, none, none), (12, none, some 94), (128, none, none)] m q.2) := by
  refine v_s1 (P := fun q => (∃ many ds, many ≤ 8 ∧ z_fst (z_dm w k lim) 9 = some (many, ds) ∧ ds.length = k ∧ q.1 = Int32.ofNat many ∧ z_cl q.2 127 ds ∧ fp [(127, none, none)] m q.2) ∨ (q.1.toInt = 9 ∧ z_fst (z_dm w k lim) 9 = none ∧ fp [(127, none, none)] m q.2)) ?_ (fun t ht => ?_)
  · refine v_for (fun x s => s.1.toInt = (x : Int) ∧ fp [(127, none, none)] m s.2 ∧ z_fst (z_dm w k lim) x = none) j0 9 hj0 (by omega) ⟨hs, fp_rf, h0⟩ ?_ ?_
    · rintro x ⟨v, e⟩ hx9 ⟨hv, hf2, hno⟩
      dsimp only at hv hf2 hno ⊢
      have efs := z_fst_n hno
      refine v_ifn (by rw [iA_lt, i_8, hv]; omega) ?_
      refine v_s2 (r_deals (X := X) (C := C) hk hv (by omega) hlim 16 [] 0 e i_0 (Nat.zero_le _) (by omega) (fun i y hy => (by cases hy)) ((hf2 12 0 78 rfl).trans h78) (fun t ht => (hf2 126 0 t rfl).trans (h126 t ht)) (fun i y hy => (by cases hy)) (fun t ht b => by rw [hf2 125 0 t rfl]; exact h125 t ht b)) ?_
      rintro z e2 ⟨hf3, hz⟩
      dsimp only at hf3 hz ⊢
      rcases hz with ⟨hz, hdl, _⟩ | ⟨ds, hz, hdl, hdk, hcl⟩
      · refine v_ifn (fun y => y hz) ?_
        refine v_l1 ?_
        exact v_il ⟨n_s3 hv (by omega), fp_tr hf2 hf3, efs.trans (z_dm_n hdl)⟩
      · refine v_ifp (by rw [hz]; decide) ?_
        exact v_ir (Or.inl ⟨x, ds, by omega, z_fst_s (efs.trans (z_dm_s hdl)) 9 (by omega), hdk, n_0L (by omega) hv, hcl, fp_tr hf2 hf3⟩)
    · rintro ⟨v, e⟩ ⟨hv, hf2, hno⟩
      dsimp only at hv hf2 hno ⊢
      refine v_ifp (by rw [iA_lt, i_8, hv]; omega) ?_
      exact v_ir (Or.inr ⟨hv, hno, hf2⟩)
  · obtain ⟨v, e⟩ := t
    dsimp only at ht ⊢
    rcases ht with ⟨many, ds, hm, h1, h2, h3, h4, h5⟩ | ⟨h1, h2, h3⟩
    · refine v_ifp (by rw [h3, iA_le, i_8, nJ_T (by omega)]; omega) ?_
      refine v_lM ?_
      rw [(h5 12 0 78 rfl).trans h78]
      refine v_s1 (P := fun r => fp [(128, none, none)] (mm_w e 12 0 94 (Int32.ofNat k)) r ∧ ∀ i x, ds[i]? = some x → r 128 0 i = Int32.ofNat x) ?_ (fun r hr => ?_)
      · refine v_for (fun j s => s.1.toInt = (j : Int) ∧ fp [(128, none, none)] (mm_w e 12 0 94 (Int32.ofNat k)) s.2 ∧ ∀ i x, i < j → ds[i]? = some x → s.2 128 0 i = Int32.ofNat x) 0 k (Nat.zero_le _) (by omega) ⟨i_0, fp_rf, fun i x hi => absurd hi (Nat.not_lt_zero i)⟩ ?_ ?_
        · rintro j ⟨y, d⟩ hj ⟨hy, hf, hd⟩
          dsimp only at hy hf hd ⊢
          have ky := n_k hy
          have iy : mm_in y 6 := v_in.mpr (by omega)
          have hdj : ds[j]? = some ds[j] := List.getElem?_eq_getElem (by omega)
          have d78 : d 12 0 78 = Int32.ofNat k := (hf 12 0 78 rfl).trans ((mw_k (by decide)).trans ((h5 12 0 78 rfl).trans h78))
          have d127 : d 127 0 j = Int32.ofNat ds[j] := (hf 127 0 j rfl).trans ((mw_g (by decide)).trans (h4 j _ hdj))
          refine v_ifn (by rw [iA_le, d78, hy, nJ_T (by omega)]; omega) ?_
          refine v_ifp iy ?_
          refine v_ifp iy ?_
          rw [ky, d127]
          refine v_lM ?_
          refine v_l1 ?_
          refine v_il ⟨n_s3 hy (by omega), fp_w rfl hf, fun i x hi hx => ?_⟩
          dsimp only
          by_cases hij : i = j
          · subst hij
            rw [hdj] at hx
            rw [mw_s, Option.some.inj hx]
          · rw [mw_k hij]
            exact hd i x (by omega) hx
        · rintro ⟨y, d⟩ ⟨hy, hf, hd⟩
          dsimp only at hy hf hd ⊢
          have d78 : d 12 0 78 = Int32.ofNat k := (hf 12 0 78 rfl).trans ((mw_k (by decide)).trans ((h5 12 0 78 rfl).trans h78))
          refine v_ifp (by rw [iA_le, d78, hy, nJ_T (by omega)]; omega) ?_
          exact v_ir ⟨hf, fun i x hx => hd i x (by have := (List.getElem?_eq_some_iff.mp hx).1; omega) hx⟩
      · refine v_so (Or.inr ⟨many, ds, h1, h2, h3, (hr.1 12 0 94 rfl).trans mw_s, hr.2, ?_⟩)
        exact fp_tr (fp_w rfl (fp_sb (by decide) h5)) (fp_sb (by decide) hr.1)
    · refine v_ifn (by rw [iA_le, i_8, h1]; omega) ?_
      exact v_so (Or.inl ⟨h2, rfl, h3⟩)
theorem o_29 : q_Sim qJ 29 := fun m a hJ hop => by
  obtain ⟨hday, hfault, hdead, hstr, htap, hlaw, hev, hrow, hinq, hfound, hlamps, hnet, htsk, hdl, halo, hshe⟩ := hJ
  obtain ⟨P, Q, W, X, C, hC, hC1, hC2, hP, hW, hX, h03, hwg, htc⟩ := z_netOf hstr hlaw hnet
  obtain ⟨k, hk6, hk1, hk2, hks⟩ := htsk
  have htsk : j_tsk m m := ⟨k, hk6, hk1, hk2, hks⟩
  have hFG : ∃ F G : Nat → Nat, ∀ t, t < k → (F t < 8 ∧ G t < 8) ∧ (m 57 0 t = Int32.ofNat (F t) ∧ m 58 0 t = Int32.ofNat (G t)) ∧ m 117 0 t = Int32.ofNat (F t) ∧ m 118 0 t = Int32.ofNat (G t) := by
    refine ⟨fun t => (m 57 0 t).toNatClampNeg, fun t => (m 58 0 t).toNatClampNeg, fun t ht => ?_⟩
    obtain ⟨e1, e2, ⟨x, hx, ex⟩, ⟨y, hy, ey⟩⟩ := hks t ht
    dsimp only
    rw [← e1, ← e2, ex, ey, nJ_N (by omega), nJ_N (by omega)]
    exact ⟨⟨hx, hy⟩, ⟨rfl, rfl⟩, rfl, rfl⟩
  obtain ⟨F, G, hF⟩ := hFG
  have hlim : ∀ w : Nat → List Nat, ∀ t, t < k → z_lc X (w t) C = Int32.ofNat (z_lc X (w t) C).toInt.toNat ∧ (z_lc X (w t) C).toInt.toNat ≤ 8 := fun w t _ => by
    have := z_lc_b (p := w t) (fun i hi => (hX i hi).1) C (Nat.le_refl _)
    exact ⟨n_of (by omega), by omega⟩
  have hwt : ∀ t p, z_tw P Q W C F G t = some p → (z_tw P Q W C F G t).getD [] = p := fun t p h => by
    rw [h]
    rfl
  generalize hwd : (fun t => (z_tw P Q W C F G t).getD []) = w
  have hw : ∀ t p, z_tw P Q W C F G t = some p → w t = p := fun t p h => by
    rw [← hwd]
    exact hwt t p h
  have hl := hlim w
  generalize hld : (fun t => (z_lc X (w t) C).toInt.toNat) = lim
  have hl2 : ∀ t, t < k → z_lc X (w t) C = Int32.ofNat (lim t) ∧ lim t ≤ 8 := fun t ht => by
    rw [← hld]
    exact hl t ht
  have eCx : vW (f_X11_deal m) (fun q => ∃ c1, fp [(23, none, none), (24, none, none), (56, none, none)] m c1 ∧ (((∃ t, t < k ∧ z_tw P Q W C F G t = none) ∧ q.1 = -1 ∧ fp zDC c1 q.2) ∨ ((∀ t, t < k → ¬ z_tw P Q W C F G t = none) ∧ z_fst (z_dm w k lim) 9 = none ∧ q.1 = -1 ∧ fp zDC c1 q.2) ∨ ((∀ t, t < k → ¬ z_tw P Q W C F G t = none) ∧ ∃ many ds, z_fst (z_dm w k lim) 9 = some (many, ds) ∧ ds.length = k ∧ q.1 = Int32.ofNat many ∧ q.2 9 0 18 = Int32.ofNat k ∧ (∀ i x, ds[i]? = some x → q.2 61 0 i = Int32.ofNat x) ∧ fp ((9, none, some 18) :: (61, none, none) :: zDC) c1 q.2))) := by
    unfold f_X11_deal
    refine v_ifn h03 ?_
    refine v_lN ?_
    refine v_s1 hwg (fun c1 hc1 => ?_)
    refine v_s2 (c_dealC (X := X) (F := F) (G := G) hC hk6 hP hW hc1.2 ((hc1.1 9 0 8 rfl).trans hk1) (fun t ht => ⟨(hF t ht).1, (hc1.1 57 0 t rfl).trans (hF t ht).2.1.1, (hc1.1 58 0 t rfl).trans (hF t ht).2.1.2⟩) (fun i hi => (hc1.1 55 0 i rfl).trans (hX i hi).2.1) hw hl2) (fun x c hc => ?_)
    exact v_so ⟨c1, hc1.1, hc⟩
  have eMx : vW (f_X12_deal m) (fun q => ((∃ t, t < k ∧ z_tw P Q W C F G t = none) ∧ q.1 = -1 ∧ fp ((12, none, some 3) :: zTW) m q.2) ∨ ((∀ t, t < k → ¬ z_tw P Q W C F G t = none) ∧ ((z_fst (z_dm w k lim) 9 = none ∧ q.1 = -1 ∧ fp ((12, none, some 3) :: (127, none, none) :: zTW) m q.2) ∨ ∃ many ds, z_fst (z_dm w k lim) 9 = some (many, ds) ∧ ds.length = k ∧ q.1 = Int32.ofNat many ∧ q.2 12 0 94 = Int32.ofNat k ∧ (∀ i x, ds[i]? = some x → q.2 128 0 i = Int32.ofNat x) ∧ fp ((12, none, some 3) :: (127, none, none) :: (12, none, some 94) :: (128, none, none) :: zTW) m q.2))) := by
    unfold f_X12_deal
    refine v_lM ?_
    refine v_s1 (r_ttw (X := X) (F := F) (G := G) hC hk6 hP hW ((fp_30 12 0 78 rfl).trans hk2) (fun t ht => ⟨(hF t ht).1, (fp_30 117 0 t rfl).trans (hF t ht).2.2.1, (fp_30 118 0 t rfl).trans (hF t ht).2.2.2⟩) (fun i hi => (fp_30 115 0 i rfl).trans (hX i hi).2.2) (htc _ fp_30)) (fun c1 hc1 => ?_)
    obtain ⟨hf1, hnt1, htw⟩ := hc1
    have c78 : c1 12 0 78 = Int32.ofNat k := (hf1 12 0 78 rfl).trans ((fp_30 12 0 78 rfl).trans hk2)
    have hfa : fp ((12, none, some 3) :: zTW) m c1 := fp_tr (fp_sb (by decide) fp_30) (fp_sb (by decide) hf1)
    refine v_s1 (P := fun t => match t with
      | .inl _ => ∃ t, t < k ∧ z_tw P Q W C F G t = none
      | .inr _ => ∀ t, t < k → ¬ z_tw P Q W C F G t = none) ?_ (fun t ht => ?_)
    · refine v_for (fun t s => s.toInt = (t : Int) ∧ ∀ x, x < t → ¬ z_tw P Q W C F G x = none) 0 k (Nat.zero_le _) (by omega) ⟨i_0, fun x hx => absurd hx (Nat.not_lt_zero x)⟩ ?_ ?_
      · rintro t v ht ⟨hv, hx⟩
        have kv := n_k hv
        have h1 := htw t ht
        refine v_ifn (by rw [iA_le, c78, hv, nJ_T (by omega)]; omega) ?_
        refine v_ifp (v_in.mpr (by omega)) ?_
        rw [kv]
        cases hz : z_tw P Q W C F G t with
        | none =>
          rw [hz] at h1
          refine v_ifn (fun z => z h1) ?_
          exact v_ir ⟨t, ht, hz⟩
        | some p =>
          rw [hz] at h1
          refine v_ifp (z_btM h1.2.1 h1.1.2) ?_
          refine v_l1 ?_
          refine v_il ⟨n_s3 hv (by omega), fun x hxt => ?_⟩
          by_cases hxe : x = t
          · rw [hxe, hz]
            exact fun z => by cases z
          · exact hx x (by omega)
      · rintro v ⟨hv, hx⟩
        refine v_ifp (by rw [iA_le, c78, hv, nJ_T (by omega)]; omega) ?_
        exact v_ir hx
    · cases t with
      | inl z => exact v_so (Or.inl ⟨ht, rfl, hfa⟩)
      | inr z =>
        have hne : ∀ t, t < k → ¬ z_tw P Q W C F G t = none := ht
        have hall : ∀ t, t < k → c1 126 0 t = z_lc X (w t) C ∧ ∀ b, z_bt (c1 125 0 t) b = decide (b ∈ w t) := fun t ht2 => by
          have h1 := htw t ht2
          cases hz : z_tw P Q W C F G t with
          | none => exact absurd hz (hne t ht2)
          | some p =>
            rw [hz] at h1
            rw [hw t p hz]
            exact ⟨h1.2.2, h1.2.1⟩
        have fin : ∀ o : Option (Int32 × mm_M), vW o (fun q => (z_fst (z_dm w k lim) 9 = none ∧ q.1 = -1 ∧ fp [(127, none, none)] c1 q.2) ∨ ∃ many ds, z_fst (z_dm w k lim) 9 = some (many, ds) ∧ ds.length = k ∧ q.1 = Int32.ofNat many ∧ q.2 12 0 94 = Int32.ofNat k ∧ (∀ i x, ds[i]? = some x → q.2 128 0 i = Int32.ofNat x) ∧ fp [(127, none, none), (12, none, some 94), (128, none, none)] c1 q.2) → vW o (fun q => ((∃ t, t < k ∧ z_tw P Q W C F G t = none) ∧ q.1 = -1 ∧ fp ((12, none, some 3) :: zTW) m q.2) ∨ ((∀ t, t < k → ¬ z_tw P Q W C F G t = none) ∧ ((z_fst (z_dm w k lim) 9 = none ∧ q.1 = -1 ∧ fp ((12, none, some 3) :: (127, none, none) :: zTW) m q.2) ∨ ∃ many ds, z_fst (z_dm w k lim) 9 = some (many, ds) ∧ ds.length = k ∧ q.1 = Int32.ofNat many ∧ q.2 12 0 94 = Int32.ofNat k ∧ (∀ i x, ds[i]? = some x → q.2 128 0 i = Int32.ofNat x) ∧ fp ((12, none, some 3) :: (127, none, none) :: (12, none, some 94) :: (128, none, none) :: zTW) m q.2))) := fun o ho => v_mono ho (fun q hq => Or.inr ⟨hne, by
          rcases hq with ⟨e1, e2, e3⟩ | ⟨many, ds, e1, e2, e3, e4, e5, e6⟩
          · exact Or.inl ⟨e1, e2, fp_tr (fp_sb (by decide) hfa) (fp_sb (by decide) e3)⟩
          · exact Or.inr ⟨many, ds, e1, e2, e3, e4, e5, fp_tr (fp_sb (by decide) hfa) (fp_sb (by decide) e6)⟩⟩)
        by_cases hk0 : k = 0
        · refine v_ifn (fun z => z (by rw [c78, hk0]; rfl)) ?_
          exact fin _ (r_dlast (X := X) (C := C) (j0 := 0) hk6 i_0 (by omega) rfl c78 hl2 (fun t ht => (hall t ht).1) (fun t ht => (hall t ht).2))
        · refine v_ifp (by rw [c78]; exact n_ne (by rw [nJ_T (by omega), i_0]; omega)) ?_
          have h1f : z_fst (z_dm w k lim) 1 = none := by
            have e0 : z_dl w k 0 lim 16 [] = none := by
              show (if ([] : List Nat).length = k then some [] else z_fst _ (min 0 _)) = none
              rw [if_neg (show ¬ ([] : List Nat).length = k from fun z => hk0 z.symm), Nat.zero_min]
              rfl
            have e1 := z_fst_n (f := z_dm w k lim) (j := 0) rfl
            rw [e1, z_dm_n e0]
          exact fin _ (r_dlast (X := X) (C := C) (j0 := 1) hk6 i_1 (by omega) h1f c78 hl2 (fun t ht => (hall t ht).1) (fun t ht => (hall t ht).2))
  obtain ⟨⟨x, c⟩, eC, c1, hf1, hcs⟩ := eCx
  obtain ⟨⟨y, mM⟩, eM, hms⟩ := eMx
  dsimp only at hcs hms
  have hxy : y = x ∧ j_dl c mM := by
    rcases hcs with ⟨⟨t, ht, hz⟩, hx, hf2⟩ | ⟨hne, hfs, hx, hf2⟩ | ⟨hne, many, ds, hfs, hdk, hx, h18, h61, hf2⟩
    · rcases hms with ⟨_, hy, hM⟩ | ⟨hne, _⟩
      · refine ⟨by rw [hx, hy], j_dl_kp (fp_tr (fp_sb (L2 := [(23, none, none), (24, none, none), (56, none, none), (10, none, none), (62, none, none), (59, none, none), (60, none, none)]) (by decide) hf1) (fp_sb (by decide) hf2)) hM (by decide) (by decide) hdl⟩
      · exact absurd hz (hne t ht)
    · rcases hms with ⟨⟨t, ht, hz⟩, _⟩ | ⟨_, ⟨_, hy, hM⟩ | ⟨_, _, hfs2, _⟩⟩
      · exact absurd hz (hne t ht)
      · refine ⟨by rw [hx, hy], j_dl_kp (fp_tr (fp_sb (L2 := [(23, none, none), (24, none, none), (56, none, none), (10, none, none), (62, none, none), (59, none, none), (60, none, none)]) (by decide) hf1) (fp_sb (by decide) hf2)) hM (by decide) (by decide) hdl⟩
      · rw [hfs] at hfs2
        cases hfs2
    · rcases hms with ⟨⟨t, ht, hz⟩, _⟩ | ⟨_, ⟨hfs2, _⟩ | ⟨many2, ds2, hfs2, _, hy, h94, h128, _⟩⟩
      · exact absurd hz (hne t ht)
      · rw [hfs] at hfs2
        cases hfs2
      · rw [hfs] at hfs2
        cases hfs2
        refine ⟨by rw [hx, hy], h18.trans h94.symm, fun i hi => ?_⟩
        rw [h18, nJ_T (by omega)] at hi
        have hdi : ds[i]? = some ds[i] := List.getElem?_eq_getElem (by omega)
        rw [h61 i _ hdi, h128 i _ hdi]
  have hC : fp [(23, none, none), (24, none, none), (56, none, none), (10, some 0, none), (62, some 0, none), (10, some 1, none), (62, some 1, none), (59, none, none), (60, none, none), (9, none, some 18), (61, none, none)] m c := by
    rcases hcs with ⟨_, _, hf2⟩ | ⟨_, _, _, hf2⟩ | ⟨_, _, _, _, _, _, _, _, hf2⟩
    · exact fp_tr (fp_sb (by decide) hf1) (fp_sb (by decide) hf2)
    · exact fp_tr (fp_sb (by decide) hf1) (fp_sb (by decide) hf2)
    · exact fp_tr (fp_sb (by decide) hf1) (fp_sb (by decide) hf2)
  have hM : fp [(12, none, some 3), (84, none, none), (85, none, none), (116, none, none), (12, none, some 79), (119, none, none), (120, none, none), (121, none, none), (122, none, none), (123, none, none), (125, none, none), (126, none, none), (127, none, none), (12, none, some 94), (128, none, none)] m mM := by
    rcases hms with ⟨_, _, hM⟩ | ⟨_, ⟨_, _, hM⟩ | ⟨_, _, _, _, _, _, _, hM⟩⟩
    · exact fp_sb (by decide) hM
    · exact fp_sb (by decide) hM
    · exact fp_sb (by decide) hM
  obtain ⟨hxy, hj⟩ := hxy
  subst hxy
  exact ⟨_, _, t_op29 hop eC eM, ⟨j_day_kp hC hM (by decide) (by decide) hday, j_fault_kp hC hM (by decide) (by decide) hfault, j_dead_kp hC hM (by decide) (by decide) hdead, j_str_kp hC hM (by decide) (by decide) hstr, j_tap_kp hC hM (by decide) (by decide) htap, j_law_kp hC hM (by decide) (by decide) hlaw, j_ev_kp hC hM (by decide) (by decide) hev, j_row_kp hC hM (by decide) (by decide) hrow, j_inq_kp hC hM (by decide) (by decide) hinq, j_found_kp hC hM (by decide) (by decide) hfound, j_lamps_kp hC hM (by decide) (by decide) hlamps, j_net_kp hC hM (by decide) (by decide) hnet, j_tsk_kp hC hM (by decide) (by decide) htsk, hj, j_alo_kp hC hM (by decide) (by decide) halo, j_she_kp hC hM (by decide) (by decide) hshe⟩⟩
