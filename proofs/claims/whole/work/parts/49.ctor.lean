section CCT
variable {p : Program} {l : Launch} {e : Env} {R : Room} {s : State} {mid : MethodId} {args : Array Value} {below : List Frame} {meth : Method} {c : Code} {Q : State → Prop} {D : va_G} {tx : Nat → Nat} {cy : Nat → ClassId} {z0 : Nat} {ad0 : Nat → Nat} {n0 mc ms k kk nn pc : Nat} {L : List (Option cc_V)} {st : List cc_V} {hp : cc_H}
theorem c_newq {idx x N : Nat} {n : Int32} {CN : String} (C : cc_Cx p s mid args meth c D tx cy z0 k) (hR : mc ≤ R.cells ∧ ms ≤ R.slots) (hd : decode (cc_by k) pc = .ok (.anewarray idx, 3)) (ht : (mm_tys cy)[x]? = some (cy x, .object CN)) (hl : Cond.classLink (cc_rn k) idx CN ∈ lw_tbl) (hov : va_AO CN s) (h0 : 0 ≤ n) (hN : n.toNatClampNeg = N) (hNb : N ≤ 10000) (hG : cc_G p l e R s mid args below meth c Q D tx cy z0 ad0 n0 mc ms k kk nn (pc + 3) L (.inr (some (.inl hp.length)) :: st) (hp ++ [.inr (x, N, .inr (List.replicate N none))])) : cc_G p l e R s mid args below meth c Q D tx cy z0 ad0 n0 mc ms k (1 + kk) (N + nn) pc L (.inl n :: st) hp := by
  intro ad H locs cells slots ls stk hB hS hls hs hc1 hc2
  match stk, hs with
  | _ :: stk, ⟨⟨_, rfl⟩, hs⟩ =>
    refine va_newq C.1 C.2.1 C.2.2.2.1 (C.2.2.2.2.1 _ hl rfl) hov C.2.2.2.2.2.1.1 hB.2.2.2.1 hB.2.2.2.2 hS (fun q hq => Nat.le_trans C.2.2.2.2.2.2.2.2.1 hq) (Int32.not_lt.mpr h0) hN (by omega) (by omega) (by omega) hd (fun q cA H1 hK1 hP hD hS1 => ?_)
    have e := cc_same hK1 ht
    subst e
    have hf : ∀ z : Nat → Nat, (fun j => ((List.replicate N (none : Option (Nat ⊕ Nat))).getD j none).map (cc_a z tx)) = fun _ => none := fun z => by
      funext j
      rw [List.getD_eq_getElem?_getD, List.getElem?_replicate]
      split <;> rfl
    have heb : cc_eb (hp.length + 1) (.inr (x, N, .inr (List.replicate N none))) = true := List.all_eq_true.mpr (fun v hv => by rw [(List.mem_replicate.mp hv).2]; rfl)
    have hB1 := hB.push heb (by rw [cc_e_ref, hf]) hP hD
    have hln : (hp ++ [(.inr (x, N, .inr (List.replicate N none)) : cc_E)]).length = hp.length + 1 := by rw [List.length_append]; rfl
    refine hG _ H1 locs (cells + 1) (slots + N) ls _ hB1 hS1 ?_ ⟨⟨?_, ?_⟩, ?_⟩ (by omega) (by omega)
    · rw [hln]; exact hls.mono (by omega) cc_up_lt
    · rw [hln]; exact Nat.ble_eq_true_of_le (Nat.le_refl _)
    · show Value.ref q = Value.ref (cc_up ad hp.length q hp.length)
      rw [cc_up_self]
    · rw [hln]; exact cc_sr.mono (by omega) cc_up_lt _ _ hs
/-- a row of rows -/
theorem c_mna {idx N K : Nat} {n m : Int32} (C : cc_Cx p s mid args meth c D tx cy z0 k) (hR : mc ≤ R.cells ∧ ms ≤ R.slots) (hd : decode (cc_by k) pc = .ok (.multianewarray idx 2, 4)) (hl : Cond.classLink (cc_rn k) idx "[[I" ∈ lw_tbl) (h0 : 0 ≤ n) (hN : n.toNatClampNeg = N) (hNb : N ≤ 100) (h1 : 0 ≤ m) (hM : m.toNatClampNeg = K) (hKb : K ≤ 100)
    (hG : cc_G p l e R s mid args below meth c Q D tx cy z0 ad0 n0 mc ms k kk nn (pc + 4) L (.inr (some (.inl hp.length)) :: st) (hp ++ (.inr (7, N, .inr ((List.range N).map (fun i => some (.inl (hp.length + 1 + i))))) :: List.replicate N (.inr (0, K, .inl []))))) : cc_G p l e R s mid args below meth c Q D tx cy z0 ad0 n0 mc ms k ((1 + N) + kk) ((N + N * K) + nn) pc L (.inl m :: .inl n :: st) hp := by
  intro ad H locs cells slots ls stk hB hS hls hs hc1 hc2
  match stk, hs with
  | _ :: _ :: stk, ⟨⟨_, rfl⟩, ⟨_, rfl⟩, hs⟩ =>
    have hcy : s.vm.findClass (FieldType.array .int).toString = some (cy 0) := (C.2.2.2.2.2.1.1.2 0 (cy 0, .int) rfl).2
    have hP0 : va_P D vwCl (cc_ws ad tx cy hp ++ va_pl [] (fun _ => (.inr (0, []) : va_E))) H := by
      show va_P D vwCl (cc_ws ad tx cy hp ++ []) H
      rw [List.append_nil]; exact hB.2.2.2.1
    have hD0 : va_D (fun q => z0 ≤ q) (cc_ws ad tx cy hp ++ va_pl [] (fun _ => (.inr (0, []) : va_E))) := by
      show va_D (fun q => z0 ≤ q) (cc_ws ad tx cy hp ++ [])
      rw [List.append_nil]; exact hB.2.2.2.2
    refine va_mna (own := cc_rn k) (ty := .int) (cy := cy 0) C.1 C.2.1 C.2.2.2.1 (C.2.2.2.2.1 _ hl rfl) C.2.2.2.2.2.2.2.2.2.2.2.2.2 (C.2.2.2.2.1 _ cc_waI rfl) hcy C.2.2.2.2.2.1.1 hP0 hD0 hS (fun q hq => Nat.le_trans C.2.2.2.2.2.2.2.2.1 hq) (Int32.not_lt.mpr h0) (Int32.not_lt.mpr h1) hN hM (by omega) (show K * 4 ≤ _ by omega) (by omega) rfl rfl (by omega) (by omega) (z := (K, .inl (fun _ => 0))) (fun cA => by show _ = arrV cA K (fun _ => Value.int 0); rw [← arrV_new]; rfl) hd (fun q r cA H1 hinj _ hK1 hP hD hS1 => ?_)
    have e := cc_same (i := 7) hK1 rfl
    subst e
    -- the addresses beside the old ones
    obtain ⟨ad', had⟩ : ∃ ad' : Nat → Nat, ad' = fun i => if i < hp.length then ad i else if i = hp.length then q else r (i - (hp.length + 1)) := ⟨_, rfl⟩
    have hlt : ∀ i, i < hp.length → ad' i = ad i := fun i hi => by rw [had]; exact if_pos hi
    have hq : ad' hp.length = q := by rw [had]; dsimp only; rw [if_neg (Nat.lt_irrefl _), if_pos rfl]
    have hr : ∀ i, ad' (hp.length + 1 + i) = r i := fun i => by
      rw [had]
      dsimp only
      rw [if_neg (by omega), if_neg (by omega)]
      congr 1
      omega
    have hes : (((.inr (7, N, .inr ((List.range N).map (fun i => some (.inl (hp.length + 1 + i))))) : cc_E) :: List.replicate N (.inr (0, K, .inl [])))).mapIdx (fun j e => (ad' (hp.length + j), cc_e ad' tx cy e)) = [(q, (.inl (cy 7, N, .inr (.inr (.inr (.inr (fun i => if i < N then some (r i) else none))))) : va_E))] ++ va_pl ((List.range N).map r) (vr_up (fun _ => (.inr (0, []) : va_E)) ((List.range N).map r) (.inl (cy 0, (K, .inl (fun _ => 0))))) := by
      rw [List.mapIdx_cons]
      show (ad' (hp.length + 0), _) :: _ = (q, _) :: _
      rw [Nat.add_zero, hq]
      congr 1
      · congr 1
        rw [cc_e_ref]
        refine congrArg (fun z => (Sum.inl (cy 7, N, Sum.inr (Sum.inr (Sum.inr (Sum.inr z)))) : va_E)) ?_
        funext j
        rw [List.getD_eq_getElem?_getD, List.getElem?_map]
        by_cases hj : j < N
        · rw [List.getElem?_range hj, if_pos hj]
          show some (ad' (hp.length + 1 + j)) = some (r j)
          rw [hr]
        · rw [List.getElem?_eq_none (by rw [List.length_range]; omega), if_neg hj]
          rfl
      · unfold va_pl
        apply List.ext_getElem?
        intro j
        rw [List.getElem?_mapIdx]
        refine Eq.trans ?_ (show (((List.range N).map r).map (fun a => (a, vr_up (fun _ => (.inr (0, []) : va_E)) ((List.range N).map r) (.inl (cy 0, (K, .inl (fun _ => 0)))) a)))[j]? = _ from rfl)
        rw [List.getElem?_map, List.getElem?_map]
        by_cases hj : j < N
        · rw [List.getElem?_replicate, if_pos hj, List.getElem?_range hj]
          show some (ad' (hp.length + (j + 1)), _) = some (r j, _)
          rw [show hp.length + (j + 1) = hp.length + 1 + j by omega, hr]
          congr 2
          unfold vr_up
          rw [if_pos (List.mem_map.mpr ⟨j, List.mem_range.mpr hj, rfl⟩)]
          rfl
        · rw [List.getElem?_replicate, if_neg hj, List.getElem?_eq_none (by rw [List.length_range]; omega)]
          rfl
    have hws : cc_ws ad' tx cy (hp ++ ((.inr (7, N, .inr ((List.range N).map (fun i => some (.inl (hp.length + 1 + i))))) : cc_E) :: List.replicate N (.inr (0, K, .inl [])))) = (cc_ws ad tx cy hp ++ [(q, (.inl (cy 7, N, .inr (.inr (.inr (.inr (fun i => if i < N then some (r i) else none))))) : va_E))]) ++ va_pl ([] ++ (List.range N).map r) (vr_up (fun _ => (.inr (0, []) : va_E)) ((List.range N).map r) (.inl (cy 0, (K, .inl (fun _ => 0))))) := by
      rw [cc_ws_app hB.2.2.1 hlt, hes, List.append_assoc]
      rfl
    have hln : (hp ++ ((.inr (7, N, .inr ((List.range N).map (fun i => some (.inl (hp.length + 1 + i))))) : cc_E) :: List.replicate N (.inr (0, K, .inl [])))).length = hp.length + 1 + N := by
      rw [List.length_append, List.length_cons, List.length_replicate]
      omega
    have hB1 : cc_B D tx cy z0 ad0 n0 (hp ++ ((.inr (7, N, .inr ((List.range N).map (fun i => some (.inl (hp.length + 1 + i))))) : cc_E) :: List.replicate N (.inr (0, K, .inl [])))) ad' H1 := by
      refine ⟨fun i hi => ?_, by rw [hln]; have := hB.lenP; omega, cc_wf_app hB.2.2.1 (fun z hz => ?_), by rw [hws]; exact hP, by rw [hws]; exact hD⟩
      · have := hB.lenP
        rw [hlt i (by omega)]
        exact hB.1 i hi
      · rw [hln]
        rcases List.mem_cons.mp hz with rfl | hz
        · refine List.all_eq_true.mpr (fun v hv => ?_)
          obtain ⟨i, hi, rfl⟩ := List.mem_map.mp hv
          have hi := List.mem_range.mp hi
          exact Nat.ble_eq_true_of_le (by omega)
        · rw [(List.mem_replicate.mp hz).2]
          rfl
    refine hG ad' H1 locs (cells + 1 + N) (slots + N + N * K) ls _ hB1 hS1 ?_ ⟨⟨?_, ?_⟩, ?_⟩ (by omega) (by omega)
    · rw [hln]; exact hls.mono (by omega) hlt
    · rw [hln]; exact Nat.ble_eq_true_of_le (show hp.length + 1 ≤ _ by omega)
    · show Value.ref q = Value.ref (ad' hp.length)
      rw [hq]
    · rw [hln]; exact cc_sr.mono (by omega) hlt _ _ hs
theorem cc_ref_in {ad : Nat → Nat} {n i : Nat} {w : Value} (h : cc_vr ad tx n (.inr (some (.inl i))) w) : w = .ref (ad i) := h.2
theorem c_put {idx i x y : Nat} {a : cc_V} {fs : List cc_V} (C : cc_Cx p s mid args meth c D tx cy z0 k) (hd : decode (cc_by k) pc = .ok (.putfield idx, 3)) (hx : x < 13) (hxk : x = k) (hfl : cc_flk k idx x y) (hot : cc_okt x y = true) (hi : hp[i]? = some (.inl (x, fs))) (hy : y < fs.length) (hty : cc_tyb x y a = true) (hG : cc_G p l e R s mid args below meth c Q D tx cy z0 ad0 n0 mc ms k kk nn (pc + 3) L st (hp.set i (.inl (x, fs.set y a)))) : cc_G p l e R s mid args below meth c Q D tx cy z0 ad0 n0 mc ms k kk nn pc L (a :: .inr (some (.inl i)) :: st) hp := by
  intro ad H locs cells slots ls stk hB hS hls hs hc1 hc2
  match stk, hs with
  | w :: z :: stk, ⟨hw, hz, hs⟩ =>
    have hz := cc_ref_in hz
    subst hz
    obtain ⟨hwv, rfl⟩ := hw
    obtain ⟨C9, T, N, ty0, h1, h2, h3, h4, h5, h6, h7⟩ := cc_cls_in hx
    obtain ⟨C8, T8, N8, g1, g2, g3, g4⟩ := hfl
    have e9 : (C8, T8, N8) = (C9, T, N) := Option.some.inj (g1.symm.trans h1)
    cases e9
    have hat := cc_ws_at (ad := ad) (tx := tx) (cy := cy) hi
    have hdcl : (T y).1 = cc_rn k := by rw [g3, h2, hxk]
    -- the value is of the field's type
    have hnf : narrow (ty0 y) (cc_v ad tx a) = cc_v ad tx a ∧ fits (ty0 y) (cc_v ad tx a) = true := by
      unfold cc_okt at hot
      rw [h1] at hot
      dsimp only at hot
      rw [h4 y g2] at hot
      unfold cc_tyb at hty
      cases hdf : (cc_df x)[y]? with
      | none => rw [hdf] at hty; cases hty
      | some d9 =>
        rw [hdf] at hot hty
        generalize ty0 y = t9 at hot ⊢
        rcases d9 with d9 | d9
        · rcases a with a | a
          · cases t9 <;> first | exact ⟨rfl, rfl⟩ | (cases hot; done)
          · cases hty
        · rcases a with a | _ | a
          · cases hty
          · cases t9 <;> first | exact ⟨rfl, rfl⟩ | (cases hot; done)
          · cases t9 <;> first | exact ⟨rfl, rfl⟩ | (cases hot; done)
    have hset : cc_e ad tx cy (.inl (x, fs.set y a)) = .inr (x, (fs.map (cc_v ad tx)).set y (cc_v ad tx a)) := by
      rw [cc_e_obj, List.map_set]
    have heb : cc_eb hp.length (.inl (x, fs.set y a)) = true := by
      refine List.all_eq_true.mpr (fun v hv => ?_)
      rcases List.mem_or_eq_of_mem_set hv with h | h
      · exact List.all_eq_true.mp (hB.2.2.1 _ (List.mem_of_getElem? hi)) v h
      · rw [h]; exact hwv
    have kk9 : ∀ (H1 : Heap) (locs1 : List Loc), va_P D vwCl ((cc_ws ad tx cy hp).set i (ad i, .inr (x, (fs.map (cc_v ad tx)).set y (cc_v ad tx a)))) H1 → va_D (fun q => z0 ≤ q) ((cc_ws ad tx cy hp).set i (ad i, .inr (x, (fs.map (cc_v ad tx)).set y (cc_v ad tx a)))) → va_S (fun q => z0 ≤ q) s.heap H1 locs1 → W p l e R s mid args below meth c H1 locs1 cells slots Q (F0 mid (pc + 3) ls stk) := by
      intro H1 locs1 hP1 hD1 hS1
      rw [← hset] at hP1 hD1
      have hB1 := hB.put hi heb hP1 hD1
      refine hG ad H1 locs1 cells slots ls stk hB1 hS1 ?_ ?_ hc1 hc2
      · rw [List.length_set]; exact hls
      · rw [List.length_set]; exact hs
    have hyl : y < (fs.map (cc_v ad tx)).length := by rw [List.length_map]; exact hy
    cases hfin : (T y).2.2.2 with
    | true => exact va_putF C.1 C.2.1 (cc_ts C) h6 ty0 h4 h5 C.2.2.2.1 C.2.2.2.2.2.1.1 hB.2.2.2.1 hB.2.2.2.2 hS i hat h1 y g2 (C.2.2.2.2.1 _ g4 rfl) (fun z hz => by rw [← g3]; exact hz) hfin (C.2.2.2.2.2.2.2.2.2.1 (by omega)) hdcl (h4 y g2) hnf.1 hnf.2 hyl hd kk9
    | false => exact va_put C.1 C.2.1 (cc_ts C) h6 ty0 h4 h5 C.2.2.2.1 C.2.2.2.2.2.1.1 hB.2.2.2.1 hB.2.2.2.2 hS i hat h1 y g2 (C.2.2.2.2.1 _ g4 rfl) (fun z hz => by rw [← g3]; exact hz) hfin (h4 y g2) hnf.1 hnf.2 hyl hd kk9
theorem c_get {idx i x y : Nat} {a : cc_V} {fs : List cc_V} (C : cc_Cx p s mid args meth c D tx cy z0 k) (hd : decode (cc_by k) pc = .ok (.getfield idx, 3)) (hx : x < 13) (hfl : cc_flk k idx x y) (hi : hp[i]? = some (.inl (x, fs))) (hy : fs[y]? = some a) (hG : cc_G p l e R s mid args below meth c Q D tx cy z0 ad0 n0 mc ms k kk nn (pc + 3) L (a :: st) hp) : cc_G p l e R s mid args below meth c Q D tx cy z0 ad0 n0 mc ms k kk nn pc L (.inr (some (.inl i)) :: st) hp := by
  intro ad H locs cells slots ls stk hB hS hls hs hc1 hc2
  match stk, hs with
  | z :: stk, ⟨hz, hs⟩ =>
    have hz := cc_ref_in hz
    subst hz
    obtain ⟨C9, T, N, ty0, h1, h2, h3, h4, h5, h6, h7⟩ := cc_cls_in hx
    obtain ⟨C8, T8, N8, g1, g2, g3, g4⟩ := hfl
    have e9 : (C8, T8, N8) = (C9, T, N) := Option.some.inj (g1.symm.trans h1)
    cases e9
    have hat := cc_ws_at (ad := ad) (tx := tx) (cy := cy) hi
    have hv : (fs.map (cc_v ad tx))[y]? = some (cc_v ad tx a) := by rw [List.getElem?_map, hy]; rfl
    exact va_get C.1 C.2.1 (cc_ts C) h6 C.2.2.2.1 C.2.2.2.2.2.1.1 hB.2.2.2.1 i hat h1 y g2 (C.2.2.2.2.1 _ g4 rfl) (fun z hz => by rw [← g3]; exact hz) hv hd (hG ad H locs cells slots ls _ hB hS hls ⟨⟨List.all_eq_true.mp (hB.2.2.1 _ (List.mem_of_getElem? hi)) a (List.mem_of_getElem? hy), rfl⟩, hs⟩ hc1 hc2)
theorem c_iast {i n : Nat} {a j : Int32} {f : List (Nat × Int32)} (C : cc_Cx p s mid args meth c D tx cy z0 k) (hd : decode (cc_by k) pc = .ok (.iastore, 1)) (hi : hp[i]? = some (.inr (0, n, .inl f))) (hj : 0 ≤ j ∧ j.toNatClampNeg < n) (hG : cc_G p l e R s mid args below meth c Q D tx cy z0 ad0 n0 mc ms k kk nn (pc + 1) L st (hp.set i (.inr (0, n, .inl ((j.toNatClampNeg, a) :: f))))) : cc_G p l e R s mid args below meth c Q D tx cy z0 ad0 n0 mc ms k kk nn pc L (.inl a :: .inl j :: .inr (some (.inl i)) :: st) hp := by
  intro ad H locs cells slots ls stk hB hS hls hs hc1 hc2
  match stk, hs with
  | _ :: _ :: z :: stk, ⟨⟨_, rfl⟩, ⟨_, rfl⟩, hz, hs⟩ =>
    have hz := cc_ref_in hz
    subst hz
    have hat := cc_ws_at (ad := ad) (tx := tx) (cy := cy) hi
    rw [cc_e_int (by decide)] at hat
    refine va_iast C.1 C.2.1 C.2.2.2.2.2.1.1 hB.2.2.2.1 hB.2.2.2.2 hS i 0 hat rfl (cc_in hj) hd (fun H1 locs1 hP1 hD1 hS1 => ?_)
    have hB1 := hB.put (e := .inr (0, n, .inl ((j.toNatClampNeg, a) :: f))) hi rfl (by rw [cc_e_int (by decide)]; exact hP1) (by rw [cc_e_int (by decide)]; exact hD1)
    refine hG ad H1 locs1 cells slots ls stk hB1 hS1 ?_ ?_ hc1 hc2
    · rw [List.length_set]; exact hls
    · rw [List.length_set]; exact hs
theorem c_alen {i n : Nat} {f : List (Nat × Int32)} (C : cc_Cx p s mid args meth c D tx cy z0 k) (hd : decode (cc_by k) pc = .ok (.arraylength, 1)) (hi : hp[i]? = some (.inr (0, n, .inl f))) (hG : cc_G p l e R s mid args below meth c Q D tx cy z0 ad0 n0 mc ms k kk nn (pc + 1) L (.inl (Int32.ofNat n) :: st) hp) : cc_G p l e R s mid args below meth c Q D tx cy z0 ad0 n0 mc ms k kk nn pc L (.inr (some (.inl i)) :: st) hp := by
  intro ad H locs cells slots ls stk hB hS hls hs hc1 hc2
  match stk, hs with
  | z :: stk, ⟨hz, hs⟩ =>
    have hz := cc_ref_in hz
    subst hz
    have hat := cc_ws_at (ad := ad) (tx := tx) (cy := cy) hi
    rw [cc_e_int (by decide)] at hat
    exact va_alen C.1 C.2.1 C.2.2.2.2.2.1.1 hB.2.2.2.1 i 0 hat rfl rfl hd (hG ad H locs cells slots ls _ hB hS hls ⟨⟨rfl, rfl⟩, hs⟩ hc1 hc2)
theorem c_aast {i n kd : Nat} {r : Nat ⊕ Nat} {j : Int32} {lr : List (Option (Nat ⊕ Nat))} (C : cc_Cx p s mid args meth c D tx cy z0 k) (hd : decode (cc_by k) pc = .ok (.aastore, 1)) (hi : hp[i]? = some (.inr (kd, n, .inr lr))) (hj : 0 ≤ j ∧ j.toNatClampNeg < n) (hsto : cc_sto hp kd r = true) (hlen : lr.length = n) (hG : cc_G p l e R s mid args below meth c Q D tx cy z0 ad0 n0 mc ms k kk nn (pc + 1) L st (hp.set i (.inr (kd, n, .inr (lr.set j.toNatClampNeg (some r)))))) : cc_G p l e R s mid args below meth c Q D tx cy z0 ad0 n0 mc ms k kk nn pc L (.inr (some r) :: .inl j :: .inr (some (.inl i)) :: st) hp := by
  intro ad H locs cells slots ls stk hB hS hls hs hc1 hc2
  match stk, hs with
  | _ :: _ :: z :: stk, ⟨⟨hr, rfl⟩, ⟨_, rfl⟩, hz, hs⟩ =>
    have hz := cc_ref_in hz
    subst hz
    have hat := cc_ws_at (ad := ad) (tx := tx) (cy := cy) hi
    rw [cc_e_ref] at hat
    have hup : va_up (fun z => (lr.getD z none).map (cc_a ad tx)) j.toNatClampNeg (some (cc_a ad tx r)) = fun z => ((lr.set j.toNatClampNeg (some r)).getD z none).map (cc_a ad tx) := by
      funext z
      show (if z = j.toNatClampNeg then some (cc_a ad tx r) else (lr.getD z none).map (cc_a ad tx)) = ((lr.set j.toNatClampNeg (some r)).getD z none).map (cc_a ad tx)
      rw [List.getD_eq_getElem?_getD, List.getD_eq_getElem?_getD]
      by_cases hz : z = j.toNatClampNeg
      · rw [if_pos hz, hz, List.getElem?_set_self (by rw [hlen]; exact hj.2)]
        rfl
      · rw [if_neg hz, List.getElem?_set_ne (Ne.symm hz)]
    have heb : cc_eb hp.length (.inr (kd, n, .inr (lr.set j.toNatClampNeg (some r)))) = true := by
      refine List.all_eq_true.mpr (fun v hv => ?_)
      rcases List.mem_or_eq_of_mem_set hv with h | h
      · exact List.all_eq_true.mp (hB.2.2.1 _ (List.mem_of_getElem? hi)) v h
      · rw [h]; exact hr
    have kk9 : ∀ (H1 : Heap) (locs1 : List Loc), va_P D vwCl ((cc_ws ad tx cy hp).set i (ad i, .inl (cy kd, n, .inr (.inr (.inr (.inr (va_up (fun z => (lr.getD z none).map (cc_a ad tx)) j.toNatClampNeg (some (cc_a ad tx r)))))))))  H1 → va_D (fun q => z0 ≤ q) ((cc_ws ad tx cy hp).set i (ad i, .inl (cy kd, n, .inr (.inr (.inr (.inr (va_up (fun z => (lr.getD z none).map (cc_a ad tx)) j.toNatClampNeg (some (cc_a ad tx r))))))))) → va_S (fun q => z0 ≤ q) s.heap H1 locs1 → W p l e R s mid args below meth c H1 locs1 cells slots Q (F0 mid (pc + 1) ls stk) := by
      intro H1 locs1 hP1 hD1 hS1
      rw [hup, ← cc_e_ref] at hP1 hD1
      have hB1 := hB.put hi heb hP1 hD1
      refine hG ad H1 locs1 cells slots ls stk hB1 hS1 ?_ ?_ hc1 hc2
      · rw [List.length_set]; exact hls
      · rw [List.length_set]; exact hs
    unfold cc_sto at hsto
    split at hsto
    · rename_i q
      split at hsto
      · rename_i fs hq
        have hatq := cc_ws_at (ad := ad) (tx := tx) (cy := cy) hq
        rw [cc_e_obj] at hatq
        exact va_astq C.1 C.2.1 C.2.2.2.2.2.1.1 hB.2.2.2.1 hB.2.2.2.2 hS i 4 q 8 hat rfl hatq rfl (cc_in hj) hd kk9
      · cases hsto
    · rename_i q
      split at hsto
      · rename_i fs hq
        have hatq := cc_ws_at (ad := ad) (tx := tx) (cy := cy) hq
        rw [cc_e_obj] at hatq
        exact va_astq C.1 C.2.1 C.2.2.2.2.2.1.1 hB.2.2.2.1 hB.2.2.2.2 hS i 5 q 7 hat rfl hatq rfl (cc_in hj) hd kk9
      · cases hsto
    · rename_i t
      have hT : t < mm_ns := Nat.le_of_ble_eq_true hr
      obtain ⟨adV, hV⟩ := C.2.2.2.2.2.1.2.2.2.2.2.1
      obtain ⟨cell, q1, q2, q3, -⟩ := (hV t hT).1.kept hS.2.1
      have hany : va_Any "java/lang/String" s H (tx t) := by
        obtain ⟨kC, hkC, -⟩ := Vm.findClass_spec q3
        refine ⟨cell, q1, q2, ⟨kC, hkC⟩, fun comp hcomp => ?_⟩
        have e : comp = cell.cls := Option.some.inj (hcomp.symm.trans q3)
        subst e
        exact va_asg _ _
      exact va_astqM C.1 C.2.1 C.2.2.2.2.2.1.1 hB.2.2.2.1 hB.2.2.2.2 hS i 6 hat rfl hany (cc_in hj) hd kk9
    · cases hsto
end CCT
