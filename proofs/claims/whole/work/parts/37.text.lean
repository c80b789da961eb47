/-! length() and charAt() as steps -/
def mm_chok (n : Nat) : Bool := Nat.blt (mm_txt n).length 100 && (List.range (mm_txt n).length).all (fun j => decide (((mm_ch n j &&& 255).toUInt32 % 65536).toInt32 = mm_ch n j) && decide (mm_ch n j = (mm_ch n j).toUInt32.toUInt16.toUInt32.toInt32))
theorem mm_chok_ok : (List.range mm_ns).all mm_chok = true := by decide +kernel
theorem mm_chs {n : Nat} (hn : n < mm_ns) : (mm_txt n).length < 100 ∧ ∀ j, j < (mm_txt n).length → ((mm_ch n j &&& 255).toUInt32 % 65536).toInt32 = mm_ch n j ∧ narrow .char (.int (mm_ch n j)) = .int (mm_ch n j) := by
  have h1 := List.all_eq_true.mp mm_chok_ok n (List.mem_range.mpr hn)
  simp only [mm_chok, Bool.and_eq_true] at h1
  refine ⟨Nat.le_of_ble_eq_true h1.1, fun j hj => ?_⟩
  have h2 := List.all_eq_true.mp h1.2 j (List.mem_range.mpr hj)
  simp only [Bool.and_eq_true, decide_eq_true_eq] at h2
  refine ⟨h2.1, ?_⟩
  have h3 : narrow .char (.int (mm_ch n j)) = .int ((mm_ch n j).toUInt32.toUInt16.toUInt32.toInt32) := rfl
  rw [h3, ← h2.2]
theorem mm_shr0 (a : Int32) : a >>> ((0 : Int32) &&& 31) = a := by
  have e : ((0 : Int32) &&& 31) = 0 := by decide
  rw [e]
  exact Int32.shiftRight_zero
theorem mm_vldS {i : Nat} (h : mm_vld mm_gS i) : i < mm_ns := by
  rcases h with h | ⟨-, h⟩ | ⟨h, -⟩
  · have h1 := List.all_eq_true.mp mm_others (mm_gS, i) h
    simp at h1
  · exact h
  · cases h
section MMK
variable {p : Program} {l : Launch} {e : Env} {R : Room} {s : State} {mid : MethodId} {args : Array Value} {below : List Frame} {meth : Method} {c : Code} {Q : State → Prop} {D : va_G} {ad : Nat → Nat → Nat} {cy : Nat → ClassId} {A : Nat → Prop} {xs : Nat → Int32} {xn : Nat} {mc ms : Nat} {k : Nat} {kk nn : Nat} {pc : Nat} {L : List (Option mm_V)} {st : List mm_V} {m : mm_M}
theorem s_strlen {idx i : Nat} (C : mm_Cx p s mid args meth c D ad cy A xs xn k) (hA : ∀ q, s.heap.size ≤ q → A q) (hR : 8 ≤ R.frames ∧ 200 ≤ R.locals ∧ mc ≤ R.cells ∧ ms ≤ R.slots) (hw : mm_wd st ≤ 8) (hd : decode (mm_by k) pc = .ok (.invokevirtual idx, 3)) (hlk : Cond.methodLink (mm_rn (mm_mt k).1) idx sj_y_len ∈ lw_tbl) (hG : mm_G p l e R s mid args below meth c Q D ad cy A xs xn mc ms k kk nn (pc + 3) (L) (.inl (Int32.ofNat (mm_txt i).length) :: st) (m)) : mm_G p l e R s mid args below meth c Q D ad cy A xs xn mc ms k kk nn (pc) (L) (.inr (.inr (some (mm_gS, i))) :: st) (m) := by
  intro H locs cells slots ls stk hP hcv hsv hS hl hs hc1 hc2
  match stk, hs with
  | w :: stk, ⟨h1, hs⟩ =>
    obtain ⟨hv, rfl⟩ := mm_vr_own (by decide) h1
    have hi := mm_vldS hv
    have h8 := mm_sr_wd _ _ hs
    have hts := mm_tsG_ok C
    obtain ⟨adV, hW⟩ := C.2.2.2.2.2.1.2.2.2.2.2.1
    have hWi := hW i hi
    refine va_calli (va_runV (As := []) (rest := stk) ⟨C.1, C.2.1, C.2.2.1, C.2.2.2.1, hts⟩ (sj_len l H.size (ad mm_gS i) (adV i) (mm_txt i).length (mm_ch i)) ⟨callB_of (Ts := mm_tsG) 0 hts (sj_in sj_c_len rfl) rfl rfl rfl (hts _ (mm_tsG_in sj_q_nS rfl)) (C.2.2.2.2.1 _ hlk rfl) (by decide +kernel) ⟨by show 1 + 1 ≤ _; omega, by show 8 + (1 + 11) + 40 ≤ _; omega⟩, hts _ (mm_tsG_in sj_q_ilen rfl), hts _ (mm_tsG_in sj_q_vlen rfl)⟩ ⟨sj_blind _ _ _ _ _ _, sj_recv hWi hS, sj_pre (fun q h => hA q (Nat.le_trans hS.1 h)) hWi hS⟩ rfl rfl hl.1 rfl (lv_room (by omega)) hd ⟨by omega, by omega⟩) hS (fun q _ h => hA q (Nat.le_trans hS.1 h)) (fun q h => hA q (Nat.le_trans hS.1 h)) (fun r u t H1 locs1 ht hvm hw9 hB hz1 hk1 hS1 => ?_)
    subst hw9
    have hP1 : va_P D vwCl (mm_ws ad cy m) H1 := hP.kept (fun z q hz => hk1 q.1 (hP z q hz).lt (Nat.not_le.mpr (hP z q hz).lt))
    rw [mm_shr0]
    exact hG H1 locs1 _ _ ls (.int _ :: stk) hP1 hcv hsv hS1 hl ⟨rfl, hs⟩ (by omega) (by omega)
theorem s_charAt {idx i : Nat} {j : Int32} (C : mm_Cx p s mid args meth c D ad cy A xs xn k) (hA : ∀ q, s.heap.size ≤ q → A q) (hR : 8 ≤ R.frames ∧ 200 ≤ R.locals ∧ mc ≤ R.cells ∧ ms ≤ R.slots) (hw : mm_wd st ≤ 8) (hd : decode (mm_by k) pc = .ok (.invokevirtual idx, 3)) (hlk : Cond.methodLink (mm_rn (mm_mt k).1) idx sj_y_cha ∈ lw_tbl) (hj : mm_in j (mm_txt i).length) (hG : mm_G p l e R s mid args below meth c Q D ad cy A xs xn mc ms k kk nn (pc + 3) (L) (.inl (Int32.ofNat ((mm_txt i).getD j.toNatClampNeg ' ').toNat) :: st) (m)) : mm_G p l e R s mid args below meth c Q D ad cy A xs xn mc ms k kk nn (pc) (L) (.inl j :: .inr (.inr (some (mm_gS, i))) :: st) (m) := by
  intro H locs cells slots ls stk hP hcv hsv hS hl hs hc1 hc2
  match stk, hs with
  | _ :: w :: stk, ⟨rfl, h1, hs⟩ =>
    obtain ⟨hv, rfl⟩ := mm_vr_own (by decide) h1
    have hi := mm_vldS hv
    have h8 := mm_sr_wd _ _ hs
    have hts := mm_tsG_ok C
    obtain ⟨adV, hW⟩ := C.2.2.2.2.2.1.2.2.2.2.2.1
    have hWi := hW i hi
    obtain ⟨h100, hch⟩ := mm_chs hi
    have hjn : nI j.toNatClampNeg = j := by
      apply Int32.toInt_inj.mp
      have h9 := hj.1
      rw [Int32.le_iff_toInt_le] at h9
      have h9 : (0 : Int) ≤ j.toInt := h9
      have h10 := hj.2
      rw [nI_toInt (by omega)]
      show ((j.toInt.toNat : Nat) : Int) = j.toInt
      omega
    refine va_calli (va_runV (As := [.int j]) (rest := stk) ⟨C.1, C.2.1, C.2.2.1, C.2.2.2.1, hts⟩ (sj_cha l j.toNatClampNeg H.size (ad mm_gS i) (adV i) (mm_txt i).length (mm_ch i) hj.2 (by omega) hch) ⟨callB_of (Ts := mm_tsG) 1 hts (sj_in sj_c_cha rfl) rfl rfl rfl (hts _ (mm_tsG_in sj_q_nS rfl)) (C.2.2.2.2.1 _ hlk rfl) (by decide +kernel) ⟨by show 3 + 1 ≤ _; omega, by show 8 + (2 + 11) + 120 ≤ _; omega⟩, hts _ (mm_tsG_in sj_q_icha rfl), hts _ (mm_tsG_in sj_q_vcha rfl)⟩ ⟨sj_blind _ _ _ _ _ _, sj_recv hWi hS, by rw [hjn]; exact sj_pre (av := [.ref (ad mm_gS i), .int j]) (fun q h => hA q (Nat.le_trans hS.1 h)) hWi hS⟩ rfl rfl hl.1 rfl (lv_room (by omega)) hd ⟨by omega, by omega⟩) hS (fun q _ h => hA q (Nat.le_trans hS.1 h)) (fun q h => hA q (Nat.le_trans hS.1 h)) (fun r u t H1 locs1 ht hvm hw9 hB hz1 hk1 hS1 => ?_)
    subst hw9
    have hP1 : va_P D vwCl (mm_ws ad cy m) H1 := hP.kept (fun z q hz => hk1 q.1 (hP z q hz).lt (Nat.not_le.mpr (hP z q hz).lt))
    exact hG H1 locs1 _ _ ls (.int _ :: stk) hP1 hcv hsv hS1 hl ⟨rfl, hs⟩ (by omega) (by omega)
end MMK
