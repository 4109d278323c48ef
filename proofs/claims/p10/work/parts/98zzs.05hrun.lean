theorem H_R_hasRead {fz : Bool} {S : gS} {B : rf_M} {M : rf_M} {ls : rf_L} {n0 : Nat} {v0 : Nat} {v1 : Int} {K : Int → rf_M → Prop} (hS : rl S) (hR : fl 22 331 B M) (mv0 : v0 ∈ j7) (iv1 : inr v1) (a0 : rf_ld ls 0 = some (.ref v0)) (a1 : rf_ld ls 1 = some (zv v1)) (h : e_R_hasRead v0 v1 M K) : lx (cx0 fz) n0 69 0 ls [] (M, S) (vl_i 22 331 B S K) := by
  unfold e_R_hasRead at h
  refine l1 (n := 1) rfl rfl rfl (la_of a0) ?_
  refine l_gi rfl (jo_7 hS mv0) rfl (fun _ => rfl) ?_
  refine l1 (n := 1) rfl rfl rfl (li_of a1) ?_
  refine l_op (T := ((Int32.ofInt (gi M v0 2)).toUInt32 >>> ((Int32.ofInt v1).toUInt32 &&& Int32.toUInt32 31)).toInt32) rfl rfl rfl ?_
  refine l1 (n := 1) rfl rfl rfl rfl ?_
  refine l_op (T := (Int32.ofInt ((Int32.ofInt (gi M v0 2)).toUInt32 >>> ((Int32.ofInt v1).toUInt32 &&& Int32.toUInt32 31)).toInt32.toInt &&& Int32.ofInt 1)) rfl rfl rfl ?_
  refine l_if rfl (inr_ti _) (fun c => ?_) (fun c => ?_)
  · replace h := h.1 c
    refine l1 (n := 1) rfl rfl rfl rfl ?_
    exact H_R_hasRead_16 hS hR ⟨by decide, by decide⟩ h
  · replace h := h.2 c
    refine l1 (n := 1) rfl rfl rfl rfl ?_
    refine l3 rfl rfl rfl ?_
    exact H_R_hasRead_16 hS hR ⟨by decide, by decide⟩ h
theorem H_R_hasRead_m {fz : Bool} {S : gS} {B : rf_M} {M : rf_M} {n0 : Nat} {x0 : Nat} {x1 : Int} {K : Int → rf_M → Prop} (hS : rl S) (hR : fl 22 331 B M) (mx0 : x0 ∈ j7) (ix1 : inr x1) (h : em_R_hasRead x0 x1 M K) : lx (cx0 fz) n0 69 0 (lv_args 0 [.ref x0, zv x1]) [] (M, S) (vl_i 22 331 B S K) :=
  H_R_hasRead hS hR mx0 ix1 rfl rfl h
theorem H_R_shows_81 {fz : Bool} {S : gS} {B : rf_M} {M : rf_M} {ls : rf_L} {n0 : Nat} {s0 : Int64} {K : Int64 → rf_M → Prop} (hS : rl S) (hR : fl 22 331 B M) (h : e_R_shows_81 s0 M K) : lx (cx0 fz) n0 70 81 ls [.long s0] (M, S) (vl_l 22 331 B S K) := by
  unfold e_R_shows_81 at h
  exact l_rl rfl rfl hR h
theorem H_R_shows_25 {fz : Bool} {S : gS} {B : rf_M} {M : rf_M} {ls : rf_L} {n0 : Nat} {v0 : Nat} {v1 : Int} {K : Int64 → rf_M → Prop} (hS : rl S) (hR : fl 22 331 B M) (mv0 : v0 ∈ j7) (iv1 : inr v1) (a0 : rf_ld ls 0 = some (.ref v0)) (a1 : rf_ld ls 1 = some (zv v1)) (h : e_R_shows_25 v0 v1 M K) : lx (cx0 fz) n0 70 25 ls [] (M, S) (vl_l 22 331 B S K) := by
  unfold e_R_shows_25 at h
  refine l1 (n := 1) rfl rfl rfl (li_of a1) ?_
  refine b_st (as := [zv v1]) (rest := []) rfl (by decide) rfl (Nat.le_of_ble_eq_true rfl) (fun hq => ?_)
  refine lx_mono (H_M_isCell_m hS hR iv1 h) ?_
  rintro _ _ ⟨z1, M1, rfl, rfl, r1, iz1, h⟩
  refine l_if rfl iz1 (fun c => ?_) (fun c => ?_)
  · replace h := h.2 c
    refine l1 (n := 1) rfl rfl rfl (la_of a0) ?_
    refine l_gr rfl (jo_7 hS mv0) rfl (fun _ => rfl) (jf_7_5 r1.2 mv0) ?_
    refine l1 (n := 1) rfl rfl rfl (li_of a1) ?_
    refine b_iv (c := (v0 + 2)) (as := [zv v1]) (rest := []) rfl (by decide) (jo_8 hS (jt_7_5 mv0)) rfl rfl (Nat.le_of_ble_eq_true rfl) (fun hq => ?_)
    refine lx_mono (H_D_hasWritten_m hS r1 (jt_7_5 mv0) iv1 h) ?_
    rintro _ _ ⟨z2, M2, rfl, rfl, r2, iz2, h⟩
    refine l_if rfl iz2 (fun c => ?_) (fun c => ?_)
    · replace h := h.1 c
      refine l1 (n := 1) rfl rfl rfl (la_of a0) ?_
      refine l1 (n := 1) rfl rfl rfl (li_of a1) ?_
      refine b_iv (c := v0) (as := [zv v1]) (rest := []) rfl (by decide) (jo_7 hS mv0) rfl rfl (Nat.le_of_ble_eq_true rfl) (fun hq => ?_)
      refine lx_mono (H_R_hasRead_m hS r2 mv0 iv1 h) ?_
      rintro _ _ ⟨z3, M3, rfl, rfl, r3, iz3, h⟩
      refine l_if rfl iz3 (fun c => ?_) (fun c => ?_)
      · replace h := h.1 c
        refine l1 (n := 1) rfl rfl rfl (la_of a0) ?_
        refine l_gr rfl (jo_7 hS mv0) rfl (fun _ => rfl) (jf_7_8 r3.2 mv0) ?_
        refine l_gr rfl (jo_4 hS (jt_7_8 mv0)) rfl (fun _ => rfl) (jf_4_0 r3.2 (jt_7_8 mv0)) ?_
        refine l1 (n := 1) rfl rfl rfl (li_of a1) ?_
        refine b_la rfl (jt_4_0 (fz := fz) hS (jt_7_8 mv0)).1 (Nat.le_of_ble_eq_true rfl) iv1 (fun q => ?_)
        replace h := h q
        exact H_R_shows_81 hS r3  h
      · replace h := h.2 c
        refine l1 (n := 1) rfl rfl rfl (la_of a0) ?_
        refine l_gr rfl (jo_7 hS mv0) rfl (fun _ => rfl) (jf_7_7 r3.2 mv0) ?_
        refine l1 (n := 1) rfl rfl rfl (li_of a1) ?_
        refine b_la rfl (jt_7_7 (fz := fz) hS mv0).1 (Nat.le_of_ble_eq_true rfl) iv1 (fun q => ?_)
        replace h := h q
        refine l3 rfl rfl rfl ?_
        exact H_R_shows_81 hS r3  h
    · replace h := h.2 c
      refine l1 (n := 1) rfl rfl rfl (la_of a0) ?_
      refine l_gr rfl (jo_7 hS mv0) rfl (fun _ => rfl) (jf_7_5 r2.2 mv0) ?_
      refine l_gr rfl (jo_8 hS (jt_7_5 mv0)) rfl (fun _ => rfl) (jf_8_1 r2.2 (jt_7_5 mv0)) ?_
      refine l1 (n := 1) rfl rfl rfl (li_of a1) ?_
      refine b_la rfl (jt_8_1 (fz := fz) hS (jt_7_5 mv0)).1 (Nat.le_of_ble_eq_true rfl) iv1 (fun q => ?_)
      replace h := h q
      exact l_rl rfl rfl r2 h
  · replace h := h.1 (Classical.not_not.mp c)
    refine l1 (n := 1) rfl rfl rfl rfl ?_
    exact l_rl rfl rfl r1 h
theorem H_R_shows {fz : Bool} {S : gS} {B : rf_M} {M : rf_M} {ls : rf_L} {n0 : Nat} {v0 : Nat} {v1 : Int} {K : Int64 → rf_M → Prop} (hS : rl S) (hR : fl 22 331 B M) (mv0 : v0 ∈ j7) (iv1 : inr v1) (a0 : rf_ld ls 0 = some (.ref v0)) (a1 : rf_ld ls 1 = some (zv v1)) (h : e_R_shows v0 v1 M K) : lx (cx0 fz) n0 70 0 ls [] (M, S) (vl_l 22 331 B S K) := by
  unfold e_R_shows at h
  refine l1 (n := 1) rfl rfl rfl (li_of a1) ?_
  refine l_bi rfl (by decide) ?_
  refine l_ic rfl iv1 ⟨by decide, by decide⟩ (fun c => ?_) (fun c => ?_)
  · replace h := h.1 c
    exact H_R_shows_25 hS hR mv0 iv1 a0 a1 h
  · replace h := h.2 c
    refine l1 (n := 1) rfl rfl rfl (li_of a1) ?_
    refine l_bi rfl (by decide) ?_
    refine l_ic rfl iv1 ⟨by decide, by decide⟩ (fun c => ?_) (fun c => ?_)
    · replace h := h.1 c
      exact H_R_shows_25 hS hR mv0 iv1 a0 a1 h
    · replace h := h.2 c
      refine l1 (n := 1) rfl rfl rfl (la_of a0) ?_
      refine l_gr rfl (jo_7 hS mv0) rfl (fun _ => rfl) (jf_7_5 hR.2 mv0) ?_
      refine l_gr rfl (jo_8 hS (jt_7_5 mv0)) rfl (fun _ => rfl) (jf_8_2 hR.2 (jt_7_5 mv0)) ?_
      refine l1 (n := 1) rfl rfl rfl (li_of a1) ?_
      refine l_bi rfl (by decide) ?_
      refine l_sub rfl ?_
      obtain ⟨i1, h⟩ := h
      refine b_la rfl (jt_8_2 (fz := fz) hS (jt_7_5 mv0)).1 (Nat.le_of_ble_eq_true rfl) i1 (fun q => ?_)
      replace h := h q
      exact l_rl rfl rfl hR h
theorem H_R_shows_m {fz : Bool} {S : gS} {B : rf_M} {M : rf_M} {n0 : Nat} {x0 : Nat} {x1 : Int} {K : Int64 → rf_M → Prop} (hS : rl S) (hR : fl 22 331 B M) (mx0 : x0 ∈ j7) (ix1 : inr x1) (h : em_R_shows x0 x1 M K) : lx (cx0 fz) n0 70 0 (lv_args 0 [.ref x0, zv x1]) [] (M, S) (vl_l 22 331 B S K) :=
  H_R_shows hS hR mx0 ix1 rfl rfl h
theorem H_R_isStale {fz : Bool} {S : gS} {B : rf_M} {M : rf_M} {ls : rf_L} {n0 : Nat} {v0 : Nat} {K : Int → rf_M → Prop} (hS : rl S) (hR : fl 22 331 B M) (mv0 : v0 ∈ j7) (a0 : rf_ld ls 0 = some (.ref v0)) (h : e_R_isStale v0 M K) : lx (cx0 fz) n0 71 0 ls [] (M, S) (vl_i 22 331 B S K) := by
  unfold e_R_isStale at h
  refine l1 (n := 1) rfl rfl rfl (la_of a0) ?_
  refine l_gr rfl (jo_7 hS mv0) rfl (fun _ => rfl) (jf_7_8 hR.2 mv0) ?_
  refine l1 (n := 1) rfl rfl rfl (la_of a0) ?_
  refine l_gi rfl (jo_7 hS mv0) rfl (fun _ => rfl) ?_
  refine l1 (n := 1) rfl rfl rfl (la_of a0) ?_
  refine l_gr rfl (jo_7 hS mv0) rfl (fun _ => rfl) (jf_7_4 hR.2 mv0) ?_
  refine b_iv (c := (stR v0)) (as := [zv (gi M v0 2), .ref (v0 + 1)]) (rest := []) rfl (by decide) (jo_4 hS (jt_7_8 mv0)) rfl rfl (Nat.le_of_ble_eq_true rfl) (fun hq => ?_)
  refine lx_mono (H_S_differs_m hS hR (jt_7_8 mv0) (inr_gi _ _ _) (jt_7_4 (fz := fz) hS mv0) h) ?_
  rintro _ _ ⟨z1, M1, rfl, rfl, r1, iz1, h⟩
  exact l_rb rfl rfl h.1 r1 h.2
theorem H_R_isStale_m {fz : Bool} {S : gS} {B : rf_M} {M : rf_M} {n0 : Nat} {x0 : Nat} {K : Int → rf_M → Prop} (hS : rl S) (hR : fl 22 331 B M) (mx0 : x0 ∈ j7) (h : em_R_isStale x0 M K) : lx (cx0 fz) n0 71 0 (lv_args 0 [.ref x0]) [] (M, S) (vl_i 22 331 B S K) :=
  H_R_isStale hS hR mx0 rfl h
theorem H_R_find_26 {fz : Bool} {S : gS} {B : rf_M} {M : rf_M} {ls : rf_L} {n0 : Nat} {v0 : Nat} {v1 : Int} {K : Int → rf_M → Prop} (hS : rl S) (hR : fl 22 331 B M) (mv0 : v0 ∈ j7) (iv1 : inr v1) (a0 : rf_ld ls 0 = some (.ref v0)) (a1 : rf_ld ls 1 = some (zv v1)) (h : e_R_find_26 v0 v1 M K) : lx (cx0 fz) n0 67 26 ls [] (M, S) (vl_i 22 331 B S K) := by
  unfold e_R_find_26 at h
  refine l1 (n := 1) rfl rfl rfl (la_of a0) ?_
  refine l1 (n := 1) rfl rfl rfl (la_of a0) ?_
  refine l1 (n := 1) rfl rfl rfl (li_of a1) ?_
  refine b_iv (c := v0) (as := [zv v1]) (rest := [.ref v0]) rfl (by decide) (jo_7 hS mv0) rfl rfl (Nat.le_of_ble_eq_true rfl) (fun hq => ?_)
  refine lx_mono (H_R_shows_m hS hR mv0 iv1 h) ?_
  rintro _ _ ⟨z1, M1, rfl, rfl, r1, h⟩
  refine l_pl rfl (jo_7 (fz := fz) hS mv0) rfl (fun _ _ => rfl) (fun M2 e => ?_)
  replace h := h M2 e
  have r2 := r1.wl (jo_7 (fz := fz) hS mv0).1 (jl_7 mv0) e
  refine l1 (n := 1) rfl rfl rfl rfl ?_
  exact l_rb rfl rfl (Or.inr rfl) r2 h
theorem H_R_find {fz : Bool} {S : gS} {B : rf_M} {M : rf_M} {ls : rf_L} {n0 : Nat} {v0 : Nat} {v1 : Int} {K : Int → rf_M → Prop} (hS : rl S) (hR : fl 22 331 B M) (mv0 : v0 ∈ j7) (iv1 : inr v1) (a0 : rf_ld ls 0 = some (.ref v0)) (a1 : rf_ld ls 1 = some (zv v1)) (h : e_R_find v0 v1 M K) : lx (cx0 fz) n0 67 0 ls [] (M, S) (vl_i 22 331 B S K) := by
  unfold e_R_find at h
  refine l1 (n := 1) rfl rfl rfl (li_of a1) ?_
  refine b_st (as := [zv v1]) (rest := []) rfl (by decide) rfl (Nat.le_of_ble_eq_true rfl) (fun hq => ?_)
  refine lx_mono (H_M_isCell_m hS hR iv1 h) ?_
  rintro _ _ ⟨z1, M1, rfl, rfl, r1, iz1, h⟩
  refine l_if rfl iz1 (fun c => ?_) (fun c => ?_)
  · replace h := h.1 c
    exact H_R_find_26 hS r1 mv0 iv1 a0 a1 h
  · replace h := h.2 c
    refine l1 (n := 1) rfl rfl rfl (la_of a0) ?_
    refine l_gr rfl (jo_7 hS mv0) rfl (fun _ => rfl) (jf_7_5 r1.2 mv0) ?_
    refine l1 (n := 1) rfl rfl rfl (li_of a1) ?_
    refine b_iv (c := (v0 + 2)) (as := [zv v1]) (rest := []) rfl (by decide) (jo_8 hS (jt_7_5 mv0)) rfl rfl (Nat.le_of_ble_eq_true rfl) (fun hq => ?_)
    refine lx_mono (H_D_hasWritten_m hS r1 (jt_7_5 mv0) iv1 h) ?_
    rintro _ _ ⟨z2, M2, rfl, rfl, r2, iz2, h⟩
    refine l_if rfl iz2 (fun c => ?_) (fun c => ?_)
    · replace h := h.2 c
      exact H_R_find_26 hS r2 mv0 iv1 a0 a1 h
    · replace h := h.1 (Classical.not_not.mp c)
      refine l1 (n := 1) rfl rfl rfl (la_of a0) ?_
      refine l1 (n := 1) rfl rfl rfl (li_of a1) ?_
      refine b_iv (c := v0) (as := [zv v1]) (rest := []) rfl (by decide) (jo_7 hS mv0) rfl rfl (Nat.le_of_ble_eq_true rfl) (fun hq => ?_)
      refine lx_mono (H_R_hasRead_m hS r2 mv0 iv1 h) ?_
      rintro _ _ ⟨z3, M3, rfl, rfl, r3, iz3, h⟩
      refine l_if rfl iz3 (fun c => ?_) (fun c => ?_)
      · replace h := h.1 c
        refine l1 (n := 1) rfl rfl rfl (la_of a0) ?_
        refine b_iv (c := v0) (as := []) (rest := []) rfl (by decide) (jo_7 hS mv0) rfl rfl (Nat.le_of_ble_eq_true rfl) (fun hq => ?_)
        refine lx_mono (H_R_isStale_m hS r3 mv0 h) ?_
        rintro _ _ ⟨z4, M4, rfl, rfl, r4, iz4, h⟩
        refine l_if rfl iz4 (fun c => ?_) (fun c => ?_)
        · replace h := h.1 c
          refine l1 (n := 1) rfl rfl rfl (la_of a0) ?_
          refine l0 rfl rfl rfl ?_
          refine l_gi rfl (jo_7 hS mv0) rfl (fun _ => rfl) ?_
          refine l1 (n := 1) rfl rfl rfl rfl ?_
          refine l1 (n := 1) rfl rfl rfl (li_of a1) ?_
          refine l_op (T := (Int32.ofInt 1 <<< (Int32.ofInt v1 &&& 31))) rfl rfl rfl ?_
          refine l_op (T := (Int32.ofInt (gi M4 v0 2) ||| Int32.ofInt (Int32.ofInt 1 <<< (Int32.ofInt v1 &&& 31)).toInt)) rfl rfl rfl ?_
          refine l_pi rfl (jo_7 (fz := fz) hS mv0) rfl (fun _ _ => rfl) (fun M5 e => ?_)
          replace h := h M5 e
          have r5 := r4.wi (jo_7 (fz := fz) hS mv0).1 (jl_7 mv0) e
          refine l1 (n := 1) rfl rfl rfl (la_of a0) ?_
          refine l_gr rfl (jo_7 hS mv0) rfl (fun _ => rfl) (jf_7_7 r5.2 mv0) ?_
          refine l1 (n := 1) rfl rfl rfl (li_of a1) ?_
          refine l1 (n := 1) rfl rfl rfl (la_of a0) ?_
          refine l_gr rfl (jo_7 hS mv0) rfl (fun _ => rfl) (jf_7_8 r5.2 mv0) ?_
          refine l_gr rfl (jo_4 hS (jt_7_8 mv0)) rfl (fun _ => rfl) (jf_4_0 r5.2 (jt_7_8 mv0)) ?_
          refine l1 (n := 1) rfl rfl rfl (li_of a1) ?_
          refine b_la rfl (jt_4_0 (fz := fz) hS (jt_7_8 mv0)).1 (Nat.le_of_ble_eq_true rfl) iv1 (fun q => ?_)
          replace h := h q
          refine b_ls rfl (jt_7_7 (fz := fz) hS mv0).1 (Nat.le_of_ble_eq_true rfl) iv1 (fun q M6 e => ?_)
          replace h := h q M6 e
          have r6 := r5.wl (jt_7_7 (fz := fz) hS mv0).1.1 (jt_7_7 (fz := fz) hS mv0).2 e
          refine l1 (n := 1) rfl rfl rfl (la_of a0) ?_
          refine l_gr rfl (jo_7 hS mv0) rfl (fun _ => rfl) (jf_7_4 r6.2 mv0) ?_
          refine l1 (n := 1) rfl rfl rfl (li_of a1) ?_
          refine l1 (n := 1) rfl rfl rfl (la_of a0) ?_
          refine l_gr rfl (jo_7 hS mv0) rfl (fun _ => rfl) (jf_7_8 r6.2 mv0) ?_
          refine l_gr rfl (jo_4 hS (jt_7_8 mv0)) rfl (fun _ => rfl) (jf_4_1 r6.2 (jt_7_8 mv0)) ?_
          refine l1 (n := 1) rfl rfl rfl (li_of a1) ?_
          refine b_ia rfl (jt_4_1 (fz := fz) hS (jt_7_8 mv0)).1 (Nat.le_of_ble_eq_true rfl) iv1 (fun q => ?_)
          replace h := h q
          refine b_is rfl (jt_7_4 (fz := fz) hS mv0).1 (Nat.le_of_ble_eq_true rfl) iv1 (fun q M7 e => ?_)
          replace h := h q M7 e
          have r7 := r6.wi (jt_7_4 (fz := fz) hS mv0).1.1 (jt_7_4 (fz := fz) hS mv0).2 e
          refine l1 (n := 1) rfl rfl rfl (la_of a0) ?_
          refine l1 (n := 1) rfl rfl rfl (la_of a0) ?_
          refine l_gr rfl (jo_7 hS mv0) rfl (fun _ => rfl) (jf_7_7 r7.2 mv0) ?_
          refine l1 (n := 1) rfl rfl rfl (li_of a1) ?_
          refine b_la rfl (jt_7_7 (fz := fz) hS mv0).1 (Nat.le_of_ble_eq_true rfl) iv1 (fun q => ?_)
          replace h := h q
          refine l_pl rfl (jo_7 (fz := fz) hS mv0) rfl (fun _ _ => rfl) (fun M8 e => ?_)
          replace h := h M8 e
          have r8 := r7.wl (jo_7 (fz := fz) hS mv0).1 (jl_7 mv0) e
          refine l1 (n := 1) rfl rfl rfl rfl ?_
          exact l_rb rfl rfl (Or.inr rfl) r8 h
        · replace h := h.2 c
          refine l1 (n := 1) rfl rfl rfl rfl ?_
          exact l_rb rfl rfl (Or.inl rfl) r4 h
      · replace h := h.2 c
        exact H_R_find_26 hS r3 mv0 iv1 a0 a1 h
theorem H_R_find_m {fz : Bool} {S : gS} {B : rf_M} {M : rf_M} {n0 : Nat} {x0 : Nat} {x1 : Int} {K : Int → rf_M → Prop} (hS : rl S) (hR : fl 22 331 B M) (mx0 : x0 ∈ j7) (ix1 : inr x1) (h : em_R_find x0 x1 M K) : lx (cx0 fz) n0 67 0 (lv_args 0 [.ref x0, zv x1]) [] (M, S) (vl_i 22 331 B S K) :=
  H_R_find hS hR mx0 ix1 rfl rfl h
theorem H_A_workR_158 {fz : Bool} {S : gS} {B : rf_M} {M : rf_M} {ls : rf_L} {n0 : Nat} {v0 : Nat} {v1 : Nat} {v3 : Nat} {v4 : Int} {b8 : Nat → Nat → Nat → Int → rf_M → Prop} {K : Int → rf_M → Prop} (hS : rl S) (hR : fl 22 331 B M) (mv0 : v0 ∈ j5) (mv1 : v1 ∈ k1) (mv3 : v3 ∈ j7) (iv4 : inr v4) (a0 : rf_ld ls 0 = some (.ref v0)) (a1 : rf_ld ls 1 = some (.ref v1)) (a3 : rf_ld ls 3 = some (.ref v3)) (a4 : rf_ld ls 4 = some (zv v4)) (hb8 : ∀ n', n' < n0 → ∀ (v0 : Nat) (v1 : Nat) (v3 : Nat) (v4 : Int) (M : rf_M) (ls : rf_L), fl 22 331 B M → v0 ∈ j5 → v1 ∈ k1 → v3 ∈ j7 → inr v4 → rf_ld ls 0 = some (.ref v0) → rf_ld ls 1 = some (.ref v1) → rf_ld ls 3 = some (.ref v3) → rf_ld ls 4 = some (zv v4) → b8 v0 v1 v3 v4 M → lx (cx0 fz) n' 65 8 ls [] (M, S) (vl_i 22 331 B S K)) (h : e_A_workR_158 v0 v1 v3 v4 M b8 K) : lx (cx0 fz) n0 65 158 ls [] (M, S) (vl_i 22 331 B S K) := by
  unfold e_A_workR_158 at h
  rcases Nat.eq_zero_or_pos n0 with e0 | hp
  · rw [e0]; exact lx_zero
  refine l_ii rfl a4 (Nat.le_of_ble_eq_true rfl) (fun ls y1 ho => ?_)
  have y2 := ho 0 _ (by decide) (fun q => by cases q.2) a0
  have y3 := ho 1 _ (by decide) (fun q => by cases q.2) a1
  have y4 := ho 3 _ (by decide) (fun q => by cases q.2) a3
  refine l3 rfl rfl rfl ?_
  obtain ⟨i1, h⟩ := h
  exact hb8 _ (by omega) _ _ _ _ _ _ hR mv0 mv1 mv3 i1 y2 y3 y4 y1 h
theorem H_A_workR_143 {fz : Bool} {S : gS} {B : rf_M} {M : rf_M} {ls : rf_L} {n0 : Nat} {K : Int → rf_M → Prop} (hS : rl S) (hR : fl 22 331 B M) (h : e_A_workR_143 M K) : lx (cx0 fz) n0 65 143 ls [] (M, S) (vl_i 22 331 B S K) := by
  unfold e_A_workR_143 at h
  refine l1 (n := 1) rfl rfl rfl rfl ?_
  exact l_ri rfl rfl ⟨by decide, by decide⟩ hR h
theorem H_A_workR_145 {fz : Bool} {S : gS} {B : rf_M} {M : rf_M} {ls : rf_L} {n0 : Nat} {v0 : Nat} {v1 : Nat} {v3 : Nat} {v4 : Int} {v5 : Int} {v6 : Int64} {v8 : Int64} {b8 : Nat → Nat → Nat → Int → rf_M → Prop} {K : Int → rf_M → Prop} (hS : rl S) (hR : fl 22 331 B M) (mv0 : v0 ∈ j5) (mv1 : v1 ∈ k1) (mv3 : v3 ∈ j7) (iv4 : inr v4) (iv5 : inr v5) (a0 : rf_ld ls 0 = some (.ref v0)) (a1 : rf_ld ls 1 = some (.ref v1)) (a3 : rf_ld ls 3 = some (.ref v3)) (a4 : rf_ld ls 4 = some (zv v4)) (a5 : rf_ld ls 5 = some (zv v5)) (a6 : rf_ld ls 6 = some (.long v6)) (a8 : rf_ld ls 8 = some (.long v8)) (hb8 : ∀ n', n' < n0 → ∀ (v0 : Nat) (v1 : Nat) (v3 : Nat) (v4 : Int) (M : rf_M) (ls : rf_L), fl 22 331 B M → v0 ∈ j5 → v1 ∈ k1 → v3 ∈ j7 → inr v4 → rf_ld ls 0 = some (.ref v0) → rf_ld ls 1 = some (.ref v1) → rf_ld ls 3 = some (.ref v3) → rf_ld ls 4 = some (zv v4) → b8 v0 v1 v3 v4 M → lx (cx0 fz) n' 65 8 ls [] (M, S) (vl_i 22 331 B S K)) (h : e_A_workR_145 v0 v1 v3 v4 v5 v6 v8 M b8 K) : lx (cx0 fz) n0 65 145 ls [] (M, S) (vl_i 22 331 B S K) := by
  unfold e_A_workR_145 at h
  rcases Nat.eq_zero_or_pos n0 with e0 | hp
  · rw [e0]; exact lx_zero
  refine l1 (n := 1) rfl rfl rfl (la_of a0) ?_
  refine l1 (n := 2) rfl rfl rfl (li_of a5) ?_
  refine l1 (n := 2) rfl rfl rfl (ll_of a8) ?_
  refine l1 (n := 2) rfl rfl rfl (ll_of a6) ?_
  refine b_st (as := [zv v5, .long v8, .long v6]) (rest := [.ref v0]) rfl (by decide) rfl (Nat.le_of_ble_eq_true rfl) (fun hq => ?_)
  refine lx_mono (H_A_join_m hS hR iv5 h) ?_
  rintro _ _ ⟨z1, M1, rfl, rfl, r1, h⟩
  refine b_iv (c := v0) (as := [.long z1]) (rest := []) rfl (by decide) (jo_5 hS mv0) rfl rfl (Nat.le_of_ble_eq_true rfl) (fun hq => ?_)
  refine lx_mono (H_A_push_m hS r1 mv0 h) ?_
  rintro _ _ ⟨M2, rfl, rfl, r2, h⟩
  exact H_A_workR_158 hS r2 mv0 mv1 mv3 iv4 a0 a1 a3 a4 (fun n' hn' => hb8 n' (by omega)) h
theorem H_A_workR_164 {fz : Bool} {S : gS} {B : rf_M} {M : rf_M} {ls : rf_L} {n0 : Nat} {K : Int → rf_M → Prop} (hS : rl S) (hR : fl 22 331 B M) (h : e_A_workR_164 M K) : lx (cx0 fz) n0 65 164 ls [] (M, S) (vl_i 22 331 B S K) := by
  unfold e_A_workR_164 at h
  refine l1 (n := 1) rfl rfl rfl rfl ?_
  exact l_ri rfl rfl ⟨by decide, by decide⟩ hR h
theorem H_A_workR_8b {fz : Bool} {S : gS} {B : rf_M} {M : rf_M} {ls : rf_L} {n0 : Nat} {v0 : Nat} {v1 : Nat} {v3 : Nat} {v4 : Int} {b8 : Nat → Nat → Nat → Int → rf_M → Prop} {K : Int → rf_M → Prop} (hS : rl S) (hR : fl 22 331 B M) (mv0 : v0 ∈ j5) (mv1 : v1 ∈ k1) (mv3 : v3 ∈ j7) (iv4 : inr v4) (a0 : rf_ld ls 0 = some (.ref v0)) (a1 : rf_ld ls 1 = some (.ref v1)) (a3 : rf_ld ls 3 = some (.ref v3)) (a4 : rf_ld ls 4 = some (zv v4)) (hb8 : ∀ n', n' < n0 → ∀ (v0 : Nat) (v1 : Nat) (v3 : Nat) (v4 : Int) (M : rf_M) (ls : rf_L), fl 22 331 B M → v0 ∈ j5 → v1 ∈ k1 → v3 ∈ j7 → inr v4 → rf_ld ls 0 = some (.ref v0) → rf_ld ls 1 = some (.ref v1) → rf_ld ls 3 = some (.ref v3) → rf_ld ls 4 = some (zv v4) → b8 v0 v1 v3 v4 M → lx (cx0 fz) n' 65 8 ls [] (M, S) (vl_i 22 331 B S K)) (h : e_A_workR_8b v0 v1 v3 v4 M b8 K) : lx (cx0 fz) n0 65 8 ls [] (M, S) (vl_i 22 331 B S K) := by
  unfold e_A_workR_8b at h
  rcases Nat.eq_zero_or_pos n0 with e0 | hp
  · rw [e0]; exact lx_zero
  refine l1 (n := 2) rfl rfl rfl (li_of a4) ?_
  refine l_if rfl iv4 (fun c => ?_) (fun c => ?_)
  · replace h := h.1 c
    exact H_A_workR_164 hS hR  h
  · replace h := h.2 c
    refine l1 (n := 2) rfl rfl rfl (li_of a4) ?_
    refine l1 (n := 1) rfl rfl rfl (la_of a1) ?_
    refine l_gi rfl (ko_1 hS mv1) rfl (fun _ => rfl) ?_
    refine l_ic rfl iv4 (inr_gi _ _ _) (fun c => ?_) (fun c => ?_)
    · replace h := h.1 c
      exact H_A_workR_164 hS hR  h
    · replace h := h.2 c
      refine l1 (n := 1) rfl rfl rfl (la_of a1) ?_
      refine l_gr rfl (ko_1 hS mv1) rfl (fun _ => rfl) (kf_1_14 hR.2 mv1) ?_
      refine l1 (n := 2) rfl rfl rfl (li_of a4) ?_
      refine b_ia rfl (jt_1_14 (fz := fz) hS mv1).1 (Nat.le_of_ble_eq_true rfl) iv4 (fun q => ?_)
      replace h := h q
      refine l_s1 (n := 2) rfl rfl rfl rfl (fun ls y1 ho => ?_)
      have y2 := ho 0 _ (by decide) (fun q => by cases q.2) a0
      have y3 := ho 1 _ (by decide) (fun q => by cases q.2) a1
      have y4 := ho 3 _ (by decide) (fun q => by cases q.2) a3
      have y5 := ho 4 _ (by decide) (fun q => by cases q.2) a4
      refine l1 (n := 2) rfl rfl rfl (li_of y1) ?_
      refine l_if rfl (inr_gi _ _ _) (fun c => ?_) (fun c => ?_)
      · replace h := h.2 c
        refine l1 (n := 2) rfl rfl rfl (li_of y1) ?_
        refine l1 (n := 1) rfl rfl rfl rfl ?_
        refine l_ic rfl (inr_gi _ _ _) ⟨by decide, by decide⟩ (fun c => ?_) (fun c => ?_)
        · replace h := h.2 c
          refine l1 (n := 2) rfl rfl rfl (li_of y1) ?_
          refine l1 (n := 1) rfl rfl rfl rfl ?_
          refine l_ic rfl (inr_gi _ _ _) ⟨by decide, by decide⟩ (fun c => ?_) (fun c => ?_)
          · replace h := h.2 c
            refine l1 (n := 2) rfl rfl rfl (li_of y1) ?_
            refine l1 (n := 1) rfl rfl rfl rfl ?_
            refine l_ic rfl (inr_gi _ _ _) ⟨by decide, by decide⟩ (fun c => ?_) (fun c => ?_)
            · replace h := h.2 c
              refine l1 (n := 1) rfl rfl rfl (la_of y2) ?_
              refine b_iv (c := v0) (as := []) (rest := []) rfl (by decide) (jo_5 hS mv0) rfl rfl (Nat.le_of_ble_eq_true rfl) (fun hq => ?_)
              refine lx_mono (H_A_pop_m hS hR mv0 h) ?_
              rintro _ _ ⟨z1, M1, rfl, rfl, r1, h⟩
              refine l_s2 (n := 2) rfl rfl rfl rfl (fun ls y6 ho => ?_)
              have y7 := ho 0 _ (by decide) (by decide) (fun q => by cases q.2) y2
              have y8 := ho 1 _ (by decide) (by decide) (fun q => by cases q.2) y3
              have y9 := ho 3 _ (by decide) (by decide) (fun q => by cases q.2) y4
              have y10 := ho 4 _ (by decide) (by decide) (fun q => by cases q.2) y5
              have y11 := ho 5 _ (by decide) (by decide) (fun q => by cases q.2) y1
              refine l1 (n := 1) rfl rfl rfl (la_of y7) ?_
              refine b_iv (c := v0) (as := []) (rest := []) rfl (by decide) (jo_5 hS mv0) rfl rfl (Nat.le_of_ble_eq_true rfl) (fun hq => ?_)
              refine lx_mono (H_A_pop_m hS r1 mv0 h) ?_
              rintro _ _ ⟨z2, M2, rfl, rfl, r2, h⟩
              refine l_s2 (n := 2) rfl rfl rfl rfl (fun ls y12 ho => ?_)
              have y13 := ho 0 _ (by decide) (by decide) (fun q => by cases q.2) y7
              have y14 := ho 1 _ (by decide) (by decide) (fun q => by cases q.2) y8
              have y15 := ho 3 _ (by decide) (by decide) (fun q => by cases q.2) y9
              have y16 := ho 4 _ (by decide) (by decide) (fun q => by cases q.2) y10
              have y17 := ho 5 _ (by decide) (by decide) (fun q => by cases q.2) y11
              have y18 := ho 6 _ (by decide) (by decide) (fun q => absurd q.1 (by decide)) y6
              refine l1 (n := 2) rfl rfl rfl (ll_of y18) ?_
              refine l1 (n := 1) rfl rfl rfl rfl ?_
              refine l_op (T := (lg_cmp z1 (Int64.ofNat 0))) rfl rfl rfl ?_
              refine l_if rfl (inr_ti _) (fun c => ?_) (fun c => ?_)
              · replace h := h.2 c
                exact H_A_workR_145 hS r2 mv0 mv1 mv3 iv4 (inr_gi _ _ _) y13 y14 y15 y16 y17 y18 y12 (fun n' hn' => hb8 n' (by omega)) h
              · replace h := h.1 (Classical.not_not.mp c)
                refine l1 (n := 2) rfl rfl rfl (li_of y17) ?_
                refine l_bi rfl (by decide) ?_
                refine l_ic rfl (inr_gi _ _ _) ⟨by decide, by decide⟩ (fun c => ?_) (fun c => ?_)
                · replace h := h.1 c
                  exact H_A_workR_143 hS r2  h
                · replace h := h.2 c
                  refine l1 (n := 2) rfl rfl rfl (li_of y17) ?_
                  refine l_bi rfl (by decide) ?_
                  refine l_ic rfl (inr_gi _ _ _) ⟨by decide, by decide⟩ (fun c => ?_) (fun c => ?_)
                  · replace h := h.2 c
                    exact H_A_workR_145 hS r2 mv0 mv1 mv3 iv4 (inr_gi _ _ _) y13 y14 y15 y16 y17 y18 y12 (fun n' hn' => hb8 n' (by omega)) h
                  · replace h := h.1 (Classical.not_not.mp c)
                    exact H_A_workR_143 hS r2  h
            · replace h := h.1 (Classical.not_not.mp c)
              refine l1 (n := 1) rfl rfl rfl (la_of y2) ?_
              refine l1 (n := 1) rfl rfl rfl (la_of y2) ?_
              refine b_iv (c := v0) (as := []) (rest := [.ref v0]) rfl (by decide) (jo_5 hS mv0) rfl rfl (Nat.le_of_ble_eq_true rfl) (fun hq => ?_)
              refine lx_mono (H_A_pop_m hS hR mv0 h) ?_
              rintro _ _ ⟨z3, M3, rfl, rfl, r3, h⟩
              refine l0 rfl rfl rfl ?_
              refine b_iv (c := v0) (as := [.long (-z3)]) (rest := []) rfl (by decide) (jo_5 hS mv0) rfl rfl (Nat.le_of_ble_eq_true rfl) (fun hq => ?_)
              refine lx_mono (H_A_push_m hS r3 mv0 h) ?_
              rintro _ _ ⟨M4, rfl, rfl, r4, h⟩
              refine l3 rfl rfl rfl ?_
              exact H_A_workR_158 hS r4 mv0 mv1 mv3 iv4 y2 y3 y4 y5 (fun n' hn' => hb8 n' (by omega)) h
          · replace h := h.1 (Classical.not_not.mp c)
            refine l1 (n := 1) rfl rfl rfl (la_of y4) ?_
            refine l1 (n := 1) rfl rfl rfl (la_of y3) ?_
            refine l_gr rfl (ko_1 hS mv1) rfl (fun _ => rfl) (kf_1_15 hR.2 mv1) ?_
            refine l1 (n := 2) rfl rfl rfl (li_of y5) ?_
            refine b_ia rfl (jt_1_15 (fz := fz) hS mv1).1 (Nat.le_of_ble_eq_true rfl) iv4 (fun q => ?_)
            replace h := h q
            refine b_iv (c := v3) (as := [zv (gi M (v1 + 11) (v4).toNat)]) (rest := []) rfl (by decide) (jo_7 hS mv3) rfl rfl (Nat.le_of_ble_eq_true rfl) (fun hq => ?_)
            refine lx_mono (H_R_find_m hS hR mv3 (inr_gi _ _ _) h) ?_
            rintro _ _ ⟨z5, M5, rfl, rfl, r5, iz5, h⟩
            refine l_if rfl iz5 (fun c => ?_) (fun c => ?_)
            · replace h := h.2 c
              refine l1 (n := 1) rfl rfl rfl (la_of y2) ?_
              refine l1 (n := 1) rfl rfl rfl (la_of y4) ?_
              refine l_gl rfl (jo_7 hS mv3) rfl (fun _ => rfl) ?_
              refine b_iv (c := v0) (as := [.long (gl M5 v3 10)]) (rest := []) rfl (by decide) (jo_5 hS mv0) rfl rfl (Nat.le_of_ble_eq_true rfl) (fun hq => ?_)
              refine lx_mono (H_A_push_m hS r5 mv0 h) ?_
              rintro _ _ ⟨M6, rfl, rfl, r6, h⟩
              refine l3 rfl rfl rfl ?_
              exact H_A_workR_158 hS r6 mv0 mv1 mv3 iv4 y2 y3 y4 y5 (fun n' hn' => hb8 n' (by omega)) h
            · replace h := h.1 (Classical.not_not.mp c)
              refine l1 (n := 1) rfl rfl rfl rfl ?_
              exact l_ri rfl rfl ⟨by decide, by decide⟩ r5 h
        · replace h := h.1 (Classical.not_not.mp c)
          refine l1 (n := 1) rfl rfl rfl (la_of y2) ?_
          refine l1 (n := 1) rfl rfl rfl (la_of y3) ?_
          refine l_gr rfl (ko_1 hS mv1) rfl (fun _ => rfl) (kf_1_15 hR.2 mv1) ?_
          refine l1 (n := 2) rfl rfl rfl (li_of y5) ?_
          refine b_ia rfl (jt_1_15 (fz := fz) hS mv1).1 (Nat.le_of_ble_eq_true rfl) iv4 (fun q => ?_)
          replace h := h q
          refine l0 rfl rfl rfl ?_
          refine b_iv (c := v0) (as := [.long (Int32.ofInt (gi M (v1 + 11) (v4).toNat)).toInt64]) (rest := []) rfl (by decide) (jo_5 hS mv0) rfl rfl (Nat.le_of_ble_eq_true rfl) (fun hq => ?_)
          refine lx_mono (H_A_push_m hS hR mv0 h) ?_
          rintro _ _ ⟨M7, rfl, rfl, r7, h⟩
          refine l3 rfl rfl rfl ?_
          exact H_A_workR_158 hS r7 mv0 mv1 mv3 iv4 y2 y3 y4 y5 (fun n' hn' => hb8 n' (by omega)) h
      · replace h := h.1 (Classical.not_not.mp c)
        refine l1 (n := 1) rfl rfl rfl rfl ?_
        exact l_ri rfl rfl ⟨by decide, by decide⟩ hR h
