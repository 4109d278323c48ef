theorem H_S_holdAhead_m {fz : Bool} {S : gS} {B : rf_M} {M : rf_M} {n0 : Nat} {x0 : Nat} {K : Int → rf_M → Prop} (hS : rl S) (hR : fl 22 331 B M) (mx0 : x0 ∈ j4) (h : em_S_holdAhead x0 M K) : lx (cx0 fz) n0 62 0 (lv_args 0 [.ref x0]) [] (M, S) (vl_i 22 331 B S K) :=
  H_S_holdAhead hS hR mx0 rfl h
theorem H_S_allows_29 {fz : Bool} {S : gS} {B : rf_M} {M : rf_M} {ls : rf_L} {n0 : Nat} {v0 : Nat} {K : Int → rf_M → Prop} (hS : rl S) (hR : fl 22 331 B M) (mv0 : v0 ∈ j4) (a0 : rf_ld ls 0 = some (.ref v0)) (h : e_S_allows_29 v0 M K) : lx (cx0 fz) n0 61 29 ls [] (M, S) (vl_i 22 331 B S K) := by
  unfold e_S_allows_29 at h
  refine l1 (n := 1) rfl rfl rfl (la_of a0) ?_
  refine b_iv (c := v0) (as := []) (rest := []) rfl (by decide) (jo_4 hS mv0) rfl rfl (Nat.le_of_ble_eq_true rfl) (fun hq => ?_)
  refine lx_mono (H_S_holdAhead_m hS hR mv0 h) ?_
  rintro _ _ ⟨z1, M1, rfl, rfl, r1, iz1, h⟩
  exact l_rb rfl rfl h.1 r1 h.2
theorem H_S_allows {fz : Bool} {S : gS} {B : rf_M} {M : rf_M} {ls : rf_L} {n0 : Nat} {v0 : Nat} {v1 : Int} {v2 : Int64} {K : Int → rf_M → Prop} (hS : rl S) (hR : fl 22 331 B M) (mv0 : v0 ∈ j4) (iv1 : inr v1) (a0 : rf_ld ls 0 = some (.ref v0)) (a1 : rf_ld ls 1 = some (zv v1)) (a2 : rf_ld ls 2 = some (.long v2)) (h : e_S_allows v0 v1 v2 M K) : lx (cx0 fz) n0 61 0 ls [] (M, S) (vl_i 22 331 B S K) := by
  unfold e_S_allows at h
  refine l1 (n := 1) rfl rfl rfl (la_of a0) ?_
  refine l_gr rfl (jo_4 hS mv0) rfl (fun _ => rfl) (jf_4_0 hR.2 mv0) ?_
  refine l1 (n := 1) rfl rfl rfl rfl ?_
  refine l1 (n := 1) rfl rfl rfl (la_of a0) ?_
  refine l_gr rfl (jo_4 hS mv0) rfl (fun _ => rfl) (jf_4_5 hR.2 mv0) ?_
  refine l1 (n := 1) rfl rfl rfl rfl ?_
  refine l_bi rfl (by decide) ?_
  refine b_cpl rfl rfl (jt_4_0 (fz := fz) hS mv0).1 (jt_4_5 (fz := fz) hS mv0).1 ⟨by decide, by decide⟩ ⟨by decide, by decide⟩ ⟨by decide, by decide⟩ (fun q M1 e => ?_)
  replace h := h q M1 e
  have r1 := hR.cpl (jt_4_5 (fz := fz) hS mv0).1.1 (jt_4_5 (fz := fz) hS mv0).2 e
  refine l1 (n := 1) rfl rfl rfl (li_of a1) ?_
  refine b_st (as := [zv v1]) (rest := []) rfl (by decide) rfl (Nat.le_of_ble_eq_true rfl) (fun hq => ?_)
  refine lx_mono (H_M_isCell_m hS r1 iv1 h) ?_
  rintro _ _ ⟨z2, M2, rfl, rfl, r2, iz2, h⟩
  refine l_if rfl iz2 (fun c => ?_) (fun c => ?_)
  · replace h := h.1 c
    exact H_S_allows_29 hS r2 mv0 a0 h
  · replace h := h.2 c
    refine l1 (n := 1) rfl rfl rfl (la_of a0) ?_
    refine l_gr rfl (jo_4 hS mv0) rfl (fun _ => rfl) (jf_4_5 r2.2 mv0) ?_
    refine l1 (n := 1) rfl rfl rfl (li_of a1) ?_
    refine l1 (n := 1) rfl rfl rfl (ll_of a2) ?_
    refine b_ls rfl (jt_4_5 (fz := fz) hS mv0).1 (Nat.le_of_ble_eq_true rfl) iv1 (fun q M3 e => ?_)
    replace h := h q M3 e
    have r3 := r2.wl (jt_4_5 (fz := fz) hS mv0).1.1 (jt_4_5 (fz := fz) hS mv0).2 e
    exact H_S_allows_29 hS r3 mv0 a0 h
theorem H_S_allows_m {fz : Bool} {S : gS} {B : rf_M} {M : rf_M} {n0 : Nat} {x0 : Nat} {x1 : Int} {x2 : Int64} {K : Int → rf_M → Prop} (hS : rl S) (hR : fl 22 331 B M) (mx0 : x0 ∈ j4) (ix1 : inr x1) (h : em_S_allows x0 x1 x2 M K) : lx (cx0 fz) n0 61 0 (lv_args 0 [.ref x0, zv x1, .long x2]) [] (M, S) (vl_i 22 331 B S K) :=
  H_S_allows hS hR mx0 ix1 rfl rfl rfl h
theorem H_S_write_24 {fz : Bool} {S : gS} {B : rf_M} {M : rf_M} {ls : rf_L} {n0 : Nat} {K : rf_M → Prop} (hS : rl S) (hR : fl 22 331 B M) (h : e_S_write_24 M K) : lx (cx0 fz) n0 77 24 ls [] (M, S) (vl_v 22 331 B S K) := by
  unfold e_S_write_24 at h
  exact l_rv rfl rfl hR h
theorem H_S_write {fz : Bool} {S : gS} {B : rf_M} {M : rf_M} {ls : rf_L} {n0 : Nat} {v0 : Nat} {v1 : Int} {v2 : Int64} {K : rf_M → Prop} (hS : rl S) (hR : fl 22 331 B M) (mv0 : v0 ∈ j4) (iv1 : inr v1) (a0 : rf_ld ls 0 = some (.ref v0)) (a1 : rf_ld ls 1 = some (zv v1)) (a2 : rf_ld ls 2 = some (.long v2)) (h : e_S_write v0 v1 v2 M K) : lx (cx0 fz) n0 77 0 ls [] (M, S) (vl_v 22 331 B S K) := by
  unfold e_S_write at h
  refine l1 (n := 1) rfl rfl rfl (li_of a1) ?_
  refine b_st (as := [zv v1]) (rest := []) rfl (by decide) rfl (Nat.le_of_ble_eq_true rfl) (fun hq => ?_)
  refine lx_mono (H_M_isCell_m hS hR iv1 h) ?_
  rintro _ _ ⟨z1, M1, rfl, rfl, r1, iz1, h⟩
  refine l_if rfl iz1 (fun c => ?_) (fun c => ?_)
  · replace h := h.1 c
    exact H_S_write_24 hS r1  h
  · replace h := h.2 c
    refine l1 (n := 1) rfl rfl rfl (la_of a0) ?_
    refine l_gr rfl (jo_4 hS mv0) rfl (fun _ => rfl) (jf_4_0 r1.2 mv0) ?_
    refine l1 (n := 1) rfl rfl rfl (li_of a1) ?_
    refine l1 (n := 1) rfl rfl rfl (ll_of a2) ?_
    refine b_ls rfl (jt_4_0 (fz := fz) hS mv0).1 (Nat.le_of_ble_eq_true rfl) iv1 (fun q M2 e => ?_)
    replace h := h q M2 e
    have r2 := r1.wl (jt_4_0 (fz := fz) hS mv0).1.1 (jt_4_0 (fz := fz) hS mv0).2 e
    refine l1 (n := 1) rfl rfl rfl (la_of a0) ?_
    refine l_gr rfl (jo_4 hS mv0) rfl (fun _ => rfl) (jf_4_1 r2.2 mv0) ?_
    refine l1 (n := 1) rfl rfl rfl (li_of a1) ?_
    refine l0 rfl rfl rfl ?_
    refine b_ia rfl (jt_4_1 (fz := fz) hS mv0).1 (Nat.le_of_ble_eq_true rfl) iv1 (fun q => ?_)
    replace h := h q
    refine l1 (n := 1) rfl rfl rfl rfl ?_
    refine l_add rfl ?_
    refine b_is rfl (jt_4_1 (fz := fz) hS mv0).1 (Nat.le_of_ble_eq_true rfl) iv1 (fun q M3 e => ?_)
    replace h := h q M3 e
    have r3 := r2.wi (jt_4_1 (fz := fz) hS mv0).1.1 (jt_4_1 (fz := fz) hS mv0).2 e
    exact H_S_write_24 hS r3  h
theorem H_S_write_m {fz : Bool} {S : gS} {B : rf_M} {M : rf_M} {n0 : Nat} {x0 : Nat} {x1 : Int} {x2 : Int64} {K : rf_M → Prop} (hS : rl S) (hR : fl 22 331 B M) (mx0 : x0 ∈ j4) (ix1 : inr x1) (h : em_S_write x0 x1 x2 M K) : lx (cx0 fz) n0 77 0 (lv_args 0 [.ref x0, zv x1, .long x2]) [] (M, S) (vl_v 22 331 B S K) :=
  H_S_write hS hR mx0 ix1 rfl rfl rfl h
theorem H_J_note {fz : Bool} {S : gS} {B : rf_M} {M : rf_M} {ls : rf_L} {n0 : Nat} {v1 : Int} {v2 : Int} {v3 : Int} {v4 : Int} {v5 : Int} {v6 : Int64} {K : rf_M → Prop} (hS : rl S) (hR : fl 22 331 B M) (iv1 : inr v1) (iv2 : inr v2) (iv3 : inr v3) (iv4 : inr v4) (iv5 : inr v5) (a0 : rf_ld ls 0 = some (.ref 324)) (a1 : rf_ld ls 1 = some (zv v1)) (a2 : rf_ld ls 2 = some (zv v2)) (a3 : rf_ld ls 3 = some (zv v3)) (a4 : rf_ld ls 4 = some (zv v4)) (a5 : rf_ld ls 5 = some (zv v5)) (a6 : rf_ld ls 6 = some (.long v6)) (h : e_J_note v1 v2 v3 v4 v5 v6 M K) : lx (cx0 fz) n0 78 0 ls [] (M, S) (vl_v 22 331 B S K) := by
  unfold e_J_note at h
  refine l1 (n := 1) rfl rfl rfl (la_of a0) ?_
  refine b_iv (c := 324) (as := []) (rest := []) rfl (by decide) (ko_9 hS (List.Mem.head _)) rfl rfl (Nat.le_of_ble_eq_true rfl) (fun hq => ?_)
  refine lx_mono (H_J_isFull_m hS hR h) ?_
  rintro _ _ ⟨z1, M1, rfl, rfl, r1, iz1, h⟩
  refine l_if rfl iz1 (fun c => ?_) (fun c => ?_)
  · replace h := h.1 c
    refine l1 (n := 1) rfl rfl rfl (la_of a0) ?_
    refine l_gr rfl (ko_9 hS (List.Mem.head _)) rfl (fun _ => rfl) (kf_9_1 r1.2 (List.Mem.head _)) ?_
    refine l1 (n := 1) rfl rfl rfl (la_of a0) ?_
    refine l_gi rfl (ko_9 hS (List.Mem.head _)) rfl (fun _ => rfl) ?_
    refine l1 (n := 1) rfl rfl rfl (li_of a1) ?_
    refine b_is rfl (jc_325 (fz := fz) hS).1 (Nat.le_of_ble_eq_true rfl) (inr_gi _ _ _) (fun q M2 e => ?_)
    replace h := h q M2 e
    have r2 := r1.wi (Nat.le_of_ble_eq_true rfl) (Nat.le_of_ble_eq_true rfl) e
    refine l1 (n := 1) rfl rfl rfl (la_of a0) ?_
    refine l_gr rfl (ko_9 hS (List.Mem.head _)) rfl (fun _ => rfl) (kf_9_2 r2.2 (List.Mem.head _)) ?_
    refine l1 (n := 1) rfl rfl rfl (la_of a0) ?_
    refine l_gi rfl (ko_9 hS (List.Mem.head _)) rfl (fun _ => rfl) ?_
    refine l1 (n := 1) rfl rfl rfl (li_of a2) ?_
    refine b_is rfl (jc_326 (fz := fz) hS).1 (Nat.le_of_ble_eq_true rfl) (inr_gi _ _ _) (fun q M3 e => ?_)
    replace h := h q M3 e
    have r3 := r2.wi (Nat.le_of_ble_eq_true rfl) (Nat.le_of_ble_eq_true rfl) e
    refine l1 (n := 1) rfl rfl rfl (la_of a0) ?_
    refine l_gr rfl (ko_9 hS (List.Mem.head _)) rfl (fun _ => rfl) (kf_9_3 r3.2 (List.Mem.head _)) ?_
    refine l1 (n := 1) rfl rfl rfl (la_of a0) ?_
    refine l_gi rfl (ko_9 hS (List.Mem.head _)) rfl (fun _ => rfl) ?_
    refine l1 (n := 1) rfl rfl rfl (li_of a3) ?_
    refine b_is rfl (jc_327 (fz := fz) hS).1 (Nat.le_of_ble_eq_true rfl) (inr_gi _ _ _) (fun q M4 e => ?_)
    replace h := h q M4 e
    have r4 := r3.wi (Nat.le_of_ble_eq_true rfl) (Nat.le_of_ble_eq_true rfl) e
    refine l1 (n := 1) rfl rfl rfl (la_of a0) ?_
    refine l_gr rfl (ko_9 hS (List.Mem.head _)) rfl (fun _ => rfl) (kf_9_4 r4.2 (List.Mem.head _)) ?_
    refine l1 (n := 1) rfl rfl rfl (la_of a0) ?_
    refine l_gi rfl (ko_9 hS (List.Mem.head _)) rfl (fun _ => rfl) ?_
    refine l1 (n := 2) rfl rfl rfl (li_of a4) ?_
    refine b_is rfl (jc_328 (fz := fz) hS).1 (Nat.le_of_ble_eq_true rfl) (inr_gi _ _ _) (fun q M5 e => ?_)
    replace h := h q M5 e
    have r5 := r4.wi (Nat.le_of_ble_eq_true rfl) (Nat.le_of_ble_eq_true rfl) e
    refine l1 (n := 1) rfl rfl rfl (la_of a0) ?_
    refine l_gr rfl (ko_9 hS (List.Mem.head _)) rfl (fun _ => rfl) (kf_9_5 r5.2 (List.Mem.head _)) ?_
    refine l1 (n := 1) rfl rfl rfl (la_of a0) ?_
    refine l_gi rfl (ko_9 hS (List.Mem.head _)) rfl (fun _ => rfl) ?_
    refine l1 (n := 2) rfl rfl rfl (li_of a5) ?_
    refine b_is rfl (jc_329 (fz := fz) hS).1 (Nat.le_of_ble_eq_true rfl) (inr_gi _ _ _) (fun q M6 e => ?_)
    replace h := h q M6 e
    have r6 := r5.wi (Nat.le_of_ble_eq_true rfl) (Nat.le_of_ble_eq_true rfl) e
    refine l1 (n := 1) rfl rfl rfl (la_of a0) ?_
    refine l_gr rfl (ko_9 hS (List.Mem.head _)) rfl (fun _ => rfl) (kf_9_6 r6.2 (List.Mem.head _)) ?_
    refine l1 (n := 1) rfl rfl rfl (la_of a0) ?_
    refine l_gi rfl (ko_9 hS (List.Mem.head _)) rfl (fun _ => rfl) ?_
    refine l1 (n := 2) rfl rfl rfl (ll_of a6) ?_
    refine b_ls rfl (jc_330 (fz := fz) hS).1 (Nat.le_of_ble_eq_true rfl) (inr_gi _ _ _) (fun q M7 e => ?_)
    replace h := h q M7 e
    have r7 := r6.wl (Nat.le_of_ble_eq_true rfl) (Nat.le_of_ble_eq_true rfl) e
    refine l1 (n := 1) rfl rfl rfl (la_of a0) ?_
    refine l0 rfl rfl rfl ?_
    refine l_gi rfl (ko_9 hS (List.Mem.head _)) rfl (fun _ => rfl) ?_
    refine l1 (n := 1) rfl rfl rfl rfl ?_
    refine l_add rfl ?_
    refine l_pi rfl (ko_9 (fz := fz) hS (List.Mem.head _)) rfl (fun _ _ => rfl) (fun M8 e => ?_)
    replace h := h M8 e
    have r8 := r7.wi (ko_9 (fz := fz) hS (List.Mem.head _)).1 (jl_9 (List.Mem.head _)) e
    exact l_rv rfl rfl r8 h
  · replace h := h.2 c
    exact l_rv rfl rfl r1 h
theorem H_J_note_m {fz : Bool} {S : gS} {B : rf_M} {M : rf_M} {n0 : Nat} {x1 : Int} {x2 : Int} {x3 : Int} {x4 : Int} {x5 : Int} {x6 : Int64} {K : rf_M → Prop} (hS : rl S) (hR : fl 22 331 B M) (ix1 : inr x1) (ix2 : inr x2) (ix3 : inr x3) (ix4 : inr x4) (ix5 : inr x5) (h : em_J_note x1 x2 x3 x4 x5 x6 M K) : lx (cx0 fz) n0 78 0 (lv_args 0 [.ref 324, zv x1, zv x2, zv x3, zv x4, zv x5, .long x6]) [] (M, S) (vl_v 22 331 B S K) :=
  H_J_note hS hR ix1 ix2 ix3 ix4 ix5 rfl rfl rfl rfl rfl rfl rfl h
theorem H_M_put_17 {fz : Bool} {S : gS} {B : rf_M} {M : rf_M} {ls : rf_L} {n0 : Nat} {K : Int → rf_M → Prop} (hS : rl S) (hR : fl 22 331 B M) (h : e_M_put_17 M K) : lx (cx0 fz) n0 59 17 ls [] (M, S) (vl_i 22 331 B S K) := by
  unfold e_M_put_17 at h
  refine l1 (n := 1) rfl rfl rfl rfl ?_
  exact l_ri rfl rfl ⟨by decide, by decide⟩ hR h
theorem H_M_put {fz : Bool} {S : gS} {B : rf_M} {M : rf_M} {ls : rf_L} {n0 : Nat} {v1 : Int} {v2 : Int64} {K : Int → rf_M → Prop} (hS : rl S) (hR : fl 22 331 B M) (iv1 : inr v1) (a0 : rf_ld ls 0 = some (.ref 22)) (a1 : rf_ld ls 1 = some (zv v1)) (a2 : rf_ld ls 2 = some (.long v2)) (h : e_M_put v1 v2 M K) : lx (cx0 fz) n0 59 0 ls [] (M, S) (vl_i 22 331 B S K) := by
  unfold e_M_put at h
  refine l1 (n := 1) rfl rfl rfl (li_of a1) ?_
  refine b_st (as := [zv v1]) (rest := []) rfl (by decide) rfl (Nat.le_of_ble_eq_true rfl) (fun hq => ?_)
  refine lx_mono (H_M_isCell_m hS hR iv1 h) ?_
  rintro _ _ ⟨z1, M1, rfl, rfl, r1, iz1, h⟩
  refine l_if rfl iz1 (fun c => ?_) (fun c => ?_)
  · replace h := h.1 c
    exact H_M_put_17 hS r1  h
  · replace h := h.2 c
    refine l1 (n := 1) rfl rfl rfl (la_of a0) ?_
    refine l_gr rfl (ko_0 hS (List.Mem.head _)) rfl (fun _ => rfl) (kf_0_8 r1.2 (List.Mem.head _)) ?_
    refine b_iv (c := 324) (as := []) (rest := []) rfl (by decide) (ko_9 hS (List.Mem.head _)) rfl rfl (Nat.le_of_ble_eq_true rfl) (fun hq => ?_)
    refine lx_mono (H_J_isFull_m hS r1 h) ?_
    rintro _ _ ⟨z2, M2, rfl, rfl, r2, iz2, h⟩
    refine l_if rfl iz2 (fun c => ?_) (fun c => ?_)
    · replace h := h.1 c
      refine l1 (n := 1) rfl rfl rfl (la_of a0) ?_
      refine l_gr rfl (ko_0 hS (List.Mem.head _)) rfl (fun _ => rfl) (kf_0_6 r2.2 (List.Mem.head _)) ?_
      refine l1 (n := 1) rfl rfl rfl (li_of a1) ?_
      refine l1 (n := 1) rfl rfl rfl (ll_of a2) ?_
      refine b_iv (c := 187) (as := [zv v1, .long v2]) (rest := []) rfl (by decide) (jo_4 hS (List.Mem.head _)) rfl rfl (Nat.le_of_ble_eq_true rfl) (fun hq => ?_)
      refine lx_mono (H_S_allows_m hS r2 (List.Mem.head _) iv1 h) ?_
      rintro _ _ ⟨z3, M3, rfl, rfl, r3, iz3, h⟩
      refine l_if rfl iz3 (fun c => ?_) (fun c => ?_)
      · replace h := h.2 c
        refine l1 (n := 1) rfl rfl rfl (la_of a0) ?_
        refine l_gr rfl (ko_0 hS (List.Mem.head _)) rfl (fun _ => rfl) (kf_0_6 r3.2 (List.Mem.head _)) ?_
        refine l1 (n := 1) rfl rfl rfl (li_of a1) ?_
        refine l1 (n := 1) rfl rfl rfl (ll_of a2) ?_
        refine b_iv (c := 187) (as := [zv v1, .long v2]) (rest := []) rfl (by decide) (jo_4 hS (List.Mem.head _)) rfl rfl (Nat.le_of_ble_eq_true rfl) (fun hq => ?_)
        refine lx_mono (H_S_write_m hS r3 (List.Mem.head _) iv1 h) ?_
        rintro _ _ ⟨M4, rfl, rfl, r4, h⟩
        refine l1 (n := 1) rfl rfl rfl (la_of a0) ?_
        refine l_gr rfl (ko_0 hS (List.Mem.head _)) rfl (fun _ => rfl) (kf_0_8 r4.2 (List.Mem.head _)) ?_
        refine l1 (n := 1) rfl rfl rfl rfl ?_
        refine l1 (n := 1) rfl rfl rfl rfl ?_
        refine l1 (n := 1) rfl rfl rfl (li_of a1) ?_
        refine l1 (n := 1) rfl rfl rfl rfl ?_
        refine l1 (n := 1) rfl rfl rfl rfl ?_
        refine l1 (n := 1) rfl rfl rfl (ll_of a2) ?_
        refine b_iv (c := 324) (as := [zv 0, zv (-1), zv v1, zv 0, zv 0, .long v2]) (rest := []) rfl (by decide) (ko_9 hS (List.Mem.head _)) rfl rfl (Nat.le_of_ble_eq_true rfl) (fun hq => ?_)
        refine lx_mono (H_J_note_m hS r4 ⟨by decide, by decide⟩ ⟨by decide, by decide⟩ iv1 ⟨by decide, by decide⟩ ⟨by decide, by decide⟩ h) ?_
        rintro _ _ ⟨M5, rfl, rfl, r5, h⟩
        refine l1 (n := 1) rfl rfl rfl (la_of a0) ?_
        refine l_gr rfl (ko_0 hS (List.Mem.head _)) rfl (fun _ => rfl) (kf_0_6 r5.2 (List.Mem.head _)) ?_
        refine l_gr rfl (jo_4 hS (List.Mem.head _)) rfl (fun _ => rfl) (jf_4_1 r5.2 (List.Mem.head _)) ?_
        refine l1 (n := 1) rfl rfl rfl (li_of a1) ?_
        refine b_ia rfl (jc_189 (fz := fz) hS).1 (Nat.le_of_ble_eq_true rfl) iv1 (fun q => ?_)
        replace h := h q
        exact l_ri rfl rfl (inr_gi _ _ _) r5 h
      · replace h := h.1 (Classical.not_not.mp c)
        refine l_bi rfl (by decide) ?_
        exact l_ri rfl rfl ⟨by decide, by decide⟩ r3 h
    · replace h := h.2 c
      exact H_M_put_17 hS r2  h
theorem H_M_put_m {fz : Bool} {S : gS} {B : rf_M} {M : rf_M} {n0 : Nat} {x1 : Int} {x2 : Int64} {K : Int → rf_M → Prop} (hS : rl S) (hR : fl 22 331 B M) (ix1 : inr x1) (h : em_M_put x1 x2 M K) : lx (cx0 fz) n0 59 0 (lv_args 0 [.ref 22, zv x1, .long x2]) [] (M, S) (vl_i 22 331 B S K) :=
  H_M_put hS hR ix1 rfl rfl rfl h
theorem H_M_cell_20 {fz : Bool} {S : gS} {B : rf_M} {M : rf_M} {ls : rf_L} {n0 : Nat} {s0 : Int64} {K : Int64 → rf_M → Prop} (hS : rl S) (hR : fl 22 331 B M) (h : e_M_cell_20 s0 M K) : lx (cx0 fz) n0 79 20 ls [.long s0] (M, S) (vl_l 22 331 B S K) := by
  unfold e_M_cell_20 at h
  exact l_rl rfl rfl hR h
theorem H_M_cell {fz : Bool} {S : gS} {B : rf_M} {M : rf_M} {ls : rf_L} {n0 : Nat} {v1 : Int} {K : Int64 → rf_M → Prop} (hS : rl S) (hR : fl 22 331 B M) (iv1 : inr v1) (a0 : rf_ld ls 0 = some (.ref 22)) (a1 : rf_ld ls 1 = some (zv v1)) (h : e_M_cell v1 M K) : lx (cx0 fz) n0 79 0 ls [] (M, S) (vl_l 22 331 B S K) := by
  unfold e_M_cell at h
  refine l1 (n := 1) rfl rfl rfl (li_of a1) ?_
  refine b_st (as := [zv v1]) (rest := []) rfl (by decide) rfl (Nat.le_of_ble_eq_true rfl) (fun hq => ?_)
  refine lx_mono (H_M_isCell_m hS hR iv1 h) ?_
  rintro _ _ ⟨z1, M1, rfl, rfl, r1, iz1, h⟩
  refine l_if rfl iz1 (fun c => ?_) (fun c => ?_)
  · replace h := h.1 c
    refine l1 (n := 1) rfl rfl rfl rfl ?_
    exact H_M_cell_20 hS r1  h
  · replace h := h.2 c
    refine l1 (n := 1) rfl rfl rfl (la_of a0) ?_
    refine l_gr rfl (ko_0 hS (List.Mem.head _)) rfl (fun _ => rfl) (kf_0_6 r1.2 (List.Mem.head _)) ?_
    refine l_gr rfl (jo_4 hS (List.Mem.head _)) rfl (fun _ => rfl) (jf_4_0 r1.2 (List.Mem.head _)) ?_
    refine l1 (n := 1) rfl rfl rfl (li_of a1) ?_
    refine b_la rfl (jc_188 (fz := fz) hS).1 (Nat.le_of_ble_eq_true rfl) iv1 (fun q => ?_)
    replace h := h q
    refine l3 rfl rfl rfl ?_
    exact H_M_cell_20 hS r1  h
theorem H_M_cell_m {fz : Bool} {S : gS} {B : rf_M} {M : rf_M} {n0 : Nat} {x1 : Int} {K : Int64 → rf_M → Prop} (hS : rl S) (hR : fl 22 331 B M) (ix1 : inr x1) (h : em_M_cell x1 M K) : lx (cx0 fz) n0 79 0 (lv_args 0 [.ref 22, zv x1]) [] (M, S) (vl_l 22 331 B S K) :=
  H_M_cell hS hR ix1 rfl rfl h
theorem H_M_version_20 {fz : Bool} {S : gS} {B : rf_M} {M : rf_M} {ls : rf_L} {n0 : Nat} {s0 : Int} {K : Int → rf_M → Prop} (hS : rl S) (hR : fl 22 331 B M) (is0 : inr s0) (h : e_M_version_20 s0 M K) : lx (cx0 fz) n0 80 20 ls [zv s0] (M, S) (vl_i 22 331 B S K) := by
  unfold e_M_version_20 at h
  exact l_ri rfl rfl is0 hR h
theorem H_M_version {fz : Bool} {S : gS} {B : rf_M} {M : rf_M} {ls : rf_L} {n0 : Nat} {v1 : Int} {K : Int → rf_M → Prop} (hS : rl S) (hR : fl 22 331 B M) (iv1 : inr v1) (a0 : rf_ld ls 0 = some (.ref 22)) (a1 : rf_ld ls 1 = some (zv v1)) (h : e_M_version v1 M K) : lx (cx0 fz) n0 80 0 ls [] (M, S) (vl_i 22 331 B S K) := by
  unfold e_M_version at h
  refine l1 (n := 1) rfl rfl rfl (li_of a1) ?_
  refine b_st (as := [zv v1]) (rest := []) rfl (by decide) rfl (Nat.le_of_ble_eq_true rfl) (fun hq => ?_)
  refine lx_mono (H_M_isCell_m hS hR iv1 h) ?_
  rintro _ _ ⟨z1, M1, rfl, rfl, r1, iz1, h⟩
  refine l_if rfl iz1 (fun c => ?_) (fun c => ?_)
  · replace h := h.1 c
    refine l1 (n := 1) rfl rfl rfl rfl ?_
    exact H_M_version_20 hS r1 ⟨by decide, by decide⟩ h
  · replace h := h.2 c
    refine l1 (n := 1) rfl rfl rfl (la_of a0) ?_
    refine l_gr rfl (ko_0 hS (List.Mem.head _)) rfl (fun _ => rfl) (kf_0_6 r1.2 (List.Mem.head _)) ?_
    refine l_gr rfl (jo_4 hS (List.Mem.head _)) rfl (fun _ => rfl) (jf_4_1 r1.2 (List.Mem.head _)) ?_
    refine l1 (n := 1) rfl rfl rfl (li_of a1) ?_
    refine b_ia rfl (jc_189 (fz := fz) hS).1 (Nat.le_of_ble_eq_true rfl) iv1 (fun q => ?_)
    replace h := h q
    refine l3 rfl rfl rfl ?_
    exact H_M_version_20 hS r1 (inr_gi _ _ _) h
theorem H_M_version_m {fz : Bool} {S : gS} {B : rf_M} {M : rf_M} {n0 : Nat} {x1 : Int} {K : Int → rf_M → Prop} (hS : rl S) (hR : fl 22 331 B M) (ix1 : inr x1) (h : em_M_version x1 M K) : lx (cx0 fz) n0 80 0 (lv_args 0 [.ref 22, zv x1]) [] (M, S) (vl_i 22 331 B S K) :=
  H_M_version hS hR ix1 rfl rfl h
theorem H_M_isClient_15 {fz : Bool} {S : gS} {B : rf_M} {M : rf_M} {ls : rf_L} {n0 : Nat} {s0 : Int} {K : Int → rf_M → Prop} (hS : rl S) (hR : fl 22 331 B M) (is0 : inr s0) (h : e_M_isClient_15 s0 M K) : lx (cx0 fz) n0 82 15 ls [zv s0] (M, S) (vl_i 22 331 B S K) := by
  unfold e_M_isClient_15 at h
  exact l_rb rfl rfl h.1 hR h.2
theorem H_M_isClient_14 {fz : Bool} {S : gS} {B : rf_M} {M : rf_M} {ls : rf_L} {n0 : Nat} {K : Int → rf_M → Prop} (hS : rl S) (hR : fl 22 331 B M) (h : e_M_isClient_14 M K) : lx (cx0 fz) n0 82 14 ls [] (M, S) (vl_i 22 331 B S K) := by
  unfold e_M_isClient_14 at h
  refine l1 (n := 1) rfl rfl rfl rfl ?_
  exact H_M_isClient_15 hS hR ⟨by decide, by decide⟩ h
theorem H_M_isClient {fz : Bool} {S : gS} {B : rf_M} {M : rf_M} {ls : rf_L} {n0 : Nat} {v1 : Int} {K : Int → rf_M → Prop} (hS : rl S) (hR : fl 22 331 B M) (iv1 : inr v1) (a1 : rf_ld ls 1 = some (zv v1)) (h : e_M_isClient v1 M K) : lx (cx0 fz) n0 82 0 ls [] (M, S) (vl_i 22 331 B S K) := by
  unfold e_M_isClient at h
  refine l1 (n := 1) rfl rfl rfl (li_of a1) ?_
  refine l_if rfl iv1 (fun c => ?_) (fun c => ?_)
  · replace h := h.1 c
    exact H_M_isClient_14 hS hR  h
  · replace h := h.2 c
    refine l1 (n := 1) rfl rfl rfl (li_of a1) ?_
    refine l_bi rfl (by decide) ?_
    refine l_ic rfl iv1 ⟨by decide, by decide⟩ (fun c => ?_) (fun c => ?_)
    · replace h := h.1 c
      exact H_M_isClient_14 hS hR  h
    · replace h := h.2 c
      refine l1 (n := 1) rfl rfl rfl rfl ?_
      refine l3 rfl rfl rfl ?_
      exact H_M_isClient_15 hS hR ⟨by decide, by decide⟩ h
theorem H_M_isClient_m {fz : Bool} {S : gS} {B : rf_M} {M : rf_M} {n0 : Nat} {x1 : Int} {K : Int → rf_M → Prop} (hS : rl S) (hR : fl 22 331 B M) (ix1 : inr x1) (h : em_M_isClient x1 M K) : lx (cx0 fz) n0 82 0 (lv_args 0 [.ref 22, zv x1]) [] (M, S) (vl_i 22 331 B S K) :=
  H_M_isClient hS hR ix1 rfl h
theorem H_M_isTransaction_17 {fz : Bool} {S : gS} {B : rf_M} {M : rf_M} {ls : rf_L} {n0 : Nat} {s0 : Int} {K : Int → rf_M → Prop} (hS : rl S) (hR : fl 22 331 B M) (is0 : inr s0) (h : e_M_isTransaction_17 s0 M K) : lx (cx0 fz) n0 58 17 ls [zv s0] (M, S) (vl_i 22 331 B S K) := by
  unfold e_M_isTransaction_17 at h
  exact l_rb rfl rfl h.1 hR h.2
theorem H_M_isTransaction_16 {fz : Bool} {S : gS} {B : rf_M} {M : rf_M} {ls : rf_L} {n0 : Nat} {K : Int → rf_M → Prop} (hS : rl S) (hR : fl 22 331 B M) (h : e_M_isTransaction_16 M K) : lx (cx0 fz) n0 58 16 ls [] (M, S) (vl_i 22 331 B S K) := by
  unfold e_M_isTransaction_16 at h
  refine l1 (n := 1) rfl rfl rfl rfl ?_
  exact H_M_isTransaction_17 hS hR ⟨by decide, by decide⟩ h
theorem H_M_isTransaction {fz : Bool} {S : gS} {B : rf_M} {M : rf_M} {ls : rf_L} {n0 : Nat} {v1 : Int} {K : Int → rf_M → Prop} (hS : rl S) (hR : fl 22 331 B M) (iv1 : inr v1) (a0 : rf_ld ls 0 = some (.ref 22)) (a1 : rf_ld ls 1 = some (zv v1)) (h : e_M_isTransaction v1 M K) : lx (cx0 fz) n0 58 0 ls [] (M, S) (vl_i 22 331 B S K) := by
  unfold e_M_isTransaction at h
  refine l1 (n := 1) rfl rfl rfl (li_of a1) ?_
  refine l_if rfl iv1 (fun c => ?_) (fun c => ?_)
  · replace h := h.1 c
    exact H_M_isTransaction_16 hS hR  h
  · replace h := h.2 c
    refine l1 (n := 1) rfl rfl rfl (li_of a1) ?_
    refine l1 (n := 1) rfl rfl rfl (la_of a0) ?_
    refine l_gi rfl (ko_0 hS (List.Mem.head _)) rfl (fun _ => rfl) ?_
    refine l_ic rfl iv1 (inr_gi _ _ _) (fun c => ?_) (fun c => ?_)
    · replace h := h.1 c
      exact H_M_isTransaction_16 hS hR  h
    · replace h := h.2 c
      refine l1 (n := 1) rfl rfl rfl rfl ?_
      refine l3 rfl rfl rfl ?_
      exact H_M_isTransaction_17 hS hR ⟨by decide, by decide⟩ h
theorem H_M_isTransaction_m {fz : Bool} {S : gS} {B : rf_M} {M : rf_M} {n0 : Nat} {x1 : Int} {K : Int → rf_M → Prop} (hS : rl S) (hR : fl 22 331 B M) (ix1 : inr x1) (h : em_M_isTransaction x1 M K) : lx (cx0 fz) n0 58 0 (lv_args 0 [.ref 22, zv x1]) [] (M, S) (vl_i 22 331 B S K) :=
  H_M_isTransaction hS hR ix1 rfl rfl h
theorem H_C_enlist_43 {fz : Bool} {S : gS} {B : rf_M} {M : rf_M} {ls : rf_L} {n0 : Nat} {v0 : Nat} {K : Int → rf_M → Prop} (hS : rl S) (hR : fl 22 331 B M) (mv0 : v0 ∈ j6) (a0 : rf_ld ls 0 = some (.ref v0)) (h : e_C_enlist_43 v0 M K) : lx (cx0 fz) n0 83 43 ls [] (M, S) (vl_i 22 331 B S K) := by
  unfold e_C_enlist_43 at h
  refine l1 (n := 1) rfl rfl rfl (la_of a0) ?_
  refine l_gi rfl (jo_6 hS mv0) rfl (fun _ => rfl) ?_
  exact l_ri rfl rfl (inr_gi _ _ _) hR h
theorem H_C_enlist {fz : Bool} {S : gS} {B : rf_M} {M : rf_M} {ls : rf_L} {n0 : Nat} {v0 : Nat} {v1 : Int} {K : Int → rf_M → Prop} (hS : rl S) (hR : fl 22 331 B M) (mv0 : v0 ∈ j6) (iv1 : inr v1) (a0 : rf_ld ls 0 = some (.ref v0)) (a1 : rf_ld ls 1 = some (zv v1)) (h : e_C_enlist v0 v1 M K) : lx (cx0 fz) n0 83 0 ls [] (M, S) (vl_i 22 331 B S K) := by
  unfold e_C_enlist at h
  refine l1 (n := 1) rfl rfl rfl (la_of a0) ?_
  refine l_gi rfl (jo_6 hS mv0) rfl (fun _ => rfl) ?_
  refine l_bi rfl (by decide) ?_
  refine l_ic rfl (inr_gi _ _ _) ⟨by decide, by decide⟩ (fun c => ?_) (fun c => ?_)
  · replace h := h.1 c
    refine l1 (n := 1) rfl rfl rfl (la_of a0) ?_
    refine l_gr rfl (jo_6 hS mv0) rfl (fun _ => rfl) (jf_6_3 hR.2 mv0) ?_
    refine l1 (n := 1) rfl rfl rfl (la_of a0) ?_
    refine l_gi rfl (jo_6 hS mv0) rfl (fun _ => rfl) ?_
    refine l1 (n := 1) rfl rfl rfl (li_of a1) ?_
    refine b_is rfl (jt_6_3 (fz := fz) hS mv0).1 (Nat.le_of_ble_eq_true rfl) (inr_gi _ _ _) (fun q M1 e => ?_)
    replace h := h q M1 e
    have r1 := hR.wi (jt_6_3 (fz := fz) hS mv0).1.1 (jt_6_3 (fz := fz) hS mv0).2 e
    refine l1 (n := 1) rfl rfl rfl (la_of a0) ?_
    refine l0 rfl rfl rfl ?_
    refine l_gi rfl (jo_6 hS mv0) rfl (fun _ => rfl) ?_
    refine l1 (n := 1) rfl rfl rfl rfl ?_
    refine l_add rfl ?_
    refine l_pi rfl (jo_6 (fz := fz) hS mv0) rfl (fun _ _ => rfl) (fun M2 e => ?_)
    replace h := h M2 e
    have r2 := r1.wi (jo_6 (fz := fz) hS mv0).1 (jl_6 mv0) e
    refine l1 (n := 1) rfl rfl rfl (la_of a0) ?_
    refine l_gi rfl (jo_6 hS mv0) rfl (fun _ => rfl) ?_
    refine l_if rfl (inr_gi _ _ _) (fun c => ?_) (fun c => ?_)
    · replace h := h.2 c
      exact H_C_enlist_43 hS r2 mv0 a0 h
    · replace h := h.1 (Classical.not_not.mp c)
      refine l1 (n := 1) rfl rfl rfl (la_of a0) ?_
      refine l1 (n := 1) rfl rfl rfl rfl ?_
      refine l_pi rfl (jo_6 (fz := fz) hS mv0) rfl (fun _ _ => rfl) (fun M3 e => ?_)
      replace h := h M3 e
      have r3 := r2.wi (jo_6 (fz := fz) hS mv0).1 (jl_6 mv0) e
      exact H_C_enlist_43 hS r3 mv0 a0 h
  · replace h := h.2 c
    refine l1 (n := 1) rfl rfl rfl rfl ?_
    exact l_ri rfl rfl ⟨by decide, by decide⟩ hR h
