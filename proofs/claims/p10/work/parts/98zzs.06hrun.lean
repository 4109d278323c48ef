theorem H_A_workR_8 {fz : Bool} {S : gS} {B : rf_M} {M : rf_M} {ls : rf_L} {n0 : Nat} {v0 : Nat} {v1 : Nat} {v3 : Nat} {v4 : Int} {K : Int → rf_M → Prop} (hS : rl S) (hR : fl 22 331 B M) (mv0 : v0 ∈ j5) (mv1 : v1 ∈ k1) (mv3 : v3 ∈ j7) (iv4 : inr v4) (a0 : rf_ld ls 0 = some (.ref v0)) (a1 : rf_ld ls 1 = some (.ref v1)) (a3 : rf_ld ls 3 = some (.ref v3)) (a4 : rf_ld ls 4 = some (zv v4)) (h : e_A_workR_8 v0 v1 v3 v4 M K) : lx (cx0 fz) n0 65 8 ls [] (M, S) (vl_i 22 331 B S K) := by
  obtain ⟨Inv, hm, hb⟩ := h
  induction n0 using Nat.strongRecOn generalizing ls M v0 v1 v3 v4 with
  | _ n0 ih =>
    refine H_A_workR_8b hS hR mv0 mv1 mv3 iv4 a0 a1 a3 a4 (fun n' hn' v0' v1' v3' v4' M' ls' hR' f0 f1 f2 f3 f4 f5 f6 f7 q2 => ih n' hn' hR' f0 f1 f2 f3 f4 f5 f6 f7 q2) (hb v0 v1 v3 v4 M iv4 hm)
theorem H_A_workR {fz : Bool} {S : gS} {B : rf_M} {M : rf_M} {ls : rf_L} {n0 : Nat} {v0 : Nat} {v1 : Nat} {v2 : Int} {v3 : Nat} {K : Int → rf_M → Prop} (hS : rl S) (hR : fl 22 331 B M) (mv0 : v0 ∈ j5) (mv1 : v1 ∈ k1) (iv2 : inr v2) (mv3 : v3 ∈ j7) (a0 : rf_ld ls 0 = some (.ref v0)) (a1 : rf_ld ls 1 = some (.ref v1)) (a2 : rf_ld ls 2 = some (zv v2)) (a3 : rf_ld ls 3 = some (.ref v3)) (h : e_A_workR v0 v1 v2 v3 M K) : lx (cx0 fz) n0 65 0 ls [] (M, S) (vl_i 22 331 B S K) := by
  unfold e_A_workR at h
  refine l1 (n := 1) rfl rfl rfl (la_of a0) ?_
  refine l1 (n := 1) rfl rfl rfl rfl ?_
  refine l_pi rfl (jo_5 (fz := fz) hS mv0) rfl (fun _ _ => rfl) (fun M1 e => ?_)
  replace h := h M1 e
  have r1 := hR.wi (jo_5 (fz := fz) hS mv0).1 (jl_5 mv0) e
  refine l1 (n := 1) rfl rfl rfl (li_of a2) ?_
  refine l_s1 (n := 2) rfl rfl rfl rfl (fun ls y1 ho => ?_)
  have y2 := ho 0 _ (by decide) (fun q => by cases q.2) a0
  have y3 := ho 1 _ (by decide) (fun q => by cases q.2) a1
  have y4 := ho 3 _ (by decide) (fun q => by cases q.2) a3
  exact H_A_workR_8 hS r1 mv0 mv1 mv3 iv2 y2 y3 y4 y1 h
theorem H_A_workR_m {fz : Bool} {S : gS} {B : rf_M} {M : rf_M} {n0 : Nat} {x0 : Nat} {x1 : Nat} {x2 : Int} {x3 : Nat} {K : Int → rf_M → Prop} (hS : rl S) (hR : fl 22 331 B M) (mx0 : x0 ∈ j5) (mx1 : x1 ∈ k1) (ix2 : inr x2) (mx3 : x3 ∈ j7) (h : em_A_workR x0 x1 x2 x3 M K) : lx (cx0 fz) n0 65 0 (lv_args 0 [.ref x0, .ref x1, zv x2, .ref x3]) [] (M, S) (vl_i 22 331 B S K) :=
  H_A_workR hS hR mx0 mx1 ix2 mx3 rfl rfl rfl rfl h
theorem H_D_assign_51 {fz : Bool} {S : gS} {B : rf_M} {M : rf_M} {ls : rf_L} {n0 : Nat} {K : rf_M → Prop} (hS : rl S) (hR : fl 22 331 B M) (h : e_D_assign_51 M K) : lx (cx0 fz) n0 100 51 ls [] (M, S) (vl_v 22 331 B S K) := by
  unfold e_D_assign_51 at h
  exact l_rv rfl rfl hR h
theorem H_D_assign {fz : Bool} {S : gS} {B : rf_M} {M : rf_M} {ls : rf_L} {n0 : Nat} {v0 : Nat} {v1 : Int} {v2 : Int64} {K : rf_M → Prop} (hS : rl S) (hR : fl 22 331 B M) (mv0 : v0 ∈ j8) (iv1 : inr v1) (a0 : rf_ld ls 0 = some (.ref v0)) (a1 : rf_ld ls 1 = some (zv v1)) (a2 : rf_ld ls 2 = some (.long v2)) (h : e_D_assign v0 v1 v2 M K) : lx (cx0 fz) n0 100 0 ls [] (M, S) (vl_v 22 331 B S K) := by
  unfold e_D_assign at h
  refine l1 (n := 1) rfl rfl rfl (li_of a1) ?_
  refine b_st (as := [zv v1]) (rest := []) rfl (by decide) rfl (Nat.le_of_ble_eq_true rfl) (fun hq => ?_)
  refine lx_mono (H_M_isCell_m hS hR iv1 h) ?_
  rintro _ _ ⟨z1, M1, rfl, rfl, r1, iz1, h⟩
  refine l_if rfl iz1 (fun c => ?_) (fun c => ?_)
  · replace h := h.1 c
    refine l1 (n := 1) rfl rfl rfl (li_of a1) ?_
    refine l_bi rfl (by decide) ?_
    refine l_ic rfl iv1 ⟨by decide, by decide⟩ (fun c => ?_) (fun c => ?_)
    · replace h := h.1 c
      exact H_D_assign_51 hS r1  h
    · replace h := h.2 c
      refine l1 (n := 1) rfl rfl rfl (li_of a1) ?_
      refine l_bi rfl (by decide) ?_
      refine l_ic rfl iv1 ⟨by decide, by decide⟩ (fun c => ?_) (fun c => ?_)
      · replace h := h.1 c
        exact H_D_assign_51 hS r1  h
      · replace h := h.2 c
        refine l1 (n := 1) rfl rfl rfl (la_of a0) ?_
        refine l_gr rfl (jo_8 hS mv0) rfl (fun _ => rfl) (jf_8_2 r1.2 mv0) ?_
        refine l1 (n := 1) rfl rfl rfl (li_of a1) ?_
        refine l_bi rfl (by decide) ?_
        refine l_sub rfl ?_
        refine l1 (n := 1) rfl rfl rfl (ll_of a2) ?_
        obtain ⟨i1, h⟩ := h
        refine b_ls rfl (jt_8_2 (fz := fz) hS mv0).1 (Nat.le_of_ble_eq_true rfl) i1 (fun q M2 e => ?_)
        replace h := h q M2 e
        have r2 := r1.wl (jt_8_2 (fz := fz) hS mv0).1.1 (jt_8_2 (fz := fz) hS mv0).2 e
        exact H_D_assign_51 hS r2  h
  · replace h := h.2 c
    refine l1 (n := 1) rfl rfl rfl (la_of a0) ?_
    refine l_gr rfl (jo_8 hS mv0) rfl (fun _ => rfl) (jf_8_1 r1.2 mv0) ?_
    refine l1 (n := 1) rfl rfl rfl (li_of a1) ?_
    refine l1 (n := 1) rfl rfl rfl (ll_of a2) ?_
    refine b_ls rfl (jt_8_1 (fz := fz) hS mv0).1 (Nat.le_of_ble_eq_true rfl) iv1 (fun q M3 e => ?_)
    replace h := h q M3 e
    have r3 := r1.wl (jt_8_1 (fz := fz) hS mv0).1.1 (jt_8_1 (fz := fz) hS mv0).2 e
    refine l1 (n := 1) rfl rfl rfl (la_of a0) ?_
    refine l0 rfl rfl rfl ?_
    refine l_gi rfl (jo_8 hS mv0) rfl (fun _ => rfl) ?_
    refine l1 (n := 1) rfl rfl rfl rfl ?_
    refine l1 (n := 1) rfl rfl rfl (li_of a1) ?_
    refine l_op (T := (Int32.ofInt 1 <<< (Int32.ofInt v1 &&& 31))) rfl rfl rfl ?_
    refine l_op (T := (Int32.ofInt (gi M3 v0 0) ||| Int32.ofInt (Int32.ofInt 1 <<< (Int32.ofInt v1 &&& 31)).toInt)) rfl rfl rfl ?_
    refine l_pi rfl (jo_8 (fz := fz) hS mv0) rfl (fun _ _ => rfl) (fun M4 e => ?_)
    replace h := h M4 e
    have r4 := r3.wi (jo_8 (fz := fz) hS mv0).1 (jl_8 mv0) e
    refine l3 rfl rfl rfl ?_
    exact H_D_assign_51 hS r4  h
theorem H_D_assign_m {fz : Bool} {S : gS} {B : rf_M} {M : rf_M} {n0 : Nat} {x0 : Nat} {x1 : Int} {x2 : Int64} {K : rf_M → Prop} (hS : rl S) (hR : fl 22 331 B M) (mx0 : x0 ∈ j8) (ix1 : inr x1) (h : em_D_assign x0 x1 x2 M K) : lx (cx0 fz) n0 100 0 (lv_args 0 [.ref x0, zv x1, .long x2]) [] (M, S) (vl_v 22 331 B S K) :=
  H_D_assign hS hR mx0 ix1 rfl rfl rfl h
theorem H_R_toss {fz : Bool} {S : gS} {B : rf_M} {M : rf_M} {ls : rf_L} {n0 : Nat} {v0 : Nat} {v1 : Int64} {K : Int → rf_M → Prop} (hS : rl S) (hR : fl 22 331 B M) (mv0 : v0 ∈ j7) (a0 : rf_ld ls 0 = some (.ref v0)) (a1 : rf_ld ls 1 = some (.long v1)) (h : e_R_toss v0 v1 M K) : lx (cx0 fz) n0 99 0 ls [] (M, S) (vl_i 22 331 B S K) := by
  unfold e_R_toss at h
  refine l1 (n := 1) rfl rfl rfl (la_of a0) ?_
  obtain ⟨q1, h⟩ := h
  refine l_gr rfl (jo_7 hS mv0) rfl (fun _ => rfl) q1.1 ?_
  refine l1 (n := 1) rfl rfl rfl (la_of a0) ?_
  refine l_gi rfl (jo_7 hS mv0) rfl (fun _ => rfl) ?_
  refine l_bi rfl (by decide) ?_
  refine b_iv (c := (gr M v0 0)) (as := [zv (gi M v0 6), zv 17]) (rest := []) rfl (by decide) (ko_1 hS q1.2) rfl rfl (Nat.le_of_ble_eq_true rfl) (fun hq => ?_)
  refine lx_mono (H_P_around_m hS hR q1.2 (inr_gi _ _ _) ⟨by decide, by decide⟩ h) ?_
  rintro _ _ ⟨z1, M1, rfl, rfl, r1, iz1, h⟩
  refine l_s1 (n := 1) rfl rfl rfl rfl (fun ls y1 ho => ?_)
  have y2 := ho 0 _ (by decide) (fun q => by cases q.2) a0
  have y3 := ho 1 _ (by decide) (fun q => absurd q.1 (by decide)) a1
  refine l1 (n := 1) rfl rfl rfl (li_of y1) ?_
  refine l1 (n := 1) rfl rfl rfl rfl ?_
  refine l_ic rfl iz1 ⟨by decide, by decide⟩ (fun c => ?_) (fun c => ?_)
  · replace h := h.2 c
    refine l1 (n := 1) rfl rfl rfl (la_of y2) ?_
    refine l_gr rfl (jo_7 hS mv0) rfl (fun _ => rfl) (jf_7_5 r1.2 mv0) ?_
    refine l1 (n := 1) rfl rfl rfl (la_of y2) ?_
    obtain ⟨q2, h⟩ := h
    refine l_gr rfl (jo_7 hS mv0) rfl (fun _ => rfl) q2.1 ?_
    refine l_gr rfl (ko_1 hS q2.2) rfl (fun _ => rfl) (kf_1_10 r1.2 q2.2) ?_
    refine l1 (n := 1) rfl rfl rfl (li_of y1) ?_
    refine b_ia rfl (jt_1_10 (fz := fz) hS q2.2).1 (Nat.le_of_ble_eq_true rfl) iz1 (fun q => ?_)
    replace h := h q
    refine b_iv (c := (v0 + 2)) (as := [zv (gi M1 ((gr M1 v0 0) + 6) (z1).toNat)]) (rest := []) rfl (by decide) (jo_8 hS (jt_7_5 mv0)) rfl rfl (Nat.le_of_ble_eq_true rfl) (fun hq => ?_)
    refine lx_mono (H_D_takeBack_m hS r1 (jt_7_5 mv0) (inr_gi _ _ _) h) ?_
    rintro _ _ ⟨M2, rfl, rfl, r2, h⟩
    refine l1 (n := 1) rfl rfl rfl (la_of y2) ?_
    refine l_gr rfl (jo_7 hS mv0) rfl (fun _ => rfl) (jf_7_5 r2.2 mv0) ?_
    refine l1 (n := 1) rfl rfl rfl (la_of y2) ?_
    obtain ⟨q3, h⟩ := h
    refine l_gr rfl (jo_7 hS mv0) rfl (fun _ => rfl) q3.1 ?_
    refine l_gr rfl (ko_1 hS q3.2) rfl (fun _ => rfl) (kf_1_6 r2.2 q3.2) ?_
    refine l1 (n := 1) rfl rfl rfl (li_of y1) ?_
    refine b_ia rfl (jt_1_6 (fz := fz) hS q3.2).1 (Nat.le_of_ble_eq_true rfl) iz1 (fun q => ?_)
    replace h := h q
    refine l1 (n := 1) rfl rfl rfl (ll_of y3) ?_
    refine b_iv (c := (v0 + 2)) (as := [zv (gi M2 ((gr M2 v0 0) + 2) (z1).toNat), .long v1]) (rest := []) rfl (by decide) (jo_8 hS (jt_7_5 mv0)) rfl rfl (Nat.le_of_ble_eq_true rfl) (fun hq => ?_)
    refine lx_mono (H_D_assign_m hS r2 (jt_7_5 mv0) (inr_gi _ _ _) h) ?_
    rintro _ _ ⟨M3, rfl, rfl, r3, h⟩
    refine l1 (n := 1) rfl rfl rfl (la_of y2) ?_
    refine l1 (n := 1) rfl rfl rfl (la_of y2) ?_
    obtain ⟨q4, h⟩ := h
    refine l_gr rfl (jo_7 hS mv0) rfl (fun _ => rfl) q4.1 ?_
    refine l1 (n := 1) rfl rfl rfl (li_of y1) ?_
    refine l1 (n := 1) rfl rfl rfl (la_of y2) ?_
    obtain ⟨q5, h⟩ := h
    refine l_gr rfl (jo_7 hS mv0) rfl (fun _ => rfl) q5.1 ?_
    refine l_gr rfl (ko_1 hS q5.2) rfl (fun _ => rfl) (kf_1_13 r3.2 q5.2) ?_
    refine l1 (n := 1) rfl rfl rfl (li_of y1) ?_
    refine b_ia rfl (jt_1_13 (fz := fz) hS q5.2).1 (Nat.le_of_ble_eq_true rfl) iz1 (fun q => ?_)
    replace h := h q
    refine b_iv (c := (gr M3 v0 0)) (as := [zv z1, zv (gi M3 ((gr M3 v0 0) + 9) (z1).toNat)]) (rest := [.ref v0]) rfl (by decide) (ko_1 hS q4.2) rfl rfl (Nat.le_of_ble_eq_true rfl) (fun hq => ?_)
    refine lx_mono (H_P_into_m hS r3 q4.2 iz1 (inr_gi _ _ _) h) ?_
    rintro _ _ ⟨z4, M4, rfl, rfl, r4, iz4, h⟩
    refine l_pi rfl (jo_7 (fz := fz) hS mv0) rfl (fun _ _ => rfl) (fun M5 e => ?_)
    replace h := h M5 e
    have r5 := r4.wi (jo_7 (fz := fz) hS mv0).1 (jl_7 mv0) e
    refine l1 (n := 1) rfl rfl rfl rfl ?_
    exact l_ri rfl rfl ⟨by decide, by decide⟩ r5 h
  · replace h := h.1 (Classical.not_not.mp c)
    refine l1 (n := 1) rfl rfl rfl (la_of y2) ?_
    refine l1 (n := 1) rfl rfl rfl (ll_of y3) ?_
    refine l_pl rfl (jo_7 (fz := fz) hS mv0) rfl (fun _ _ => rfl) (fun M6 e => ?_)
    replace h := h M6 e
    have r6 := r1.wl (jo_7 (fz := fz) hS mv0).1 (jl_7 mv0) e
    refine l1 (n := 1) rfl rfl rfl rfl ?_
    exact l_ri rfl rfl ⟨by decide, by decide⟩ r6 h
theorem H_R_toss_m {fz : Bool} {S : gS} {B : rf_M} {M : rf_M} {n0 : Nat} {x0 : Nat} {x1 : Int64} {K : Int → rf_M → Prop} (hS : rl S) (hR : fl 22 331 B M) (mx0 : x0 ∈ j7) (h : em_R_toss x0 x1 M K) : lx (cx0 fz) n0 99 0 (lv_args 0 [.ref x0, .long x1]) [] (M, S) (vl_i 22 331 B S K) :=
  H_R_toss hS hR mx0 rfl rfl h
theorem H_R_walkExp_200 {fz : Bool} {S : gS} {B : rf_M} {M : rf_M} {ls : rf_L} {n0 : Nat} {s0 : Nat} {s1 : Int} {K : Int → rf_M → Prop} (hS : rl S) (hR : fl 22 331 B M) (ms0 : s0 ∈ j7) (is1 : inr s1) (h : e_R_walkExp_200 s0 s1 M K) : lx (cx0 fz) n0 98 200 ls [zv s1, .ref s0] (M, S) (vl_i 22 331 B S K) := by
  unfold e_R_walkExp_200 at h
  refine l_pi rfl (jo_7 (fz := fz) hS ms0) rfl (fun _ _ => rfl) (fun M1 e => ?_)
  replace h := h M1 e
  have r1 := hR.wi (jo_7 (fz := fz) hS ms0).1 (jl_7 ms0) e
  refine l1 (n := 1) rfl rfl rfl rfl ?_
  exact l_ri rfl rfl ⟨by decide, by decide⟩ r1 h
theorem H_R_walkExp_148 {fz : Bool} {S : gS} {B : rf_M} {M : rf_M} {ls : rf_L} {n0 : Nat} {s0 : Nat} {s1 : Nat} {s2 : Int} {s3 : Int} {K : Int → rf_M → Prop} (hS : rl S) (hR : fl 22 331 B M) (ms0 : s0 ∈ j7) (ms1 : s1 ∈ k1) (is2 : inr s2) (is3 : inr s3) (h : e_R_walkExp_148 s0 s1 s2 s3 M K) : lx (cx0 fz) n0 98 148 ls [zv s3, zv s2, .ref s1, .ref s0] (M, S) (vl_i 22 331 B S K) := by
  unfold e_R_walkExp_148 at h
  refine b_iv (c := s1) (as := [zv s2, zv s3]) (rest := [.ref s0]) rfl (by decide) (ko_1 hS ms1) rfl rfl (Nat.le_of_ble_eq_true rfl) (fun hq => ?_)
  refine lx_mono (H_P_into_m hS hR ms1 is2 is3 h) ?_
  rintro _ _ ⟨z1, M1, rfl, rfl, r1, iz1, h⟩
  refine l_pi rfl (jo_7 (fz := fz) hS ms0) rfl (fun _ _ => rfl) (fun M2 e => ?_)
  replace h := h M2 e
  have r2 := r1.wi (jo_7 (fz := fz) hS ms0).1 (jl_7 ms0) e
  refine l1 (n := 1) rfl rfl rfl rfl ?_
  exact l_ri rfl rfl ⟨by decide, by decide⟩ r2 h
theorem H_R_walkExp {fz : Bool} {S : gS} {B : rf_M} {M : rf_M} {ls : rf_L} {n0 : Nat} {v0 : Nat} {K : Int → rf_M → Prop} (hS : rl S) (hR : fl 22 331 B M) (mv0 : v0 ∈ j7) (a0 : rf_ld ls 0 = some (.ref v0)) (h : e_R_walkExp v0 M K) : lx (cx0 fz) n0 98 0 ls [] (M, S) (vl_i 22 331 B S K) := by
  unfold e_R_walkExp at h
  refine l1 (n := 1) rfl rfl rfl (la_of a0) ?_
  refine l_gr rfl (jo_7 hS mv0) rfl (fun _ => rfl) (jf_7_9 hR.2 mv0) ?_
  refine l1 (n := 1) rfl rfl rfl (la_of a0) ?_
  obtain ⟨q1, h⟩ := h
  refine l_gr rfl (jo_7 hS mv0) rfl (fun _ => rfl) q1.1 ?_
  refine l1 (n := 1) rfl rfl rfl (la_of a0) ?_
  obtain ⟨q2, h⟩ := h
  refine l_gr rfl (jo_7 hS mv0) rfl (fun _ => rfl) q2.1 ?_
  refine l_gr rfl (ko_1 hS q2.2) rfl (fun _ => rfl) (kf_1_7 hR.2 q2.2) ?_
  refine l1 (n := 1) rfl rfl rfl (la_of a0) ?_
  refine l_gi rfl (jo_7 hS mv0) rfl (fun _ => rfl) ?_
  refine b_ia rfl (jt_1_7 (fz := fz) hS q2.2).1 (Nat.le_of_ble_eq_true rfl) (inr_gi _ _ _) (fun q => ?_)
  replace h := h q
  refine l1 (n := 1) rfl rfl rfl (la_of a0) ?_
  refine b_iv (c := (v0 + 11)) (as := [.ref (gr M v0 0), zv (gi M ((gr M v0 0) + 3) (gi M v0 6).toNat), .ref v0]) (rest := []) rfl (by decide) (jo_5 hS (jt_7_9 mv0)) rfl rfl (Nat.le_of_ble_eq_true rfl) (fun hq => ?_)
  refine lx_mono (H_A_workR_m hS hR (jt_7_9 mv0) q1.2 (inr_gi _ _ _) mv0 h) ?_
  rintro _ _ ⟨z1, M1, rfl, rfl, r1, iz1, h⟩
  refine l_s1 (n := 1) rfl rfl rfl rfl (fun ls y1 ho => ?_)
  have y2 := ho 0 _ (by decide) (fun q => by cases q.2) a0
  refine l1 (n := 1) rfl rfl rfl (li_of y1) ?_
  refine l1 (n := 1) rfl rfl rfl rfl ?_
  refine l_ic rfl iz1 ⟨by decide, by decide⟩ (fun c => ?_) (fun c => ?_)
  · replace h := h.2 c
    refine l1 (n := 1) rfl rfl rfl (li_of y1) ?_
    refine l1 (n := 1) rfl rfl rfl rfl ?_
    refine l_ic rfl iz1 ⟨by decide, by decide⟩ (fun c => ?_) (fun c => ?_)
    · replace h := h.2 c
      refine l1 (n := 1) rfl rfl rfl (la_of y2) ?_
      refine l_gr rfl (jo_7 hS mv0) rfl (fun _ => rfl) (jf_7_9 r1.2 mv0) ?_
      refine b_iv (c := (v0 + 11)) (as := []) (rest := []) rfl (by decide) (jo_5 hS (jt_7_9 mv0)) rfl rfl (Nat.le_of_ble_eq_true rfl) (fun hq => ?_)
      refine lx_mono (H_A_result_m hS r1 (jt_7_9 mv0) h) ?_
      rintro _ _ ⟨z2, M2, rfl, rfl, r2, h⟩
      refine l_s2 (n := 1) rfl rfl rfl rfl (fun ls y3 ho => ?_)
      have y4 := ho 0 _ (by decide) (by decide) (fun q => by cases q.2) y2
      refine l1 (n := 1) rfl rfl rfl (la_of y4) ?_
      obtain ⟨q3, h⟩ := h
      refine l_gr rfl (jo_7 hS mv0) rfl (fun _ => rfl) q3.1 ?_
      refine l_gr rfl (ko_1 hS q3.2) rfl (fun _ => rfl) (kf_1_5 r2.2 q3.2) ?_
      refine l1 (n := 1) rfl rfl rfl (la_of y4) ?_
      refine l_gi rfl (jo_7 hS mv0) rfl (fun _ => rfl) ?_
      refine b_ia rfl (jt_1_5 (fz := fz) hS q3.2).1 (Nat.le_of_ble_eq_true rfl) (inr_gi _ _ _) (fun q => ?_)
      replace h := h q
      have ia : inr (gi M2 ((gr M2 v0 0) + 1) (gi M2 v0 6).toNat) := (inr_gi _ _ _)
      obtain ⟨h1, h⟩ := h
      by_cases e10 : (gi M2 ((gr M2 v0 0) + 1) (gi M2 v0 6).toNat) = 10
      · replace h := h1 e10
        refine l_sw e10 rfl rfl rfl ?_
        refine l1 (n := 1) rfl rfl rfl (la_of y4) ?_
        refine l1 (n := 1) rfl rfl rfl (la_of y4) ?_
        obtain ⟨q4, h⟩ := h
        refine l_gr rfl (jo_7 hS mv0) rfl (fun _ => rfl) q4.1 ?_
        refine l1 (n := 1) rfl rfl rfl (la_of y4) ?_
        refine l_gi rfl (jo_7 hS mv0) rfl (fun _ => rfl) ?_
        refine l1 (n := 1) rfl rfl rfl (ll_of y3) ?_
        refine l1 (n := 1) rfl rfl rfl rfl ?_
        refine l_op (T := (lg_cmp z2 (Int64.ofNat 0))) rfl rfl rfl ?_
        refine l_if rfl (inr_ti _) (fun c => ?_) (fun c => ?_)
        · replace h := h.1 c
          refine l1 (n := 1) rfl rfl rfl (la_of y4) ?_
          obtain ⟨q5, h⟩ := h
          refine l_gr rfl (jo_7 hS mv0) rfl (fun _ => rfl) q5.1 ?_
          refine l_gr rfl (ko_1 hS q5.2) rfl (fun _ => rfl) (kf_1_13 r2.2 q5.2) ?_
          refine l1 (n := 1) rfl rfl rfl (la_of y4) ?_
          refine l_gi rfl (jo_7 hS mv0) rfl (fun _ => rfl) ?_
          refine b_ia rfl (jt_1_13 (fz := fz) hS q5.2).1 (Nat.le_of_ble_eq_true rfl) (inr_gi _ _ _) (fun q => ?_)
          replace h := h q
          exact H_R_walkExp_148 hS r2 mv0 q4.2 (inr_gi _ _ _) (inr_gi _ _ _) h
        · replace h := h.2 c
          refine l1 (n := 1) rfl rfl rfl (la_of y4) ?_
          obtain ⟨q6, h⟩ := h
          refine l_gr rfl (jo_7 hS mv0) rfl (fun _ => rfl) q6.1 ?_
          refine l_gr rfl (ko_1 hS q6.2) rfl (fun _ => rfl) (kf_1_12 r2.2 q6.2) ?_
          refine l1 (n := 1) rfl rfl rfl (la_of y4) ?_
          refine l_gi rfl (jo_7 hS mv0) rfl (fun _ => rfl) ?_
          refine b_ia rfl (jt_1_12 (fz := fz) hS q6.2).1 (Nat.le_of_ble_eq_true rfl) (inr_gi _ _ _) (fun q => ?_)
          replace h := h q
          refine l3 rfl rfl rfl ?_
          exact H_R_walkExp_148 hS r2 mv0 q4.2 (inr_gi _ _ _) (inr_gi _ _ _) h
      obtain ⟨h1, h⟩ := h
      by_cases e12 : (gi M2 ((gr M2 v0 0) + 1) (gi M2 v0 6).toNat) = 12
      · replace h := h1 e12
        refine l_sw e12 rfl rfl rfl ?_
        refine l1 (n := 1) rfl rfl rfl (la_of y4) ?_
        refine l1 (n := 1) rfl rfl rfl (ll_of y3) ?_
        refine l1 (n := 1) rfl rfl rfl rfl ?_
        refine l_op (T := (lg_cmp z2 (Int64.ofNat 0))) rfl rfl rfl ?_
        refine l_if rfl (inr_ti _) (fun c => ?_) (fun c => ?_)
        · replace h := h.1 c
          refine l1 (n := 1) rfl rfl rfl (la_of y4) ?_
          obtain ⟨q7, h⟩ := h
          refine l_gr rfl (jo_7 hS mv0) rfl (fun _ => rfl) q7.1 ?_
          refine l1 (n := 1) rfl rfl rfl (la_of y4) ?_
          refine l_gi rfl (jo_7 hS mv0) rfl (fun _ => rfl) ?_
          refine b_iv (c := (gr M2 v0 0)) (as := [zv (gi M2 v0 6)]) (rest := [.ref v0]) rfl (by decide) (ko_1 hS q7.2) rfl rfl (Nat.le_of_ble_eq_true rfl) (fun hq => ?_)
          refine lx_mono (H_P_behind_m hS r2 q7.2 (inr_gi _ _ _) h) ?_
          rintro _ _ ⟨z3, M3, rfl, rfl, r3, iz3, h⟩
          exact H_R_walkExp_200 hS r3 mv0 iz3 h
        · replace h := h.2 c
          refine l1 (n := 1) rfl rfl rfl (la_of y4) ?_
          obtain ⟨q8, h⟩ := h
          refine l_gr rfl (jo_7 hS mv0) rfl (fun _ => rfl) q8.1 ?_
          refine l1 (n := 1) rfl rfl rfl (la_of y4) ?_
          refine l_gi rfl (jo_7 hS mv0) rfl (fun _ => rfl) ?_
          refine l1 (n := 1) rfl rfl rfl (la_of y4) ?_
          obtain ⟨q9, h⟩ := h
          refine l_gr rfl (jo_7 hS mv0) rfl (fun _ => rfl) q9.1 ?_
          refine l_gr rfl (ko_1 hS q9.2) rfl (fun _ => rfl) (kf_1_12 r2.2 q9.2) ?_
          refine l1 (n := 1) rfl rfl rfl (la_of y4) ?_
          refine l_gi rfl (jo_7 hS mv0) rfl (fun _ => rfl) ?_
          refine b_ia rfl (jt_1_12 (fz := fz) hS q9.2).1 (Nat.le_of_ble_eq_true rfl) (inr_gi _ _ _) (fun q => ?_)
          replace h := h q
          refine b_iv (c := (gr M2 v0 0)) (as := [zv (gi M2 v0 6), zv (gi M2 ((gr M2 v0 0) + 8) (gi M2 v0 6).toNat)]) (rest := [.ref v0]) rfl (by decide) (ko_1 hS q8.2) rfl rfl (Nat.le_of_ble_eq_true rfl) (fun hq => ?_)
          refine lx_mono (H_P_into_m hS r2 q8.2 (inr_gi _ _ _) (inr_gi _ _ _) h) ?_
          rintro _ _ ⟨z4, M4, rfl, rfl, r4, iz4, h⟩
          refine l3 rfl rfl rfl ?_
          exact H_R_walkExp_200 hS r4 mv0 iz4 h
      obtain ⟨h1, h⟩ := h
      by_cases e14 : (gi M2 ((gr M2 v0 0) + 1) (gi M2 v0 6).toNat) = 14
      · replace h := h1 e14
        refine l_sw e14 rfl rfl rfl ?_
        refine l1 (n := 1) rfl rfl rfl (la_of y4) ?_
        refine l1 (n := 1) rfl rfl rfl (ll_of y3) ?_
        refine b_iv (c := v0) (as := [.long z2]) (rest := []) rfl (by decide) (jo_7 hS mv0) rfl rfl (Nat.le_of_ble_eq_true rfl) (fun hq => ?_)
        refine lx_mono (H_R_toss_m hS r2 mv0 h) ?_
        rintro _ _ ⟨z5, M5, rfl, rfl, r5, iz5, h⟩
        exact l_ri rfl rfl iz5 r5 h
      replace h := h ⟨e10, e12, e14⟩
      by_cases e11 : (gi M2 ((gr M2 v0 0) + 1) (gi M2 v0 6).toNat) = 11
      · refine l_sw e11 rfl rfl rfl ?_
        refine l1 (n := 1) rfl rfl rfl (la_of y4) ?_
        refine l_gr rfl (jo_7 hS mv0) rfl (fun _ => rfl) (jf_7_5 r2.2 mv0) ?_
        refine l1 (n := 1) rfl rfl rfl (la_of y4) ?_
        obtain ⟨q10, h⟩ := h
        refine l_gr rfl (jo_7 hS mv0) rfl (fun _ => rfl) q10.1 ?_
        refine l_gr rfl (ko_1 hS q10.2) rfl (fun _ => rfl) (kf_1_6 r2.2 q10.2) ?_
        refine l1 (n := 1) rfl rfl rfl (la_of y4) ?_
        refine l_gi rfl (jo_7 hS mv0) rfl (fun _ => rfl) ?_
        refine b_ia rfl (jt_1_6 (fz := fz) hS q10.2).1 (Nat.le_of_ble_eq_true rfl) (inr_gi _ _ _) (fun q => ?_)
        replace h := h q
        refine l1 (n := 1) rfl rfl rfl (ll_of y3) ?_
        refine b_iv (c := (v0 + 2)) (as := [zv (gi M2 ((gr M2 v0 0) + 2) (gi M2 v0 6).toNat), .long z2]) (rest := []) rfl (by decide) (jo_8 hS (jt_7_5 mv0)) rfl rfl (Nat.le_of_ble_eq_true rfl) (fun hq => ?_)
        refine lx_mono (H_D_assign_m hS r2 (jt_7_5 mv0) (inr_gi _ _ _) h) ?_
        rintro _ _ ⟨M6, rfl, rfl, r6, h⟩
        refine l1 (n := 1) rfl rfl rfl (la_of y4) ?_
        refine l1 (n := 1) rfl rfl rfl (la_of y4) ?_
        obtain ⟨q11, h⟩ := h
        refine l_gr rfl (jo_7 hS mv0) rfl (fun _ => rfl) q11.1 ?_
        refine l1 (n := 1) rfl rfl rfl (la_of y4) ?_
        refine l_gi rfl (jo_7 hS mv0) rfl (fun _ => rfl) ?_
        refine b_iv (c := (gr M6 v0 0)) (as := [zv (gi M6 v0 6)]) (rest := [.ref v0]) rfl (by decide) (ko_1 hS q11.2) rfl rfl (Nat.le_of_ble_eq_true rfl) (fun hq => ?_)
        refine lx_mono (H_P_behind_m hS r6 q11.2 (inr_gi _ _ _) h) ?_
        rintro _ _ ⟨z7, M7, rfl, rfl, r7, iz7, h⟩
        refine l_pi rfl (jo_7 (fz := fz) hS mv0) rfl (fun _ _ => rfl) (fun M8 e => ?_)
        replace h := h M8 e
        have r8 := r7.wi (jo_7 (fz := fz) hS mv0).1 (jl_7 mv0) e
        refine l1 (n := 1) rfl rfl rfl rfl ?_
        exact l_ri rfl rfl ⟨by decide, by decide⟩ r8 h
      by_cases e13 : (gi M2 ((gr M2 v0 0) + 1) (gi M2 v0 6).toNat) = 13
      · refine l_sw e13 rfl rfl rfl ?_
        refine l1 (n := 1) rfl rfl rfl (la_of y4) ?_
        refine l_gr rfl (jo_7 hS mv0) rfl (fun _ => rfl) (jf_7_5 r2.2 mv0) ?_
        refine l1 (n := 1) rfl rfl rfl (la_of y4) ?_
        obtain ⟨q10, h⟩ := h
        refine l_gr rfl (jo_7 hS mv0) rfl (fun _ => rfl) q10.1 ?_
        refine l_gr rfl (ko_1 hS q10.2) rfl (fun _ => rfl) (kf_1_6 r2.2 q10.2) ?_
        refine l1 (n := 1) rfl rfl rfl (la_of y4) ?_
        refine l_gi rfl (jo_7 hS mv0) rfl (fun _ => rfl) ?_
        refine b_ia rfl (jt_1_6 (fz := fz) hS q10.2).1 (Nat.le_of_ble_eq_true rfl) (inr_gi _ _ _) (fun q => ?_)
        replace h := h q
        refine l1 (n := 1) rfl rfl rfl (ll_of y3) ?_
        refine b_iv (c := (v0 + 2)) (as := [zv (gi M2 ((gr M2 v0 0) + 2) (gi M2 v0 6).toNat), .long z2]) (rest := []) rfl (by decide) (jo_8 hS (jt_7_5 mv0)) rfl rfl (Nat.le_of_ble_eq_true rfl) (fun hq => ?_)
        refine lx_mono (H_D_assign_m hS r2 (jt_7_5 mv0) (inr_gi _ _ _) h) ?_
        rintro _ _ ⟨M6, rfl, rfl, r6, h⟩
        refine l1 (n := 1) rfl rfl rfl (la_of y4) ?_
        refine l1 (n := 1) rfl rfl rfl (la_of y4) ?_
        obtain ⟨q11, h⟩ := h
        refine l_gr rfl (jo_7 hS mv0) rfl (fun _ => rfl) q11.1 ?_
        refine l1 (n := 1) rfl rfl rfl (la_of y4) ?_
        refine l_gi rfl (jo_7 hS mv0) rfl (fun _ => rfl) ?_
        refine b_iv (c := (gr M6 v0 0)) (as := [zv (gi M6 v0 6)]) (rest := [.ref v0]) rfl (by decide) (ko_1 hS q11.2) rfl rfl (Nat.le_of_ble_eq_true rfl) (fun hq => ?_)
        refine lx_mono (H_P_behind_m hS r6 q11.2 (inr_gi _ _ _) h) ?_
        rintro _ _ ⟨z7, M7, rfl, rfl, r7, iz7, h⟩
        refine l_pi rfl (jo_7 (fz := fz) hS mv0) rfl (fun _ _ => rfl) (fun M8 e => ?_)
        replace h := h M8 e
        have r8 := r7.wi (jo_7 (fz := fz) hS mv0).1 (jl_7 mv0) e
        refine l1 (n := 1) rfl rfl rfl rfl ?_
        exact l_ri rfl rfl ⟨by decide, by decide⟩ r8 h
      refine l_swt (a := (gi M2 ((gr M2 v0 0) + 1) (gi M2 v0 6).toNat)) rfl ia (by omega) ?_
      refine l1 (n := 1) rfl rfl rfl (la_of y4) ?_
      refine l_gr rfl (jo_7 hS mv0) rfl (fun _ => rfl) (jf_7_5 r2.2 mv0) ?_
      refine l1 (n := 1) rfl rfl rfl (la_of y4) ?_
      obtain ⟨q10, h⟩ := h
      refine l_gr rfl (jo_7 hS mv0) rfl (fun _ => rfl) q10.1 ?_
      refine l_gr rfl (ko_1 hS q10.2) rfl (fun _ => rfl) (kf_1_6 r2.2 q10.2) ?_
      refine l1 (n := 1) rfl rfl rfl (la_of y4) ?_
      refine l_gi rfl (jo_7 hS mv0) rfl (fun _ => rfl) ?_
      refine b_ia rfl (jt_1_6 (fz := fz) hS q10.2).1 (Nat.le_of_ble_eq_true rfl) (inr_gi _ _ _) (fun q => ?_)
      replace h := h q
      refine l1 (n := 1) rfl rfl rfl (ll_of y3) ?_
      refine b_iv (c := (v0 + 2)) (as := [zv (gi M2 ((gr M2 v0 0) + 2) (gi M2 v0 6).toNat), .long z2]) (rest := []) rfl (by decide) (jo_8 hS (jt_7_5 mv0)) rfl rfl (Nat.le_of_ble_eq_true rfl) (fun hq => ?_)
      refine lx_mono (H_D_assign_m hS r2 (jt_7_5 mv0) (inr_gi _ _ _) h) ?_
      rintro _ _ ⟨M6, rfl, rfl, r6, h⟩
      refine l1 (n := 1) rfl rfl rfl (la_of y4) ?_
      refine l1 (n := 1) rfl rfl rfl (la_of y4) ?_
      obtain ⟨q11, h⟩ := h
      refine l_gr rfl (jo_7 hS mv0) rfl (fun _ => rfl) q11.1 ?_
      refine l1 (n := 1) rfl rfl rfl (la_of y4) ?_
      refine l_gi rfl (jo_7 hS mv0) rfl (fun _ => rfl) ?_
      refine b_iv (c := (gr M6 v0 0)) (as := [zv (gi M6 v0 6)]) (rest := [.ref v0]) rfl (by decide) (ko_1 hS q11.2) rfl rfl (Nat.le_of_ble_eq_true rfl) (fun hq => ?_)
      refine lx_mono (H_P_behind_m hS r6 q11.2 (inr_gi _ _ _) h) ?_
      rintro _ _ ⟨z7, M7, rfl, rfl, r7, iz7, h⟩
      refine l_pi rfl (jo_7 (fz := fz) hS mv0) rfl (fun _ _ => rfl) (fun M8 e => ?_)
      replace h := h M8 e
      have r8 := r7.wi (jo_7 (fz := fz) hS mv0).1 (jl_7 mv0) e
      refine l1 (n := 1) rfl rfl rfl rfl ?_
      exact l_ri rfl rfl ⟨by decide, by decide⟩ r8 h
    · replace h := h.1 (Classical.not_not.mp c)
      refine l1 (n := 1) rfl rfl rfl (la_of y2) ?_
      refine l7 (n := 3) rfl rfl rfl rfl ?_
      refine b_iv (c := v0) (as := [.long (Int64.ofNat 18446744073709551615)]) (rest := []) rfl (by decide) (jo_7 hS mv0) rfl rfl (Nat.le_of_ble_eq_true rfl) (fun hq => ?_)
      refine lx_mono (H_R_toss_m hS r1 mv0 h) ?_
      rintro _ _ ⟨z9, M9, rfl, rfl, r9, iz9, h⟩
      exact l_ri rfl rfl iz9 r9 h
  · replace h := h.1 (Classical.not_not.mp c)
    refine l1 (n := 1) rfl rfl rfl rfl ?_
    exact l_ri rfl rfl ⟨by decide, by decide⟩ r1 h
