theorem H_R_walkExp_m {fz : Bool} {S : gS} {B : rf_M} {M : rf_M} {n0 : Nat} {x0 : Nat} {K : Int → rf_M → Prop} (hS : rl S) (hR : fl 22 331 B M) (mx0 : x0 ∈ j7) (h : em_R_walkExp x0 M K) : lx (cx0 fz) n0 98 0 (lv_args 0 [.ref x0]) [] (M, S) (vl_i 22 331 B S K) :=
  H_R_walkExp hS hR mx0 rfl h
theorem H_R_step_197 {fz : Bool} {S : gS} {B : rf_M} {M : rf_M} {ls : rf_L} {n0 : Nat} {v1 : Int} {K : Int → rf_M → Prop} (hS : rl S) (hR : fl 22 331 B M) (iv1 : inr v1) (a1 : rf_ld ls 1 = some (zv v1)) (h : e_R_step_197 v1 M K) : lx (cx0 fz) n0 90 197 ls [] (M, S) (vl_i 22 331 B S K) := by
  unfold e_R_step_197 at h
  refine l1 (n := 1) rfl rfl rfl (li_of a1) ?_
  exact l_ri rfl rfl iv1 hR h
theorem H_R_step_183 {fz : Bool} {S : gS} {B : rf_M} {M : rf_M} {ls : rf_L} {n0 : Nat} {v0 : Nat} {v1 : Int} {K : Int → rf_M → Prop} (hS : rl S) (hR : fl 22 331 B M) (mv0 : v0 ∈ j7) (iv1 : inr v1) (a0 : rf_ld ls 0 = some (.ref v0)) (a1 : rf_ld ls 1 = some (zv v1)) (h : e_R_step_183 v0 v1 M K) : lx (cx0 fz) n0 90 183 ls [] (M, S) (vl_i 22 331 B S K) := by
  unfold e_R_step_183 at h
  refine l1 (n := 1) rfl rfl rfl (li_of a1) ?_
  refine l_if rfl iv1 (fun c => ?_) (fun c => ?_)
  · replace h := h.2 c
    exact H_R_step_197 hS hR iv1 a1 h
  · replace h := h.1 (Classical.not_not.mp c)
    refine l1 (n := 1) rfl rfl rfl (la_of a0) ?_
    refine l0 rfl rfl rfl ?_
    refine l_gi rfl (jo_7 hS mv0) rfl (fun _ => rfl) ?_
    refine l1 (n := 1) rfl rfl rfl rfl ?_
    refine l_add rfl ?_
    refine l_pi rfl (jo_7 (fz := fz) hS mv0) rfl (fun _ _ => rfl) (fun M1 e => ?_)
    replace h := h M1 e
    have r1 := hR.wi (jo_7 (fz := fz) hS mv0).1 (jl_7 mv0) e
    exact H_R_step_197 hS r1 iv1 a1 h
theorem H_R_step {fz : Bool} {S : gS} {B : rf_M} {M : rf_M} {ls : rf_L} {n0 : Nat} {v0 : Nat} {K : Int → rf_M → Prop} (hS : rl S) (hR : fl 22 331 B M) (mv0 : v0 ∈ j7) (a0 : rf_ld ls 0 = some (.ref v0)) (h : e_R_step v0 M K) : lx (cx0 fz) n0 90 0 ls [] (M, S) (vl_i 22 331 B S K) := by
  unfold e_R_step at h
  refine l1 (n := 1) rfl rfl rfl (la_of a0) ?_
  refine l_gi rfl (jo_7 hS mv0) rfl (fun _ => rfl) ?_
  refine l_si rfl (by decide) ?_
  refine l_ic rfl (inr_gi _ _ _) ⟨by decide, by decide⟩ (fun c => ?_) (fun c => ?_)
  · replace h := h.1 c
    refine l1 (n := 1) rfl rfl rfl (la_of a0) ?_
    obtain ⟨q1, h⟩ := h
    refine l_gr rfl (jo_7 hS mv0) rfl (fun _ => rfl) q1.1 ?_
    refine l1 (n := 1) rfl rfl rfl (la_of a0) ?_
    refine l_gi rfl (jo_7 hS mv0) rfl (fun _ => rfl) ?_
    refine b_iv (c := (gr M v0 0)) (as := [zv (gi M v0 6)]) (rest := []) rfl (by decide) (ko_1 hS q1.2) rfl rfl (Nat.le_of_ble_eq_true rfl) (fun hq => ?_)
    refine lx_mono (H_P_has_m hS hR q1.2 (inr_gi _ _ _) h) ?_
    rintro _ _ ⟨z1, M1, rfl, rfl, r1, iz1, h⟩
    refine l_if rfl iz1 (fun c => ?_) (fun c => ?_)
    · replace h := h.2 c
      refine l1 (n := 1) rfl rfl rfl rfl ?_
      refine l_s1 (n := 1) rfl rfl rfl rfl (fun ls y1 ho => ?_)
      have y2 := ho 0 _ (by decide) (fun q => by cases q.2) a0
      refine l1 (n := 1) rfl rfl rfl (la_of y2) ?_
      obtain ⟨q2, h⟩ := h
      refine l_gr rfl (jo_7 hS mv0) rfl (fun _ => rfl) q2.1 ?_
      refine l_gr rfl (ko_1 hS q2.2) rfl (fun _ => rfl) (kf_1_5 r1.2 q2.2) ?_
      refine l1 (n := 1) rfl rfl rfl (la_of y2) ?_
      refine l_gi rfl (jo_7 hS mv0) rfl (fun _ => rfl) ?_
      refine b_ia rfl (jt_1_5 (fz := fz) hS q2.2).1 (Nat.le_of_ble_eq_true rfl) (inr_gi _ _ _) (fun q => ?_)
      replace h := h q
      have ia : inr (gi M1 ((gr M1 v0 0) + 1) (gi M1 v0 6).toNat) := (inr_gi _ _ _)
      obtain ⟨h1, h⟩ := h
      by_cases e13 : (gi M1 ((gr M1 v0 0) + 1) (gi M1 v0 6).toNat) = 13
      · replace h := h1 e13
        refine l_sw e13 rfl rfl rfl ?_
        refine l1 (n := 1) rfl rfl rfl (la_of y2) ?_
        refine b_iv (c := v0) (as := []) (rest := []) rfl (by decide) (jo_7 hS mv0) rfl rfl (Nat.le_of_ble_eq_true rfl) (fun hq => ?_)
        refine lx_mono (H_R_retry_m hS r1 mv0 h) ?_
        rintro _ _ ⟨z2, M2, rfl, rfl, r2, iz2, h⟩
        refine l_s1 (n := 1) rfl rfl rfl rfl (fun ls y3 ho => ?_)
        have y4 := ho 0 _ (by decide) (fun q => by cases q.2) y2
        refine l3 rfl rfl rfl ?_
        exact H_R_step_183 hS r2 mv0 iz2 y4 y3 h
      obtain ⟨h1, h⟩ := h
      by_cases e15 : (gi M1 ((gr M1 v0 0) + 1) (gi M1 v0 6).toNat) = 15
      · replace h := h1 e15
        refine l_sw e15 rfl rfl rfl ?_
        refine l1 (n := 1) rfl rfl rfl (la_of y2) ?_
        refine l_gr rfl (jo_7 hS mv0) rfl (fun _ => rfl) (jf_7_5 r1.2 mv0) ?_
        refine l1 (n := 1) rfl rfl rfl (la_of y2) ?_
        obtain ⟨q3, h⟩ := h
        refine l_gr rfl (jo_7 hS mv0) rfl (fun _ => rfl) q3.1 ?_
        refine l_gr rfl (ko_1 hS q3.2) rfl (fun _ => rfl) (kf_1_10 r1.2 q3.2) ?_
        refine l1 (n := 1) rfl rfl rfl (la_of y2) ?_
        refine l_gi rfl (jo_7 hS mv0) rfl (fun _ => rfl) ?_
        refine b_ia rfl (jt_1_10 (fz := fz) hS q3.2).1 (Nat.le_of_ble_eq_true rfl) (inr_gi _ _ _) (fun q => ?_)
        replace h := h q
        refine b_iv (c := (v0 + 2)) (as := [zv (gi M1 ((gr M1 v0 0) + 6) (gi M1 v0 6).toNat)]) (rest := []) rfl (by decide) (jo_8 hS (jt_7_5 mv0)) rfl rfl (Nat.le_of_ble_eq_true rfl) (fun hq => ?_)
        refine lx_mono (H_D_mark_m hS r1 (jt_7_5 mv0) (inr_gi _ _ _) h) ?_
        rintro _ _ ⟨M3, rfl, rfl, r3, h⟩
        refine l1 (n := 1) rfl rfl rfl (la_of y2) ?_
        refine l1 (n := 1) rfl rfl rfl (la_of y2) ?_
        obtain ⟨q4, h⟩ := h
        refine l_gr rfl (jo_7 hS mv0) rfl (fun _ => rfl) q4.1 ?_
        refine l1 (n := 1) rfl rfl rfl (la_of y2) ?_
        refine l_gi rfl (jo_7 hS mv0) rfl (fun _ => rfl) ?_
        refine l1 (n := 1) rfl rfl rfl (la_of y2) ?_
        obtain ⟨q5, h⟩ := h
        refine l_gr rfl (jo_7 hS mv0) rfl (fun _ => rfl) q5.1 ?_
        refine l_gr rfl (ko_1 hS q5.2) rfl (fun _ => rfl) (kf_1_12 r3.2 q5.2) ?_
        refine l1 (n := 1) rfl rfl rfl (la_of y2) ?_
        refine l_gi rfl (jo_7 hS mv0) rfl (fun _ => rfl) ?_
        refine b_ia rfl (jt_1_12 (fz := fz) hS q5.2).1 (Nat.le_of_ble_eq_true rfl) (inr_gi _ _ _) (fun q => ?_)
        replace h := h q
        refine b_iv (c := (gr M3 v0 0)) (as := [zv (gi M3 v0 6), zv (gi M3 ((gr M3 v0 0) + 8) (gi M3 v0 6).toNat)]) (rest := [.ref v0]) rfl (by decide) (ko_1 hS q4.2) rfl rfl (Nat.le_of_ble_eq_true rfl) (fun hq => ?_)
        refine lx_mono (H_P_into_m hS r3 q4.2 (inr_gi _ _ _) (inr_gi _ _ _) h) ?_
        rintro _ _ ⟨z4, M4, rfl, rfl, r4, iz4, h⟩
        refine l_pi rfl (jo_7 (fz := fz) hS mv0) rfl (fun _ _ => rfl) (fun M5 e => ?_)
        replace h := h M5 e
        have r5 := r4.wi (jo_7 (fz := fz) hS mv0).1 (jl_7 mv0) e
        refine l3 rfl rfl rfl ?_
        exact H_R_step_183 hS r5 mv0 ⟨by decide, by decide⟩ y2 y1 h
      obtain ⟨h1, h⟩ := h
      by_cases e17 : (gi M1 ((gr M1 v0 0) + 1) (gi M1 v0 6).toNat) = 17
      · replace h := h1 e17
        refine l_sw e17 rfl rfl rfl ?_
        refine l1 (n := 1) rfl rfl rfl (la_of y2) ?_
        refine l_gr rfl (jo_7 hS mv0) rfl (fun _ => rfl) (jf_7_5 r1.2 mv0) ?_
        refine l1 (n := 1) rfl rfl rfl (la_of y2) ?_
        obtain ⟨q6, h⟩ := h
        refine l_gr rfl (jo_7 hS mv0) rfl (fun _ => rfl) q6.1 ?_
        refine l_gr rfl (ko_1 hS q6.2) rfl (fun _ => rfl) (kf_1_10 r1.2 q6.2) ?_
        refine l1 (n := 1) rfl rfl rfl (la_of y2) ?_
        refine l_gi rfl (jo_7 hS mv0) rfl (fun _ => rfl) ?_
        refine b_ia rfl (jt_1_10 (fz := fz) hS q6.2).1 (Nat.le_of_ble_eq_true rfl) (inr_gi _ _ _) (fun q => ?_)
        replace h := h q
        refine b_iv (c := (v0 + 2)) (as := [zv (gi M1 ((gr M1 v0 0) + 6) (gi M1 v0 6).toNat)]) (rest := []) rfl (by decide) (jo_8 hS (jt_7_5 mv0)) rfl rfl (Nat.le_of_ble_eq_true rfl) (fun hq => ?_)
        refine lx_mono (H_D_mark_m hS r1 (jt_7_5 mv0) (inr_gi _ _ _) h) ?_
        rintro _ _ ⟨M6, rfl, rfl, r6, h⟩
        refine l1 (n := 1) rfl rfl rfl (la_of y2) ?_
        refine l1 (n := 1) rfl rfl rfl (la_of y2) ?_
        obtain ⟨q7, h⟩ := h
        refine l_gr rfl (jo_7 hS mv0) rfl (fun _ => rfl) q7.1 ?_
        refine l1 (n := 1) rfl rfl rfl (la_of y2) ?_
        refine l_gi rfl (jo_7 hS mv0) rfl (fun _ => rfl) ?_
        refine l1 (n := 1) rfl rfl rfl (la_of y2) ?_
        obtain ⟨q8, h⟩ := h
        refine l_gr rfl (jo_7 hS mv0) rfl (fun _ => rfl) q8.1 ?_
        refine l_gr rfl (ko_1 hS q8.2) rfl (fun _ => rfl) (kf_1_12 r6.2 q8.2) ?_
        refine l1 (n := 1) rfl rfl rfl (la_of y2) ?_
        refine l_gi rfl (jo_7 hS mv0) rfl (fun _ => rfl) ?_
        refine b_ia rfl (jt_1_12 (fz := fz) hS q8.2).1 (Nat.le_of_ble_eq_true rfl) (inr_gi _ _ _) (fun q => ?_)
        replace h := h q
        refine b_iv (c := (gr M6 v0 0)) (as := [zv (gi M6 v0 6), zv (gi M6 ((gr M6 v0 0) + 8) (gi M6 v0 6).toNat)]) (rest := [.ref v0]) rfl (by decide) (ko_1 hS q7.2) rfl rfl (Nat.le_of_ble_eq_true rfl) (fun hq => ?_)
        refine lx_mono (H_P_into_m hS r6 q7.2 (inr_gi _ _ _) (inr_gi _ _ _) h) ?_
        rintro _ _ ⟨z7, M7, rfl, rfl, r7, iz7, h⟩
        refine l_pi rfl (jo_7 (fz := fz) hS mv0) rfl (fun _ _ => rfl) (fun M8 e => ?_)
        replace h := h M8 e
        have r8 := r7.wi (jo_7 (fz := fz) hS mv0).1 (jl_7 mv0) e
        refine l3 rfl rfl rfl ?_
        exact H_R_step_183 hS r8 mv0 ⟨by decide, by decide⟩ y2 y1 h
      obtain ⟨h1, h⟩ := h
      by_cases e19 : (gi M1 ((gr M1 v0 0) + 1) (gi M1 v0 6).toNat) = 19
      · replace h := h1 e19
        refine l_sw e19 rfl rfl rfl ?_
        refine l1 (n := 1) rfl rfl rfl (la_of y2) ?_
        refine l_gr rfl (jo_7 hS mv0) rfl (fun _ => rfl) (jf_7_5 r1.2 mv0) ?_
        refine l1 (n := 1) rfl rfl rfl (la_of y2) ?_
        refine l_gi rfl (jo_7 hS mv0) rfl (fun _ => rfl) ?_
        refine b_iv (c := (v0 + 2)) (as := [zv (gi M1 v0 6)]) (rest := []) rfl (by decide) (jo_8 hS (jt_7_5 mv0)) rfl rfl (Nat.le_of_ble_eq_true rfl) (fun hq => ?_)
        refine lx_mono (H_D_addRule_m hS r1 (jt_7_5 mv0) (inr_gi _ _ _) h) ?_
        rintro _ _ ⟨M9, rfl, rfl, r9, h⟩
        refine l1 (n := 1) rfl rfl rfl (la_of y2) ?_
        refine l1 (n := 1) rfl rfl rfl (la_of y2) ?_
        obtain ⟨q9, h⟩ := h
        refine l_gr rfl (jo_7 hS mv0) rfl (fun _ => rfl) q9.1 ?_
        refine l1 (n := 1) rfl rfl rfl (la_of y2) ?_
        refine l_gi rfl (jo_7 hS mv0) rfl (fun _ => rfl) ?_
        refine b_iv (c := (gr M9 v0 0)) (as := [zv (gi M9 v0 6)]) (rest := [.ref v0]) rfl (by decide) (ko_1 hS q9.2) rfl rfl (Nat.le_of_ble_eq_true rfl) (fun hq => ?_)
        refine lx_mono (H_P_behind_m hS r9 q9.2 (inr_gi _ _ _) h) ?_
        rintro _ _ ⟨z10, M10, rfl, rfl, r10, iz10, h⟩
        refine l_pi rfl (jo_7 (fz := fz) hS mv0) rfl (fun _ _ => rfl) (fun M11 e => ?_)
        replace h := h M11 e
        have r11 := r10.wi (jo_7 (fz := fz) hS mv0).1 (jl_7 mv0) e
        refine l3 rfl rfl rfl ?_
        exact H_R_step_183 hS r11 mv0 ⟨by decide, by decide⟩ y2 y1 h
      replace h := h ⟨e13, e15, e17, e19⟩
      by_cases e14 : (gi M1 ((gr M1 v0 0) + 1) (gi M1 v0 6).toNat) = 14
      · refine l_sw e14 rfl rfl rfl ?_
        refine l1 (n := 1) rfl rfl rfl (la_of y2) ?_
        refine b_iv (c := v0) (as := []) (rest := []) rfl (by decide) (jo_7 hS mv0) rfl rfl (Nat.le_of_ble_eq_true rfl) (fun hq => ?_)
        refine lx_mono (H_R_walkExp_m hS r1 mv0 h) ?_
        rintro _ _ ⟨z12, M12, rfl, rfl, r12, iz12, h⟩
        refine l_s1 (n := 1) rfl rfl rfl rfl (fun ls y5 ho => ?_)
        have y6 := ho 0 _ (by decide) (fun q => by cases q.2) y2
        exact H_R_step_183 hS r12 mv0 iz12 y6 y5 h
      by_cases e16 : (gi M1 ((gr M1 v0 0) + 1) (gi M1 v0 6).toNat) = 16
      · refine l_sw e16 rfl rfl rfl ?_
        refine l1 (n := 1) rfl rfl rfl (la_of y2) ?_
        refine b_iv (c := v0) (as := []) (rest := []) rfl (by decide) (jo_7 hS mv0) rfl rfl (Nat.le_of_ble_eq_true rfl) (fun hq => ?_)
        refine lx_mono (H_R_walkExp_m hS r1 mv0 h) ?_
        rintro _ _ ⟨z12, M12, rfl, rfl, r12, iz12, h⟩
        refine l_s1 (n := 1) rfl rfl rfl rfl (fun ls y5 ho => ?_)
        have y6 := ho 0 _ (by decide) (fun q => by cases q.2) y2
        exact H_R_step_183 hS r12 mv0 iz12 y6 y5 h
      by_cases e18 : (gi M1 ((gr M1 v0 0) + 1) (gi M1 v0 6).toNat) = 18
      · refine l_sw e18 rfl rfl rfl ?_
        refine l1 (n := 1) rfl rfl rfl (la_of y2) ?_
        refine b_iv (c := v0) (as := []) (rest := []) rfl (by decide) (jo_7 hS mv0) rfl rfl (Nat.le_of_ble_eq_true rfl) (fun hq => ?_)
        refine lx_mono (H_R_walkExp_m hS r1 mv0 h) ?_
        rintro _ _ ⟨z12, M12, rfl, rfl, r12, iz12, h⟩
        refine l_s1 (n := 1) rfl rfl rfl rfl (fun ls y5 ho => ?_)
        have y6 := ho 0 _ (by decide) (fun q => by cases q.2) y2
        exact H_R_step_183 hS r12 mv0 iz12 y6 y5 h
      refine l_swt (a := (gi M1 ((gr M1 v0 0) + 1) (gi M1 v0 6).toNat)) rfl ia (by omega) ?_
      refine l1 (n := 1) rfl rfl rfl (la_of y2) ?_
      refine b_iv (c := v0) (as := []) (rest := []) rfl (by decide) (jo_7 hS mv0) rfl rfl (Nat.le_of_ble_eq_true rfl) (fun hq => ?_)
      refine lx_mono (H_R_walkExp_m hS r1 mv0 h) ?_
      rintro _ _ ⟨z12, M12, rfl, rfl, r12, iz12, h⟩
      refine l_s1 (n := 1) rfl rfl rfl rfl (fun ls y5 ho => ?_)
      have y6 := ho 0 _ (by decide) (fun q => by cases q.2) y2
      exact H_R_step_183 hS r12 mv0 iz12 y6 y5 h
    · replace h := h.1 (Classical.not_not.mp c)
      refine l1 (n := 1) rfl rfl rfl rfl ?_
      exact l_ri rfl rfl ⟨by decide, by decide⟩ r1 h
  · replace h := h.2 c
    refine l1 (n := 1) rfl rfl rfl (la_of a0) ?_
    refine l7 (n := 3) rfl rfl rfl rfl ?_
    refine l_pl rfl (jo_7 (fz := fz) hS mv0) rfl (fun _ _ => rfl) (fun M13 e => ?_)
    replace h := h M13 e
    have r13 := hR.wl (jo_7 (fz := fz) hS mv0).1 (jl_7 mv0) e
    refine l1 (n := 1) rfl rfl rfl rfl ?_
    exact l_ri rfl rfl ⟨by decide, by decide⟩ r13 h
theorem H_R_step_m {fz : Bool} {S : gS} {B : rf_M} {M : rf_M} {n0 : Nat} {x0 : Nat} {K : Int → rf_M → Prop} (hS : rl S) (hR : fl 22 331 B M) (mx0 : x0 ∈ j7) (h : em_R_step x0 M K) : lx (cx0 fz) n0 90 0 (lv_args 0 [.ref x0]) [] (M, S) (vl_i 22 331 B S K) :=
  H_R_step hS hR mx0 rfl h
theorem H_C_cut_29 {fz : Bool} {S : gS} {B : rf_M} {M : rf_M} {ls : rf_L} {n0 : Nat} {s0 : Nat} {s1 : Int} {K : rf_M → Prop} (hS : rl S) (hR : fl 22 331 B M) (ms0 : s0 ∈ j6) (is1 : inr s1) (h : e_C_cut_29 s0 s1 M K) : lx (cx0 fz) n0 101 29 ls [zv s1, .ref s0] (M, S) (vl_v 22 331 B S K) := by
  unfold e_C_cut_29 at h
  obtain ⟨q, h⟩ := h
  refine l_pb rfl (jo_6 (fz := fz) hS ms0) rfl rfl q (fun M1 e => ?_)
  replace h := h M1 e
  have r1 := hR.wi (jo_6 (fz := fz) hS ms0).1 (jl_6 ms0) e
  exact l_rv rfl rfl r1 h
theorem H_C_cut {fz : Bool} {S : gS} {B : rf_M} {M : rf_M} {ls : rf_L} {n0 : Nat} {v0 : Nat} {K : rf_M → Prop} (hS : rl S) (hR : fl 22 331 B M) (mv0 : v0 ∈ j6) (a0 : rf_ld ls 0 = some (.ref v0)) (h : e_C_cut v0 M K) : lx (cx0 fz) n0 101 0 ls [] (M, S) (vl_v 22 331 B S K) := by
  unfold e_C_cut at h
  refine l1 (n := 1) rfl rfl rfl (la_of a0) ?_
  refine l1 (n := 1) rfl rfl rfl rfl ?_
  refine l_pi rfl (jo_6 (fz := fz) hS mv0) rfl (fun _ _ => rfl) (fun M1 e => ?_)
  replace h := h M1 e
  have r1 := hR.wi (jo_6 (fz := fz) hS mv0).1 (jl_6 mv0) e
  refine l1 (n := 1) rfl rfl rfl (la_of a0) ?_
  refine l0 rfl rfl rfl ?_
  refine l_gi rfl (jo_6 hS mv0) rfl (fun _ => rfl) ?_
  refine l1 (n := 1) rfl rfl rfl rfl ?_
  refine l_add rfl ?_
  refine l_pi rfl (jo_6 (fz := fz) hS mv0) rfl (fun _ _ => rfl) (fun M2 e => ?_)
  replace h := h M2 e
  have r2 := r1.wi (jo_6 (fz := fz) hS mv0).1 (jl_6 mv0) e
  refine l1 (n := 1) rfl rfl rfl (la_of a0) ?_
  refine l1 (n := 1) rfl rfl rfl (la_of a0) ?_
  refine l_gi rfl (jo_6 hS mv0) rfl (fun _ => rfl) ?_
  refine l1 (n := 1) rfl rfl rfl rfl ?_
  refine l_ic rfl (inr_gi _ _ _) ⟨by decide, by decide⟩ (fun c => ?_) (fun c => ?_)
  · replace h := h.1 c
    refine l1 (n := 1) rfl rfl rfl rfl ?_
    exact H_C_cut_29 hS r2 mv0 ⟨by decide, by decide⟩ h
  · replace h := h.2 c
    refine l1 (n := 1) rfl rfl rfl rfl ?_
    refine l3 rfl rfl rfl ?_
    exact H_C_cut_29 hS r2 mv0 ⟨by decide, by decide⟩ h
theorem H_C_cut_m {fz : Bool} {S : gS} {B : rf_M} {M : rf_M} {n0 : Nat} {x0 : Nat} {K : rf_M → Prop} (hS : rl S) (hR : fl 22 331 B M) (mx0 : x0 ∈ j6) (h : em_C_cut x0 M K) : lx (cx0 fz) n0 101 0 (lv_args 0 [.ref x0]) [] (M, S) (vl_v 22 331 B S K) :=
  H_C_cut hS hR mx0 rfl h
theorem H_C_rest {fz : Bool} {S : gS} {B : rf_M} {M : rf_M} {ls : rf_L} {n0 : Nat} {v0 : Nat} {K : rf_M → Prop} (hS : rl S) (hR : fl 22 331 B M) (mv0 : v0 ∈ j6) (a0 : rf_ld ls 0 = some (.ref v0)) (h : e_C_rest v0 M K) : lx (cx0 fz) n0 102 0 ls [] (M, S) (vl_v 22 331 B S K) := by
  unfold e_C_rest at h
  refine l1 (n := 1) rfl rfl rfl (la_of a0) ?_
  refine l1 (n := 1) rfl rfl rfl rfl ?_
  refine l_pi rfl (jo_6 (fz := fz) hS mv0) rfl (fun _ _ => rfl) (fun M1 e => ?_)
  replace h := h M1 e
  have r1 := hR.wi (jo_6 (fz := fz) hS mv0).1 (jl_6 mv0) e
  refine l1 (n := 1) rfl rfl rfl (la_of a0) ?_
  refine l1 (n := 1) rfl rfl rfl rfl ?_
  refine l_pb rfl (jo_6 (fz := fz) hS mv0) rfl rfl (Or.inl rfl) (fun M2 e => ?_)
  replace h := h M2 e
  have r2 := r1.wi (jo_6 (fz := fz) hS mv0).1 (jl_6 mv0) e
  refine l1 (n := 1) rfl rfl rfl (la_of a0) ?_
  refine l1 (n := 1) rfl rfl rfl (la_of a0) ?_
  refine l_gr rfl (jo_6 hS mv0) rfl (fun _ => rfl) (jf_6_4 r2.2 mv0) ?_
  refine l_gi rfl (jo_7 hS (jt_6_4 mv0)) rfl (fun _ => rfl) ?_
  refine l_pi rfl (jo_6 (fz := fz) hS mv0) rfl (fun _ _ => rfl) (fun M3 e => ?_)
  replace h := h M3 e
  have r3 := r2.wi (jo_6 (fz := fz) hS mv0).1 (jl_6 mv0) e
  refine l1 (n := 1) rfl rfl rfl (la_of a0) ?_
  refine l_gr rfl (jo_6 hS mv0) rfl (fun _ => rfl) (jf_6_4 r3.2 mv0) ?_
  refine l_gr rfl (jo_7 hS (jt_6_4 mv0)) rfl (fun _ => rfl) (jf_7_4 r3.2 (jt_6_4 mv0)) ?_
  refine l1 (n := 1) rfl rfl rfl rfl ?_
  refine l1 (n := 1) rfl rfl rfl (la_of a0) ?_
  refine l_gr rfl (jo_6 hS mv0) rfl (fun _ => rfl) (jf_6_7 r3.2 mv0) ?_
  refine l1 (n := 1) rfl rfl rfl rfl ?_
  refine l_bi rfl (by decide) ?_
  refine b_cpi rfl rfl (jt_7_4 (fz := fz) hS (jt_6_4 mv0)).1 (jt_6_7 (fz := fz) hS mv0).1 ⟨by decide, by decide⟩ ⟨by decide, by decide⟩ ⟨by decide, by decide⟩ (fun q M4 e => ?_)
  replace h := h q M4 e
  have r4 := r3.cpi (jt_6_7 (fz := fz) hS mv0).1.1 (jt_6_7 (fz := fz) hS mv0).2 e
  exact l_rv rfl rfl r4 h
theorem H_C_rest_m {fz : Bool} {S : gS} {B : rf_M} {M : rf_M} {n0 : Nat} {x0 : Nat} {K : rf_M → Prop} (hS : rl S) (hR : fl 22 331 B M) (mx0 : x0 ∈ j6) (h : em_C_rest x0 M K) : lx (cx0 fz) n0 102 0 (lv_args 0 [.ref x0]) [] (M, S) (vl_v 22 331 B S K) :=
  H_C_rest hS hR mx0 rfl h
theorem H_M_isHeld_16b {fz : Bool} {S : gS} {B : rf_M} {M : rf_M} {ls : rf_L} {n0 : Nat} {v2 : Int} {b16 : Int → rf_M → Prop} {K : Int → rf_M → Prop} (hS : rl S) (hR : fl 22 331 B M) (iv2 : inr v2) (a0 : rf_ld ls 0 = some (.ref 22)) (a2 : rf_ld ls 2 = some (zv v2)) (hb16 : ∀ n', n' < n0 → ∀ (v2 : Int) (M : rf_M) (ls : rf_L), fl 22 331 B M → inr v2 → rf_ld ls 0 = some (.ref 22) → rf_ld ls 2 = some (zv v2) → b16 v2 M → lx (cx0 fz) n' 103 16 ls [] (M, S) (vl_i 22 331 B S K)) (h : e_M_isHeld_16b v2 M b16 K) : lx (cx0 fz) n0 103 16 ls [] (M, S) (vl_i 22 331 B S K) := by
  unfold e_M_isHeld_16b at h
  rcases Nat.eq_zero_or_pos n0 with e0 | hp
  · rw [e0]; exact lx_zero
  refine l1 (n := 1) rfl rfl rfl (li_of a2) ?_
  refine l_bi rfl (by decide) ?_
  refine l_ic rfl iv2 ⟨by decide, by decide⟩ (fun c => ?_) (fun c => ?_)
  · replace h := h.1 c
    refine l1 (n := 1) rfl rfl rfl rfl ?_
    exact l_rb rfl rfl (Or.inl rfl) hR h
  · replace h := h.2 c
    refine l1 (n := 1) rfl rfl rfl (la_of a0) ?_
    refine l_gr rfl (ko_0 hS (List.Mem.head _)) rfl (fun _ => rfl) (kf_0_7 hR.2 (List.Mem.head _)) ?_
    refine l1 (n := 1) rfl rfl rfl (li_of a2) ?_
    refine b_aa rfl (jc_195 (fz := fz) hS).1 (Nat.le_of_ble_eq_true rfl) iv2 (fun q1 => ⟨clA_ref hR.2 q1, ?_⟩)
    replace h := h q1
    refine l_gi rfl (jo_6 hS (clA_mem3 q1)) rfl (fun _ => rfl) ?_
    refine l_if rfl (inr_gi _ _ _) (fun c => ?_) (fun c => ?_)
    · replace h := h.1 c
      refine l_ii rfl a2 (Nat.le_of_ble_eq_true rfl) (fun ls y1 ho => ?_)
      have y2 := ho 0 _ (by decide) (fun q => by cases q.2) a0
      refine l3 rfl rfl rfl ?_
      obtain ⟨i1, h⟩ := h
      exact hb16 _ (by omega) _ _ _ hR i1 y2 y1 h
    · replace h := h.2 c
      refine l1 (n := 1) rfl rfl rfl rfl ?_
      exact l_rb rfl rfl (Or.inr rfl) hR h
theorem H_M_isHeld_16 {fz : Bool} {S : gS} {B : rf_M} {M : rf_M} {ls : rf_L} {n0 : Nat} {v2 : Int} {K : Int → rf_M → Prop} (hS : rl S) (hR : fl 22 331 B M) (iv2 : inr v2) (a0 : rf_ld ls 0 = some (.ref 22)) (a2 : rf_ld ls 2 = some (zv v2)) (h : e_M_isHeld_16 v2 M K) : lx (cx0 fz) n0 103 16 ls [] (M, S) (vl_i 22 331 B S K) := by
  obtain ⟨Inv, hm, hb⟩ := h
  induction n0 using Nat.strongRecOn generalizing ls M v2 with
  | _ n0 ih =>
    refine H_M_isHeld_16b hS hR iv2 a0 a2 (fun n' hn' v2' M' ls' hR' f0 f1 f2 q2 => ih n' hn' hR' f0 f1 f2 q2) (hb v2 M iv2 hm)
theorem H_M_isHeld {fz : Bool} {S : gS} {B : rf_M} {M : rf_M} {ls : rf_L} {n0 : Nat} {v1 : Int} {K : Int → rf_M → Prop} (hS : rl S) (hR : fl 22 331 B M) (iv1 : inr v1) (a0 : rf_ld ls 0 = some (.ref 22)) (a1 : rf_ld ls 1 = some (zv v1)) (h : e_M_isHeld v1 M K) : lx (cx0 fz) n0 103 0 ls [] (M, S) (vl_i 22 331 B S K) := by
  unfold e_M_isHeld at h
  refine l1 (n := 1) rfl rfl rfl (la_of a0) ?_
  refine l_gr rfl (ko_0 hS (List.Mem.head _)) rfl (fun _ => rfl) (kf_0_7 hR.2 (List.Mem.head _)) ?_
  refine l1 (n := 1) rfl rfl rfl (li_of a1) ?_
  refine b_aa rfl (jc_195 (fz := fz) hS).1 (Nat.le_of_ble_eq_true rfl) iv1 (fun q1 => ⟨clA_ref hR.2 q1, ?_⟩)
  replace h := h q1
  refine l_gi rfl (jo_6 hS (clA_mem3 q1)) rfl (fun _ => rfl) ?_
  refine l_if rfl (inr_gi _ _ _) (fun c => ?_) (fun c => ?_)
  · replace h := h.1 c
    refine l1 (n := 1) rfl rfl rfl rfl ?_
    refine l_s1 (n := 1) rfl rfl rfl rfl (fun ls y1 ho => ?_)
    have y2 := ho 0 _ (by decide) (fun q => by cases q.2) a0
    exact H_M_isHeld_16 hS hR ⟨by decide, by decide⟩ y2 y1 h
  · replace h := h.2 c
    refine l1 (n := 1) rfl rfl rfl rfl ?_
    exact l_rb rfl rfl (Or.inl rfl) hR h
theorem H_M_isHeld_m {fz : Bool} {S : gS} {B : rf_M} {M : rf_M} {n0 : Nat} {x1 : Int} {K : Int → rf_M → Prop} (hS : rl S) (hR : fl 22 331 B M) (ix1 : inr x1) (h : em_M_isHeld x1 M K) : lx (cx0 fz) n0 103 0 (lv_args 0 [.ref 22, zv x1]) [] (M, S) (vl_i 22 331 B S K) :=
  H_M_isHeld hS hR ix1 rfl rfl h
theorem H_S_takes_43 {fz : Bool} {S : gS} {B : rf_M} {M : rf_M} {ls : rf_L} {n0 : Nat} {v0 : Nat} {v1 : Nat} {v2 : Nat} {v3 : Int} {b17 : Nat → Nat → Nat → Int → rf_M → Prop} {K : Int → rf_M → Prop} (hS : rl S) (hR : fl 22 331 B M) (mv0 : v0 ∈ j4) (mv1 : v1 ∈ k1) (mv2 : v2 ∈ j8) (iv3 : inr v3) (a0 : rf_ld ls 0 = some (.ref v0)) (a1 : rf_ld ls 1 = some (.ref v1)) (a2 : rf_ld ls 2 = some (.ref v2)) (a3 : rf_ld ls 3 = some (zv v3)) (hb17 : ∀ n', n' < n0 → ∀ (v0 : Nat) (v1 : Nat) (v2 : Nat) (v3 : Int) (M : rf_M) (ls : rf_L), fl 22 331 B M → v0 ∈ j4 → v1 ∈ k1 → v2 ∈ j8 → inr v3 → rf_ld ls 0 = some (.ref v0) → rf_ld ls 1 = some (.ref v1) → rf_ld ls 2 = some (.ref v2) → rf_ld ls 3 = some (zv v3) → b17 v0 v1 v2 v3 M → lx (cx0 fz) n' 105 17 ls [] (M, S) (vl_i 22 331 B S K)) (h : e_S_takes_43 v0 v1 v2 v3 M b17 K) : lx (cx0 fz) n0 105 43 ls [] (M, S) (vl_i 22 331 B S K) := by
  unfold e_S_takes_43 at h
  rcases Nat.eq_zero_or_pos n0 with e0 | hp
  · rw [e0]; exact lx_zero
  refine l_ii rfl a3 (Nat.le_of_ble_eq_true rfl) (fun ls y1 ho => ?_)
  have y2 := ho 0 _ (by decide) (fun q => by cases q.2) a0
  have y3 := ho 1 _ (by decide) (fun q => by cases q.2) a1
  have y4 := ho 2 _ (by decide) (fun q => by cases q.2) a2
  refine l3 rfl rfl rfl ?_
  obtain ⟨i1, h⟩ := h
  exact hb17 _ (by omega) _ _ _ _ _ _ hR mv0 mv1 mv2 i1 y2 y3 y4 y1 h
theorem H_S_takes_70 {fz : Bool} {S : gS} {B : rf_M} {M : rf_M} {ls : rf_L} {n0 : Nat} {K : Int → rf_M → Prop} (hS : rl S) (hR : fl 22 331 B M) (h : e_S_takes_70 M K) : lx (cx0 fz) n0 105 70 ls [] (M, S) (vl_i 22 331 B S K) := by
  unfold e_S_takes_70 at h
  refine l1 (n := 1) rfl rfl rfl rfl ?_
  exact l_rb rfl rfl (Or.inl rfl) hR h
theorem H_S_takes_131 {fz : Bool} {S : gS} {B : rf_M} {M : rf_M} {ls : rf_L} {n0 : Nat} {v0 : Nat} {v1 : Nat} {v2 : Nat} {v3 : Int} {b106 : Nat → Nat → Nat → Int → rf_M → Prop} {K : Int → rf_M → Prop} (hS : rl S) (hR : fl 22 331 B M) (mv0 : v0 ∈ j4) (mv1 : v1 ∈ k1) (mv2 : v2 ∈ j8) (iv3 : inr v3) (a0 : rf_ld ls 0 = some (.ref v0)) (a1 : rf_ld ls 1 = some (.ref v1)) (a2 : rf_ld ls 2 = some (.ref v2)) (a3 : rf_ld ls 3 = some (zv v3)) (hb106 : ∀ n', n' < n0 → ∀ (v0 : Nat) (v1 : Nat) (v2 : Nat) (v3 : Int) (M : rf_M) (ls : rf_L), fl 22 331 B M → v0 ∈ j4 → v1 ∈ k1 → v2 ∈ j8 → inr v3 → rf_ld ls 0 = some (.ref v0) → rf_ld ls 1 = some (.ref v1) → rf_ld ls 2 = some (.ref v2) → rf_ld ls 3 = some (zv v3) → b106 v0 v1 v2 v3 M → lx (cx0 fz) n' 105 106 ls [] (M, S) (vl_i 22 331 B S K)) (h : e_S_takes_131 v0 v1 v2 v3 M b106 K) : lx (cx0 fz) n0 105 131 ls [] (M, S) (vl_i 22 331 B S K) := by
  unfold e_S_takes_131 at h
  rcases Nat.eq_zero_or_pos n0 with e0 | hp
  · rw [e0]; exact lx_zero
  refine l_ii rfl a3 (Nat.le_of_ble_eq_true rfl) (fun ls y1 ho => ?_)
  have y2 := ho 0 _ (by decide) (fun q => by cases q.2) a0
  have y3 := ho 1 _ (by decide) (fun q => by cases q.2) a1
  have y4 := ho 2 _ (by decide) (fun q => by cases q.2) a2
  refine l3 rfl rfl rfl ?_
  obtain ⟨i1, h⟩ := h
  exact hb106 _ (by omega) _ _ _ _ _ _ hR mv0 mv1 mv2 i1 y2 y3 y4 y1 h
