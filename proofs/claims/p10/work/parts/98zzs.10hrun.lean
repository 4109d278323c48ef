theorem H_M_play_22 {fz : Bool} {S : gS} {B : rf_M} {M : rf_M} {ls : rf_L} {n0 : Nat} {v3 : Int} {v4 : Int64} {v6 : Int} {v7 : Int} {K : Int → rf_M → Prop} (hS : rl S) (hR : fl 22 331 B M) (iv3 : inr v3) (iv6 : inr v6) (iv7 : inr v7) (a0 : rf_ld ls 0 = some (.ref 22)) (a3 : rf_ld ls 3 = some (zv v3)) (a4 : rf_ld ls 4 = some (.long v4)) (a6 : rf_ld ls 6 = some (zv v6)) (a7 : rf_ld ls 7 = some (zv v7)) (h : e_M_play_22 v3 v4 v6 v7 M K) : lx (cx0 fz) n0 108 22 ls [] (M, S) (vl_i 22 331 B S K) := by
  obtain ⟨Inv, hm, hb⟩ := h
  induction n0 using Nat.strongRecOn generalizing ls M v3 v4 v6 v7 with
  | _ n0 ih =>
    refine H_M_play_22b hS hR iv3 iv6 iv7 a0 a3 a4 a6 a7 (fun n' hn' v3' v4' v6' v7' M' ls' hR' f0 f1 f2 f3 f4 f5 f6 f7 q2 => ih n' hn' hR' f0 f1 f2 f3 f4 f5 f6 f7 q2) (hb v3 v4 v6 v7 M iv3 iv6 iv7 hm)
theorem H_M_play {fz : Bool} {S : gS} {B : rf_M} {M : rf_M} {ls : rf_L} {n0 : Nat} {v1 : Int64} {v3 : Int} {K : Int → rf_M → Prop} (hS : rl S) (hR : fl 22 331 B M) (iv3 : inr v3) (a0 : rf_ld ls 0 = some (.ref 22)) (a1 : rf_ld ls 1 = some (.long v1)) (a3 : rf_ld ls 3 = some (zv v3)) (h : e_M_play v1 v3 M K) : lx (cx0 fz) n0 108 0 ls [] (M, S) (vl_i 22 331 B S K) := by
  unfold e_M_play at h
  refine l1 (n := 1) rfl rfl rfl (li_of a3) ?_
  refine l_if rfl iv3 (fun c => ?_) (fun c => ?_)
  · replace h := h.1 c
    exact H_M_play_11 hS hR  h
  · replace h := h.2 c
    refine l1 (n := 1) rfl rfl rfl (li_of a3) ?_
    refine l_si rfl (by decide) ?_
    refine l_ic rfl iv3 ⟨by decide, by decide⟩ (fun c => ?_) (fun c => ?_)
    · replace h := h.1 c
      refine l1 (n := 1) rfl rfl rfl (ll_of a1) ?_
      refine l_s2 (n := 2) rfl rfl rfl rfl (fun ls y1 ho => ?_)
      have y2 := ho 0 _ (by decide) (by decide) (fun q => by cases q.2) a0
      have y3 := ho 3 _ (by decide) (by decide) (fun q => by cases q.2) a3
      refine l1 (n := 1) rfl rfl rfl rfl ?_
      refine l_s1 (n := 2) rfl rfl rfl rfl (fun ls y4 ho => ?_)
      have y5 := ho 0 _ (by decide) (fun q => by cases q.2) y2
      have y6 := ho 3 _ (by decide) (fun q => by cases q.2) y3
      have y7 := ho 4 _ (by decide) (fun q => absurd q.1 (by decide)) y1
      refine l1 (n := 1) rfl rfl rfl rfl ?_
      refine l_s1 (n := 2) rfl rfl rfl rfl (fun ls y8 ho => ?_)
      have y9 := ho 0 _ (by decide) (fun q => by cases q.2) y5
      have y10 := ho 3 _ (by decide) (fun q => by cases q.2) y6
      have y11 := ho 4 _ (by decide) (fun q => absurd q.1 (by decide)) y7
      have y12 := ho 6 _ (by decide) (fun q => by cases q.2) y4
      exact H_M_play_22 hS hR iv3 ⟨by decide, by decide⟩ ⟨by decide, by decide⟩ y9 y10 y11 y12 y8 h
    · replace h := h.2 c
      exact H_M_play_11 hS hR  h
theorem H_M_play_m {fz : Bool} {S : gS} {B : rf_M} {M : rf_M} {n0 : Nat} {x1 : Int64} {x2 : Int} {K : Int → rf_M → Prop} (hS : rl S) (hR : fl 22 331 B M) (ix2 : inr x2) (h : em_M_play x1 x2 M K) : lx (cx0 fz) n0 108 0 (lv_args 0 [.ref 22, .long x1, zv x2]) [] (M, S) (vl_i 22 331 B S K) :=
  H_M_play hS hR ix2 rfl rfl rfl h
theorem H_M_sees_18 {fz : Bool} {S : gS} {B : rf_M} {M : rf_M} {ls : rf_L} {n0 : Nat} {K : Int64 → rf_M → Prop} (hS : rl S) (hR : fl 22 331 B M) (h : e_M_sees_18 M K) : lx (cx0 fz) n0 111 18 ls [] (M, S) (vl_l 22 331 B S K) := by
  unfold e_M_sees_18 at h
  refine l1 (n := 1) rfl rfl rfl rfl ?_
  exact l_rl rfl rfl hR h
theorem H_M_sees_67 {fz : Bool} {S : gS} {B : rf_M} {M : rf_M} {ls : rf_L} {n0 : Nat} {s0 : Int64} {K : Int64 → rf_M → Prop} (hS : rl S) (hR : fl 22 331 B M) (h : e_M_sees_67 s0 M K) : lx (cx0 fz) n0 111 67 ls [.long s0] (M, S) (vl_l 22 331 B S K) := by
  unfold e_M_sees_67 at h
  exact l_rl rfl rfl hR h
theorem H_M_sees {fz : Bool} {S : gS} {B : rf_M} {M : rf_M} {ls : rf_L} {n0 : Nat} {v1 : Int} {v2 : Int} {K : Int64 → rf_M → Prop} (hS : rl S) (hR : fl 22 331 B M) (iv1 : inr v1) (iv2 : inr v2) (a0 : rf_ld ls 0 = some (.ref 22)) (a1 : rf_ld ls 1 = some (zv v1)) (a2 : rf_ld ls 2 = some (zv v2)) (h : e_M_sees v1 v2 M K) : lx (cx0 fz) n0 111 0 ls [] (M, S) (vl_l 22 331 B S K) := by
  unfold e_M_sees at h
  refine l1 (n := 1) rfl rfl rfl (la_of a0) ?_
  refine l1 (n := 1) rfl rfl rfl (li_of a1) ?_
  refine b_iv (c := 22) (as := [zv v1]) (rest := []) rfl (by decide) (ko_0 hS (List.Mem.head _)) rfl rfl (Nat.le_of_ble_eq_true rfl) (fun hq => ?_)
  refine lx_mono (H_M_isClient_m hS hR iv1 h) ?_
  rintro _ _ ⟨z1, M1, rfl, rfl, r1, iz1, h⟩
  refine l_if rfl iz1 (fun c => ?_) (fun c => ?_)
  · replace h := h.1 c
    exact H_M_sees_18 hS r1  h
  · replace h := h.2 c
    refine l1 (n := 1) rfl rfl rfl (li_of a2) ?_
    refine l_if rfl iv2 (fun c => ?_) (fun c => ?_)
    · replace h := h.1 c
      exact H_M_sees_18 hS r1  h
    · replace h := h.2 c
      refine l1 (n := 1) rfl rfl rfl (li_of a2) ?_
      refine l_bi rfl (by decide) ?_
      refine l_ic rfl iv2 ⟨by decide, by decide⟩ (fun c => ?_) (fun c => ?_)
      · replace h := h.1 c
        refine l1 (n := 1) rfl rfl rfl (la_of a0) ?_
        refine l_gr rfl (ko_0 hS (List.Mem.head _)) rfl (fun _ => rfl) (kf_0_7 r1.2 (List.Mem.head _)) ?_
        refine l1 (n := 1) rfl rfl rfl (li_of a1) ?_
        refine b_aa rfl (jc_195 (fz := fz) hS).1 (Nat.le_of_ble_eq_true rfl) iv1 (fun q1 => ⟨clA_ref r1.2 q1, ?_⟩)
        replace h := h q1
        refine l_gi rfl (jo_6 hS (clA_mem3 q1)) rfl (fun _ => rfl) ?_
        refine l1 (n := 1) rfl rfl rfl rfl ?_
        refine l_ic rfl (inr_gi _ _ _) ⟨by decide, by decide⟩ (fun c => ?_) (fun c => ?_)
        · replace h := h.2 c
          refine l1 (n := 1) rfl rfl rfl (li_of a2) ?_
          refine b_st (as := [zv v2]) (rest := []) rfl (by decide) rfl (Nat.le_of_ble_eq_true rfl) (fun hq => ?_)
          refine lx_mono (H_M_isCell_m hS r1 iv2 h) ?_
          rintro _ _ ⟨z2, M2, rfl, rfl, r2, iz2, h⟩
          refine l_if rfl iz2 (fun c => ?_) (fun c => ?_)
          · replace h := h.1 c
            refine l1 (n := 1) rfl rfl rfl rfl ?_
            exact H_M_sees_67 hS r2  h
          · replace h := h.2 c
            refine l1 (n := 1) rfl rfl rfl (la_of a0) ?_
            refine l_gr rfl (ko_0 hS (List.Mem.head _)) rfl (fun _ => rfl) (kf_0_6 r2.2 (List.Mem.head _)) ?_
            refine l_gr rfl (jo_4 hS (List.Mem.head _)) rfl (fun _ => rfl) (jf_4_0 r2.2 (List.Mem.head _)) ?_
            refine l1 (n := 1) rfl rfl rfl (li_of a2) ?_
            refine b_la rfl (jc_188 (fz := fz) hS).1 (Nat.le_of_ble_eq_true rfl) iv2 (fun q => ?_)
            replace h := h q
            refine l3 rfl rfl rfl ?_
            exact H_M_sees_67 hS r2  h
        · replace h := h.1 (Classical.not_not.mp c)
          refine l1 (n := 1) rfl rfl rfl (la_of a0) ?_
          refine l_gr rfl (ko_0 hS (List.Mem.head _)) rfl (fun _ => rfl) (kf_0_7 r1.2 (List.Mem.head _)) ?_
          refine l1 (n := 1) rfl rfl rfl (li_of a1) ?_
          refine b_aa rfl (jc_195 (fz := fz) hS).1 (Nat.le_of_ble_eq_true rfl) iv1 (fun q2 => ⟨clA_ref r1.2 q2, ?_⟩)
          replace h := h q2
          refine l_gr rfl (jo_6 hS (clA_mem3 q2)) rfl (fun _ => rfl) (jf_6_4 r1.2 (clA_mem3 q2)) ?_
          refine l1 (n := 1) rfl rfl rfl (li_of a2) ?_
          refine b_iv (c := ((clA v1) + 3)) (as := [zv v2]) (rest := []) rfl (by decide) (jo_7 hS (jt_6_4 (clA_mem3 q2))) rfl rfl (Nat.le_of_ble_eq_true rfl) (fun hq => ?_)
          refine lx_mono (H_R_shows_m hS r1 (jt_6_4 (clA_mem3 q2)) iv2 h) ?_
          rintro _ _ ⟨z3, M3, rfl, rfl, r3, h⟩
          exact l_rl rfl rfl r3 h
      · replace h := h.2 c
        exact H_M_sees_18 hS r1  h
theorem H_M_sees_m {fz : Bool} {S : gS} {B : rf_M} {M : rf_M} {n0 : Nat} {x1 : Int} {x2 : Int} {K : Int64 → rf_M → Prop} (hS : rl S) (hR : fl 22 331 B M) (ix1 : inr x1) (ix2 : inr x2) (h : em_M_sees x1 x2 M K) : lx (cx0 fz) n0 111 0 (lv_args 0 [.ref 22, zv x1, zv x2]) [] (M, S) (vl_l 22 331 B S K) :=
  H_M_sees hS hR ix1 ix2 rfl rfl rfl h
theorem H_M_rules {fz : Bool} {S : gS} {B : rf_M} {M : rf_M} {ls : rf_L} {n0 : Nat} {K : Int → rf_M → Prop} (hS : rl S) (hR : fl 22 331 B M) (a0 : rf_ld ls 0 = some (.ref 22)) (h : e_M_rules M K) : lx (cx0 fz) n0 112 0 ls [] (M, S) (vl_i 22 331 B S K) := by
  unfold e_M_rules at h
  refine l1 (n := 1) rfl rfl rfl (la_of a0) ?_
  refine l_gr rfl (ko_0 hS (List.Mem.head _)) rfl (fun _ => rfl) (kf_0_6 hR.2 (List.Mem.head _)) ?_
  refine l_gi rfl (jo_4 hS (List.Mem.head _)) rfl (fun _ => rfl) ?_
  exact l_ri rfl rfl (inr_gi _ _ _) hR h
theorem H_M_rules_m {fz : Bool} {S : gS} {B : rf_M} {M : rf_M} {n0 : Nat} {K : Int → rf_M → Prop} (hS : rl S) (hR : fl 22 331 B M) (h : em_M_rules  M K) : lx (cx0 fz) n0 112 0 (lv_args 0 [.ref 22]) [] (M, S) (vl_i 22 331 B S K) :=
  H_M_rules hS hR rfl h
theorem H_M_rows {fz : Bool} {S : gS} {B : rf_M} {M : rf_M} {ls : rf_L} {n0 : Nat} {K : Int → rf_M → Prop} (hS : rl S) (hR : fl 22 331 B M) (a0 : rf_ld ls 0 = some (.ref 22)) (h : e_M_rows M K) : lx (cx0 fz) n0 113 0 ls [] (M, S) (vl_i 22 331 B S K) := by
  unfold e_M_rows at h
  refine l1 (n := 1) rfl rfl rfl (la_of a0) ?_
  refine l_gr rfl (ko_0 hS (List.Mem.head _)) rfl (fun _ => rfl) (kf_0_8 hR.2 (List.Mem.head _)) ?_
  refine l_gi rfl (ko_9 hS (List.Mem.head _)) rfl (fun _ => rfl) ?_
  exact l_ri rfl rfl (inr_gi _ _ _) hR h
theorem H_M_rows_m {fz : Bool} {S : gS} {B : rf_M} {M : rf_M} {n0 : Nat} {K : Int → rf_M → Prop} (hS : rl S) (hR : fl 22 331 B M) (h : em_M_rows  M K) : lx (cx0 fz) n0 113 0 (lv_args 0 [.ref 22]) [] (M, S) (vl_i 22 331 B S K) :=
  H_M_rows hS hR rfl h
theorem H_J_has_24 {fz : Bool} {S : gS} {B : rf_M} {M : rf_M} {ls : rf_L} {n0 : Nat} {s0 : Int} {K : Int → rf_M → Prop} (hS : rl S) (hR : fl 22 331 B M) (is0 : inr s0) (h : e_J_has_24 s0 M K) : lx (cx0 fz) n0 116 24 ls [zv s0] (M, S) (vl_i 22 331 B S K) := by
  unfold e_J_has_24 at h
  exact l_rb rfl rfl h.1 hR h.2
theorem H_J_has_23 {fz : Bool} {S : gS} {B : rf_M} {M : rf_M} {ls : rf_L} {n0 : Nat} {K : Int → rf_M → Prop} (hS : rl S) (hR : fl 22 331 B M) (h : e_J_has_23 M K) : lx (cx0 fz) n0 116 23 ls [] (M, S) (vl_i 22 331 B S K) := by
  unfold e_J_has_23 at h
  refine l1 (n := 1) rfl rfl rfl rfl ?_
  exact H_J_has_24 hS hR ⟨by decide, by decide⟩ h
theorem H_J_has {fz : Bool} {S : gS} {B : rf_M} {M : rf_M} {ls : rf_L} {n0 : Nat} {v1 : Int} {K : Int → rf_M → Prop} (hS : rl S) (hR : fl 22 331 B M) (iv1 : inr v1) (a0 : rf_ld ls 0 = some (.ref 324)) (a1 : rf_ld ls 1 = some (zv v1)) (h : e_J_has v1 M K) : lx (cx0 fz) n0 116 0 ls [] (M, S) (vl_i 22 331 B S K) := by
  unfold e_J_has at h
  refine l1 (n := 1) rfl rfl rfl (li_of a1) ?_
  refine l_if rfl iv1 (fun c => ?_) (fun c => ?_)
  · replace h := h.1 c
    exact H_J_has_23 hS hR  h
  · replace h := h.2 c
    refine l1 (n := 1) rfl rfl rfl (li_of a1) ?_
    refine l1 (n := 1) rfl rfl rfl (la_of a0) ?_
    refine l_gi rfl (ko_9 hS (List.Mem.head _)) rfl (fun _ => rfl) ?_
    refine l_ic rfl iv1 (inr_gi _ _ _) (fun c => ?_) (fun c => ?_)
    · replace h := h.1 c
      exact H_J_has_23 hS hR  h
    · replace h := h.2 c
      refine l1 (n := 1) rfl rfl rfl (li_of a1) ?_
      refine l_si rfl (by decide) ?_
      refine l_ic rfl iv1 ⟨by decide, by decide⟩ (fun c => ?_) (fun c => ?_)
      · replace h := h.1 c
        exact H_J_has_23 hS hR  h
      · replace h := h.2 c
        refine l1 (n := 1) rfl rfl rfl rfl ?_
        refine l3 rfl rfl rfl ?_
        exact H_J_has_24 hS hR ⟨by decide, by decide⟩ h
theorem H_J_has_m {fz : Bool} {S : gS} {B : rf_M} {M : rf_M} {n0 : Nat} {x1 : Int} {K : Int → rf_M → Prop} (hS : rl S) (hR : fl 22 331 B M) (ix1 : inr x1) (h : em_J_has x1 M K) : lx (cx0 fz) n0 116 0 (lv_args 0 [.ref 324, zv x1]) [] (M, S) (vl_i 22 331 B S K) :=
  H_J_has hS hR ix1 rfl rfl h
theorem H_J_tell {fz : Bool} {S : gS} {B : rf_M} {M : rf_M} {ls : rf_L} {n0 : Nat} {v1 : Int} {v2 : Int} {K : Int → rf_M → Prop} (hS : rl S) (hR : fl 22 331 B M) (iv1 : inr v1) (iv2 : inr v2) (a0 : rf_ld ls 0 = some (.ref 324)) (a1 : rf_ld ls 1 = some (zv v1)) (a2 : rf_ld ls 2 = some (zv v2)) (h : e_J_tell v1 v2 M K) : lx (cx0 fz) n0 115 0 ls [] (M, S) (vl_i 22 331 B S K) := by
  unfold e_J_tell at h
  refine l1 (n := 1) rfl rfl rfl (la_of a0) ?_
  refine l1 (n := 1) rfl rfl rfl (li_of a1) ?_
  refine b_iv (c := 324) (as := [zv v1]) (rest := []) rfl (by decide) (ko_9 hS (List.Mem.head _)) rfl rfl (Nat.le_of_ble_eq_true rfl) (fun hq => ?_)
  refine lx_mono (H_J_has_m hS hR iv1 h) ?_
  rintro _ _ ⟨z1, M1, rfl, rfl, r1, iz1, h⟩
  refine l_if rfl iz1 (fun c => ?_) (fun c => ?_)
  · replace h := h.2 c
    refine l1 (n := 1) rfl rfl rfl (li_of a2) ?_
    have ia : inr v2 := iv2
    obtain ⟨h1, h⟩ := h
    by_cases e0 : v2 = 0
    · replace h := h1 e0
      refine l_sw e0 rfl rfl rfl ?_
      refine l1 (n := 1) rfl rfl rfl (la_of a0) ?_
      refine l_gr rfl (ko_9 hS (List.Mem.head _)) rfl (fun _ => rfl) (kf_9_1 r1.2 (List.Mem.head _)) ?_
      refine l1 (n := 1) rfl rfl rfl (li_of a1) ?_
      refine b_ia rfl (jc_325 (fz := fz) hS).1 (Nat.le_of_ble_eq_true rfl) iv1 (fun q => ?_)
      replace h := h q
      exact l_ri rfl rfl (inr_gi _ _ _) r1 h
    obtain ⟨h1, h⟩ := h
    by_cases e1 : v2 = 1
    · replace h := h1 e1
      refine l_sw e1 rfl rfl rfl ?_
      refine l1 (n := 1) rfl rfl rfl (la_of a0) ?_
      refine l_gr rfl (ko_9 hS (List.Mem.head _)) rfl (fun _ => rfl) (kf_9_2 r1.2 (List.Mem.head _)) ?_
      refine l1 (n := 1) rfl rfl rfl (li_of a1) ?_
      refine b_ia rfl (jc_326 (fz := fz) hS).1 (Nat.le_of_ble_eq_true rfl) iv1 (fun q => ?_)
      replace h := h q
      exact l_ri rfl rfl (inr_gi _ _ _) r1 h
    obtain ⟨h1, h⟩ := h
    by_cases e2 : v2 = 2
    · replace h := h1 e2
      refine l_sw e2 rfl rfl rfl ?_
      refine l1 (n := 1) rfl rfl rfl (la_of a0) ?_
      refine l_gr rfl (ko_9 hS (List.Mem.head _)) rfl (fun _ => rfl) (kf_9_3 r1.2 (List.Mem.head _)) ?_
      refine l1 (n := 1) rfl rfl rfl (li_of a1) ?_
      refine b_ia rfl (jc_327 (fz := fz) hS).1 (Nat.le_of_ble_eq_true rfl) iv1 (fun q => ?_)
      replace h := h q
      exact l_ri rfl rfl (inr_gi _ _ _) r1 h
    obtain ⟨h1, h⟩ := h
    by_cases e3 : v2 = 3
    · replace h := h1 e3
      refine l_sw e3 rfl rfl rfl ?_
      refine l1 (n := 1) rfl rfl rfl (la_of a0) ?_
      refine l_gr rfl (ko_9 hS (List.Mem.head _)) rfl (fun _ => rfl) (kf_9_4 r1.2 (List.Mem.head _)) ?_
      refine l1 (n := 1) rfl rfl rfl (li_of a1) ?_
      refine b_ia rfl (jc_328 (fz := fz) hS).1 (Nat.le_of_ble_eq_true rfl) iv1 (fun q => ?_)
      replace h := h q
      exact l_ri rfl rfl (inr_gi _ _ _) r1 h
    obtain ⟨h1, h⟩ := h
    by_cases e4 : v2 = 4
    · replace h := h1 e4
      refine l_sw e4 rfl rfl rfl ?_
      refine l1 (n := 1) rfl rfl rfl (la_of a0) ?_
      refine l_gr rfl (ko_9 hS (List.Mem.head _)) rfl (fun _ => rfl) (kf_9_5 r1.2 (List.Mem.head _)) ?_
      refine l1 (n := 1) rfl rfl rfl (li_of a1) ?_
      refine b_ia rfl (jc_329 (fz := fz) hS).1 (Nat.le_of_ble_eq_true rfl) iv1 (fun q => ?_)
      replace h := h q
      exact l_ri rfl rfl (inr_gi _ _ _) r1 h
    replace h := h ⟨e0, e1, e2, e3, e4⟩
    refine l_swt (a := v2) rfl ia (by omega) ?_
    refine l1 (n := 1) rfl rfl rfl rfl ?_
    exact l_ri rfl rfl ⟨by decide, by decide⟩ r1 h
  · replace h := h.1 (Classical.not_not.mp c)
    refine l1 (n := 1) rfl rfl rfl rfl ?_
    exact l_ri rfl rfl ⟨by decide, by decide⟩ r1 h
theorem H_J_tell_m {fz : Bool} {S : gS} {B : rf_M} {M : rf_M} {n0 : Nat} {x1 : Int} {x2 : Int} {K : Int → rf_M → Prop} (hS : rl S) (hR : fl 22 331 B M) (ix1 : inr x1) (ix2 : inr x2) (h : em_J_tell x1 x2 M K) : lx (cx0 fz) n0 115 0 (lv_args 0 [.ref 324, zv x1, zv x2]) [] (M, S) (vl_i 22 331 B S K) :=
  H_J_tell hS hR ix1 ix2 rfl rfl rfl h
theorem H_M_row {fz : Bool} {S : gS} {B : rf_M} {M : rf_M} {ls : rf_L} {n0 : Nat} {v1 : Int} {v2 : Int} {K : Int → rf_M → Prop} (hS : rl S) (hR : fl 22 331 B M) (iv1 : inr v1) (iv2 : inr v2) (a0 : rf_ld ls 0 = some (.ref 22)) (a1 : rf_ld ls 1 = some (zv v1)) (a2 : rf_ld ls 2 = some (zv v2)) (h : e_M_row v1 v2 M K) : lx (cx0 fz) n0 114 0 ls [] (M, S) (vl_i 22 331 B S K) := by
  unfold e_M_row at h
  refine l1 (n := 1) rfl rfl rfl (la_of a0) ?_
  refine l_gr rfl (ko_0 hS (List.Mem.head _)) rfl (fun _ => rfl) (kf_0_8 hR.2 (List.Mem.head _)) ?_
  refine l1 (n := 1) rfl rfl rfl (li_of a1) ?_
  refine l1 (n := 1) rfl rfl rfl (li_of a2) ?_
  refine b_iv (c := 324) (as := [zv v1, zv v2]) (rest := []) rfl (by decide) (ko_9 hS (List.Mem.head _)) rfl rfl (Nat.le_of_ble_eq_true rfl) (fun hq => ?_)
  refine lx_mono (H_J_tell_m hS hR iv1 iv2 h) ?_
  rintro _ _ ⟨z1, M1, rfl, rfl, r1, iz1, h⟩
  exact l_ri rfl rfl iz1 r1 h
theorem H_M_row_m {fz : Bool} {S : gS} {B : rf_M} {M : rf_M} {n0 : Nat} {x1 : Int} {x2 : Int} {K : Int → rf_M → Prop} (hS : rl S) (hR : fl 22 331 B M) (ix1 : inr x1) (ix2 : inr x2) (h : em_M_row x1 x2 M K) : lx (cx0 fz) n0 114 0 (lv_args 0 [.ref 22, zv x1, zv x2]) [] (M, S) (vl_i 22 331 B S K) :=
  H_M_row hS hR ix1 ix2 rfl rfl rfl h
theorem H_M_value_24 {fz : Bool} {S : gS} {B : rf_M} {M : rf_M} {ls : rf_L} {n0 : Nat} {s0 : Int64} {K : Int64 → rf_M → Prop} (hS : rl S) (hR : fl 22 331 B M) (h : e_M_value_24 s0 M K) : lx (cx0 fz) n0 117 24 ls [.long s0] (M, S) (vl_l 22 331 B S K) := by
  unfold e_M_value_24 at h
  exact l_rl rfl rfl hR h
theorem H_M_value {fz : Bool} {S : gS} {B : rf_M} {M : rf_M} {ls : rf_L} {n0 : Nat} {v1 : Int} {K : Int64 → rf_M → Prop} (hS : rl S) (hR : fl 22 331 B M) (iv1 : inr v1) (a0 : rf_ld ls 0 = some (.ref 22)) (a1 : rf_ld ls 1 = some (zv v1)) (h : e_M_value v1 M K) : lx (cx0 fz) n0 117 0 ls [] (M, S) (vl_l 22 331 B S K) := by
  unfold e_M_value at h
  refine l1 (n := 1) rfl rfl rfl (la_of a0) ?_
  refine l_gr rfl (ko_0 hS (List.Mem.head _)) rfl (fun _ => rfl) (kf_0_8 hR.2 (List.Mem.head _)) ?_
  refine l1 (n := 1) rfl rfl rfl (li_of a1) ?_
  refine b_iv (c := 324) (as := [zv v1]) (rest := []) rfl (by decide) (ko_9 hS (List.Mem.head _)) rfl rfl (Nat.le_of_ble_eq_true rfl) (fun hq => ?_)
  refine lx_mono (H_J_has_m hS hR iv1 h) ?_
  rintro _ _ ⟨z1, M1, rfl, rfl, r1, iz1, h⟩
  refine l_if rfl iz1 (fun c => ?_) (fun c => ?_)
  · replace h := h.1 c
    refine l1 (n := 1) rfl rfl rfl rfl ?_
    exact H_M_value_24 hS r1  h
  · replace h := h.2 c
    refine l1 (n := 1) rfl rfl rfl (la_of a0) ?_
    refine l_gr rfl (ko_0 hS (List.Mem.head _)) rfl (fun _ => rfl) (kf_0_8 r1.2 (List.Mem.head _)) ?_
    refine l_gr rfl (ko_9 hS (List.Mem.head _)) rfl (fun _ => rfl) (kf_9_6 r1.2 (List.Mem.head _)) ?_
    refine l1 (n := 1) rfl rfl rfl (li_of a1) ?_
    refine b_la rfl (jc_330 (fz := fz) hS).1 (Nat.le_of_ble_eq_true rfl) iv1 (fun q => ?_)
    replace h := h q
    refine l3 rfl rfl rfl ?_
    exact H_M_value_24 hS r1  h
theorem H_M_value_m {fz : Bool} {S : gS} {B : rf_M} {M : rf_M} {n0 : Nat} {x1 : Int} {K : Int64 → rf_M → Prop} (hS : rl S) (hR : fl 22 331 B M) (ix1 : inr x1) (h : em_M_value x1 M K) : lx (cx0 fz) n0 117 0 (lv_args 0 [.ref 22, zv x1]) [] (M, S) (vl_l 22 331 B S K) :=
  H_M_value hS hR ix1 rfl rfl h
