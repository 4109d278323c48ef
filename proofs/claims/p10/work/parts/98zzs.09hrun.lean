theorem H_M_closeRun_67 {fz : Bool} {S : gS} {B : rf_M} {M : rf_M} {ls : rf_L} {n0 : Nat} {v1 : Int} {v3 : Nat} {v4 : Nat} {v5 : Int} {K : Int → rf_M → Prop} (hS : rl S) (hR : fl 22 331 B M) (iv1 : inr v1) (mv3 : v3 ∈ j6) (mv4 : v4 ∈ j7) (iv5 : inr v5) (a0 : rf_ld ls 0 = some (.ref 22)) (a1 : rf_ld ls 1 = some (zv v1)) (a3 : rf_ld ls 3 = some (.ref v3)) (a4 : rf_ld ls 4 = some (.ref v4)) (a5 : rf_ld ls 5 = some (zv v5)) (h : e_M_closeRun_67 v1 v3 v4 v5 M K) : lx (cx0 fz) n0 104 67 ls [] (M, S) (vl_i 22 331 B S K) := by
  unfold e_M_closeRun_67 at h
  refine l1 (n := 2) rfl rfl rfl (li_of a5) ?_
  refine l_if rfl iv5 (fun c => ?_) (fun c => ?_)
  · replace h := h.1 c
    refine l1 (n := 1) rfl rfl rfl rfl ?_
    exact H_M_closeRun_77 hS hR iv1 mv3 mv4 iv5 ⟨by decide, by decide⟩ a0 a1 a3 a4 a5 h
  · replace h := h.2 c
    refine l1 (n := 1) rfl rfl rfl rfl ?_
    refine l3 rfl rfl rfl ?_
    exact H_M_closeRun_77 hS hR iv1 mv3 mv4 iv5 ⟨by decide, by decide⟩ a0 a1 a3 a4 a5 h
theorem H_M_closeRun_64 {fz : Bool} {S : gS} {B : rf_M} {M : rf_M} {ls : rf_L} {n0 : Nat} {v1 : Int} {v3 : Nat} {v4 : Nat} {v5 : Int} {s0 : Nat} {s1 : Int64} {K : Int → rf_M → Prop} (hS : rl S) (hR : fl 22 331 B M) (iv1 : inr v1) (mv3 : v3 ∈ j6) (mv4 : v4 ∈ j7) (iv5 : inr v5) (ms0 : s0 ∈ j7) (a0 : rf_ld ls 0 = some (.ref 22)) (a1 : rf_ld ls 1 = some (zv v1)) (a3 : rf_ld ls 3 = some (.ref v3)) (a4 : rf_ld ls 4 = some (.ref v4)) (a5 : rf_ld ls 5 = some (zv v5)) (h : e_M_closeRun_64 v1 v3 v4 v5 s0 s1 M K) : lx (cx0 fz) n0 104 64 ls [.long s1, .ref s0] (M, S) (vl_i 22 331 B S K) := by
  unfold e_M_closeRun_64 at h
  refine l_pl rfl (jo_7 (fz := fz) hS ms0) rfl (fun _ _ => rfl) (fun M1 e => ?_)
  replace h := h M1 e
  have r1 := hR.wl (jo_7 (fz := fz) hS ms0).1 (jl_7 ms0) e
  exact H_M_closeRun_67 hS r1 iv1 mv3 mv4 iv5 a0 a1 a3 a4 a5 h
theorem H_M_closeRun_43 {fz : Bool} {S : gS} {B : rf_M} {M : rf_M} {ls : rf_L} {n0 : Nat} {v1 : Int} {v2 : Int} {v3 : Nat} {v4 : Nat} {s0 : Int} {K : Int → rf_M → Prop} (hS : rl S) (hR : fl 22 331 B M) (iv1 : inr v1) (iv2 : inr v2) (mv3 : v3 ∈ j6) (mv4 : v4 ∈ j7) (is0 : inr s0) (a0 : rf_ld ls 0 = some (.ref 22)) (a1 : rf_ld ls 1 = some (zv v1)) (a2 : rf_ld ls 2 = some (zv v2)) (a3 : rf_ld ls 3 = some (.ref v3)) (a4 : rf_ld ls 4 = some (.ref v4)) (h : e_M_closeRun_43 v1 v2 v3 v4 s0 M K) : lx (cx0 fz) n0 104 43 ls [zv s0] (M, S) (vl_i 22 331 B S K) := by
  unfold e_M_closeRun_43 at h
  refine l_s1 (n := 2) rfl rfl rfl rfl (fun ls y1 ho => ?_)
  have y2 := ho 0 _ (by decide) (fun q => by cases q.2) a0
  have y3 := ho 1 _ (by decide) (fun q => by cases q.2) a1
  have y4 := ho 2 _ (by decide) (fun q => by cases q.2) a2
  have y5 := ho 3 _ (by decide) (fun q => by cases q.2) a3
  have y6 := ho 4 _ (by decide) (fun q => by cases q.2) a4
  refine l1 (n := 1) rfl rfl rfl (li_of y4) ?_
  refine l1 (n := 1) rfl rfl rfl rfl ?_
  refine l_ic rfl iv2 ⟨by decide, by decide⟩ (fun c => ?_) (fun c => ?_)
  · replace h := h.2 c
    exact H_M_closeRun_67 hS hR iv1 mv3 mv4 is0 y2 y3 y5 y6 y1 h
  · replace h := h.1 (Classical.not_not.mp c)
    refine l1 (n := 2) rfl rfl rfl (la_of y6) ?_
    refine l1 (n := 2) rfl rfl rfl (li_of y1) ?_
    refine l_if rfl is0 (fun c => ?_) (fun c => ?_)
    · replace h := h.1 c
      refine l7 (n := 3) rfl rfl rfl rfl ?_
      exact H_M_closeRun_64 hS hR iv1 mv3 mv4 is0 mv4 y2 y3 y5 y6 y1 h
    · replace h := h.2 c
      refine l1 (n := 1) rfl rfl rfl rfl ?_
      refine l3 rfl rfl rfl ?_
      exact H_M_closeRun_64 hS hR iv1 mv3 mv4 is0 mv4 y2 y3 y5 y6 y1 h
theorem H_M_closeRun_42 {fz : Bool} {S : gS} {B : rf_M} {M : rf_M} {ls : rf_L} {n0 : Nat} {v1 : Int} {v2 : Int} {v3 : Nat} {v4 : Nat} {K : Int → rf_M → Prop} (hS : rl S) (hR : fl 22 331 B M) (iv1 : inr v1) (iv2 : inr v2) (mv3 : v3 ∈ j6) (mv4 : v4 ∈ j7) (a0 : rf_ld ls 0 = some (.ref 22)) (a1 : rf_ld ls 1 = some (zv v1)) (a2 : rf_ld ls 2 = some (zv v2)) (a3 : rf_ld ls 3 = some (.ref v3)) (a4 : rf_ld ls 4 = some (.ref v4)) (h : e_M_closeRun_42 v1 v2 v3 v4 M K) : lx (cx0 fz) n0 104 42 ls [] (M, S) (vl_i 22 331 B S K) := by
  unfold e_M_closeRun_42 at h
  refine l1 (n := 1) rfl rfl rfl rfl ?_
  exact H_M_closeRun_43 hS hR iv1 iv2 mv3 mv4 ⟨by decide, by decide⟩ a0 a1 a2 a3 a4 h
theorem H_M_closeRun {fz : Bool} {S : gS} {B : rf_M} {M : rf_M} {ls : rf_L} {n0 : Nat} {v1 : Int} {v2 : Int} {K : Int → rf_M → Prop} (hS : rl S) (hR : fl 22 331 B M) (iv1 : inr v1) (iv2 : inr v2) (a0 : rf_ld ls 0 = some (.ref 22)) (a1 : rf_ld ls 1 = some (zv v1)) (a2 : rf_ld ls 2 = some (zv v2)) (h : e_M_closeRun v1 v2 M K) : lx (cx0 fz) n0 104 0 ls [] (M, S) (vl_i 22 331 B S K) := by
  unfold e_M_closeRun at h
  refine l1 (n := 1) rfl rfl rfl (la_of a0) ?_
  refine l_gr rfl (ko_0 hS (List.Mem.head _)) rfl (fun _ => rfl) (kf_0_7 hR.2 (List.Mem.head _)) ?_
  refine l1 (n := 1) rfl rfl rfl (li_of a1) ?_
  refine b_aa rfl (jc_195 (fz := fz) hS).1 (Nat.le_of_ble_eq_true rfl) iv1 (fun q1 => ⟨clA_ref hR.2 q1, ?_⟩)
  replace h := h q1
  refine l_s1 (n := 1) rfl rfl rfl rfl (fun ls y1 ho => ?_)
  have y2 := ho 0 _ (by decide) (fun q => by cases q.2) a0
  have y3 := ho 1 _ (by decide) (fun q => by cases q.2) a1
  have y4 := ho 2 _ (by decide) (fun q => by cases q.2) a2
  refine l1 (n := 1) rfl rfl rfl (la_of y1) ?_
  refine l_gr rfl (jo_6 hS (clA_mem3 q1)) rfl (fun _ => rfl) (jf_6_4 hR.2 (clA_mem3 q1)) ?_
  refine l_s1 (n := 2) rfl rfl rfl rfl (fun ls y5 ho => ?_)
  have y6 := ho 0 _ (by decide) (fun q => by cases q.2) y2
  have y7 := ho 1 _ (by decide) (fun q => by cases q.2) y3
  have y8 := ho 2 _ (by decide) (fun q => by cases q.2) y4
  have y9 := ho 3 _ (by decide) (fun q => by cases q.2) y1
  refine l1 (n := 1) rfl rfl rfl (li_of y8) ?_
  refine l1 (n := 1) rfl rfl rfl rfl ?_
  refine l_ic rfl iv2 ⟨by decide, by decide⟩ (fun c => ?_) (fun c => ?_)
  · replace h := h.2 c
    exact H_M_closeRun_42 hS hR iv1 iv2 (clA_mem3 q1) (jt_6_4 (clA_mem3 q1)) y6 y7 y8 y9 y5 h
  · replace h := h.1 (Classical.not_not.mp c)
    refine l1 (n := 1) rfl rfl rfl (la_of y6) ?_
    refine l_gr rfl (ko_0 hS (List.Mem.head _)) rfl (fun _ => rfl) (kf_0_6 hR.2 (List.Mem.head _)) ?_
    refine l1 (n := 2) rfl rfl rfl (la_of y5) ?_
    obtain ⟨q2, h⟩ := h
    refine l_gr rfl (jo_7 hS (jt_6_4 (clA_mem3 q1))) rfl (fun _ => rfl) q2.1 ?_
    refine l1 (n := 2) rfl rfl rfl (la_of y5) ?_
    refine l_gr rfl (jo_7 hS (jt_6_4 (clA_mem3 q1))) rfl (fun _ => rfl) (jf_7_5 hR.2 (jt_6_4 (clA_mem3 q1))) ?_
    refine b_iv (c := 187) (as := [.ref (gr M ((clA v1) + 3) 0), .ref ((clA v1) + 5)]) (rest := []) rfl (by decide) (jo_4 hS (List.Mem.head _)) rfl rfl (Nat.le_of_ble_eq_true rfl) (fun hq => ?_)
    refine lx_mono (H_S_takes_m hS hR (List.Mem.head _) q2.2 (jt_7_5 (jt_6_4 (clA_mem3 q1))) h) ?_
    rintro _ _ ⟨z1, M1, rfl, rfl, r1, iz1, h⟩
    refine l_if rfl iz1 (fun c => ?_) (fun c => ?_)
    · replace h := h.1 c
      exact H_M_closeRun_42 hS r1 iv1 iv2 (clA_mem3 q1) (jt_6_4 (clA_mem3 q1)) y6 y7 y8 y9 y5 h
    · replace h := h.2 c
      refine l1 (n := 1) rfl rfl rfl rfl ?_
      refine l3 rfl rfl rfl ?_
      exact H_M_closeRun_43 hS r1 iv1 iv2 (clA_mem3 q1) (jt_6_4 (clA_mem3 q1)) ⟨by decide, by decide⟩ y6 y7 y8 y9 y5 h
theorem H_M_closeRun_m {fz : Bool} {S : gS} {B : rf_M} {M : rf_M} {n0 : Nat} {x1 : Int} {x2 : Int} {K : Int → rf_M → Prop} (hS : rl S) (hR : fl 22 331 B M) (ix1 : inr x1) (ix2 : inr x2) (h : em_M_closeRun x1 x2 M K) : lx (cx0 fz) n0 104 0 (lv_args 0 [.ref 22, zv x1, zv x2]) [] (M, S) (vl_i 22 331 B S K) :=
  H_M_closeRun hS hR ix1 ix2 rfl rfl rfl h
theorem H_M_takeTurn_111 {fz : Bool} {S : gS} {B : rf_M} {M : rf_M} {ls : rf_L} {n0 : Nat} {v2 : Nat} {K : Int → rf_M → Prop} (hS : rl S) (hR : fl 22 331 B M) (mv2 : v2 ∈ j6) (a2 : rf_ld ls 2 = some (.ref v2)) (h : e_M_takeTurn_111 v2 M K) : lx (cx0 fz) n0 85 111 ls [] (M, S) (vl_i 22 331 B S K) := by
  unfold e_M_takeTurn_111 at h
  refine l1 (n := 1) rfl rfl rfl (la_of a2) ?_
  refine b_iv (c := v2) (as := []) (rest := []) rfl (by decide) (jo_6 hS mv2) rfl rfl (Nat.le_of_ble_eq_true rfl) (fun hq => ?_)
  refine lx_mono (H_C_cut_m hS hR mv2 h) ?_
  rintro _ _ ⟨M1, rfl, rfl, r1, h⟩
  refine l1 (n := 1) rfl rfl rfl rfl ?_
  exact l_ri rfl rfl ⟨by decide, by decide⟩ r1 h
theorem H_M_takeTurn_176 {fz : Bool} {S : gS} {B : rf_M} {M : rf_M} {ls : rf_L} {n0 : Nat} {s0 : Int} {K : Int → rf_M → Prop} (hS : rl S) (hR : fl 22 331 B M) (is0 : inr s0) (h : e_M_takeTurn_176 s0 M K) : lx (cx0 fz) n0 85 176 ls [zv s0] (M, S) (vl_i 22 331 B S K) := by
  unfold e_M_takeTurn_176 at h
  exact l_ri rfl rfl is0 hR h
theorem H_M_takeTurn_151 {fz : Bool} {S : gS} {B : rf_M} {M : rf_M} {ls : rf_L} {n0 : Nat} {v2 : Nat} {v3 : Int} {v4 : Int} {v6 : Int} {K : Int → rf_M → Prop} (hS : rl S) (hR : fl 22 331 B M) (mv2 : v2 ∈ j6) (iv3 : inr v3) (iv4 : inr v4) (iv6 : inr v6) (a2 : rf_ld ls 2 = some (.ref v2)) (a3 : rf_ld ls 3 = some (zv v3)) (a4 : rf_ld ls 4 = some (zv v4)) (a6 : rf_ld ls 6 = some (zv v6)) (h : e_M_takeTurn_151 v2 v3 v4 v6 M K) : lx (cx0 fz) n0 85 151 ls [] (M, S) (vl_i 22 331 B S K) := by
  unfold e_M_takeTurn_151 at h
  refine l1 (n := 1) rfl rfl rfl (la_of a2) ?_
  refine l_gr rfl (jo_6 hS mv2) rfl (fun _ => rfl) (jf_6_4 hR.2 mv2) ?_
  refine l1 (n := 2) rfl rfl rfl (li_of a4) ?_
  refine l_pi rfl (jo_7 (fz := fz) hS (jt_6_4 mv2)) rfl (fun _ _ => rfl) (fun M1 e => ?_)
  replace h := h M1 e
  have r1 := hR.wi (jo_7 (fz := fz) hS (jt_6_4 mv2)).1 (jl_7 (jt_6_4 mv2)) e
  refine l1 (n := 1) rfl rfl rfl (la_of a2) ?_
  refine l1 (n := 1) rfl rfl rfl (li_of a3) ?_
  refine l_pi rfl (jo_6 (fz := fz) hS mv2) rfl (fun _ _ => rfl) (fun M2 e => ?_)
  replace h := h M2 e
  have r2 := r1.wi (jo_6 (fz := fz) hS mv2).1 (jl_6 mv2) e
  refine l1 (n := 2) rfl rfl rfl (li_of a6) ?_
  refine l_if rfl iv6 (fun c => ?_) (fun c => ?_)
  · replace h := h.1 c
    refine l1 (n := 1) rfl rfl rfl rfl ?_
    exact H_M_takeTurn_176 hS r2 ⟨by decide, by decide⟩ h
  · replace h := h.2 c
    refine l_bi rfl (by decide) ?_
    refine l3 rfl rfl rfl ?_
    exact H_M_takeTurn_176 hS r2 ⟨by decide, by decide⟩ h
theorem H_M_takeTurn_70 {fz : Bool} {S : gS} {B : rf_M} {M : rf_M} {ls : rf_L} {n0 : Nat} {v1 : Int} {v2 : Nat} {v3 : Int} {K : Int → rf_M → Prop} (hS : rl S) (hR : fl 22 331 B M) (iv1 : inr v1) (mv2 : v2 ∈ j6) (iv3 : inr v3) (a0 : rf_ld ls 0 = some (.ref 22)) (a1 : rf_ld ls 1 = some (zv v1)) (a2 : rf_ld ls 2 = some (.ref v2)) (a3 : rf_ld ls 3 = some (zv v3)) (h : e_M_takeTurn_70 v1 v2 v3 M K) : lx (cx0 fz) n0 85 70 ls [] (M, S) (vl_i 22 331 B S K) := by
  unfold e_M_takeTurn_70 at h
  refine l1 (n := 1) rfl rfl rfl (la_of a2) ?_
  refine l_gr rfl (jo_6 hS mv2) rfl (fun _ => rfl) (jf_6_4 hR.2 mv2) ?_
  refine l_gi rfl (jo_7 hS (jt_6_4 mv2)) rfl (fun _ => rfl) ?_
  refine l_s1 (n := 2) rfl rfl rfl rfl (fun ls y1 ho => ?_)
  have y2 := ho 0 _ (by decide) (fun q => by cases q.2) a0
  have y3 := ho 1 _ (by decide) (fun q => by cases q.2) a1
  have y4 := ho 2 _ (by decide) (fun q => by cases q.2) a2
  have y5 := ho 3 _ (by decide) (fun q => by cases q.2) a3
  refine l1 (n := 1) rfl rfl rfl (la_of y4) ?_
  refine l_gr rfl (jo_6 hS mv2) rfl (fun _ => rfl) (jf_6_4 hR.2 mv2) ?_
  refine b_iv (c := (v2 + 3)) (as := []) (rest := []) rfl (by decide) (jo_7 hS (jt_6_4 mv2)) rfl rfl (Nat.le_of_ble_eq_true rfl) (fun hq => ?_)
  refine lx_mono (H_R_step_m hS hR (jt_6_4 mv2) h) ?_
  rintro _ _ ⟨z1, M1, rfl, rfl, r1, iz1, h⟩
  refine l_s1 (n := 2) rfl rfl rfl rfl (fun ls y6 ho => ?_)
  have y7 := ho 0 _ (by decide) (fun q => by cases q.2) y2
  have y8 := ho 1 _ (by decide) (fun q => by cases q.2) y3
  have y9 := ho 2 _ (by decide) (fun q => by cases q.2) y4
  have y10 := ho 3 _ (by decide) (fun q => by cases q.2) y5
  have y11 := ho 4 _ (by decide) (fun q => by cases q.2) y1
  refine l1 (n := 2) rfl rfl rfl (li_of y6) ?_
  refine l_if rfl iz1 (fun c => ?_) (fun c => ?_)
  · replace h := h.2 c
    refine l1 (n := 2) rfl rfl rfl (li_of y6) ?_
    refine l1 (n := 1) rfl rfl rfl rfl ?_
    refine l_ic rfl iz1 ⟨by decide, by decide⟩ (fun c => ?_) (fun c => ?_)
    · replace h := h.1 c
      exact H_M_takeTurn_111 hS r1 mv2 y9 h
    · replace h := h.2 c
      refine l1 (n := 1) rfl rfl rfl (la_of y9) ?_
      refine l_gr rfl (jo_6 hS mv2) rfl (fun _ => rfl) (jf_6_4 r1.2 mv2) ?_
      refine b_iv (c := (v2 + 3)) (as := []) (rest := []) rfl (by decide) (jo_7 hS (jt_6_4 mv2)) rfl rfl (Nat.le_of_ble_eq_true rfl) (fun hq => ?_)
      refine lx_mono (H_R_isStale_m hS r1 (jt_6_4 mv2) h) ?_
      rintro _ _ ⟨z2, M2, rfl, rfl, r2, iz2, h⟩
      refine l_if rfl iz2 (fun c => ?_) (fun c => ?_)
      · replace h := h.1 c
        refine l1 (n := 2) rfl rfl rfl (li_of y6) ?_
        refine l1 (n := 1) rfl rfl rfl rfl ?_
        refine l_ic rfl iz1 ⟨by decide, by decide⟩ (fun c => ?_) (fun c => ?_)
        · replace h := h.2 c
          refine l1 (n := 1) rfl rfl rfl (la_of y7) ?_
          refine l1 (n := 1) rfl rfl rfl (li_of y8) ?_
          refine b_iv (c := 22) (as := [zv v1]) (rest := []) rfl (by decide) (ko_0 hS (List.Mem.head _)) rfl rfl (Nat.le_of_ble_eq_true rfl) (fun hq => ?_)
          refine lx_mono (H_M_isHeld_m hS r2 iv1 h) ?_
          rintro _ _ ⟨z3, M3, rfl, rfl, r3, iz3, h⟩
          refine l_s1 (n := 2) rfl rfl rfl rfl (fun ls y12 ho => ?_)
          have y13 := ho 0 _ (by decide) (fun q => by cases q.2) y7
          have y14 := ho 1 _ (by decide) (fun q => by cases q.2) y8
          have y15 := ho 2 _ (by decide) (fun q => by cases q.2) y9
          have y16 := ho 3 _ (by decide) (fun q => by cases q.2) y10
          have y17 := ho 4 _ (by decide) (fun q => by cases q.2) y11
          have y18 := ho 5 _ (by decide) (fun q => by cases q.2) y6
          refine l1 (n := 2) rfl rfl rfl (li_of y12) ?_
          refine l_if rfl iz3 (fun c => ?_) (fun c => ?_)
          · replace h := h.2 c
            exact H_M_takeTurn_151 hS r3 mv2 iv3 (inr_gi _ _ _) iz3 y15 y16 y17 y12 h
          · replace h := h.1 (Classical.not_not.mp c)
            refine l1 (n := 1) rfl rfl rfl (la_of y13) ?_
            refine l_gr rfl (ko_0 hS (List.Mem.head _)) rfl (fun _ => rfl) (kf_0_8 r3.2 (List.Mem.head _)) ?_
            refine b_iv (c := 324) (as := []) (rest := []) rfl (by decide) (ko_9 hS (List.Mem.head _)) rfl rfl (Nat.le_of_ble_eq_true rfl) (fun hq => ?_)
            refine lx_mono (H_J_isFull_m hS r3 h) ?_
            rintro _ _ ⟨z4, M4, rfl, rfl, r4, iz4, h⟩
            refine l_if rfl iz4 (fun c => ?_) (fun c => ?_)
            · replace h := h.1 c
              refine l1 (n := 1) rfl rfl rfl (la_of y13) ?_
              refine l1 (n := 1) rfl rfl rfl (li_of y14) ?_
              refine l1 (n := 2) rfl rfl rfl (li_of y18) ?_
              refine b_iv (c := 22) (as := [zv v1, zv z1]) (rest := []) rfl (by decide) (ko_0 hS (List.Mem.head _)) rfl rfl (Nat.le_of_ble_eq_true rfl) (fun hq => ?_)
              refine lx_mono (H_M_closeRun_m hS r4 iv1 iz1 h) ?_
              rintro _ _ ⟨z5, M5, rfl, rfl, r5, iz5, h⟩
              exact l_ri rfl rfl iz5 r5 h
            · replace h := h.2 c
              exact H_M_takeTurn_151 hS r4 mv2 iv3 (inr_gi _ _ _) iz3 y15 y16 y17 y12 h
        · replace h := h.1 (Classical.not_not.mp c)
          refine l1 (n := 1) rfl rfl rfl (la_of y9) ?_
          refine b_iv (c := v2) (as := []) (rest := []) rfl (by decide) (jo_6 hS mv2) rfl rfl (Nat.le_of_ble_eq_true rfl) (fun hq => ?_)
          refine lx_mono (H_C_rest_m hS r2 mv2 h) ?_
          rintro _ _ ⟨M6, rfl, rfl, r6, h⟩
          refine l1 (n := 1) rfl rfl rfl rfl ?_
          exact l_ri rfl rfl ⟨by decide, by decide⟩ r6 h
      · replace h := h.2 c
        exact H_M_takeTurn_111 hS r2 mv2 y9 h
  · replace h := h.1 (Classical.not_not.mp c)
    refine l1 (n := 1) rfl rfl rfl rfl ?_
    exact l_ri rfl rfl ⟨by decide, by decide⟩ r1 h
theorem H_M_takeTurn_37 {fz : Bool} {S : gS} {B : rf_M} {M : rf_M} {ls : rf_L} {n0 : Nat} {v1 : Int} {v2 : Nat} {K : Int → rf_M → Prop} (hS : rl S) (hR : fl 22 331 B M) (iv1 : inr v1) (mv2 : v2 ∈ j6) (a0 : rf_ld ls 0 = some (.ref 22)) (a1 : rf_ld ls 1 = some (zv v1)) (a2 : rf_ld ls 2 = some (.ref v2)) (h : e_M_takeTurn_37 v1 v2 M K) : lx (cx0 fz) n0 85 37 ls [] (M, S) (vl_i 22 331 B S K) := by
  unfold e_M_takeTurn_37 at h
  refine l1 (n := 1) rfl rfl rfl (la_of a2) ?_
  refine l_gi rfl (jo_6 hS mv2) rfl (fun _ => rfl) ?_
  refine l_s1 (n := 1) rfl rfl rfl rfl (fun ls y1 ho => ?_)
  have y2 := ho 0 _ (by decide) (fun q => by cases q.2) a0
  have y3 := ho 1 _ (by decide) (fun q => by cases q.2) a1
  have y4 := ho 2 _ (by decide) (fun q => by cases q.2) a2
  refine l1 (n := 1) rfl rfl rfl (li_of y1) ?_
  refine l1 (n := 1) rfl rfl rfl rfl ?_
  refine l_ic rfl (inr_gi _ _ _) ⟨by decide, by decide⟩ (fun c => ?_) (fun c => ?_)
  · replace h := h.1 c
    exact H_M_takeTurn_70 hS hR iv1 mv2 (inr_gi _ _ _) y2 y3 y4 y1 h
  · replace h := h.2 c
    refine l1 (n := 1) rfl rfl rfl (la_of y4) ?_
    refine l_gr rfl (jo_6 hS mv2) rfl (fun _ => rfl) (jf_6_4 hR.2 mv2) ?_
    refine l1 (n := 1) rfl rfl rfl (la_of y2) ?_
    refine l_gr rfl (ko_0 hS (List.Mem.head _)) rfl (fun _ => rfl) (kf_0_2 hR.2 (List.Mem.head _)) ?_
    refine l1 (n := 1) rfl rfl rfl (la_of y4) ?_
    refine l_gr rfl (jo_6 hS mv2) rfl (fun _ => rfl) (jf_6_3 hR.2 mv2) ?_
    refine l1 (n := 1) rfl rfl rfl rfl ?_
    refine b_ia rfl (jt_6_3 (fz := fz) hS mv2).1 (Nat.le_of_ble_eq_true rfl) ⟨by decide, by decide⟩ (fun q => ?_)
    replace h := h q
    refine b_aa rfl (jc_24 (fz := fz) hS).1 (Nat.le_of_ble_eq_true rfl) (inr_gi _ _ _) (fun q1 => ⟨pgA_ref hR.2 q1, ?_⟩)
    replace h := h q1
    refine b_iv (c := (v2 + 3)) (as := [.ref (pgA (gi M (v2 + 1) 0))]) (rest := []) rfl (by decide) (jo_7 hS (jt_6_4 mv2)) rfl rfl (Nat.le_of_ble_eq_true rfl) (fun hq => ?_)
    refine lx_mono (H_R_begin_m hS hR (jt_6_4 mv2) (pgA_mem q1) h) ?_
    rintro _ _ ⟨M1, rfl, rfl, r1, h⟩
    refine l1 (n := 1) rfl rfl rfl (la_of y4) ?_
    refine l1 (n := 1) rfl rfl rfl rfl ?_
    refine l_pi rfl (jo_6 (fz := fz) hS mv2) rfl (fun _ _ => rfl) (fun M2 e => ?_)
    replace h := h M2 e
    have r2 := r1.wi (jo_6 (fz := fz) hS mv2).1 (jl_6 mv2) e
    exact H_M_takeTurn_70 hS r2 iv1 mv2 (inr_gi _ _ _) y2 y3 y4 y1 h
theorem H_M_takeTurn {fz : Bool} {S : gS} {B : rf_M} {M : rf_M} {ls : rf_L} {n0 : Nat} {v1 : Int} {K : Int → rf_M → Prop} (hS : rl S) (hR : fl 22 331 B M) (iv1 : inr v1) (a0 : rf_ld ls 0 = some (.ref 22)) (a1 : rf_ld ls 1 = some (zv v1)) (h : e_M_takeTurn v1 M K) : lx (cx0 fz) n0 85 0 ls [] (M, S) (vl_i 22 331 B S K) := by
  unfold e_M_takeTurn at h
  refine l1 (n := 1) rfl rfl rfl (la_of a0) ?_
  refine l_gr rfl (ko_0 hS (List.Mem.head _)) rfl (fun _ => rfl) (kf_0_7 hR.2 (List.Mem.head _)) ?_
  refine l1 (n := 1) rfl rfl rfl (li_of a1) ?_
  refine b_aa rfl (jc_195 (fz := fz) hS).1 (Nat.le_of_ble_eq_true rfl) iv1 (fun q1 => ⟨clA_ref hR.2 q1, ?_⟩)
  replace h := h q1
  refine l_s1 (n := 1) rfl rfl rfl rfl (fun ls y1 ho => ?_)
  have y2 := ho 0 _ (by decide) (fun q => by cases q.2) a0
  have y3 := ho 1 _ (by decide) (fun q => by cases q.2) a1
  refine l1 (n := 1) rfl rfl rfl (la_of y1) ?_
  refine l_gi rfl (jo_6 hS (clA_mem3 q1)) rfl (fun _ => rfl) ?_
  refine l_if rfl (inr_gi _ _ _) (fun c => ?_) (fun c => ?_)
  · replace h := h.2 c
    refine l1 (n := 1) rfl rfl rfl (la_of y1) ?_
    refine l_gi rfl (jo_6 hS (clA_mem3 q1)) rfl (fun _ => rfl) ?_
    refine l1 (n := 1) rfl rfl rfl rfl ?_
    refine l_ic rfl (inr_gi _ _ _) ⟨by decide, by decide⟩ (fun c => ?_) (fun c => ?_)
    · replace h := h.2 c
      exact H_M_takeTurn_37 hS hR iv1 (clA_mem3 q1) y2 y3 y1 h
    · replace h := h.1 (Classical.not_not.mp c)
      refine l1 (n := 1) rfl rfl rfl (la_of y1) ?_
      refine l1 (n := 1) rfl rfl rfl (la_of y2) ?_
      refine l_gr rfl (ko_0 hS (List.Mem.head _)) rfl (fun _ => rfl) (kf_0_6 hR.2 (List.Mem.head _)) ?_
      refine b_iv (c := (clA v1)) (as := [.ref 187]) (rest := []) rfl (by decide) (jo_6 hS (clA_mem3 q1)) rfl rfl (Nat.le_of_ble_eq_true rfl) (fun hq => ?_)
      refine lx_mono (H_C_isWoken_m hS hR (clA_mem3 q1) (List.Mem.head _) h) ?_
      rintro _ _ ⟨z1, M1, rfl, rfl, r1, iz1, h⟩
      refine l_if rfl iz1 (fun c => ?_) (fun c => ?_)
      · replace h := h.2 c
        exact H_M_takeTurn_37 hS r1 iv1 (clA_mem3 q1) y2 y3 y1 h
      · replace h := h.1 (Classical.not_not.mp c)
        refine l1 (n := 1) rfl rfl rfl rfl ?_
        exact l_ri rfl rfl ⟨by decide, by decide⟩ r1 h
  · replace h := h.1 (Classical.not_not.mp c)
    refine l1 (n := 1) rfl rfl rfl rfl ?_
    exact l_ri rfl rfl ⟨by decide, by decide⟩ hR h
theorem H_M_takeTurn_m {fz : Bool} {S : gS} {B : rf_M} {M : rf_M} {n0 : Nat} {x1 : Int} {K : Int → rf_M → Prop} (hS : rl S) (hR : fl 22 331 B M) (ix1 : inr x1) (h : em_M_takeTurn x1 M K) : lx (cx0 fz) n0 85 0 (lv_args 0 [.ref 22, zv x1]) [] (M, S) (vl_i 22 331 B S K) :=
  H_M_takeTurn hS hR ix1 rfl rfl h
theorem H_M_turn_17 {fz : Bool} {S : gS} {B : rf_M} {M : rf_M} {ls : rf_L} {n0 : Nat} {s0 : Int} {K : Int → rf_M → Prop} (hS : rl S) (hR : fl 22 331 B M) (is0 : inr s0) (h : e_M_turn_17 s0 M K) : lx (cx0 fz) n0 84 17 ls [zv s0] (M, S) (vl_i 22 331 B S K) := by
  unfold e_M_turn_17 at h
  exact l_ri rfl rfl is0 hR h
theorem H_M_turn {fz : Bool} {S : gS} {B : rf_M} {M : rf_M} {ls : rf_L} {n0 : Nat} {v1 : Int} {K : Int → rf_M → Prop} (hS : rl S) (hR : fl 22 331 B M) (iv1 : inr v1) (a0 : rf_ld ls 0 = some (.ref 22)) (a1 : rf_ld ls 1 = some (zv v1)) (h : e_M_turn v1 M K) : lx (cx0 fz) n0 84 0 ls [] (M, S) (vl_i 22 331 B S K) := by
  unfold e_M_turn at h
  refine l1 (n := 1) rfl rfl rfl (la_of a0) ?_
  refine l1 (n := 1) rfl rfl rfl (li_of a1) ?_
  refine b_iv (c := 22) (as := [zv v1]) (rest := []) rfl (by decide) (ko_0 hS (List.Mem.head _)) rfl rfl (Nat.le_of_ble_eq_true rfl) (fun hq => ?_)
  refine lx_mono (H_M_isClient_m hS hR iv1 h) ?_
  rintro _ _ ⟨z1, M1, rfl, rfl, r1, iz1, h⟩
  refine l_if rfl iz1 (fun c => ?_) (fun c => ?_)
  · replace h := h.1 c
    refine l1 (n := 1) rfl rfl rfl rfl ?_
    exact H_M_turn_17 hS r1 ⟨by decide, by decide⟩ h
  · replace h := h.2 c
    refine l1 (n := 1) rfl rfl rfl (la_of a0) ?_
    refine l1 (n := 1) rfl rfl rfl (li_of a1) ?_
    refine b_iv (c := 22) (as := [zv v1]) (rest := []) rfl (by decide) (ko_0 hS (List.Mem.head _)) rfl rfl (Nat.le_of_ble_eq_true rfl) (fun hq => ?_)
    refine lx_mono (H_M_takeTurn_m hS r1 iv1 h) ?_
    rintro _ _ ⟨z2, M2, rfl, rfl, r2, iz2, h⟩
    refine l3 rfl rfl rfl ?_
    exact H_M_turn_17 hS r2 iz2 h
theorem H_M_turn_m {fz : Bool} {S : gS} {B : rf_M} {M : rf_M} {n0 : Nat} {x1 : Int} {K : Int → rf_M → Prop} (hS : rl S) (hR : fl 22 331 B M) (ix1 : inr x1) (h : em_M_turn x1 M K) : lx (cx0 fz) n0 84 0 (lv_args 0 [.ref 22, zv x1]) [] (M, S) (vl_i 22 331 B S K) :=
  H_M_turn hS hR ix1 rfl rfl h
theorem H_M_play_11 {fz : Bool} {S : gS} {B : rf_M} {M : rf_M} {ls : rf_L} {n0 : Nat} {K : Int → rf_M → Prop} (hS : rl S) (hR : fl 22 331 B M) (h : e_M_play_11 M K) : lx (cx0 fz) n0 108 11 ls [] (M, S) (vl_i 22 331 B S K) := by
  unfold e_M_play_11 at h
  refine l1 (n := 1) rfl rfl rfl rfl ?_
  exact l_ri rfl rfl ⟨by decide, by decide⟩ hR h
theorem H_M_play_57 {fz : Bool} {S : gS} {B : rf_M} {M : rf_M} {ls : rf_L} {n0 : Nat} {v3 : Int} {v4 : Int64} {v6 : Int} {v7 : Int} {b22 : Int → Int64 → Int → Int → rf_M → Prop} {K : Int → rf_M → Prop} (hS : rl S) (hR : fl 22 331 B M) (iv3 : inr v3) (iv6 : inr v6) (iv7 : inr v7) (a0 : rf_ld ls 0 = some (.ref 22)) (a3 : rf_ld ls 3 = some (zv v3)) (a4 : rf_ld ls 4 = some (.long v4)) (a6 : rf_ld ls 6 = some (zv v6)) (a7 : rf_ld ls 7 = some (zv v7)) (hb22 : ∀ n', n' < n0 → ∀ (v3 : Int) (v4 : Int64) (v6 : Int) (v7 : Int) (M : rf_M) (ls : rf_L), fl 22 331 B M → inr v3 → inr v6 → inr v7 → rf_ld ls 0 = some (.ref 22) → rf_ld ls 3 = some (zv v3) → rf_ld ls 4 = some (.long v4) → rf_ld ls 6 = some (zv v6) → rf_ld ls 7 = some (zv v7) → b22 v3 v4 v6 v7 M → lx (cx0 fz) n' 108 22 ls [] (M, S) (vl_i 22 331 B S K)) (h : e_M_play_57 v3 v4 v6 v7 M b22 K) : lx (cx0 fz) n0 108 57 ls [] (M, S) (vl_i 22 331 B S K) := by
  unfold e_M_play_57 at h
  rcases Nat.eq_zero_or_pos n0 with e0 | hp
  · rw [e0]; exact lx_zero
  refine l_ii rfl a7 (Nat.le_of_ble_eq_true rfl) (fun ls y1 ho => ?_)
  have y2 := ho 0 _ (by decide) (fun q => by cases q.2) a0
  have y3 := ho 3 _ (by decide) (fun q => by cases q.2) a3
  have y4 := ho 4 _ (by decide) (fun q => absurd q.1 (by decide)) a4
  have y5 := ho 6 _ (by decide) (fun q => by cases q.2) a6
  refine l3 rfl rfl rfl ?_
  obtain ⟨i1, h⟩ := h
  exact hb22 _ (by omega) _ _ _ _ _ _ hR iv3 iv6 i1 y2 y3 y4 y5 y1 h
theorem H_M_play_22b {fz : Bool} {S : gS} {B : rf_M} {M : rf_M} {ls : rf_L} {n0 : Nat} {v3 : Int} {v4 : Int64} {v6 : Int} {v7 : Int} {b22 : Int → Int64 → Int → Int → rf_M → Prop} {K : Int → rf_M → Prop} (hS : rl S) (hR : fl 22 331 B M) (iv3 : inr v3) (iv6 : inr v6) (iv7 : inr v7) (a0 : rf_ld ls 0 = some (.ref 22)) (a3 : rf_ld ls 3 = some (zv v3)) (a4 : rf_ld ls 4 = some (.long v4)) (a6 : rf_ld ls 6 = some (zv v6)) (a7 : rf_ld ls 7 = some (zv v7)) (hb22 : ∀ n', n' < n0 → ∀ (v3 : Int) (v4 : Int64) (v6 : Int) (v7 : Int) (M : rf_M) (ls : rf_L), fl 22 331 B M → inr v3 → inr v6 → inr v7 → rf_ld ls 0 = some (.ref 22) → rf_ld ls 3 = some (zv v3) → rf_ld ls 4 = some (.long v4) → rf_ld ls 6 = some (zv v6) → rf_ld ls 7 = some (zv v7) → b22 v3 v4 v6 v7 M → lx (cx0 fz) n' 108 22 ls [] (M, S) (vl_i 22 331 B S K)) (h : e_M_play_22b v3 v4 v6 v7 M b22 K) : lx (cx0 fz) n0 108 22 ls [] (M, S) (vl_i 22 331 B S K) := by
  unfold e_M_play_22b at h
  rcases Nat.eq_zero_or_pos n0 with e0 | hp
  · rw [e0]; exact lx_zero
  refine l1 (n := 2) rfl rfl rfl (li_of a7) ?_
  refine l1 (n := 1) rfl rfl rfl (li_of a3) ?_
  refine l_ic rfl iv7 iv3 (fun c => ?_) (fun c => ?_)
  · replace h := h.1 c
    refine l1 (n := 2) rfl rfl rfl (li_of a6) ?_
    exact l_ri rfl rfl iv6 hR h
  · replace h := h.2 c
    refine l7 (n := 3) rfl rfl rfl rfl ?_
    refine l1 (n := 2) rfl rfl rfl (ll_of a4) ?_
    refine l0 rfl rfl rfl ?_
    refine l7 (n := 3) rfl rfl rfl rfl ?_
    refine l0 rfl rfl rfl ?_
    refine l_s2 (n := 2) rfl rfl rfl rfl (fun ls y1 ho => ?_)
    have y2 := ho 0 _ (by decide) (by decide) (fun q => by cases q.2) a0
    have y3 := ho 3 _ (by decide) (by decide) (fun q => by cases q.2) a3
    have y4 := ho 6 _ (by decide) (by decide) (fun q => by cases q.2) a6
    have y5 := ho 7 _ (by decide) (by decide) (fun q => by cases q.2) a7
    refine l1 (n := 1) rfl rfl rfl (la_of y2) ?_
    refine l1 (n := 2) rfl rfl rfl (ll_of y1) ?_
    refine l_bi rfl (by decide) ?_
    refine l0 rfl rfl rfl ?_
    refine l_op (T := (((((Int64.ofNat 6364136223846793005) * v4) + (Int64.ofNat 1442695040888963407)).toUInt64 >>> ((Int32.ofInt 61).toInt64.toUInt64 &&& Int64.toUInt64 63)).toInt64).toInt32) rfl rfl rfl ?_
    refine b_iv (c := 22) (as := [zv (((((Int64.ofNat 6364136223846793005) * v4) + (Int64.ofNat 1442695040888963407)).toUInt64 >>> ((Int32.ofInt 61).toInt64.toUInt64 &&& Int64.toUInt64 63)).toInt64).toInt32.toInt]) (rest := []) rfl (by decide) (ko_0 hS (List.Mem.head _)) rfl rfl (Nat.le_of_ble_eq_true rfl) (fun hq => ?_)
    refine lx_mono (H_M_takeTurn_m hS hR (inr_ti _) h) ?_
    rintro _ _ ⟨z1, M1, rfl, rfl, r1, iz1, h⟩
    refine l1 (n := 1) rfl rfl rfl rfl ?_
    refine l_ic rfl iz1 ⟨by decide, by decide⟩ (fun c => ?_) (fun c => ?_)
    · replace h := h.2 c
      exact H_M_play_57 hS r1 iv3 iv6 iv7 y2 y3 y1 y4 y5 (fun n' hn' => hb22 n' (by omega)) h
    · replace h := h.1 (Classical.not_not.mp c)
      refine l_ii rfl y4 (Nat.le_of_ble_eq_true rfl) (fun ls y6 ho => ?_)
      have y7 := ho 0 _ (by decide) (fun q => by cases q.2) y2
      have y8 := ho 3 _ (by decide) (fun q => by cases q.2) y3
      have y9 := ho 4 _ (by decide) (fun q => absurd q.1 (by decide)) y1
      have y10 := ho 7 _ (by decide) (fun q => by cases q.2) y5
      obtain ⟨i1, h⟩ := h
      exact H_M_play_57 hS r1 iv3 i1 iv7 y7 y8 y9 y6 y10 (fun n' hn' => hb22 n' (by omega)) h
