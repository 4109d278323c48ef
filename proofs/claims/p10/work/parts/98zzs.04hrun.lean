theorem H_P_behind_4 {fz : Bool} {S : gS} {B : rf_M} {M : rf_M} {ls : rf_L} {n0 : Nat} {v0 : Nat} {v2 : Int} {v3 : Int} {K : Int → rf_M → Prop} (hS : rl S) (hR : fl 22 331 B M) (mv0 : v0 ∈ k1) (iv2 : inr v2) (iv3 : inr v3) (a0 : rf_ld ls 0 = some (.ref v0)) (a2 : rf_ld ls 2 = some (zv v2)) (a3 : rf_ld ls 3 = some (zv v3)) (h : e_P_behind_4 v0 v2 v3 M K) : lx (cx0 fz) n0 93 4 ls [] (M, S) (vl_i 22 331 B S K) := by
  obtain ⟨Inv, hm, hb⟩ := h
  induction n0 using Nat.strongRecOn generalizing ls M v0 v2 v3 with
  | _ n0 ih =>
    refine H_P_behind_4b hS hR mv0 iv2 iv3 a0 a2 a3 (fun n' hn' v0' v2' v3' M' ls' hR' f0 f1 f2 f3 f4 f5 q2 => ih n' hn' hR' f0 f1 f2 f3 f4 f5 q2) (hb v0 v2 v3 M iv2 iv3 hm)
theorem H_P_behind {fz : Bool} {S : gS} {B : rf_M} {M : rf_M} {ls : rf_L} {n0 : Nat} {v0 : Nat} {v1 : Int} {K : Int → rf_M → Prop} (hS : rl S) (hR : fl 22 331 B M) (mv0 : v0 ∈ k1) (iv1 : inr v1) (a0 : rf_ld ls 0 = some (.ref v0)) (a1 : rf_ld ls 1 = some (zv v1)) (h : e_P_behind v0 v1 M K) : lx (cx0 fz) n0 93 0 ls [] (M, S) (vl_i 22 331 B S K) := by
  unfold e_P_behind at h
  refine l1 (n := 1) rfl rfl rfl (li_of a1) ?_
  refine l_s1 (n := 1) rfl rfl rfl rfl (fun ls y1 ho => ?_)
  have y2 := ho 0 _ (by decide) (fun q => by cases q.2) a0
  refine l1 (n := 1) rfl rfl rfl rfl ?_
  refine l_s1 (n := 1) rfl rfl rfl rfl (fun ls y3 ho => ?_)
  have y4 := ho 0 _ (by decide) (fun q => by cases q.2) y2
  have y5 := ho 2 _ (by decide) (fun q => by cases q.2) y1
  exact H_P_behind_4 hS hR mv0 iv1 ⟨by decide, by decide⟩ y4 y5 y3 h
theorem H_P_behind_m {fz : Bool} {S : gS} {B : rf_M} {M : rf_M} {n0 : Nat} {x0 : Nat} {x1 : Int} {K : Int → rf_M → Prop} (hS : rl S) (hR : fl 22 331 B M) (mx0 : x0 ∈ k1) (ix1 : inr x1) (h : em_P_behind x0 x1 M K) : lx (cx0 fz) n0 93 0 (lv_args 0 [.ref x0, zv x1]) [] (M, S) (vl_i 22 331 B S K) :=
  H_P_behind hS hR mx0 ix1 rfl rfl h
theorem H_P_into_28 {fz : Bool} {S : gS} {B : rf_M} {M : rf_M} {ls : rf_L} {n0 : Nat} {v0 : Nat} {v1 : Int} {K : Int → rf_M → Prop} (hS : rl S) (hR : fl 22 331 B M) (mv0 : v0 ∈ k1) (iv1 : inr v1) (a0 : rf_ld ls 0 = some (.ref v0)) (a1 : rf_ld ls 1 = some (zv v1)) (h : e_P_into_28 v0 v1 M K) : lx (cx0 fz) n0 92 28 ls [] (M, S) (vl_i 22 331 B S K) := by
  unfold e_P_into_28 at h
  refine l1 (n := 1) rfl rfl rfl (la_of a0) ?_
  refine l1 (n := 1) rfl rfl rfl (li_of a1) ?_
  refine b_iv (c := v0) (as := [zv v1]) (rest := []) rfl (by decide) (ko_1 hS mv0) rfl rfl (Nat.le_of_ble_eq_true rfl) (fun hq => ?_)
  refine lx_mono (H_P_behind_m hS hR mv0 iv1 h) ?_
  rintro _ _ ⟨z1, M1, rfl, rfl, r1, iz1, h⟩
  exact l_ri rfl rfl iz1 r1 h
theorem H_P_into {fz : Bool} {S : gS} {B : rf_M} {M : rf_M} {ls : rf_L} {n0 : Nat} {v0 : Nat} {v1 : Int} {v2 : Int} {K : Int → rf_M → Prop} (hS : rl S) (hR : fl 22 331 B M) (mv0 : v0 ∈ k1) (iv1 : inr v1) (iv2 : inr v2) (a0 : rf_ld ls 0 = some (.ref v0)) (a1 : rf_ld ls 1 = some (zv v1)) (a2 : rf_ld ls 2 = some (zv v2)) (h : e_P_into v0 v1 v2 M K) : lx (cx0 fz) n0 92 0 ls [] (M, S) (vl_i 22 331 B S K) := by
  unfold e_P_into at h
  refine l1 (n := 1) rfl rfl rfl (li_of a2) ?_
  refine l1 (n := 1) rfl rfl rfl rfl ?_
  refine l_ic rfl iv2 ⟨by decide, by decide⟩ (fun c => ?_) (fun c => ?_)
  · replace h := h.1 c
    refine l1 (n := 1) rfl rfl rfl (la_of a0) ?_
    refine l1 (n := 1) rfl rfl rfl (li_of a1) ?_
    refine b_iv (c := v0) (as := [zv v1]) (rest := []) rfl (by decide) (ko_1 hS mv0) rfl rfl (Nat.le_of_ble_eq_true rfl) (fun hq => ?_)
    refine lx_mono (H_P_has_m hS hR mv0 iv1 h) ?_
    rintro _ _ ⟨z1, M1, rfl, rfl, r1, iz1, h⟩
    refine l_if rfl iz1 (fun c => ?_) (fun c => ?_)
    · replace h := h.1 c
      exact H_P_into_28 hS r1 mv0 iv1 a0 a1 h
    · replace h := h.2 c
      refine l1 (n := 1) rfl rfl rfl (la_of a0) ?_
      refine l_gr rfl (ko_1 hS mv0) rfl (fun _ => rfl) (kf_1_5 r1.2 mv0) ?_
      refine l1 (n := 1) rfl rfl rfl (li_of a1) ?_
      refine b_ia rfl (jt_1_5 (fz := fz) hS mv0).1 (Nat.le_of_ble_eq_true rfl) iv1 (fun q => ?_)
      replace h := h q
      refine l_bi rfl (by decide) ?_
      refine l_ic rfl (inr_gi _ _ _) ⟨by decide, by decide⟩ (fun c => ?_) (fun c => ?_)
      · replace h := h.2 c
        exact H_P_into_28 hS r1 mv0 iv1 a0 a1 h
      · replace h := h.1 (Classical.not_not.mp c)
        refine l1 (n := 1) rfl rfl rfl (li_of a1) ?_
        exact l_ri rfl rfl iv1 r1 h
  · replace h := h.2 c
    refine l1 (n := 1) rfl rfl rfl (li_of a2) ?_
    exact l_ri rfl rfl iv2 hR h
theorem H_P_into_m {fz : Bool} {S : gS} {B : rf_M} {M : rf_M} {n0 : Nat} {x0 : Nat} {x1 : Int} {x2 : Int} {K : Int → rf_M → Prop} (hS : rl S) (hR : fl 22 331 B M) (mx0 : x0 ∈ k1) (ix1 : inr x1) (ix2 : inr x2) (h : em_P_into x0 x1 x2 M K) : lx (cx0 fz) n0 92 0 (lv_args 0 [.ref x0, zv x1, zv x2]) [] (M, S) (vl_i 22 331 B S K) :=
  H_P_into hS hR mx0 ix1 ix2 rfl rfl rfl h
theorem H_D_addRule_30 {fz : Bool} {S : gS} {B : rf_M} {M : rf_M} {ls : rf_L} {n0 : Nat} {K : rf_M → Prop} (hS : rl S) (hR : fl 22 331 B M) (h : e_D_addRule_30 M K) : lx (cx0 fz) n0 94 30 ls [] (M, S) (vl_v 22 331 B S K) := by
  unfold e_D_addRule_30 at h
  exact l_rv rfl rfl hR h
theorem H_D_addRule {fz : Bool} {S : gS} {B : rf_M} {M : rf_M} {ls : rf_L} {n0 : Nat} {v0 : Nat} {v1 : Int} {K : rf_M → Prop} (hS : rl S) (hR : fl 22 331 B M) (mv0 : v0 ∈ j8) (iv1 : inr v1) (a0 : rf_ld ls 0 = some (.ref v0)) (a1 : rf_ld ls 1 = some (zv v1)) (h : e_D_addRule v0 v1 M K) : lx (cx0 fz) n0 94 0 ls [] (M, S) (vl_v 22 331 B S K) := by
  unfold e_D_addRule at h
  refine l1 (n := 1) rfl rfl rfl (la_of a0) ?_
  refine l_gi rfl (jo_8 hS mv0) rfl (fun _ => rfl) ?_
  refine l_si rfl (by decide) ?_
  refine l_ic rfl (inr_gi _ _ _) ⟨by decide, by decide⟩ (fun c => ?_) (fun c => ?_)
  · replace h := h.1 c
    exact H_D_addRule_30 hS hR  h
  · replace h := h.2 c
    refine l1 (n := 1) rfl rfl rfl (la_of a0) ?_
    refine l_gr rfl (jo_8 hS mv0) rfl (fun _ => rfl) (jf_8_4 hR.2 mv0) ?_
    refine l1 (n := 1) rfl rfl rfl (la_of a0) ?_
    refine l_gi rfl (jo_8 hS mv0) rfl (fun _ => rfl) ?_
    refine l1 (n := 1) rfl rfl rfl (li_of a1) ?_
    refine b_is rfl (jt_8_4 (fz := fz) hS mv0).1 (Nat.le_of_ble_eq_true rfl) (inr_gi _ _ _) (fun q M1 e => ?_)
    replace h := h q M1 e
    have r1 := hR.wi (jt_8_4 (fz := fz) hS mv0).1.1 (jt_8_4 (fz := fz) hS mv0).2 e
    refine l1 (n := 1) rfl rfl rfl (la_of a0) ?_
    refine l0 rfl rfl rfl ?_
    refine l_gi rfl (jo_8 hS mv0) rfl (fun _ => rfl) ?_
    refine l1 (n := 1) rfl rfl rfl rfl ?_
    refine l_add rfl ?_
    refine l_pi rfl (jo_8 (fz := fz) hS mv0) rfl (fun _ _ => rfl) (fun M2 e => ?_)
    replace h := h M2 e
    have r2 := r1.wi (jo_8 (fz := fz) hS mv0).1 (jl_8 mv0) e
    exact H_D_addRule_30 hS r2  h
theorem H_D_addRule_m {fz : Bool} {S : gS} {B : rf_M} {M : rf_M} {n0 : Nat} {x0 : Nat} {x1 : Int} {K : rf_M → Prop} (hS : rl S) (hR : fl 22 331 B M) (mx0 : x0 ∈ j8) (ix1 : inr x1) (h : em_D_addRule x0 x1 M K) : lx (cx0 fz) n0 94 0 (lv_args 0 [.ref x0, zv x1]) [] (M, S) (vl_v 22 331 B S K) :=
  H_D_addRule hS hR mx0 ix1 rfl rfl h
theorem H_P_around_60 {fz : Bool} {S : gS} {B : rf_M} {M : rf_M} {ls : rf_L} {n0 : Nat} {v0 : Nat} {v2 : Int} {v4 : Int} {v5 : Int} {b5 : Nat → Int → Int → Int → rf_M → Prop} {K : Int → rf_M → Prop} (hS : rl S) (hR : fl 22 331 B M) (mv0 : v0 ∈ k1) (iv2 : inr v2) (iv4 : inr v4) (iv5 : inr v5) (a0 : rf_ld ls 0 = some (.ref v0)) (a2 : rf_ld ls 2 = some (zv v2)) (a4 : rf_ld ls 4 = some (zv v4)) (a5 : rf_ld ls 5 = some (zv v5)) (hb5 : ∀ n', n' < n0 → ∀ (v0 : Nat) (v2 : Int) (v3 : Int) (v4 : Int) (M : rf_M) (ls : rf_L), fl 22 331 B M → v0 ∈ k1 → inr v2 → inr v3 → inr v4 → rf_ld ls 0 = some (.ref v0) → rf_ld ls 2 = some (zv v2) → rf_ld ls 3 = some (zv v3) → rf_ld ls 4 = some (zv v4) → b5 v0 v2 v3 v4 M → lx (cx0 fz) n' 96 5 ls [] (M, S) (vl_i 22 331 B S K)) (h : e_P_around_60 v0 v2 v4 v5 M b5 K) : lx (cx0 fz) n0 96 60 ls [] (M, S) (vl_i 22 331 B S K) := by
  unfold e_P_around_60 at h
  rcases Nat.eq_zero_or_pos n0 with e0 | hp
  · rw [e0]; exact lx_zero
  refine l1 (n := 2) rfl rfl rfl (li_of a5) ?_
  refine l_s1 (n := 1) rfl rfl rfl rfl (fun ls y1 ho => ?_)
  have y2 := ho 0 _ (by decide) (fun q => by cases q.2) a0
  have y3 := ho 2 _ (by decide) (fun q => by cases q.2) a2
  have y4 := ho 4 _ (by decide) (fun q => by cases q.2) a4
  refine l_ii rfl y4 (Nat.le_of_ble_eq_true rfl) (fun ls y5 ho => ?_)
  have y6 := ho 0 _ (by decide) (fun q => by cases q.2) y2
  have y7 := ho 2 _ (by decide) (fun q => by cases q.2) y3
  have y8 := ho 3 _ (by decide) (fun q => by cases q.2) y1
  refine l3 rfl rfl rfl ?_
  obtain ⟨i1, h⟩ := h
  exact hb5 _ (by omega) _ _ _ _ _ _ hR mv0 iv2 iv5 i1 y6 y7 y8 y5 h
theorem H_P_around_69 {fz : Bool} {S : gS} {B : rf_M} {M : rf_M} {ls : rf_L} {n0 : Nat} {K : Int → rf_M → Prop} (hS : rl S) (hR : fl 22 331 B M) (h : e_P_around_69 M K) : lx (cx0 fz) n0 96 69 ls [] (M, S) (vl_i 22 331 B S K) := by
  unfold e_P_around_69 at h
  refine l1 (n := 1) rfl rfl rfl rfl ?_
  exact l_ri rfl rfl ⟨by decide, by decide⟩ hR h
theorem H_P_around_5b {fz : Bool} {S : gS} {B : rf_M} {M : rf_M} {ls : rf_L} {n0 : Nat} {v0 : Nat} {v2 : Int} {v3 : Int} {v4 : Int} {b5 : Nat → Int → Int → Int → rf_M → Prop} {K : Int → rf_M → Prop} (hS : rl S) (hR : fl 22 331 B M) (mv0 : v0 ∈ k1) (iv2 : inr v2) (iv3 : inr v3) (iv4 : inr v4) (a0 : rf_ld ls 0 = some (.ref v0)) (a2 : rf_ld ls 2 = some (zv v2)) (a3 : rf_ld ls 3 = some (zv v3)) (a4 : rf_ld ls 4 = some (zv v4)) (hb5 : ∀ n', n' < n0 → ∀ (v0 : Nat) (v2 : Int) (v3 : Int) (v4 : Int) (M : rf_M) (ls : rf_L), fl 22 331 B M → v0 ∈ k1 → inr v2 → inr v3 → inr v4 → rf_ld ls 0 = some (.ref v0) → rf_ld ls 2 = some (zv v2) → rf_ld ls 3 = some (zv v3) → rf_ld ls 4 = some (zv v4) → b5 v0 v2 v3 v4 M → lx (cx0 fz) n' 96 5 ls [] (M, S) (vl_i 22 331 B S K)) (h : e_P_around_5b v0 v2 v3 v4 M b5 K) : lx (cx0 fz) n0 96 5 ls [] (M, S) (vl_i 22 331 B S K) := by
  unfold e_P_around_5b at h
  rcases Nat.eq_zero_or_pos n0 with e0 | hp
  · rw [e0]; exact lx_zero
  refine l1 (n := 2) rfl rfl rfl (li_of a4) ?_
  refine l_bi rfl (by decide) ?_
  refine l_ic rfl iv4 ⟨by decide, by decide⟩ (fun c => ?_) (fun c => ?_)
  · replace h := h.1 c
    exact H_P_around_69 hS hR  h
  · replace h := h.2 c
    refine l1 (n := 1) rfl rfl rfl (la_of a0) ?_
    refine l1 (n := 1) rfl rfl rfl (li_of a3) ?_
    refine b_iv (c := v0) (as := [zv v3]) (rest := []) rfl (by decide) (ko_1 hS mv0) rfl rfl (Nat.le_of_ble_eq_true rfl) (fun hq => ?_)
    refine lx_mono (H_P_has_m hS hR mv0 iv3 h) ?_
    rintro _ _ ⟨z1, M1, rfl, rfl, r1, iz1, h⟩
    refine l_if rfl iz1 (fun c => ?_) (fun c => ?_)
    · replace h := h.1 c
      exact H_P_around_69 hS r1  h
    · replace h := h.2 c
      refine l1 (n := 1) rfl rfl rfl (la_of a0) ?_
      refine l_gr rfl (ko_1 hS mv0) rfl (fun _ => rfl) (kf_1_8 r1.2 mv0) ?_
      refine l1 (n := 1) rfl rfl rfl (li_of a3) ?_
      refine b_ia rfl (jt_1_8 (fz := fz) hS mv0).1 (Nat.le_of_ble_eq_true rfl) iv3 (fun q => ?_)
      replace h := h q
      refine l_s1 (n := 2) rfl rfl rfl rfl (fun ls y1 ho => ?_)
      have y2 := ho 0 _ (by decide) (fun q => by cases q.2) a0
      have y3 := ho 2 _ (by decide) (fun q => by cases q.2) a2
      have y4 := ho 3 _ (by decide) (fun q => by cases q.2) a3
      have y5 := ho 4 _ (by decide) (fun q => by cases q.2) a4
      refine l1 (n := 1) rfl rfl rfl (la_of y2) ?_
      refine l1 (n := 2) rfl rfl rfl (li_of y1) ?_
      refine b_iv (c := v0) (as := [zv (gi M1 (v0 + 4) (v3).toNat)]) (rest := []) rfl (by decide) (ko_1 hS mv0) rfl rfl (Nat.le_of_ble_eq_true rfl) (fun hq => ?_)
      refine lx_mono (H_P_has_m hS r1 mv0 (inr_gi _ _ _) h) ?_
      rintro _ _ ⟨z2, M2, rfl, rfl, r2, iz2, h⟩
      refine l_if rfl iz2 (fun c => ?_) (fun c => ?_)
      · replace h := h.1 c
        exact H_P_around_60 hS r2 mv0 iv2 iv4 (inr_gi _ _ _) y2 y3 y5 y1 (fun n' hn' => hb5 n' (by omega)) h
      · replace h := h.2 c
        refine l1 (n := 1) rfl rfl rfl (la_of y2) ?_
        refine l_gr rfl (ko_1 hS mv0) rfl (fun _ => rfl) (kf_1_9 r2.2 mv0) ?_
        refine l1 (n := 1) rfl rfl rfl (li_of y4) ?_
        refine b_ia rfl (jt_1_9 (fz := fz) hS mv0).1 (Nat.le_of_ble_eq_true rfl) iv3 (fun q => ?_)
        replace h := h q
        refine l_if rfl (inr_gi _ _ _) (fun c => ?_) (fun c => ?_)
        · replace h := h.2 c
          exact H_P_around_60 hS r2 mv0 iv2 iv4 (inr_gi _ _ _) y2 y3 y5 y1 (fun n' hn' => hb5 n' (by omega)) h
        · replace h := h.1 (Classical.not_not.mp c)
          refine l1 (n := 1) rfl rfl rfl (la_of y2) ?_
          refine l_gr rfl (ko_1 hS mv0) rfl (fun _ => rfl) (kf_1_5 r2.2 mv0) ?_
          refine l1 (n := 2) rfl rfl rfl (li_of y1) ?_
          refine b_ia rfl (jt_1_5 (fz := fz) hS mv0).1 (Nat.le_of_ble_eq_true rfl) (inr_gi _ _ _) (fun q => ?_)
          replace h := h q
          refine l1 (n := 1) rfl rfl rfl (li_of y3) ?_
          refine l_ic rfl (inr_gi _ _ _) iv2 (fun c => ?_) (fun c => ?_)
          · replace h := h.2 c
            exact H_P_around_60 hS r2 mv0 iv2 iv4 (inr_gi _ _ _) y2 y3 y5 y1 (fun n' hn' => hb5 n' (by omega)) h
          · replace h := h.1 (Classical.not_not.mp c)
            refine l1 (n := 2) rfl rfl rfl (li_of y1) ?_
            exact l_ri rfl rfl (inr_gi _ _ _) r2 h
theorem H_P_around_5 {fz : Bool} {S : gS} {B : rf_M} {M : rf_M} {ls : rf_L} {n0 : Nat} {v0 : Nat} {v2 : Int} {v3 : Int} {v4 : Int} {K : Int → rf_M → Prop} (hS : rl S) (hR : fl 22 331 B M) (mv0 : v0 ∈ k1) (iv2 : inr v2) (iv3 : inr v3) (iv4 : inr v4) (a0 : rf_ld ls 0 = some (.ref v0)) (a2 : rf_ld ls 2 = some (zv v2)) (a3 : rf_ld ls 3 = some (zv v3)) (a4 : rf_ld ls 4 = some (zv v4)) (h : e_P_around_5 v0 v2 v3 v4 M K) : lx (cx0 fz) n0 96 5 ls [] (M, S) (vl_i 22 331 B S K) := by
  obtain ⟨Inv, hm, hb⟩ := h
  induction n0 using Nat.strongRecOn generalizing ls M v0 v2 v3 v4 with
  | _ n0 ih =>
    refine H_P_around_5b hS hR mv0 iv2 iv3 iv4 a0 a2 a3 a4 (fun n' hn' v0' v2' v3' v4' M' ls' hR' f0 f1 f2 f3 f4 f5 f6 f7 q2 => ih n' hn' hR' f0 f1 f2 f3 f4 f5 f6 f7 q2) (hb v0 v2 v3 v4 M iv2 iv3 iv4 hm)
theorem H_P_around {fz : Bool} {S : gS} {B : rf_M} {M : rf_M} {ls : rf_L} {n0 : Nat} {v0 : Nat} {v1 : Int} {v2 : Int} {K : Int → rf_M → Prop} (hS : rl S) (hR : fl 22 331 B M) (mv0 : v0 ∈ k1) (iv1 : inr v1) (iv2 : inr v2) (a0 : rf_ld ls 0 = some (.ref v0)) (a1 : rf_ld ls 1 = some (zv v1)) (a2 : rf_ld ls 2 = some (zv v2)) (h : e_P_around v0 v1 v2 M K) : lx (cx0 fz) n0 96 0 ls [] (M, S) (vl_i 22 331 B S K) := by
  unfold e_P_around at h
  refine l1 (n := 1) rfl rfl rfl (li_of a1) ?_
  refine l_s1 (n := 1) rfl rfl rfl rfl (fun ls y1 ho => ?_)
  have y2 := ho 0 _ (by decide) (fun q => by cases q.2) a0
  have y3 := ho 2 _ (by decide) (fun q => by cases q.2) a2
  refine l1 (n := 1) rfl rfl rfl rfl ?_
  refine l_s1 (n := 2) rfl rfl rfl rfl (fun ls y4 ho => ?_)
  have y5 := ho 0 _ (by decide) (fun q => by cases q.2) y2
  have y6 := ho 2 _ (by decide) (fun q => by cases q.2) y3
  have y7 := ho 3 _ (by decide) (fun q => by cases q.2) y1
  exact H_P_around_5 hS hR mv0 iv2 iv1 ⟨by decide, by decide⟩ y5 y6 y7 y4 h
theorem H_P_around_m {fz : Bool} {S : gS} {B : rf_M} {M : rf_M} {n0 : Nat} {x0 : Nat} {x1 : Int} {x2 : Int} {K : Int → rf_M → Prop} (hS : rl S) (hR : fl 22 331 B M) (mx0 : x0 ∈ k1) (ix1 : inr x1) (ix2 : inr x2) (h : em_P_around x0 x1 x2 M K) : lx (cx0 fz) n0 96 0 (lv_args 0 [.ref x0, zv x1, zv x2]) [] (M, S) (vl_i 22 331 B S K) :=
  H_P_around hS hR mx0 ix1 ix2 rfl rfl rfl h
theorem H_D_takeBack_10 {fz : Bool} {S : gS} {B : rf_M} {M : rf_M} {ls : rf_L} {n0 : Nat} {K : rf_M → Prop} (hS : rl S) (hR : fl 22 331 B M) (h : e_D_takeBack_10 M K) : lx (cx0 fz) n0 97 10 ls [] (M, S) (vl_v 22 331 B S K) := by
  unfold e_D_takeBack_10 at h
  exact l_rv rfl rfl hR h
theorem H_D_takeBack {fz : Bool} {S : gS} {B : rf_M} {M : rf_M} {ls : rf_L} {n0 : Nat} {v0 : Nat} {v1 : Int} {K : rf_M → Prop} (hS : rl S) (hR : fl 22 331 B M) (mv0 : v0 ∈ j8) (iv1 : inr v1) (a0 : rf_ld ls 0 = some (.ref v0)) (a1 : rf_ld ls 1 = some (zv v1)) (h : e_D_takeBack v0 v1 M K) : lx (cx0 fz) n0 97 0 ls [] (M, S) (vl_v 22 331 B S K) := by
  unfold e_D_takeBack at h
  refine l1 (n := 1) rfl rfl rfl (li_of a1) ?_
  refine l_if rfl iv1 (fun c => ?_) (fun c => ?_)
  · replace h := h.1 c
    exact H_D_takeBack_10 hS hR  h
  · replace h := h.2 c
    refine l1 (n := 1) rfl rfl rfl (li_of a1) ?_
    refine l_bi rfl (by decide) ?_
    refine l_ic rfl iv1 ⟨by decide, by decide⟩ (fun c => ?_) (fun c => ?_)
    · replace h := h.1 c
      refine l1 (n := 1) rfl rfl rfl (la_of a0) ?_
      refine l1 (n := 1) rfl rfl rfl (la_of a0) ?_
      refine l_gr rfl (jo_8 hS mv0) rfl (fun _ => rfl) (jf_8_5 hR.2 mv0) ?_
      refine l1 (n := 1) rfl rfl rfl (li_of a1) ?_
      refine b_ia rfl (jt_8_5 (fz := fz) hS mv0).1 (Nat.le_of_ble_eq_true rfl) iv1 (fun q => ?_)
      replace h := h q
      refine l_pi rfl (jo_8 (fz := fz) hS mv0) rfl (fun _ _ => rfl) (fun M1 e => ?_)
      replace h := h M1 e
      have r1 := hR.wi (jo_8 (fz := fz) hS mv0).1 (jl_8 mv0) e
      refine l1 (n := 1) rfl rfl rfl (la_of a0) ?_
      refine l1 (n := 1) rfl rfl rfl (la_of a0) ?_
      refine l_gr rfl (jo_8 hS mv0) rfl (fun _ => rfl) (jf_8_8 r1.2 mv0) ?_
      refine l1 (n := 1) rfl rfl rfl (li_of a1) ?_
      refine b_ia rfl (jt_8_8 (fz := fz) hS mv0).1 (Nat.le_of_ble_eq_true rfl) iv1 (fun q => ?_)
      replace h := h q
      refine l_pi rfl (jo_8 (fz := fz) hS mv0) rfl (fun _ _ => rfl) (fun M2 e => ?_)
      replace h := h M2 e
      have r2 := r1.wi (jo_8 (fz := fz) hS mv0).1 (jl_8 mv0) e
      refine l1 (n := 1) rfl rfl rfl (la_of a0) ?_
      refine l_gr rfl (jo_8 hS mv0) rfl (fun _ => rfl) (jf_8_6 r2.2 mv0) ?_
      refine l1 (n := 1) rfl rfl rfl (li_of a1) ?_
      refine l_bi rfl (by decide) ?_
      refine l_mul rfl ?_
      refine l1 (n := 1) rfl rfl rfl (la_of a0) ?_
      refine l_gr rfl (jo_8 hS mv0) rfl (fun _ => rfl) (jf_8_1 r2.2 mv0) ?_
      refine l1 (n := 1) rfl rfl rfl rfl ?_
      refine l_bi rfl (by decide) ?_
      obtain ⟨i1, h⟩ := h
      refine b_cpl rfl rfl (jt_8_6 (fz := fz) hS mv0).1 (jt_8_1 (fz := fz) hS mv0).1 i1 ⟨by decide, by decide⟩ ⟨by decide, by decide⟩ (fun q M3 e => ?_)
      replace h := h q M3 e
      have r3 := r2.cpl (jt_8_1 (fz := fz) hS mv0).1.1 (jt_8_1 (fz := fz) hS mv0).2 e
      refine l1 (n := 1) rfl rfl rfl (la_of a0) ?_
      refine l_gr rfl (jo_8 hS mv0) rfl (fun _ => rfl) (jf_8_7 r3.2 mv0) ?_
      refine l1 (n := 1) rfl rfl rfl (li_of a1) ?_
      refine l_bi rfl (by decide) ?_
      refine l_mul rfl ?_
      refine l1 (n := 1) rfl rfl rfl (la_of a0) ?_
      refine l_gr rfl (jo_8 hS mv0) rfl (fun _ => rfl) (jf_8_2 r3.2 mv0) ?_
      refine l1 (n := 1) rfl rfl rfl rfl ?_
      refine l_bi rfl (by decide) ?_
      obtain ⟨i2, h⟩ := h
      refine b_cpl rfl rfl (jt_8_7 (fz := fz) hS mv0).1 (jt_8_2 (fz := fz) hS mv0).1 i2 ⟨by decide, by decide⟩ ⟨by decide, by decide⟩ (fun q M4 e => ?_)
      replace h := h q M4 e
      have r4 := r3.cpl (jt_8_2 (fz := fz) hS mv0).1.1 (jt_8_2 (fz := fz) hS mv0).2 e
      exact l_rv rfl rfl r4 h
    · replace h := h.2 c
      exact H_D_takeBack_10 hS hR  h
theorem H_D_takeBack_m {fz : Bool} {S : gS} {B : rf_M} {M : rf_M} {n0 : Nat} {x0 : Nat} {x1 : Int} {K : rf_M → Prop} (hS : rl S) (hR : fl 22 331 B M) (mx0 : x0 ∈ j8) (ix1 : inr x1) (h : em_D_takeBack x0 x1 M K) : lx (cx0 fz) n0 97 0 (lv_args 0 [.ref x0, zv x1]) [] (M, S) (vl_v 22 331 B S K) :=
  H_D_takeBack hS hR mx0 ix1 rfl rfl h
theorem H_R_retry {fz : Bool} {S : gS} {B : rf_M} {M : rf_M} {ls : rf_L} {n0 : Nat} {v0 : Nat} {K : Int → rf_M → Prop} (hS : rl S) (hR : fl 22 331 B M) (mv0 : v0 ∈ j7) (a0 : rf_ld ls 0 = some (.ref v0)) (h : e_R_retry v0 M K) : lx (cx0 fz) n0 95 0 ls [] (M, S) (vl_i 22 331 B S K) := by
  unfold e_R_retry at h
  refine l1 (n := 1) rfl rfl rfl (la_of a0) ?_
  obtain ⟨q1, h⟩ := h
  refine l_gr rfl (jo_7 hS mv0) rfl (fun _ => rfl) q1.1 ?_
  refine l1 (n := 1) rfl rfl rfl (la_of a0) ?_
  refine l_gi rfl (jo_7 hS mv0) rfl (fun _ => rfl) ?_
  refine l_bi rfl (by decide) ?_
  refine b_iv (c := (gr M v0 0)) (as := [zv (gi M v0 6), zv 15]) (rest := []) rfl (by decide) (ko_1 hS q1.2) rfl rfl (Nat.le_of_ble_eq_true rfl) (fun hq => ?_)
  refine lx_mono (H_P_around_m hS hR q1.2 (inr_gi _ _ _) ⟨by decide, by decide⟩ h) ?_
  rintro _ _ ⟨z1, M1, rfl, rfl, r1, iz1, h⟩
  refine l_s1 (n := 1) rfl rfl rfl rfl (fun ls y1 ho => ?_)
  have y2 := ho 0 _ (by decide) (fun q => by cases q.2) a0
  refine l1 (n := 1) rfl rfl rfl (li_of y1) ?_
  refine l1 (n := 1) rfl rfl rfl rfl ?_
  refine l_ic rfl iz1 ⟨by decide, by decide⟩ (fun c => ?_) (fun c => ?_)
  · replace h := h.2 c
    refine l1 (n := 1) rfl rfl rfl (la_of y2) ?_
    refine l_gr rfl (jo_7 hS mv0) rfl (fun _ => rfl) (jf_7_5 r1.2 mv0) ?_
    refine l1 (n := 1) rfl rfl rfl (la_of y2) ?_
    obtain ⟨q2, h⟩ := h
    refine l_gr rfl (jo_7 hS mv0) rfl (fun _ => rfl) q2.1 ?_
    refine l_gr rfl (ko_1 hS q2.2) rfl (fun _ => rfl) (kf_1_10 r1.2 q2.2) ?_
    refine l1 (n := 1) rfl rfl rfl (li_of y1) ?_
    refine b_ia rfl (jt_1_10 (fz := fz) hS q2.2).1 (Nat.le_of_ble_eq_true rfl) iz1 (fun q => ?_)
    replace h := h q
    refine b_iv (c := (v0 + 2)) (as := [zv (gi M1 ((gr M1 v0 0) + 6) (z1).toNat)]) (rest := []) rfl (by decide) (jo_8 hS (jt_7_5 mv0)) rfl rfl (Nat.le_of_ble_eq_true rfl) (fun hq => ?_)
    refine lx_mono (H_D_takeBack_m hS r1 (jt_7_5 mv0) (inr_gi _ _ _) h) ?_
    rintro _ _ ⟨M2, rfl, rfl, r2, h⟩
    refine l1 (n := 1) rfl rfl rfl (la_of y2) ?_
    refine l1 (n := 1) rfl rfl rfl (la_of y2) ?_
    obtain ⟨q3, h⟩ := h
    refine l_gr rfl (jo_7 hS mv0) rfl (fun _ => rfl) q3.1 ?_
    refine l1 (n := 1) rfl rfl rfl (li_of y1) ?_
    refine l1 (n := 1) rfl rfl rfl (la_of y2) ?_
    obtain ⟨q4, h⟩ := h
    refine l_gr rfl (jo_7 hS mv0) rfl (fun _ => rfl) q4.1 ?_
    refine l_gr rfl (ko_1 hS q4.2) rfl (fun _ => rfl) (kf_1_13 r2.2 q4.2) ?_
    refine l1 (n := 1) rfl rfl rfl (li_of y1) ?_
    refine b_ia rfl (jt_1_13 (fz := fz) hS q4.2).1 (Nat.le_of_ble_eq_true rfl) iz1 (fun q => ?_)
    replace h := h q
    refine b_iv (c := (gr M2 v0 0)) (as := [zv z1, zv (gi M2 ((gr M2 v0 0) + 9) (z1).toNat)]) (rest := [.ref v0]) rfl (by decide) (ko_1 hS q3.2) rfl rfl (Nat.le_of_ble_eq_true rfl) (fun hq => ?_)
    refine lx_mono (H_P_into_m hS r2 q3.2 iz1 (inr_gi _ _ _) h) ?_
    rintro _ _ ⟨z3, M3, rfl, rfl, r3, iz3, h⟩
    refine l_pi rfl (jo_7 (fz := fz) hS mv0) rfl (fun _ _ => rfl) (fun M4 e => ?_)
    replace h := h M4 e
    have r4 := r3.wi (jo_7 (fz := fz) hS mv0).1 (jl_7 mv0) e
    refine l1 (n := 1) rfl rfl rfl rfl ?_
    exact l_ri rfl rfl ⟨by decide, by decide⟩ r4 h
  · replace h := h.1 (Classical.not_not.mp c)
    refine l1 (n := 1) rfl rfl rfl rfl ?_
    exact l_ri rfl rfl ⟨by decide, by decide⟩ r1 h
theorem H_R_retry_m {fz : Bool} {S : gS} {B : rf_M} {M : rf_M} {n0 : Nat} {x0 : Nat} {K : Int → rf_M → Prop} (hS : rl S) (hR : fl 22 331 B M) (mx0 : x0 ∈ j7) (h : em_R_retry x0 M K) : lx (cx0 fz) n0 95 0 (lv_args 0 [.ref x0]) [] (M, S) (vl_i 22 331 B S K) :=
  H_R_retry hS hR mx0 rfl h
theorem H_D_hasWritten_16 {fz : Bool} {S : gS} {B : rf_M} {M : rf_M} {ls : rf_L} {n0 : Nat} {s0 : Int} {K : Int → rf_M → Prop} (hS : rl S) (hR : fl 22 331 B M) (is0 : inr s0) (h : e_D_hasWritten_16 s0 M K) : lx (cx0 fz) n0 68 16 ls [zv s0] (M, S) (vl_i 22 331 B S K) := by
  unfold e_D_hasWritten_16 at h
  exact l_rb rfl rfl h.1 hR h.2
theorem H_D_hasWritten {fz : Bool} {S : gS} {B : rf_M} {M : rf_M} {ls : rf_L} {n0 : Nat} {v0 : Nat} {v1 : Int} {K : Int → rf_M → Prop} (hS : rl S) (hR : fl 22 331 B M) (mv0 : v0 ∈ j8) (iv1 : inr v1) (a0 : rf_ld ls 0 = some (.ref v0)) (a1 : rf_ld ls 1 = some (zv v1)) (h : e_D_hasWritten v0 v1 M K) : lx (cx0 fz) n0 68 0 ls [] (M, S) (vl_i 22 331 B S K) := by
  unfold e_D_hasWritten at h
  refine l1 (n := 1) rfl rfl rfl (la_of a0) ?_
  refine l_gi rfl (jo_8 hS mv0) rfl (fun _ => rfl) ?_
  refine l1 (n := 1) rfl rfl rfl (li_of a1) ?_
  refine l_op (T := ((Int32.ofInt (gi M v0 0)).toUInt32 >>> ((Int32.ofInt v1).toUInt32 &&& Int32.toUInt32 31)).toInt32) rfl rfl rfl ?_
  refine l1 (n := 1) rfl rfl rfl rfl ?_
  refine l_op (T := (Int32.ofInt ((Int32.ofInt (gi M v0 0)).toUInt32 >>> ((Int32.ofInt v1).toUInt32 &&& Int32.toUInt32 31)).toInt32.toInt &&& Int32.ofInt 1)) rfl rfl rfl ?_
  refine l_if rfl (inr_ti _) (fun c => ?_) (fun c => ?_)
  · replace h := h.1 c
    refine l1 (n := 1) rfl rfl rfl rfl ?_
    exact H_D_hasWritten_16 hS hR ⟨by decide, by decide⟩ h
  · replace h := h.2 c
    refine l1 (n := 1) rfl rfl rfl rfl ?_
    refine l3 rfl rfl rfl ?_
    exact H_D_hasWritten_16 hS hR ⟨by decide, by decide⟩ h
theorem H_D_hasWritten_m {fz : Bool} {S : gS} {B : rf_M} {M : rf_M} {n0 : Nat} {x0 : Nat} {x1 : Int} {K : Int → rf_M → Prop} (hS : rl S) (hR : fl 22 331 B M) (mx0 : x0 ∈ j8) (ix1 : inr x1) (h : em_D_hasWritten x0 x1 M K) : lx (cx0 fz) n0 68 0 (lv_args 0 [.ref x0, zv x1]) [] (M, S) (vl_i 22 331 B S K) :=
  H_D_hasWritten hS hR mx0 ix1 rfl rfl h
theorem H_R_hasRead_16 {fz : Bool} {S : gS} {B : rf_M} {M : rf_M} {ls : rf_L} {n0 : Nat} {s0 : Int} {K : Int → rf_M → Prop} (hS : rl S) (hR : fl 22 331 B M) (is0 : inr s0) (h : e_R_hasRead_16 s0 M K) : lx (cx0 fz) n0 69 16 ls [zv s0] (M, S) (vl_i 22 331 B S K) := by
  unfold e_R_hasRead_16 at h
  exact l_rb rfl rfl h.1 hR h.2
