theorem H_C_enlist_m {fz : Bool} {S : gS} {B : rf_M} {M : rf_M} {n0 : Nat} {x0 : Nat} {x1 : Int} {K : Int → rf_M → Prop} (hS : rl S) (hR : fl 22 331 B M) (mx0 : x0 ∈ j6) (ix1 : inr x1) (h : em_C_enlist x0 x1 M K) : lx (cx0 fz) n0 83 0 (lv_args 0 [.ref x0, zv x1]) [] (M, S) (vl_i 22 331 B S K) :=
  H_C_enlist hS hR mx0 ix1 rfl rfl h
theorem H_M_add_16 {fz : Bool} {S : gS} {B : rf_M} {M : rf_M} {ls : rf_L} {n0 : Nat} {K : Int → rf_M → Prop} (hS : rl S) (hR : fl 22 331 B M) (h : e_M_add_16 M K) : lx (cx0 fz) n0 81 16 ls [] (M, S) (vl_i 22 331 B S K) := by
  unfold e_M_add_16 at h
  refine l1 (n := 1) rfl rfl rfl rfl ?_
  exact l_ri rfl rfl ⟨by decide, by decide⟩ hR h
theorem H_M_add {fz : Bool} {S : gS} {B : rf_M} {M : rf_M} {ls : rf_L} {n0 : Nat} {v1 : Int} {v2 : Int} {K : Int → rf_M → Prop} (hS : rl S) (hR : fl 22 331 B M) (iv1 : inr v1) (iv2 : inr v2) (a0 : rf_ld ls 0 = some (.ref 22)) (a1 : rf_ld ls 1 = some (zv v1)) (a2 : rf_ld ls 2 = some (zv v2)) (h : e_M_add v1 v2 M K) : lx (cx0 fz) n0 81 0 ls [] (M, S) (vl_i 22 331 B S K) := by
  unfold e_M_add at h
  refine l1 (n := 1) rfl rfl rfl (la_of a0) ?_
  refine l1 (n := 1) rfl rfl rfl (li_of a1) ?_
  refine b_iv (c := 22) (as := [zv v1]) (rest := []) rfl (by decide) (ko_0 hS (List.Mem.head _)) rfl rfl (Nat.le_of_ble_eq_true rfl) (fun hq => ?_)
  refine lx_mono (H_M_isClient_m hS hR iv1 h) ?_
  rintro _ _ ⟨z1, M1, rfl, rfl, r1, iz1, h⟩
  refine l_if rfl iz1 (fun c => ?_) (fun c => ?_)
  · replace h := h.1 c
    exact H_M_add_16 hS r1  h
  · replace h := h.2 c
    refine l1 (n := 1) rfl rfl rfl (la_of a0) ?_
    refine l1 (n := 1) rfl rfl rfl (li_of a2) ?_
    refine b_iv (c := 22) (as := [zv v2]) (rest := []) rfl (by decide) (ko_0 hS (List.Mem.head _)) rfl rfl (Nat.le_of_ble_eq_true rfl) (fun hq => ?_)
    refine lx_mono (H_M_isTransaction_m hS r1 iv2 h) ?_
    rintro _ _ ⟨z2, M2, rfl, rfl, r2, iz2, h⟩
    refine l_if rfl iz2 (fun c => ?_) (fun c => ?_)
    · replace h := h.2 c
      refine l1 (n := 1) rfl rfl rfl (la_of a0) ?_
      refine l_gr rfl (ko_0 hS (List.Mem.head _)) rfl (fun _ => rfl) (kf_0_7 r2.2 (List.Mem.head _)) ?_
      refine l1 (n := 1) rfl rfl rfl (li_of a1) ?_
      refine b_aa rfl (jc_195 (fz := fz) hS).1 (Nat.le_of_ble_eq_true rfl) iv1 (fun q1 => ⟨clA_ref r2.2 q1, ?_⟩)
      replace h := h q1
      refine l1 (n := 1) rfl rfl rfl (li_of a2) ?_
      refine b_iv (c := (clA v1)) (as := [zv v2]) (rest := []) rfl (by decide) (jo_6 hS (clA_mem3 q1)) rfl rfl (Nat.le_of_ble_eq_true rfl) (fun hq => ?_)
      refine lx_mono (H_C_enlist_m hS r2 (clA_mem3 q1) iv2 h) ?_
      rintro _ _ ⟨z3, M3, rfl, rfl, r3, iz3, h⟩
      exact l_ri rfl rfl iz3 r3 h
    · replace h := h.1 (Classical.not_not.mp c)
      exact H_M_add_16 hS r2  h
theorem H_M_add_m {fz : Bool} {S : gS} {B : rf_M} {M : rf_M} {n0 : Nat} {x1 : Int} {x2 : Int} {K : Int → rf_M → Prop} (hS : rl S) (hR : fl 22 331 B M) (ix1 : inr x1) (ix2 : inr x2) (h : em_M_add x1 x2 M K) : lx (cx0 fz) n0 81 0 (lv_args 0 [.ref 22, zv x1, zv x2]) [] (M, S) (vl_i 22 331 B S K) :=
  H_M_add hS hR ix1 ix2 rfl rfl rfl h
theorem H_S_differs_36 {fz : Bool} {S : gS} {B : rf_M} {M : rf_M} {ls : rf_L} {n0 : Nat} {v0 : Nat} {v1 : Int} {v2 : Nat} {v3 : Int} {b2 : Nat → Int → Nat → Int → rf_M → Prop} {K : Int → rf_M → Prop} (hS : rl S) (hR : fl 22 331 B M) (mv0 : v0 ∈ j4) (iv1 : inr v1) (mv2 : pb fz S v2 .int 16) (iv3 : inr v3) (a0 : rf_ld ls 0 = some (.ref v0)) (a1 : rf_ld ls 1 = some (zv v1)) (a2 : rf_ld ls 2 = some (.ref v2)) (a3 : rf_ld ls 3 = some (zv v3)) (hb2 : ∀ n', n' < n0 → ∀ (v0 : Nat) (v1 : Int) (v2 : Nat) (v3 : Int) (M : rf_M) (ls : rf_L), fl 22 331 B M → v0 ∈ j4 → inr v1 → pb fz S v2 .int 16 → inr v3 → rf_ld ls 0 = some (.ref v0) → rf_ld ls 1 = some (zv v1) → rf_ld ls 2 = some (.ref v2) → rf_ld ls 3 = some (zv v3) → b2 v0 v1 v2 v3 M → lx (cx0 fz) n' 72 2 ls [] (M, S) (vl_i 22 331 B S K)) (h : e_S_differs_36 v0 v1 v2 v3 M b2 K) : lx (cx0 fz) n0 72 36 ls [] (M, S) (vl_i 22 331 B S K) := by
  unfold e_S_differs_36 at h
  rcases Nat.eq_zero_or_pos n0 with e0 | hp
  · rw [e0]; exact lx_zero
  refine l_ii rfl a3 (Nat.le_of_ble_eq_true rfl) (fun ls y1 ho => ?_)
  have y2 := ho 0 _ (by decide) (fun q => by cases q.2) a0
  have y3 := ho 1 _ (by decide) (fun q => by cases q.2) a1
  have y4 := ho 2 _ (by decide) (fun q => by cases q.2) a2
  refine l3 rfl rfl rfl ?_
  obtain ⟨i1, h⟩ := h
  exact hb2 _ (by omega) _ _ _ _ _ _ hR mv0 iv1 mv2 i1 y2 y3 y4 y1 h
theorem H_S_differs_42 {fz : Bool} {S : gS} {B : rf_M} {M : rf_M} {ls : rf_L} {n0 : Nat} {K : Int → rf_M → Prop} (hS : rl S) (hR : fl 22 331 B M) (h : e_S_differs_42 M K) : lx (cx0 fz) n0 72 42 ls [] (M, S) (vl_i 22 331 B S K) := by
  unfold e_S_differs_42 at h
  refine l1 (n := 1) rfl rfl rfl rfl ?_
  exact l_rb rfl rfl (Or.inl rfl) hR h
theorem H_S_differs_2b {fz : Bool} {S : gS} {B : rf_M} {M : rf_M} {ls : rf_L} {n0 : Nat} {v0 : Nat} {v1 : Int} {v2 : Nat} {v3 : Int} {b2 : Nat → Int → Nat → Int → rf_M → Prop} {K : Int → rf_M → Prop} (hS : rl S) (hR : fl 22 331 B M) (mv0 : v0 ∈ j4) (iv1 : inr v1) (mv2 : pb fz S v2 .int 16) (iv3 : inr v3) (a0 : rf_ld ls 0 = some (.ref v0)) (a1 : rf_ld ls 1 = some (zv v1)) (a2 : rf_ld ls 2 = some (.ref v2)) (a3 : rf_ld ls 3 = some (zv v3)) (hb2 : ∀ n', n' < n0 → ∀ (v0 : Nat) (v1 : Int) (v2 : Nat) (v3 : Int) (M : rf_M) (ls : rf_L), fl 22 331 B M → v0 ∈ j4 → inr v1 → pb fz S v2 .int 16 → inr v3 → rf_ld ls 0 = some (.ref v0) → rf_ld ls 1 = some (zv v1) → rf_ld ls 2 = some (.ref v2) → rf_ld ls 3 = some (zv v3) → b2 v0 v1 v2 v3 M → lx (cx0 fz) n' 72 2 ls [] (M, S) (vl_i 22 331 B S K)) (h : e_S_differs_2b v0 v1 v2 v3 M b2 K) : lx (cx0 fz) n0 72 2 ls [] (M, S) (vl_i 22 331 B S K) := by
  unfold e_S_differs_2b at h
  rcases Nat.eq_zero_or_pos n0 with e0 | hp
  · rw [e0]; exact lx_zero
  refine l1 (n := 1) rfl rfl rfl (li_of a3) ?_
  refine l_bi rfl (by decide) ?_
  refine l_ic rfl iv3 ⟨by decide, by decide⟩ (fun c => ?_) (fun c => ?_)
  · replace h := h.1 c
    exact H_S_differs_42 hS hR  h
  · replace h := h.2 c
    refine l1 (n := 1) rfl rfl rfl (li_of a3) ?_
    refine l1 (n := 1) rfl rfl rfl (la_of a2) ?_
    refine l_al (z := 16) rfl mv2.1 rfl ?_
    refine l_ic rfl iv3 ⟨by decide, by decide⟩ (fun c => ?_) (fun c => ?_)
    · replace h := h.1 c
      exact H_S_differs_42 hS hR  h
    · replace h := h.2 c
      refine l1 (n := 1) rfl rfl rfl (li_of a1) ?_
      refine l1 (n := 1) rfl rfl rfl (li_of a3) ?_
      refine l_op (T := ((Int32.ofInt v1).toUInt32 >>> ((Int32.ofInt v3).toUInt32 &&& Int32.toUInt32 31)).toInt32) rfl rfl rfl ?_
      refine l1 (n := 1) rfl rfl rfl rfl ?_
      refine l_op (T := (Int32.ofInt ((Int32.ofInt v1).toUInt32 >>> ((Int32.ofInt v3).toUInt32 &&& Int32.toUInt32 31)).toInt32.toInt &&& Int32.ofInt 1)) rfl rfl rfl ?_
      refine l_if rfl (inr_ti _) (fun c => ?_) (fun c => ?_)
      · replace h := h.1 c
        exact H_S_differs_36 hS hR mv0 iv1 mv2 iv3 a0 a1 a2 a3 (fun n' hn' => hb2 n' (by omega)) h
      · replace h := h.2 c
        refine l1 (n := 1) rfl rfl rfl (la_of a0) ?_
        refine l_gr rfl (jo_4 hS mv0) rfl (fun _ => rfl) (jf_4_1 hR.2 mv0) ?_
        refine l1 (n := 1) rfl rfl rfl (li_of a3) ?_
        refine b_ia rfl (jt_4_1 (fz := fz) hS mv0).1 (Nat.le_of_ble_eq_true rfl) iv3 (fun q => ?_)
        replace h := h q
        refine l1 (n := 1) rfl rfl rfl (la_of a2) ?_
        refine l1 (n := 1) rfl rfl rfl (li_of a3) ?_
        refine b_ia rfl mv2.1 (Nat.le_of_ble_eq_true rfl) iv3 (fun q => ?_)
        replace h := h q
        refine l_ic rfl (inr_gi _ _ _) (inr_gi _ _ _) (fun c => ?_) (fun c => ?_)
        · replace h := h.1 c
          exact H_S_differs_36 hS hR mv0 iv1 mv2 iv3 a0 a1 a2 a3 (fun n' hn' => hb2 n' (by omega)) h
        · replace h := h.2 c
          refine l1 (n := 1) rfl rfl rfl rfl ?_
          exact l_rb rfl rfl (Or.inr rfl) hR h
theorem H_S_differs_2 {fz : Bool} {S : gS} {B : rf_M} {M : rf_M} {ls : rf_L} {n0 : Nat} {v0 : Nat} {v1 : Int} {v2 : Nat} {v3 : Int} {K : Int → rf_M → Prop} (hS : rl S) (hR : fl 22 331 B M) (mv0 : v0 ∈ j4) (iv1 : inr v1) (mv2 : pb fz S v2 .int 16) (iv3 : inr v3) (a0 : rf_ld ls 0 = some (.ref v0)) (a1 : rf_ld ls 1 = some (zv v1)) (a2 : rf_ld ls 2 = some (.ref v2)) (a3 : rf_ld ls 3 = some (zv v3)) (h : e_S_differs_2 v0 v1 v2 v3 M K) : lx (cx0 fz) n0 72 2 ls [] (M, S) (vl_i 22 331 B S K) := by
  obtain ⟨Inv, hm, hb⟩ := h
  induction n0 using Nat.strongRecOn generalizing ls M v0 v1 v2 v3 with
  | _ n0 ih =>
    refine H_S_differs_2b hS hR mv0 iv1 mv2 iv3 a0 a1 a2 a3 (fun n' hn' v0' v1' v2' v3' M' ls' hR' f0 f1 f2 f3 f4 f5 f6 f7 q2 => ih n' hn' hR' f0 f1 f2 f3 f4 f5 f6 f7 q2) (hb v0 v1 v2 v3 M iv1 iv3 hm)
theorem H_S_differs {fz : Bool} {S : gS} {B : rf_M} {M : rf_M} {ls : rf_L} {n0 : Nat} {v0 : Nat} {v1 : Int} {v2 : Nat} {K : Int → rf_M → Prop} (hS : rl S) (hR : fl 22 331 B M) (mv0 : v0 ∈ j4) (iv1 : inr v1) (mv2 : pb fz S v2 .int 16) (a0 : rf_ld ls 0 = some (.ref v0)) (a1 : rf_ld ls 1 = some (zv v1)) (a2 : rf_ld ls 2 = some (.ref v2)) (h : e_S_differs v0 v1 v2 M K) : lx (cx0 fz) n0 72 0 ls [] (M, S) (vl_i 22 331 B S K) := by
  unfold e_S_differs at h
  refine l1 (n := 1) rfl rfl rfl rfl ?_
  refine l_s1 (n := 1) rfl rfl rfl rfl (fun ls y1 ho => ?_)
  have y2 := ho 0 _ (by decide) (fun q => by cases q.2) a0
  have y3 := ho 1 _ (by decide) (fun q => by cases q.2) a1
  have y4 := ho 2 _ (by decide) (fun q => by cases q.2) a2
  exact H_S_differs_2 hS hR mv0 iv1 mv2 ⟨by decide, by decide⟩ y2 y3 y4 y1 h
theorem H_S_differs_m {fz : Bool} {S : gS} {B : rf_M} {M : rf_M} {n0 : Nat} {x0 : Nat} {x1 : Int} {x2 : Nat} {K : Int → rf_M → Prop} (hS : rl S) (hR : fl 22 331 B M) (mx0 : x0 ∈ j4) (ix1 : inr x1) (mx2 : pb fz S x2 .int 16) (h : em_S_differs x0 x1 x2 M K) : lx (cx0 fz) n0 72 0 (lv_args 0 [.ref x0, zv x1, .ref x2]) [] (M, S) (vl_i 22 331 B S K) :=
  H_S_differs hS hR mx0 ix1 mx2 rfl rfl rfl h
theorem H_C_isWoken {fz : Bool} {S : gS} {B : rf_M} {M : rf_M} {ls : rf_L} {n0 : Nat} {v0 : Nat} {v1 : Nat} {K : Int → rf_M → Prop} (hS : rl S) (hR : fl 22 331 B M) (mv0 : v0 ∈ j6) (mv1 : v1 ∈ j4) (a0 : rf_ld ls 0 = some (.ref v0)) (a1 : rf_ld ls 1 = some (.ref v1)) (h : e_C_isWoken v0 v1 M K) : lx (cx0 fz) n0 86 0 ls [] (M, S) (vl_i 22 331 B S K) := by
  unfold e_C_isWoken at h
  refine l1 (n := 1) rfl rfl rfl (la_of a1) ?_
  refine l1 (n := 1) rfl rfl rfl (la_of a0) ?_
  refine l_gi rfl (jo_6 hS mv0) rfl (fun _ => rfl) ?_
  refine l1 (n := 1) rfl rfl rfl (la_of a0) ?_
  refine l_gr rfl (jo_6 hS mv0) rfl (fun _ => rfl) (jf_6_7 hR.2 mv0) ?_
  refine b_iv (c := v1) (as := [zv (gi M v0 6), .ref (v0 + 2)]) (rest := []) rfl (by decide) (jo_4 hS mv1) rfl rfl (Nat.le_of_ble_eq_true rfl) (fun hq => ?_)
  refine lx_mono (H_S_differs_m hS hR mv1 (inr_gi _ _ _) (jt_6_7 (fz := fz) hS mv0) h) ?_
  rintro _ _ ⟨z1, M1, rfl, rfl, r1, iz1, h⟩
  exact l_rb rfl rfl h.1 r1 h.2
theorem H_C_isWoken_m {fz : Bool} {S : gS} {B : rf_M} {M : rf_M} {n0 : Nat} {x0 : Nat} {x1 : Nat} {K : Int → rf_M → Prop} (hS : rl S) (hR : fl 22 331 B M) (mx0 : x0 ∈ j6) (mx1 : x1 ∈ j4) (h : em_C_isWoken x0 x1 M K) : lx (cx0 fz) n0 86 0 (lv_args 0 [.ref x0, .ref x1]) [] (M, S) (vl_i 22 331 B S K) :=
  H_C_isWoken hS hR mx0 mx1 rfl rfl h
theorem H_F_fillJ10_6b {fz : Bool} {S : gS} {B : rf_M} {M : rf_M} {ls : rf_L} {n0 : Nat} {v0 : Nat} {v1 : Int64} {v3 : Int} {v4 : Int} {b6 : Nat → Int64 → Int → Int → rf_M → Prop} {K : rf_M → Prop} (hS : rl S) (hR : fl 22 331 B M) (mv0 : pb fz S v0 .long 10) (iv3 : inr v3) (iv4 : inr v4) (a0 : rf_ld ls 0 = some (.ref v0)) (a1 : rf_ld ls 1 = some (.long v1)) (a3 : rf_ld ls 3 = some (zv v3)) (a4 : rf_ld ls 4 = some (zv v4)) (hb6 : ∀ n', n' < n0 → ∀ (v0 : Nat) (v1 : Int64) (v3 : Int) (v4 : Int) (M : rf_M) (ls : rf_L), fl 22 331 B M → pb fz S v0 .long 10 → inr v3 → inr v4 → rf_ld ls 0 = some (.ref v0) → rf_ld ls 1 = some (.long v1) → rf_ld ls 3 = some (zv v3) → rf_ld ls 4 = some (zv v4) → b6 v0 v1 v3 v4 M → lx (cx0 fz) n' 89 6 ls [] (M, S) (vl_v 22 331 B S K)) (h : e_F_fillJ10_6b v0 v1 v3 v4 M b6 K) : lx (cx0 fz) n0 89 6 ls [] (M, S) (vl_v 22 331 B S K) := by
  unfold e_F_fillJ10_6b at h
  rcases Nat.eq_zero_or_pos n0 with e0 | hp
  · rw [e0]; exact lx_zero
  refine l1 (n := 1) rfl rfl rfl (li_of a3) ?_
  refine l1 (n := 2) rfl rfl rfl (li_of a4) ?_
  refine l_ic rfl iv3 iv4 (fun c => ?_) (fun c => ?_)
  · replace h := h.1 c
    exact l_rv rfl rfl hR h
  · replace h := h.2 c
    refine l1 (n := 1) rfl rfl rfl (la_of a0) ?_
    refine l1 (n := 1) rfl rfl rfl (li_of a3) ?_
    refine l1 (n := 1) rfl rfl rfl (ll_of a1) ?_
    refine b_ls rfl mv0.1 (Nat.le_of_ble_eq_true rfl) iv3 (fun q M1 e => ?_)
    replace h := h q M1 e
    have r1 := hR.wl mv0.1.1 mv0.2 e
    refine l_ii rfl a3 (Nat.le_of_ble_eq_true rfl) (fun ls y1 ho => ?_)
    have y2 := ho 0 _ (by decide) (fun q => by cases q.2) a0
    have y3 := ho 1 _ (by decide) (fun q => absurd q.1 (by decide)) a1
    have y4 := ho 4 _ (by decide) (fun q => by cases q.2) a4
    refine l3 rfl rfl rfl ?_
    obtain ⟨i1, h⟩ := h
    exact hb6 _ (by omega) _ _ _ _ _ _ r1 mv0 i1 iv4 y2 y3 y1 y4 h
theorem H_F_fillJ10_6 {fz : Bool} {S : gS} {B : rf_M} {M : rf_M} {ls : rf_L} {n0 : Nat} {v0 : Nat} {v1 : Int64} {v3 : Int} {v4 : Int} {K : rf_M → Prop} (hS : rl S) (hR : fl 22 331 B M) (mv0 : pb fz S v0 .long 10) (iv3 : inr v3) (iv4 : inr v4) (a0 : rf_ld ls 0 = some (.ref v0)) (a1 : rf_ld ls 1 = some (.long v1)) (a3 : rf_ld ls 3 = some (zv v3)) (a4 : rf_ld ls 4 = some (zv v4)) (h : e_F_fillJ10_6 v0 v1 v3 v4 M K) : lx (cx0 fz) n0 89 6 ls [] (M, S) (vl_v 22 331 B S K) := by
  obtain ⟨Inv, hm, hb⟩ := h
  induction n0 using Nat.strongRecOn generalizing ls M v0 v1 v3 v4 with
  | _ n0 ih =>
    refine H_F_fillJ10_6b hS hR mv0 iv3 iv4 a0 a1 a3 a4 (fun n' hn' v0' v1' v3' v4' M' ls' hR' f0 f1 f2 f3 f4 f5 f6 q2 => ih n' hn' hR' f0 f1 f2 f3 f4 f5 f6 q2) (hb v0 v1 v3 v4 M iv3 iv4 hm)
theorem H_F_fillJ10 {fz : Bool} {S : gS} {B : rf_M} {M : rf_M} {ls : rf_L} {n0 : Nat} {v0 : Nat} {v1 : Int64} {K : rf_M → Prop} (hS : rl S) (hR : fl 22 331 B M) (mv0 : pb fz S v0 .long 10) (a0 : rf_ld ls 0 = some (.ref v0)) (a1 : rf_ld ls 1 = some (.long v1)) (h : e_F_fillJ10 v0 v1 M K) : lx (cx0 fz) n0 89 0 ls [] (M, S) (vl_v 22 331 B S K) := by
  unfold e_F_fillJ10 at h
  refine l1 (n := 1) rfl rfl rfl rfl ?_
  refine l_s1 (n := 1) rfl rfl rfl rfl (fun ls y1 ho => ?_)
  have y2 := ho 0 _ (by decide) (fun q => by cases q.2) a0
  have y3 := ho 1 _ (by decide) (fun q => absurd q.1 (by decide)) a1
  refine l1 (n := 1) rfl rfl rfl (la_of y2) ?_
  refine l_al (z := 10) rfl mv0.1 rfl ?_
  refine l_s1 (n := 2) rfl rfl rfl rfl (fun ls y4 ho => ?_)
  have y5 := ho 0 _ (by decide) (fun q => by cases q.2) y2
  have y6 := ho 1 _ (by decide) (fun q => absurd q.1 (by decide)) y3
  have y7 := ho 3 _ (by decide) (fun q => by cases q.2) y1
  exact H_F_fillJ10_6 hS hR mv0 ⟨by decide, by decide⟩ ⟨by decide, by decide⟩ y5 y6 y7 y4 h
theorem H_F_fillJ10_m {fz : Bool} {S : gS} {B : rf_M} {M : rf_M} {n0 : Nat} {x0 : Nat} {x1 : Int64} {K : rf_M → Prop} (hS : rl S) (hR : fl 22 331 B M) (mx0 : pb fz S x0 .long 10) (h : em_F_fillJ10 x0 x1 M K) : lx (cx0 fz) n0 89 0 (lv_args 0 [.ref x0, .long x1]) [] (M, S) (vl_v 22 331 B S K) :=
  H_F_fillJ10 hS hR mx0 rfl rfl h
theorem H_D_reset {fz : Bool} {S : gS} {B : rf_M} {M : rf_M} {ls : rf_L} {n0 : Nat} {v0 : Nat} {K : rf_M → Prop} (hS : rl S) (hR : fl 22 331 B M) (mv0 : v0 ∈ j8) (a0 : rf_ld ls 0 = some (.ref v0)) (h : e_D_reset v0 M K) : lx (cx0 fz) n0 88 0 ls [] (M, S) (vl_v 22 331 B S K) := by
  unfold e_D_reset at h
  refine l1 (n := 1) rfl rfl rfl (la_of a0) ?_
  refine l1 (n := 1) rfl rfl rfl rfl ?_
  refine l_pi rfl (jo_8 (fz := fz) hS mv0) rfl (fun _ _ => rfl) (fun M1 e => ?_)
  replace h := h M1 e
  have r1 := hR.wi (jo_8 (fz := fz) hS mv0).1 (jl_8 mv0) e
  refine l1 (n := 1) rfl rfl rfl (la_of a0) ?_
  refine l1 (n := 1) rfl rfl rfl rfl ?_
  refine l_pi rfl (jo_8 (fz := fz) hS mv0) rfl (fun _ _ => rfl) (fun M2 e => ?_)
  replace h := h M2 e
  have r2 := r1.wi (jo_8 (fz := fz) hS mv0).1 (jl_8 mv0) e
  refine l1 (n := 1) rfl rfl rfl (la_of a0) ?_
  refine l_gr rfl (jo_8 hS mv0) rfl (fun _ => rfl) (jf_8_2 r2.2 mv0) ?_
  refine l1 (n := 1) rfl rfl rfl rfl ?_
  refine b_st (as := [.ref (v0 + 2), .long (Int64.ofNat 0)]) (rest := []) rfl (by decide) rfl (Nat.le_of_ble_eq_true rfl) (fun hq => ?_)
  refine lx_mono (H_F_fillJ10_m hS r2 (jt_8_2 (fz := fz) hS mv0) h) ?_
  rintro _ _ ⟨M3, rfl, rfl, r3, h⟩
  exact l_rv rfl rfl r3 h
theorem H_D_reset_m {fz : Bool} {S : gS} {B : rf_M} {M : rf_M} {n0 : Nat} {x0 : Nat} {K : rf_M → Prop} (hS : rl S) (hR : fl 22 331 B M) (mx0 : x0 ∈ j8) (h : em_D_reset x0 M K) : lx (cx0 fz) n0 88 0 (lv_args 0 [.ref x0]) [] (M, S) (vl_v 22 331 B S K) :=
  H_D_reset hS hR mx0 rfl h
theorem H_R_begin {fz : Bool} {S : gS} {B : rf_M} {M : rf_M} {ls : rf_L} {n0 : Nat} {v0 : Nat} {v1 : Nat} {K : rf_M → Prop} (hS : rl S) (hR : fl 22 331 B M) (mv0 : v0 ∈ j7) (mv1 : v1 ∈ k1) (a0 : rf_ld ls 0 = some (.ref v0)) (a1 : rf_ld ls 1 = some (.ref v1)) (h : e_R_begin v0 v1 M K) : lx (cx0 fz) n0 87 0 ls [] (M, S) (vl_v 22 331 B S K) := by
  unfold e_R_begin at h
  refine l1 (n := 1) rfl rfl rfl (la_of a0) ?_
  refine l1 (n := 1) rfl rfl rfl (la_of a1) ?_
  refine l_pq rfl (jo_7 (fz := fz) hS mv0) rfl (fun _ _ => rfl) (fun M1 e => ?_)
  replace h := h M1 e
  have r1 := hR.wqR3 mv0 e
  refine l1 (n := 1) rfl rfl rfl (la_of a0) ?_
  refine l1 (n := 1) rfl rfl rfl (la_of a1) ?_
  refine l_gi rfl (ko_1 hS mv1) rfl (fun _ => rfl) ?_
  refine l_pi rfl (jo_7 (fz := fz) hS mv0) rfl (fun _ _ => rfl) (fun M2 e => ?_)
  replace h := h M2 e
  have r2 := r1.wi (jo_7 (fz := fz) hS mv0).1 (jl_7 mv0) e
  refine l1 (n := 1) rfl rfl rfl (la_of a0) ?_
  refine l1 (n := 1) rfl rfl rfl rfl ?_
  refine l_pi rfl (jo_7 (fz := fz) hS mv0) rfl (fun _ _ => rfl) (fun M3 e => ?_)
  replace h := h M3 e
  have r3 := r2.wi (jo_7 (fz := fz) hS mv0).1 (jl_7 mv0) e
  refine l1 (n := 1) rfl rfl rfl (la_of a0) ?_
  refine l1 (n := 1) rfl rfl rfl rfl ?_
  refine l_pi rfl (jo_7 (fz := fz) hS mv0) rfl (fun _ _ => rfl) (fun M4 e => ?_)
  replace h := h M4 e
  have r4 := r3.wi (jo_7 (fz := fz) hS mv0).1 (jl_7 mv0) e
  refine l1 (n := 1) rfl rfl rfl (la_of a0) ?_
  refine l1 (n := 1) rfl rfl rfl rfl ?_
  refine l_pl rfl (jo_7 (fz := fz) hS mv0) rfl (fun _ _ => rfl) (fun M5 e => ?_)
  replace h := h M5 e
  have r5 := r4.wl (jo_7 (fz := fz) hS mv0).1 (jl_7 mv0) e
  refine l1 (n := 1) rfl rfl rfl (la_of a0) ?_
  refine l_gr rfl (jo_7 hS mv0) rfl (fun _ => rfl) (jf_7_5 r5.2 mv0) ?_
  refine b_iv (c := (v0 + 2)) (as := []) (rest := []) rfl (by decide) (jo_8 hS (jt_7_5 mv0)) rfl rfl (Nat.le_of_ble_eq_true rfl) (fun hq => ?_)
  refine lx_mono (H_D_reset_m hS r5 (jt_7_5 mv0) h) ?_
  rintro _ _ ⟨M6, rfl, rfl, r6, h⟩
  exact l_rv rfl rfl r6 h
theorem H_R_begin_m {fz : Bool} {S : gS} {B : rf_M} {M : rf_M} {n0 : Nat} {x0 : Nat} {x1 : Nat} {K : rf_M → Prop} (hS : rl S) (hR : fl 22 331 B M) (mx0 : x0 ∈ j7) (mx1 : x1 ∈ k1) (h : em_R_begin x0 x1 M K) : lx (cx0 fz) n0 87 0 (lv_args 0 [.ref x0, .ref x1]) [] (M, S) (vl_v 22 331 B S K) :=
  H_R_begin hS hR mx0 mx1 rfl rfl h
theorem H_D_mark_10 {fz : Bool} {S : gS} {B : rf_M} {M : rf_M} {ls : rf_L} {n0 : Nat} {K : rf_M → Prop} (hS : rl S) (hR : fl 22 331 B M) (h : e_D_mark_10 M K) : lx (cx0 fz) n0 91 10 ls [] (M, S) (vl_v 22 331 B S K) := by
  unfold e_D_mark_10 at h
  exact l_rv rfl rfl hR h
theorem H_D_mark {fz : Bool} {S : gS} {B : rf_M} {M : rf_M} {ls : rf_L} {n0 : Nat} {v0 : Nat} {v1 : Int} {K : rf_M → Prop} (hS : rl S) (hR : fl 22 331 B M) (mv0 : v0 ∈ j8) (iv1 : inr v1) (a0 : rf_ld ls 0 = some (.ref v0)) (a1 : rf_ld ls 1 = some (zv v1)) (h : e_D_mark v0 v1 M K) : lx (cx0 fz) n0 91 0 ls [] (M, S) (vl_v 22 331 B S K) := by
  unfold e_D_mark at h
  refine l1 (n := 1) rfl rfl rfl (li_of a1) ?_
  refine l_if rfl iv1 (fun c => ?_) (fun c => ?_)
  · replace h := h.1 c
    exact H_D_mark_10 hS hR  h
  · replace h := h.2 c
    refine l1 (n := 1) rfl rfl rfl (li_of a1) ?_
    refine l_bi rfl (by decide) ?_
    refine l_ic rfl iv1 ⟨by decide, by decide⟩ (fun c => ?_) (fun c => ?_)
    · replace h := h.1 c
      refine l1 (n := 1) rfl rfl rfl (la_of a0) ?_
      refine l_gr rfl (jo_8 hS mv0) rfl (fun _ => rfl) (jf_8_5 hR.2 mv0) ?_
      refine l1 (n := 1) rfl rfl rfl (li_of a1) ?_
      refine l1 (n := 1) rfl rfl rfl (la_of a0) ?_
      refine l_gi rfl (jo_8 hS mv0) rfl (fun _ => rfl) ?_
      refine b_is rfl (jt_8_5 (fz := fz) hS mv0).1 (Nat.le_of_ble_eq_true rfl) iv1 (fun q M1 e => ?_)
      replace h := h q M1 e
      have r1 := hR.wi (jt_8_5 (fz := fz) hS mv0).1.1 (jt_8_5 (fz := fz) hS mv0).2 e
      refine l1 (n := 1) rfl rfl rfl (la_of a0) ?_
      refine l_gr rfl (jo_8 hS mv0) rfl (fun _ => rfl) (jf_8_8 r1.2 mv0) ?_
      refine l1 (n := 1) rfl rfl rfl (li_of a1) ?_
      refine l1 (n := 1) rfl rfl rfl (la_of a0) ?_
      refine l_gi rfl (jo_8 hS mv0) rfl (fun _ => rfl) ?_
      refine b_is rfl (jt_8_8 (fz := fz) hS mv0).1 (Nat.le_of_ble_eq_true rfl) iv1 (fun q M2 e => ?_)
      replace h := h q M2 e
      have r2 := r1.wi (jt_8_8 (fz := fz) hS mv0).1.1 (jt_8_8 (fz := fz) hS mv0).2 e
      refine l1 (n := 1) rfl rfl rfl (la_of a0) ?_
      refine l_gr rfl (jo_8 hS mv0) rfl (fun _ => rfl) (jf_8_1 r2.2 mv0) ?_
      refine l1 (n := 1) rfl rfl rfl rfl ?_
      refine l1 (n := 1) rfl rfl rfl (la_of a0) ?_
      refine l_gr rfl (jo_8 hS mv0) rfl (fun _ => rfl) (jf_8_6 r2.2 mv0) ?_
      refine l1 (n := 1) rfl rfl rfl (li_of a1) ?_
      refine l_bi rfl (by decide) ?_
      refine l_mul rfl ?_
      refine l_bi rfl (by decide) ?_
      obtain ⟨i1, h⟩ := h
      refine b_cpl rfl rfl (jt_8_1 (fz := fz) hS mv0).1 (jt_8_6 (fz := fz) hS mv0).1 ⟨by decide, by decide⟩ i1 ⟨by decide, by decide⟩ (fun q M3 e => ?_)
      replace h := h q M3 e
      have r3 := r2.cpl (jt_8_6 (fz := fz) hS mv0).1.1 (jt_8_6 (fz := fz) hS mv0).2 e
      refine l1 (n := 1) rfl rfl rfl (la_of a0) ?_
      refine l_gr rfl (jo_8 hS mv0) rfl (fun _ => rfl) (jf_8_2 r3.2 mv0) ?_
      refine l1 (n := 1) rfl rfl rfl rfl ?_
      refine l1 (n := 1) rfl rfl rfl (la_of a0) ?_
      refine l_gr rfl (jo_8 hS mv0) rfl (fun _ => rfl) (jf_8_7 r3.2 mv0) ?_
      refine l1 (n := 1) rfl rfl rfl (li_of a1) ?_
      refine l_bi rfl (by decide) ?_
      refine l_mul rfl ?_
      refine l_bi rfl (by decide) ?_
      obtain ⟨i2, h⟩ := h
      refine b_cpl rfl rfl (jt_8_2 (fz := fz) hS mv0).1 (jt_8_7 (fz := fz) hS mv0).1 ⟨by decide, by decide⟩ i2 ⟨by decide, by decide⟩ (fun q M4 e => ?_)
      replace h := h q M4 e
      have r4 := r3.cpl (jt_8_7 (fz := fz) hS mv0).1.1 (jt_8_7 (fz := fz) hS mv0).2 e
      exact l_rv rfl rfl r4 h
    · replace h := h.2 c
      exact H_D_mark_10 hS hR  h
theorem H_D_mark_m {fz : Bool} {S : gS} {B : rf_M} {M : rf_M} {n0 : Nat} {x0 : Nat} {x1 : Int} {K : rf_M → Prop} (hS : rl S) (hR : fl 22 331 B M) (mx0 : x0 ∈ j8) (ix1 : inr x1) (h : em_D_mark x0 x1 M K) : lx (cx0 fz) n0 91 0 (lv_args 0 [.ref x0, zv x1]) [] (M, S) (vl_v 22 331 B S K) :=
  H_D_mark hS hR mx0 ix1 rfl rfl h
theorem H_P_behind_63 {fz : Bool} {S : gS} {B : rf_M} {M : rf_M} {ls : rf_L} {n0 : Nat} {v0 : Nat} {v2 : Int} {v3 : Int} {b4 : Nat → Int → Int → rf_M → Prop} {K : Int → rf_M → Prop} (hS : rl S) (hR : fl 22 331 B M) (mv0 : v0 ∈ k1) (iv2 : inr v2) (iv3 : inr v3) (a0 : rf_ld ls 0 = some (.ref v0)) (a2 : rf_ld ls 2 = some (zv v2)) (a3 : rf_ld ls 3 = some (zv v3)) (hb4 : ∀ n', n' < n0 → ∀ (v0 : Nat) (v2 : Int) (v3 : Int) (M : rf_M) (ls : rf_L), fl 22 331 B M → v0 ∈ k1 → inr v2 → inr v3 → rf_ld ls 0 = some (.ref v0) → rf_ld ls 2 = some (zv v2) → rf_ld ls 3 = some (zv v3) → b4 v0 v2 v3 M → lx (cx0 fz) n' 93 4 ls [] (M, S) (vl_i 22 331 B S K)) (h : e_P_behind_63 v0 v2 v3 M b4 K) : lx (cx0 fz) n0 93 63 ls [] (M, S) (vl_i 22 331 B S K) := by
  unfold e_P_behind_63 at h
  rcases Nat.eq_zero_or_pos n0 with e0 | hp
  · rw [e0]; exact lx_zero
  refine l_ii rfl a3 (Nat.le_of_ble_eq_true rfl) (fun ls y1 ho => ?_)
  have y2 := ho 0 _ (by decide) (fun q => by cases q.2) a0
  have y3 := ho 2 _ (by decide) (fun q => by cases q.2) a2
  refine l3 rfl rfl rfl ?_
  obtain ⟨i1, h⟩ := h
  exact hb4 _ (by omega) _ _ _ _ _ hR mv0 iv2 i1 y2 y3 y1 h
theorem H_P_behind_69 {fz : Bool} {S : gS} {B : rf_M} {M : rf_M} {ls : rf_L} {n0 : Nat} {K : Int → rf_M → Prop} (hS : rl S) (hR : fl 22 331 B M) (h : e_P_behind_69 M K) : lx (cx0 fz) n0 93 69 ls [] (M, S) (vl_i 22 331 B S K) := by
  unfold e_P_behind_69 at h
  refine l1 (n := 1) rfl rfl rfl rfl ?_
  exact l_ri rfl rfl ⟨by decide, by decide⟩ hR h
theorem H_P_behind_4b {fz : Bool} {S : gS} {B : rf_M} {M : rf_M} {ls : rf_L} {n0 : Nat} {v0 : Nat} {v2 : Int} {v3 : Int} {b4 : Nat → Int → Int → rf_M → Prop} {K : Int → rf_M → Prop} (hS : rl S) (hR : fl 22 331 B M) (mv0 : v0 ∈ k1) (iv2 : inr v2) (iv3 : inr v3) (a0 : rf_ld ls 0 = some (.ref v0)) (a2 : rf_ld ls 2 = some (zv v2)) (a3 : rf_ld ls 3 = some (zv v3)) (hb4 : ∀ n', n' < n0 → ∀ (v0 : Nat) (v2 : Int) (v3 : Int) (M : rf_M) (ls : rf_L), fl 22 331 B M → v0 ∈ k1 → inr v2 → inr v3 → rf_ld ls 0 = some (.ref v0) → rf_ld ls 2 = some (zv v2) → rf_ld ls 3 = some (zv v3) → b4 v0 v2 v3 M → lx (cx0 fz) n' 93 4 ls [] (M, S) (vl_i 22 331 B S K)) (h : e_P_behind_4b v0 v2 v3 M b4 K) : lx (cx0 fz) n0 93 4 ls [] (M, S) (vl_i 22 331 B S K) := by
  unfold e_P_behind_4b at h
  rcases Nat.eq_zero_or_pos n0 with e0 | hp
  · rw [e0]; exact lx_zero
  refine l1 (n := 1) rfl rfl rfl (li_of a3) ?_
  refine l_bi rfl (by decide) ?_
  refine l_ic rfl iv3 ⟨by decide, by decide⟩ (fun c => ?_) (fun c => ?_)
  · replace h := h.1 c
    exact H_P_behind_69 hS hR  h
  · replace h := h.2 c
    refine l1 (n := 1) rfl rfl rfl (la_of a0) ?_
    refine l1 (n := 1) rfl rfl rfl (li_of a2) ?_
    refine b_iv (c := v0) (as := [zv v2]) (rest := []) rfl (by decide) (ko_1 hS mv0) rfl rfl (Nat.le_of_ble_eq_true rfl) (fun hq => ?_)
    refine lx_mono (H_P_has_m hS hR mv0 iv2 h) ?_
    rintro _ _ ⟨z1, M1, rfl, rfl, r1, iz1, h⟩
    refine l_if rfl iz1 (fun c => ?_) (fun c => ?_)
    · replace h := h.1 c
      exact H_P_behind_69 hS r1  h
    · replace h := h.2 c
      refine l1 (n := 1) rfl rfl rfl (la_of a0) ?_
      refine l_gr rfl (ko_1 hS mv0) rfl (fun _ => rfl) (kf_1_11 r1.2 mv0) ?_
      refine l1 (n := 1) rfl rfl rfl (li_of a2) ?_
      refine b_ia rfl (jt_1_11 (fz := fz) hS mv0).1 (Nat.le_of_ble_eq_true rfl) iv2 (fun q => ?_)
      replace h := h q
      refine l1 (n := 1) rfl rfl rfl rfl ?_
      refine l_ic rfl (inr_gi _ _ _) ⟨by decide, by decide⟩ (fun c => ?_) (fun c => ?_)
      · replace h := h.1 c
        refine l1 (n := 1) rfl rfl rfl (la_of a0) ?_
        refine l_gr rfl (ko_1 hS mv0) rfl (fun _ => rfl) (kf_1_8 r1.2 mv0) ?_
        refine l1 (n := 1) rfl rfl rfl (li_of a2) ?_
        refine b_ia rfl (jt_1_8 (fz := fz) hS mv0).1 (Nat.le_of_ble_eq_true rfl) iv2 (fun q => ?_)
        replace h := h q
        refine l_s1 (n := 1) rfl rfl rfl rfl (fun ls y1 ho => ?_)
        have y2 := ho 0 _ (by decide) (fun q => by cases q.2) a0
        have y3 := ho 3 _ (by decide) (fun q => by cases q.2) a3
        refine l1 (n := 1) rfl rfl rfl (la_of y2) ?_
        refine l1 (n := 1) rfl rfl rfl (li_of y1) ?_
        refine b_iv (c := v0) (as := [zv (gi M1 (v0 + 4) (v2).toNat)]) (rest := []) rfl (by decide) (ko_1 hS mv0) rfl rfl (Nat.le_of_ble_eq_true rfl) (fun hq => ?_)
        refine lx_mono (H_P_has_m hS r1 mv0 (inr_gi _ _ _) h) ?_
        rintro _ _ ⟨z2, M2, rfl, rfl, r2, iz2, h⟩
        refine l_if rfl iz2 (fun c => ?_) (fun c => ?_)
        · replace h := h.1 c
          exact H_P_behind_63 hS r2 mv0 (inr_gi _ _ _) iv3 y2 y1 y3 (fun n' hn' => hb4 n' (by omega)) h
        · replace h := h.2 c
          refine l1 (n := 1) rfl rfl rfl (la_of y2) ?_
          refine l_gr rfl (ko_1 hS mv0) rfl (fun _ => rfl) (kf_1_5 r2.2 mv0) ?_
          refine l1 (n := 1) rfl rfl rfl (li_of y1) ?_
          refine b_ia rfl (jt_1_5 (fz := fz) hS mv0).1 (Nat.le_of_ble_eq_true rfl) (inr_gi _ _ _) (fun q => ?_)
          replace h := h q
          refine l_bi rfl (by decide) ?_
          refine l_ic rfl (inr_gi _ _ _) ⟨by decide, by decide⟩ (fun c => ?_) (fun c => ?_)
          · replace h := h.2 c
            exact H_P_behind_63 hS r2 mv0 (inr_gi _ _ _) iv3 y2 y1 y3 (fun n' hn' => hb4 n' (by omega)) h
          · replace h := h.1 (Classical.not_not.mp c)
            refine l1 (n := 1) rfl rfl rfl (li_of y1) ?_
            exact l_ri rfl rfl (inr_gi _ _ _) r2 h
      · replace h := h.2 c
        refine l1 (n := 1) rfl rfl rfl (la_of a0) ?_
        refine l_gr rfl (ko_1 hS mv0) rfl (fun _ => rfl) (kf_1_11 r1.2 mv0) ?_
        refine l1 (n := 1) rfl rfl rfl (li_of a2) ?_
        refine b_ia rfl (jt_1_11 (fz := fz) hS mv0).1 (Nat.le_of_ble_eq_true rfl) iv2 (fun q => ?_)
        replace h := h q
        exact l_ri rfl rfl (inr_gi _ _ _) r1 h
