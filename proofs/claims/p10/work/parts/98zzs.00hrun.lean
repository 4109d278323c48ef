/-! the program's runs leave its replay alone (printed by wip/tools/vl3.py) -/
theorem H_M_isCell_15 {fz : Bool} {S : gS} {B : rf_M} {M : rf_M} {ls : rf_L} {n0 : Nat} {s0 : Int} {K : Int → rf_M → Prop} (hS : rl S) (hR : fl 22 331 B M) (is0 : inr s0) (h : e_M_isCell_15 s0 M K) : lx (cx0 fz) n0 52 15 ls [zv s0] (M, S) (vl_i 22 331 B S K) := by
  unfold e_M_isCell_15 at h
  exact l_rb rfl rfl h.1 hR h.2
theorem H_M_isCell_14 {fz : Bool} {S : gS} {B : rf_M} {M : rf_M} {ls : rf_L} {n0 : Nat} {K : Int → rf_M → Prop} (hS : rl S) (hR : fl 22 331 B M) (h : e_M_isCell_14 M K) : lx (cx0 fz) n0 52 14 ls [] (M, S) (vl_i 22 331 B S K) := by
  unfold e_M_isCell_14 at h
  refine l1 (n := 1) rfl rfl rfl rfl ?_
  exact H_M_isCell_15 hS hR ⟨by decide, by decide⟩ h
theorem H_M_isCell {fz : Bool} {S : gS} {B : rf_M} {M : rf_M} {ls : rf_L} {n0 : Nat} {v0 : Int} {K : Int → rf_M → Prop} (hS : rl S) (hR : fl 22 331 B M) (iv0 : inr v0) (a0 : rf_ld ls 0 = some (zv v0)) (h : e_M_isCell v0 M K) : lx (cx0 fz) n0 52 0 ls [] (M, S) (vl_i 22 331 B S K) := by
  unfold e_M_isCell at h
  refine l1 (n := 1) rfl rfl rfl (li_of a0) ?_
  refine l_if rfl iv0 (fun c => ?_) (fun c => ?_)
  · replace h := h.1 c
    exact H_M_isCell_14 hS hR  h
  · replace h := h.2 c
    refine l1 (n := 1) rfl rfl rfl (li_of a0) ?_
    refine l_bi rfl (by decide) ?_
    refine l_ic rfl iv0 ⟨by decide, by decide⟩ (fun c => ?_) (fun c => ?_)
    · replace h := h.1 c
      exact H_M_isCell_14 hS hR  h
    · replace h := h.2 c
      refine l1 (n := 1) rfl rfl rfl rfl ?_
      refine l3 rfl rfl rfl ?_
      exact H_M_isCell_15 hS hR ⟨by decide, by decide⟩ h
theorem H_M_isCell_m {fz : Bool} {S : gS} {B : rf_M} {M : rf_M} {n0 : Nat} {x0 : Int} {K : Int → rf_M → Prop} (hS : rl S) (hR : fl 22 331 B M) (ix0 : inr x0) (h : em_M_isCell x0 M K) : lx (cx0 fz) n0 52 0 (lv_args 0 [zv x0]) [] (M, S) (vl_i 22 331 B S K) :=
  H_M_isCell hS hR ix0 rfl h
theorem H_J_isFull_15 {fz : Bool} {S : gS} {B : rf_M} {M : rf_M} {ls : rf_L} {n0 : Nat} {s0 : Int} {K : Int → rf_M → Prop} (hS : rl S) (hR : fl 22 331 B M) (is0 : inr s0) (h : e_J_isFull_15 s0 M K) : lx (cx0 fz) n0 60 15 ls [zv s0] (M, S) (vl_i 22 331 B S K) := by
  unfold e_J_isFull_15 at h
  exact l_rb rfl rfl h.1 hR h.2
theorem H_J_isFull {fz : Bool} {S : gS} {B : rf_M} {M : rf_M} {ls : rf_L} {n0 : Nat} {K : Int → rf_M → Prop} (hS : rl S) (hR : fl 22 331 B M) (a0 : rf_ld ls 0 = some (.ref 324)) (h : e_J_isFull M K) : lx (cx0 fz) n0 60 0 ls [] (M, S) (vl_i 22 331 B S K) := by
  unfold e_J_isFull at h
  refine l1 (n := 1) rfl rfl rfl (la_of a0) ?_
  refine l_gi rfl (ko_9 hS (List.Mem.head _)) rfl (fun _ => rfl) ?_
  refine l_si rfl (by decide) ?_
  refine l_ic rfl (inr_gi _ _ _) ⟨by decide, by decide⟩ (fun c => ?_) (fun c => ?_)
  · replace h := h.1 c
    refine l1 (n := 1) rfl rfl rfl rfl ?_
    exact H_J_isFull_15 hS hR ⟨by decide, by decide⟩ h
  · replace h := h.2 c
    refine l1 (n := 1) rfl rfl rfl rfl ?_
    refine l3 rfl rfl rfl ?_
    exact H_J_isFull_15 hS hR ⟨by decide, by decide⟩ h
theorem H_J_isFull_m {fz : Bool} {S : gS} {B : rf_M} {M : rf_M} {n0 : Nat} {K : Int → rf_M → Prop} (hS : rl S) (hR : fl 22 331 B M) (h : em_J_isFull  M K) : lx (cx0 fz) n0 60 0 (lv_args 0 [.ref 324]) [] (M, S) (vl_i 22 331 B S K) :=
  H_J_isFull hS hR rfl h
theorem H_P_has_17 {fz : Bool} {S : gS} {B : rf_M} {M : rf_M} {ls : rf_L} {n0 : Nat} {s0 : Int} {K : Int → rf_M → Prop} (hS : rl S) (hR : fl 22 331 B M) (is0 : inr s0) (h : e_P_has_17 s0 M K) : lx (cx0 fz) n0 64 17 ls [zv s0] (M, S) (vl_i 22 331 B S K) := by
  unfold e_P_has_17 at h
  exact l_rb rfl rfl h.1 hR h.2
theorem H_P_has_16 {fz : Bool} {S : gS} {B : rf_M} {M : rf_M} {ls : rf_L} {n0 : Nat} {K : Int → rf_M → Prop} (hS : rl S) (hR : fl 22 331 B M) (h : e_P_has_16 M K) : lx (cx0 fz) n0 64 16 ls [] (M, S) (vl_i 22 331 B S K) := by
  unfold e_P_has_16 at h
  refine l1 (n := 1) rfl rfl rfl rfl ?_
  exact H_P_has_17 hS hR ⟨by decide, by decide⟩ h
theorem H_P_has {fz : Bool} {S : gS} {B : rf_M} {M : rf_M} {ls : rf_L} {n0 : Nat} {v0 : Nat} {v1 : Int} {K : Int → rf_M → Prop} (hS : rl S) (hR : fl 22 331 B M) (mv0 : v0 ∈ k1) (iv1 : inr v1) (a0 : rf_ld ls 0 = some (.ref v0)) (a1 : rf_ld ls 1 = some (zv v1)) (h : e_P_has v0 v1 M K) : lx (cx0 fz) n0 64 0 ls [] (M, S) (vl_i 22 331 B S K) := by
  unfold e_P_has at h
  refine l1 (n := 1) rfl rfl rfl (li_of a1) ?_
  refine l_if rfl iv1 (fun c => ?_) (fun c => ?_)
  · replace h := h.1 c
    exact H_P_has_16 hS hR  h
  · replace h := h.2 c
    refine l1 (n := 1) rfl rfl rfl (li_of a1) ?_
    refine l1 (n := 1) rfl rfl rfl (la_of a0) ?_
    refine l_gi rfl (ko_1 hS mv0) rfl (fun _ => rfl) ?_
    refine l_ic rfl iv1 (inr_gi _ _ _) (fun c => ?_) (fun c => ?_)
    · replace h := h.1 c
      exact H_P_has_16 hS hR  h
    · replace h := h.2 c
      refine l1 (n := 1) rfl rfl rfl rfl ?_
      refine l3 rfl rfl rfl ?_
      exact H_P_has_17 hS hR ⟨by decide, by decide⟩ h
theorem H_P_has_m {fz : Bool} {S : gS} {B : rf_M} {M : rf_M} {n0 : Nat} {x0 : Nat} {x1 : Int} {K : Int → rf_M → Prop} (hS : rl S) (hR : fl 22 331 B M) (mx0 : x0 ∈ k1) (ix1 : inr x1) (h : em_P_has x0 x1 M K) : lx (cx0 fz) n0 64 0 (lv_args 0 [.ref x0, zv x1]) [] (M, S) (vl_i 22 331 B S K) :=
  H_P_has hS hR mx0 ix1 rfl rfl h
theorem H_A_push_29 {fz : Bool} {S : gS} {B : rf_M} {M : rf_M} {ls : rf_L} {n0 : Nat} {K : rf_M → Prop} (hS : rl S) (hR : fl 22 331 B M) (h : e_A_push_29 M K) : lx (cx0 fz) n0 66 29 ls [] (M, S) (vl_v 22 331 B S K) := by
  unfold e_A_push_29 at h
  exact l_rv rfl rfl hR h
theorem H_A_push {fz : Bool} {S : gS} {B : rf_M} {M : rf_M} {ls : rf_L} {n0 : Nat} {v0 : Nat} {v1 : Int64} {K : rf_M → Prop} (hS : rl S) (hR : fl 22 331 B M) (mv0 : v0 ∈ j5) (a0 : rf_ld ls 0 = some (.ref v0)) (a1 : rf_ld ls 1 = some (.long v1)) (h : e_A_push v0 v1 M K) : lx (cx0 fz) n0 66 0 ls [] (M, S) (vl_v 22 331 B S K) := by
  unfold e_A_push at h
  refine l1 (n := 1) rfl rfl rfl (la_of a0) ?_
  refine l_gi rfl (jo_5 hS mv0) rfl (fun _ => rfl) ?_
  refine l_bi rfl (by decide) ?_
  refine l_ic rfl (inr_gi _ _ _) ⟨by decide, by decide⟩ (fun c => ?_) (fun c => ?_)
  · replace h := h.1 c
    exact H_A_push_29 hS hR  h
  · replace h := h.2 c
    refine l1 (n := 1) rfl rfl rfl (la_of a0) ?_
    refine l_gr rfl (jo_5 hS mv0) rfl (fun _ => rfl) (jf_5_0 hR.2 mv0) ?_
    refine l1 (n := 1) rfl rfl rfl (la_of a0) ?_
    refine l_gi rfl (jo_5 hS mv0) rfl (fun _ => rfl) ?_
    refine l1 (n := 1) rfl rfl rfl (ll_of a1) ?_
    refine b_ls rfl (jt_5_0 (fz := fz) hS mv0).1 (Nat.le_of_ble_eq_true rfl) (inr_gi _ _ _) (fun q M1 e => ?_)
    replace h := h q M1 e
    have r1 := hR.wl (jt_5_0 (fz := fz) hS mv0).1.1 (jt_5_0 (fz := fz) hS mv0).2 e
    refine l1 (n := 1) rfl rfl rfl (la_of a0) ?_
    refine l0 rfl rfl rfl ?_
    refine l_gi rfl (jo_5 hS mv0) rfl (fun _ => rfl) ?_
    refine l1 (n := 1) rfl rfl rfl rfl ?_
    refine l_add rfl ?_
    refine l_pi rfl (jo_5 (fz := fz) hS mv0) rfl (fun _ _ => rfl) (fun M2 e => ?_)
    replace h := h M2 e
    have r2 := r1.wi (jo_5 (fz := fz) hS mv0).1 (jl_5 mv0) e
    exact H_A_push_29 hS r2  h
theorem H_A_push_m {fz : Bool} {S : gS} {B : rf_M} {M : rf_M} {n0 : Nat} {x0 : Nat} {x1 : Int64} {K : rf_M → Prop} (hS : rl S) (hR : fl 22 331 B M) (mx0 : x0 ∈ j5) (h : em_A_push x0 x1 M K) : lx (cx0 fz) n0 66 0 (lv_args 0 [.ref x0, .long x1]) [] (M, S) (vl_v 22 331 B S K) :=
  H_A_push hS hR mx0 rfl rfl h
theorem H_S_find_21 {fz : Bool} {S : gS} {B : rf_M} {M : rf_M} {ls : rf_L} {n0 : Nat} {s0 : Nat} {s1 : Int64} {K : Int → rf_M → Prop} (hS : rl S) (hR : fl 22 331 B M) (ms0 : s0 ∈ j4) (h : e_S_find_21 s0 s1 M K) : lx (cx0 fz) n0 73 21 ls [.long s1, .ref s0] (M, S) (vl_i 22 331 B S K) := by
  unfold e_S_find_21 at h
  refine l_pl rfl (jo_4 (fz := fz) hS ms0) rfl (fun _ _ => rfl) (fun M1 e => ?_)
  replace h := h M1 e
  have r1 := hR.wl (jo_4 (fz := fz) hS ms0).1 (jl_4 ms0) e
  refine l1 (n := 1) rfl rfl rfl rfl ?_
  exact l_rb rfl rfl (Or.inr rfl) r1 h
theorem H_S_find_20 {fz : Bool} {S : gS} {B : rf_M} {M : rf_M} {ls : rf_L} {n0 : Nat} {s0 : Nat} {K : Int → rf_M → Prop} (hS : rl S) (hR : fl 22 331 B M) (ms0 : s0 ∈ j4) (h : e_S_find_20 s0 M K) : lx (cx0 fz) n0 73 20 ls [.ref s0] (M, S) (vl_i 22 331 B S K) := by
  unfold e_S_find_20 at h
  refine l1 (n := 1) rfl rfl rfl rfl ?_
  exact H_S_find_21 hS hR ms0 h
theorem H_S_find {fz : Bool} {S : gS} {B : rf_M} {M : rf_M} {ls : rf_L} {n0 : Nat} {v0 : Nat} {v1 : Int} {K : Int → rf_M → Prop} (hS : rl S) (hR : fl 22 331 B M) (mv0 : v0 ∈ j4) (iv1 : inr v1) (a0 : rf_ld ls 0 = some (.ref v0)) (a1 : rf_ld ls 1 = some (zv v1)) (h : e_S_find v0 v1 M K) : lx (cx0 fz) n0 73 0 ls [] (M, S) (vl_i 22 331 B S K) := by
  unfold e_S_find at h
  refine l1 (n := 1) rfl rfl rfl (la_of a0) ?_
  refine l1 (n := 1) rfl rfl rfl (li_of a1) ?_
  refine l_if rfl iv1 (fun c => ?_) (fun c => ?_)
  · replace h := h.1 c
    exact H_S_find_20 hS hR mv0 h
  · replace h := h.2 c
    refine l1 (n := 1) rfl rfl rfl (li_of a1) ?_
    refine l_bi rfl (by decide) ?_
    refine l_ic rfl iv1 ⟨by decide, by decide⟩ (fun c => ?_) (fun c => ?_)
    · replace h := h.1 c
      exact H_S_find_20 hS hR mv0 h
    · replace h := h.2 c
      refine l1 (n := 1) rfl rfl rfl (la_of a0) ?_
      refine l_gr rfl (jo_4 hS mv0) rfl (fun _ => rfl) (jf_4_5 hR.2 mv0) ?_
      refine l1 (n := 1) rfl rfl rfl (li_of a1) ?_
      refine b_la rfl (jt_4_5 (fz := fz) hS mv0).1 (Nat.le_of_ble_eq_true rfl) iv1 (fun q => ?_)
      replace h := h q
      refine l3 rfl rfl rfl ?_
      exact H_S_find_21 hS hR mv0 h
theorem H_S_find_m {fz : Bool} {S : gS} {B : rf_M} {M : rf_M} {n0 : Nat} {x0 : Nat} {x1 : Int} {K : Int → rf_M → Prop} (hS : rl S) (hR : fl 22 331 B M) (mx0 : x0 ∈ j4) (ix1 : inr x1) (h : em_S_find x0 x1 M K) : lx (cx0 fz) n0 73 0 (lv_args 0 [.ref x0, zv x1]) [] (M, S) (vl_i 22 331 B S K) :=
  H_S_find hS hR mx0 ix1 rfl rfl h
theorem H_A_pop {fz : Bool} {S : gS} {B : rf_M} {M : rf_M} {ls : rf_L} {n0 : Nat} {v0 : Nat} {K : Int64 → rf_M → Prop} (hS : rl S) (hR : fl 22 331 B M) (mv0 : v0 ∈ j5) (a0 : rf_ld ls 0 = some (.ref v0)) (h : e_A_pop v0 M K) : lx (cx0 fz) n0 74 0 ls [] (M, S) (vl_l 22 331 B S K) := by
  unfold e_A_pop at h
  refine l1 (n := 1) rfl rfl rfl (la_of a0) ?_
  refine l_gi rfl (jo_5 hS mv0) rfl (fun _ => rfl) ?_
  refine l_if rfl (inr_gi _ _ _) (fun c => ?_) (fun c => ?_)
  · replace h := h.1 c
    refine l1 (n := 1) rfl rfl rfl (la_of a0) ?_
    refine l0 rfl rfl rfl ?_
    refine l_gi rfl (jo_5 hS mv0) rfl (fun _ => rfl) ?_
    refine l1 (n := 1) rfl rfl rfl rfl ?_
    refine l_sub rfl ?_
    refine l_pi rfl (jo_5 (fz := fz) hS mv0) rfl (fun _ _ => rfl) (fun M1 e => ?_)
    replace h := h M1 e
    have r1 := hR.wi (jo_5 (fz := fz) hS mv0).1 (jl_5 mv0) e
    refine l1 (n := 1) rfl rfl rfl (la_of a0) ?_
    refine l_gr rfl (jo_5 hS mv0) rfl (fun _ => rfl) (jf_5_0 r1.2 mv0) ?_
    refine l1 (n := 1) rfl rfl rfl (la_of a0) ?_
    refine l_gi rfl (jo_5 hS mv0) rfl (fun _ => rfl) ?_
    refine b_la rfl (jt_5_0 (fz := fz) hS mv0).1 (Nat.le_of_ble_eq_true rfl) (inr_gi _ _ _) (fun q => ?_)
    replace h := h q
    exact l_rl rfl rfl r1 h
  · replace h := h.2 c
    refine l1 (n := 1) rfl rfl rfl rfl ?_
    exact l_rl rfl rfl hR h
theorem H_A_pop_m {fz : Bool} {S : gS} {B : rf_M} {M : rf_M} {n0 : Nat} {x0 : Nat} {K : Int64 → rf_M → Prop} (hS : rl S) (hR : fl 22 331 B M) (mx0 : x0 ∈ j5) (h : em_A_pop x0 M K) : lx (cx0 fz) n0 74 0 (lv_args 0 [.ref x0]) [] (M, S) (vl_l 22 331 B S K) :=
  H_A_pop hS hR mx0 rfl h
theorem H_A_join_179 {fz : Bool} {S : gS} {B : rf_M} {M : rf_M} {ls : rf_L} {n0 : Nat} {s0 : Int64} {K : Int64 → rf_M → Prop} (hS : rl S) (hR : fl 22 331 B M) (h : e_A_join_179 s0 M K) : lx (cx0 fz) n0 75 179 ls [.long s0] (M, S) (vl_l 22 331 B S K) := by
  unfold e_A_join_179 at h
  exact l_rl rfl rfl hR h
theorem H_A_join_167 {fz : Bool} {S : gS} {B : rf_M} {M : rf_M} {ls : rf_L} {n0 : Nat} {s0 : Int64} {K : Int64 → rf_M → Prop} (hS : rl S) (hR : fl 22 331 B M) (h : e_A_join_167 s0 M K) : lx (cx0 fz) n0 75 167 ls [.long s0] (M, S) (vl_l 22 331 B S K) := by
  unfold e_A_join_167 at h
  exact l_rl rfl rfl hR h
theorem H_A_join_141 {fz : Bool} {S : gS} {B : rf_M} {M : rf_M} {ls : rf_L} {n0 : Nat} {s0 : Int64} {K : Int64 → rf_M → Prop} (hS : rl S) (hR : fl 22 331 B M) (h : e_A_join_141 s0 M K) : lx (cx0 fz) n0 75 141 ls [.long s0] (M, S) (vl_l 22 331 B S K) := by
  unfold e_A_join_141 at h
  exact l_rl rfl rfl hR h
theorem H_A_join_155 {fz : Bool} {S : gS} {B : rf_M} {M : rf_M} {ls : rf_L} {n0 : Nat} {s0 : Int64} {K : Int64 → rf_M → Prop} (hS : rl S) (hR : fl 22 331 B M) (h : e_A_join_155 s0 M K) : lx (cx0 fz) n0 75 155 ls [.long s0] (M, S) (vl_l 22 331 B S K) := by
  unfold e_A_join_155 at h
  exact l_rl rfl rfl hR h
theorem H_A_join_191 {fz : Bool} {S : gS} {B : rf_M} {M : rf_M} {ls : rf_L} {n0 : Nat} {s0 : Int64} {K : Int64 → rf_M → Prop} (hS : rl S) (hR : fl 22 331 B M) (h : e_A_join_191 s0 M K) : lx (cx0 fz) n0 75 191 ls [.long s0] (M, S) (vl_l 22 331 B S K) := by
  unfold e_A_join_191 at h
  exact l_rl rfl rfl hR h
theorem H_A_join {fz : Bool} {S : gS} {B : rf_M} {M : rf_M} {ls : rf_L} {n0 : Nat} {v0 : Int} {v1 : Int64} {v3 : Int64} {K : Int64 → rf_M → Prop} (hS : rl S) (hR : fl 22 331 B M) (iv0 : inr v0) (a0 : rf_ld ls 0 = some (zv v0)) (a1 : rf_ld ls 1 = some (.long v1)) (a3 : rf_ld ls 3 = some (.long v3)) (h : e_A_join v0 v1 v3 M K) : lx (cx0 fz) n0 75 0 ls [] (M, S) (vl_l 22 331 B S K) := by
  unfold e_A_join at h
  refine l1 (n := 1) rfl rfl rfl (li_of a0) ?_
  have ia : inr v0 := iv0
  obtain ⟨h1, h⟩ := h
  by_cases e37 : v0 = 37
  · replace h := h1 e37
    refine l_sw e37 rfl rfl rfl ?_
    refine l1 (n := 1) rfl rfl rfl (ll_of a3) ?_
    refine l1 (n := 1) rfl rfl rfl rfl ?_
    refine l_op (T := (lg_cmp v3 (Int64.ofNat 0))) rfl rfl rfl ?_
    refine l_if rfl (inr_ti _) (fun c => ?_) (fun c => ?_)
    · replace h := h.2 c
      refine l1 (n := 1) rfl rfl rfl (ll_of a1) ?_
      refine l1 (n := 1) rfl rfl rfl (ll_of a3) ?_
      refine b_rm rfl (fun q => ?_)
      replace h := h q
      exact H_A_join_155 hS hR  h
    · replace h := h.1 (Classical.not_not.mp c)
      refine l1 (n := 1) rfl rfl rfl rfl ?_
      refine l3 rfl rfl rfl ?_
      exact H_A_join_155 hS hR  h
  obtain ⟨h1, h⟩ := h
  by_cases e42 : v0 = 42
  · replace h := h1 e42
    refine l_sw e42 rfl rfl rfl ?_
    refine l1 (n := 1) rfl rfl rfl (ll_of a1) ?_
    refine l1 (n := 1) rfl rfl rfl (ll_of a3) ?_
    refine l0 rfl rfl rfl ?_
    exact l_rl rfl rfl hR h
  obtain ⟨h1, h⟩ := h
  by_cases e43 : v0 = 43
  · replace h := h1 e43
    refine l_sw e43 rfl rfl rfl ?_
    refine l1 (n := 1) rfl rfl rfl (ll_of a1) ?_
    refine l1 (n := 1) rfl rfl rfl (ll_of a3) ?_
    refine l0 rfl rfl rfl ?_
    exact l_rl rfl rfl hR h
  obtain ⟨h1, h⟩ := h
  by_cases e45 : v0 = 45
  · replace h := h1 e45
    refine l_sw e45 rfl rfl rfl ?_
    refine l1 (n := 1) rfl rfl rfl (ll_of a1) ?_
    refine l1 (n := 1) rfl rfl rfl (ll_of a3) ?_
    refine l0 rfl rfl rfl ?_
    exact l_rl rfl rfl hR h
  obtain ⟨h1, h⟩ := h
  by_cases e47 : v0 = 47
  · replace h := h1 e47
    refine l_sw e47 rfl rfl rfl ?_
    refine l1 (n := 1) rfl rfl rfl (ll_of a3) ?_
    refine l1 (n := 1) rfl rfl rfl rfl ?_
    refine l_op (T := (lg_cmp v3 (Int64.ofNat 0))) rfl rfl rfl ?_
    refine l_if rfl (inr_ti _) (fun c => ?_) (fun c => ?_)
    · replace h := h.2 c
      refine l1 (n := 1) rfl rfl rfl (ll_of a1) ?_
      refine l1 (n := 1) rfl rfl rfl (ll_of a3) ?_
      refine b_dv rfl (fun q => ?_)
      replace h := h q
      exact H_A_join_141 hS hR  h
    · replace h := h.1 (Classical.not_not.mp c)
      refine l1 (n := 1) rfl rfl rfl rfl ?_
      refine l3 rfl rfl rfl ?_
      exact H_A_join_141 hS hR  h
  obtain ⟨h1, h⟩ := h
  by_cases e60 : v0 = 60
  · replace h := h1 e60
    refine l_sw e60 rfl rfl rfl ?_
    refine l1 (n := 1) rfl rfl rfl (ll_of a1) ?_
    refine l1 (n := 1) rfl rfl rfl (ll_of a3) ?_
    refine l_op (T := (lg_cmp v1 v3)) rfl rfl rfl ?_
    refine l_if rfl (inr_ti _) (fun c => ?_) (fun c => ?_)
    · replace h := h.1 c
      refine l1 (n := 1) rfl rfl rfl rfl ?_
      exact H_A_join_167 hS hR  h
    · replace h := h.2 c
      refine l1 (n := 1) rfl rfl rfl rfl ?_
      refine l3 rfl rfl rfl ?_
      exact H_A_join_167 hS hR  h
  obtain ⟨h1, h⟩ := h
  by_cases e61 : v0 = 61
  · replace h := h1 e61
    refine l_sw e61 rfl rfl rfl ?_
    refine l1 (n := 1) rfl rfl rfl (ll_of a1) ?_
    refine l1 (n := 1) rfl rfl rfl (ll_of a3) ?_
    refine l_op (T := (lg_cmp v1 v3)) rfl rfl rfl ?_
    refine l_if rfl (inr_ti _) (fun c => ?_) (fun c => ?_)
    · replace h := h.2 c
      refine l1 (n := 1) rfl rfl rfl rfl ?_
      exact H_A_join_179 hS hR  h
    · replace h := h.1 (Classical.not_not.mp c)
      refine l1 (n := 1) rfl rfl rfl rfl ?_
      refine l3 rfl rfl rfl ?_
      exact H_A_join_179 hS hR  h
  replace h := h ⟨e37, e42, e43, e45, e47, e60, e61⟩
  by_cases e38 : v0 = 38
  · refine l_sw e38 rfl rfl rfl ?_
    refine l1 (n := 1) rfl rfl rfl (ll_of a1) ?_
    refine l1 (n := 1) rfl rfl rfl (ll_of a3) ?_
    refine l_op (T := (lg_cmp v1 v3)) rfl rfl rfl ?_
    refine l_if rfl (inr_ti _) (fun c => ?_) (fun c => ?_)
    · replace h := h.1 c
      refine l1 (n := 1) rfl rfl rfl rfl ?_
      exact H_A_join_191 hS hR  h
    · replace h := h.2 c
      refine l1 (n := 1) rfl rfl rfl rfl ?_
      refine l3 rfl rfl rfl ?_
      exact H_A_join_191 hS hR  h
  by_cases e39 : v0 = 39
  · refine l_sw e39 rfl rfl rfl ?_
    refine l1 (n := 1) rfl rfl rfl (ll_of a1) ?_
    refine l1 (n := 1) rfl rfl rfl (ll_of a3) ?_
    refine l_op (T := (lg_cmp v1 v3)) rfl rfl rfl ?_
    refine l_if rfl (inr_ti _) (fun c => ?_) (fun c => ?_)
    · replace h := h.1 c
      refine l1 (n := 1) rfl rfl rfl rfl ?_
      exact H_A_join_191 hS hR  h
    · replace h := h.2 c
      refine l1 (n := 1) rfl rfl rfl rfl ?_
      refine l3 rfl rfl rfl ?_
      exact H_A_join_191 hS hR  h
  by_cases e40 : v0 = 40
  · refine l_sw e40 rfl rfl rfl ?_
    refine l1 (n := 1) rfl rfl rfl (ll_of a1) ?_
    refine l1 (n := 1) rfl rfl rfl (ll_of a3) ?_
    refine l_op (T := (lg_cmp v1 v3)) rfl rfl rfl ?_
    refine l_if rfl (inr_ti _) (fun c => ?_) (fun c => ?_)
    · replace h := h.1 c
      refine l1 (n := 1) rfl rfl rfl rfl ?_
      exact H_A_join_191 hS hR  h
    · replace h := h.2 c
      refine l1 (n := 1) rfl rfl rfl rfl ?_
      refine l3 rfl rfl rfl ?_
      exact H_A_join_191 hS hR  h
  by_cases e41 : v0 = 41
  · refine l_sw e41 rfl rfl rfl ?_
    refine l1 (n := 1) rfl rfl rfl (ll_of a1) ?_
    refine l1 (n := 1) rfl rfl rfl (ll_of a3) ?_
    refine l_op (T := (lg_cmp v1 v3)) rfl rfl rfl ?_
    refine l_if rfl (inr_ti _) (fun c => ?_) (fun c => ?_)
    · replace h := h.1 c
      refine l1 (n := 1) rfl rfl rfl rfl ?_
      exact H_A_join_191 hS hR  h
    · replace h := h.2 c
      refine l1 (n := 1) rfl rfl rfl rfl ?_
      refine l3 rfl rfl rfl ?_
      exact H_A_join_191 hS hR  h
  by_cases e44 : v0 = 44
  · refine l_sw e44 rfl rfl rfl ?_
    refine l1 (n := 1) rfl rfl rfl (ll_of a1) ?_
    refine l1 (n := 1) rfl rfl rfl (ll_of a3) ?_
    refine l_op (T := (lg_cmp v1 v3)) rfl rfl rfl ?_
    refine l_if rfl (inr_ti _) (fun c => ?_) (fun c => ?_)
    · replace h := h.1 c
      refine l1 (n := 1) rfl rfl rfl rfl ?_
      exact H_A_join_191 hS hR  h
    · replace h := h.2 c
      refine l1 (n := 1) rfl rfl rfl rfl ?_
      refine l3 rfl rfl rfl ?_
      exact H_A_join_191 hS hR  h
  by_cases e46 : v0 = 46
  · refine l_sw e46 rfl rfl rfl ?_
    refine l1 (n := 1) rfl rfl rfl (ll_of a1) ?_
    refine l1 (n := 1) rfl rfl rfl (ll_of a3) ?_
    refine l_op (T := (lg_cmp v1 v3)) rfl rfl rfl ?_
    refine l_if rfl (inr_ti _) (fun c => ?_) (fun c => ?_)
    · replace h := h.1 c
      refine l1 (n := 1) rfl rfl rfl rfl ?_
      exact H_A_join_191 hS hR  h
    · replace h := h.2 c
      refine l1 (n := 1) rfl rfl rfl rfl ?_
      refine l3 rfl rfl rfl ?_
      exact H_A_join_191 hS hR  h
  by_cases e48 : v0 = 48
  · refine l_sw e48 rfl rfl rfl ?_
    refine l1 (n := 1) rfl rfl rfl (ll_of a1) ?_
    refine l1 (n := 1) rfl rfl rfl (ll_of a3) ?_
    refine l_op (T := (lg_cmp v1 v3)) rfl rfl rfl ?_
    refine l_if rfl (inr_ti _) (fun c => ?_) (fun c => ?_)
    · replace h := h.1 c
      refine l1 (n := 1) rfl rfl rfl rfl ?_
      exact H_A_join_191 hS hR  h
    · replace h := h.2 c
      refine l1 (n := 1) rfl rfl rfl rfl ?_
      refine l3 rfl rfl rfl ?_
      exact H_A_join_191 hS hR  h
  by_cases e49 : v0 = 49
  · refine l_sw e49 rfl rfl rfl ?_
    refine l1 (n := 1) rfl rfl rfl (ll_of a1) ?_
    refine l1 (n := 1) rfl rfl rfl (ll_of a3) ?_
    refine l_op (T := (lg_cmp v1 v3)) rfl rfl rfl ?_
    refine l_if rfl (inr_ti _) (fun c => ?_) (fun c => ?_)
    · replace h := h.1 c
      refine l1 (n := 1) rfl rfl rfl rfl ?_
      exact H_A_join_191 hS hR  h
    · replace h := h.2 c
      refine l1 (n := 1) rfl rfl rfl rfl ?_
      refine l3 rfl rfl rfl ?_
      exact H_A_join_191 hS hR  h
  by_cases e50 : v0 = 50
  · refine l_sw e50 rfl rfl rfl ?_
    refine l1 (n := 1) rfl rfl rfl (ll_of a1) ?_
    refine l1 (n := 1) rfl rfl rfl (ll_of a3) ?_
    refine l_op (T := (lg_cmp v1 v3)) rfl rfl rfl ?_
    refine l_if rfl (inr_ti _) (fun c => ?_) (fun c => ?_)
    · replace h := h.1 c
      refine l1 (n := 1) rfl rfl rfl rfl ?_
      exact H_A_join_191 hS hR  h
    · replace h := h.2 c
      refine l1 (n := 1) rfl rfl rfl rfl ?_
      refine l3 rfl rfl rfl ?_
      exact H_A_join_191 hS hR  h
  by_cases e51 : v0 = 51
  · refine l_sw e51 rfl rfl rfl ?_
    refine l1 (n := 1) rfl rfl rfl (ll_of a1) ?_
    refine l1 (n := 1) rfl rfl rfl (ll_of a3) ?_
    refine l_op (T := (lg_cmp v1 v3)) rfl rfl rfl ?_
    refine l_if rfl (inr_ti _) (fun c => ?_) (fun c => ?_)
    · replace h := h.1 c
      refine l1 (n := 1) rfl rfl rfl rfl ?_
      exact H_A_join_191 hS hR  h
    · replace h := h.2 c
      refine l1 (n := 1) rfl rfl rfl rfl ?_
      refine l3 rfl rfl rfl ?_
      exact H_A_join_191 hS hR  h
  by_cases e52 : v0 = 52
  · refine l_sw e52 rfl rfl rfl ?_
    refine l1 (n := 1) rfl rfl rfl (ll_of a1) ?_
    refine l1 (n := 1) rfl rfl rfl (ll_of a3) ?_
    refine l_op (T := (lg_cmp v1 v3)) rfl rfl rfl ?_
    refine l_if rfl (inr_ti _) (fun c => ?_) (fun c => ?_)
    · replace h := h.1 c
      refine l1 (n := 1) rfl rfl rfl rfl ?_
      exact H_A_join_191 hS hR  h
    · replace h := h.2 c
      refine l1 (n := 1) rfl rfl rfl rfl ?_
      refine l3 rfl rfl rfl ?_
      exact H_A_join_191 hS hR  h
  by_cases e53 : v0 = 53
  · refine l_sw e53 rfl rfl rfl ?_
    refine l1 (n := 1) rfl rfl rfl (ll_of a1) ?_
    refine l1 (n := 1) rfl rfl rfl (ll_of a3) ?_
    refine l_op (T := (lg_cmp v1 v3)) rfl rfl rfl ?_
    refine l_if rfl (inr_ti _) (fun c => ?_) (fun c => ?_)
    · replace h := h.1 c
      refine l1 (n := 1) rfl rfl rfl rfl ?_
      exact H_A_join_191 hS hR  h
    · replace h := h.2 c
      refine l1 (n := 1) rfl rfl rfl rfl ?_
      refine l3 rfl rfl rfl ?_
      exact H_A_join_191 hS hR  h
  by_cases e54 : v0 = 54
  · refine l_sw e54 rfl rfl rfl ?_
    refine l1 (n := 1) rfl rfl rfl (ll_of a1) ?_
    refine l1 (n := 1) rfl rfl rfl (ll_of a3) ?_
    refine l_op (T := (lg_cmp v1 v3)) rfl rfl rfl ?_
    refine l_if rfl (inr_ti _) (fun c => ?_) (fun c => ?_)
    · replace h := h.1 c
      refine l1 (n := 1) rfl rfl rfl rfl ?_
      exact H_A_join_191 hS hR  h
    · replace h := h.2 c
      refine l1 (n := 1) rfl rfl rfl rfl ?_
      refine l3 rfl rfl rfl ?_
      exact H_A_join_191 hS hR  h
  by_cases e55 : v0 = 55
  · refine l_sw e55 rfl rfl rfl ?_
    refine l1 (n := 1) rfl rfl rfl (ll_of a1) ?_
    refine l1 (n := 1) rfl rfl rfl (ll_of a3) ?_
    refine l_op (T := (lg_cmp v1 v3)) rfl rfl rfl ?_
    refine l_if rfl (inr_ti _) (fun c => ?_) (fun c => ?_)
    · replace h := h.1 c
      refine l1 (n := 1) rfl rfl rfl rfl ?_
      exact H_A_join_191 hS hR  h
    · replace h := h.2 c
      refine l1 (n := 1) rfl rfl rfl rfl ?_
      refine l3 rfl rfl rfl ?_
      exact H_A_join_191 hS hR  h
  by_cases e56 : v0 = 56
  · refine l_sw e56 rfl rfl rfl ?_
    refine l1 (n := 1) rfl rfl rfl (ll_of a1) ?_
    refine l1 (n := 1) rfl rfl rfl (ll_of a3) ?_
    refine l_op (T := (lg_cmp v1 v3)) rfl rfl rfl ?_
    refine l_if rfl (inr_ti _) (fun c => ?_) (fun c => ?_)
    · replace h := h.1 c
      refine l1 (n := 1) rfl rfl rfl rfl ?_
      exact H_A_join_191 hS hR  h
    · replace h := h.2 c
      refine l1 (n := 1) rfl rfl rfl rfl ?_
      refine l3 rfl rfl rfl ?_
      exact H_A_join_191 hS hR  h
  by_cases e57 : v0 = 57
  · refine l_sw e57 rfl rfl rfl ?_
    refine l1 (n := 1) rfl rfl rfl (ll_of a1) ?_
    refine l1 (n := 1) rfl rfl rfl (ll_of a3) ?_
    refine l_op (T := (lg_cmp v1 v3)) rfl rfl rfl ?_
    refine l_if rfl (inr_ti _) (fun c => ?_) (fun c => ?_)
    · replace h := h.1 c
      refine l1 (n := 1) rfl rfl rfl rfl ?_
      exact H_A_join_191 hS hR  h
    · replace h := h.2 c
      refine l1 (n := 1) rfl rfl rfl rfl ?_
      refine l3 rfl rfl rfl ?_
      exact H_A_join_191 hS hR  h
  by_cases e58 : v0 = 58
  · refine l_sw e58 rfl rfl rfl ?_
    refine l1 (n := 1) rfl rfl rfl (ll_of a1) ?_
    refine l1 (n := 1) rfl rfl rfl (ll_of a3) ?_
    refine l_op (T := (lg_cmp v1 v3)) rfl rfl rfl ?_
    refine l_if rfl (inr_ti _) (fun c => ?_) (fun c => ?_)
    · replace h := h.1 c
      refine l1 (n := 1) rfl rfl rfl rfl ?_
      exact H_A_join_191 hS hR  h
    · replace h := h.2 c
      refine l1 (n := 1) rfl rfl rfl rfl ?_
      refine l3 rfl rfl rfl ?_
      exact H_A_join_191 hS hR  h
  by_cases e59 : v0 = 59
  · refine l_sw e59 rfl rfl rfl ?_
    refine l1 (n := 1) rfl rfl rfl (ll_of a1) ?_
    refine l1 (n := 1) rfl rfl rfl (ll_of a3) ?_
    refine l_op (T := (lg_cmp v1 v3)) rfl rfl rfl ?_
    refine l_if rfl (inr_ti _) (fun c => ?_) (fun c => ?_)
    · replace h := h.1 c
      refine l1 (n := 1) rfl rfl rfl rfl ?_
      exact H_A_join_191 hS hR  h
    · replace h := h.2 c
      refine l1 (n := 1) rfl rfl rfl rfl ?_
      refine l3 rfl rfl rfl ?_
      exact H_A_join_191 hS hR  h
  refine l_swt (a := v0) rfl ia (by omega) ?_
  refine l1 (n := 1) rfl rfl rfl (ll_of a1) ?_
  refine l1 (n := 1) rfl rfl rfl (ll_of a3) ?_
  refine l_op (T := (lg_cmp v1 v3)) rfl rfl rfl ?_
  refine l_if rfl (inr_ti _) (fun c => ?_) (fun c => ?_)
  · replace h := h.1 c
    refine l1 (n := 1) rfl rfl rfl rfl ?_
    exact H_A_join_191 hS hR  h
  · replace h := h.2 c
    refine l1 (n := 1) rfl rfl rfl rfl ?_
    refine l3 rfl rfl rfl ?_
    exact H_A_join_191 hS hR  h
