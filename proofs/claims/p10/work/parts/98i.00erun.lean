/-! the program's runs as formulas, for lx (printed by wip/tools/vl.py) -/
def e_M_isCell_15 (s0 : Int) (M : rf_M) (K : Int → rf_M → Prop) : Prop := (s0 = 0 ∨ s0 = 1) ∧ K s0 M
theorem E_M_isCell_15 {fz : Bool} {S : gS} {B : rf_M} {M : rf_M} {ls : rf_L} {n0 : Nat} {s0 : Int} {K : Int → rf_M → Prop} (hS : rl S) (hR : fl 22 353 B M) (is0 : inr s0) (h : e_M_isCell_15 s0 M K) : lx (cx0 fz) n0 52 15 ls [zv s0] (M, S) (vl_i 22 353 B S K) := by
  unfold e_M_isCell_15 at h
  exact l_rb rfl rfl h.1 hR h.2
def e_M_isCell_14 (M : rf_M) (K : Int → rf_M → Prop) : Prop := e_M_isCell_15 0 M K
theorem E_M_isCell_14 {fz : Bool} {S : gS} {B : rf_M} {M : rf_M} {ls : rf_L} {n0 : Nat} {K : Int → rf_M → Prop} (hS : rl S) (hR : fl 22 353 B M) (h : e_M_isCell_14 M K) : lx (cx0 fz) n0 52 14 ls [] (M, S) (vl_i 22 353 B S K) := by
  unfold e_M_isCell_14 at h
  refine l1 (n := 1) rfl rfl rfl rfl ?_
  exact E_M_isCell_15 hS hR ⟨by decide, by decide⟩ h
def e_M_isCell (v0 : Int) (M : rf_M) (K : Int → rf_M → Prop) : Prop := (v0 < 0 → (e_M_isCell_14 M K)) ∧ (¬ (v0 < 0) → ((16 ≤ v0 → (e_M_isCell_14 M K)) ∧ (¬ (16 ≤ v0) → (e_M_isCell_15 1 M K))))
theorem E_M_isCell {fz : Bool} {S : gS} {B : rf_M} {M : rf_M} {ls : rf_L} {n0 : Nat} {v0 : Int} {K : Int → rf_M → Prop} (hS : rl S) (hR : fl 22 353 B M) (iv0 : inr v0) (a0 : rf_ld ls 0 = some (zv v0)) (h : e_M_isCell v0 M K) : lx (cx0 fz) n0 52 0 ls [] (M, S) (vl_i 22 353 B S K) := by
  unfold e_M_isCell at h
  refine l1 (n := 1) rfl rfl rfl (li_of a0) ?_
  refine l_if rfl iv0 (fun c => ?_) (fun c => ?_)
  · replace h := h.1 c
    exact E_M_isCell_14 hS hR  h
  · replace h := h.2 c
    refine l1 (n := 1) rfl rfl rfl (li_of a0) ?_
    refine l_bi rfl (by decide) ?_
    refine l_ic rfl iv0 ⟨by decide, by decide⟩ (fun c => ?_) (fun c => ?_)
    · replace h := h.1 c
      exact E_M_isCell_14 hS hR  h
    · replace h := h.2 c
      refine l1 (n := 1) rfl rfl rfl rfl ?_
      refine l3 rfl rfl rfl ?_
      exact E_M_isCell_15 hS hR ⟨by decide, by decide⟩ h
def em_M_isCell (x0 : Int) (M : rf_M) (K : Int → rf_M → Prop) : Prop := e_M_isCell x0 M K
theorem E_M_isCell_m {fz : Bool} {S : gS} {B : rf_M} {M : rf_M} {n0 : Nat} {x0 : Int} {K : Int → rf_M → Prop} (hS : rl S) (hR : fl 22 353 B M) (ix0 : inr x0) (h : em_M_isCell x0 M K) : lx (cx0 fz) n0 52 0 (lv_args 0 [zv x0]) [] (M, S) (vl_i 22 353 B S K) :=
  E_M_isCell hS hR ix0 rfl h
def e_J_isFull_15 (s0 : Int) (M : rf_M) (K : Int → rf_M → Prop) : Prop := (s0 = 0 ∨ s0 = 1) ∧ K s0 M
def e_J_isFull (M : rf_M) (K : Int → rf_M → Prop) : Prop := ((gi M 324 0) < 300 → (e_J_isFull_15 0 M K)) ∧ (¬ ((gi M 324 0) < 300) → (e_J_isFull_15 1 M K))
def em_J_isFull (M : rf_M) (K : Int → rf_M → Prop) : Prop := e_J_isFull  M K
def e_P_has_17 (s0 : Int) (M : rf_M) (K : Int → rf_M → Prop) : Prop := (s0 = 0 ∨ s0 = 1) ∧ K s0 M
theorem E_P_has_17 {fz : Bool} {S : gS} {B : rf_M} {M : rf_M} {ls : rf_L} {n0 : Nat} {s0 : Int} {K : Int → rf_M → Prop} (hS : rl S) (hR : fl 22 353 B M) (is0 : inr s0) (h : e_P_has_17 s0 M K) : lx (cx0 fz) n0 64 17 ls [zv s0] (M, S) (vl_i 22 353 B S K) := by
  unfold e_P_has_17 at h
  exact l_rb rfl rfl h.1 hR h.2
def e_P_has_16 (M : rf_M) (K : Int → rf_M → Prop) : Prop := e_P_has_17 0 M K
theorem E_P_has_16 {fz : Bool} {S : gS} {B : rf_M} {M : rf_M} {ls : rf_L} {n0 : Nat} {K : Int → rf_M → Prop} (hS : rl S) (hR : fl 22 353 B M) (h : e_P_has_16 M K) : lx (cx0 fz) n0 64 16 ls [] (M, S) (vl_i 22 353 B S K) := by
  unfold e_P_has_16 at h
  refine l1 (n := 1) rfl rfl rfl rfl ?_
  exact E_P_has_17 hS hR ⟨by decide, by decide⟩ h
def e_P_has (v0 : Nat) (v1 : Int) (M : rf_M) (K : Int → rf_M → Prop) : Prop := (v1 < 0 → (e_P_has_16 M K)) ∧ (¬ (v1 < 0) → (((gi M v0 0) ≤ v1 → (e_P_has_16 M K)) ∧ (¬ ((gi M v0 0) ≤ v1) → (e_P_has_17 1 M K))))
theorem E_P_has {fz : Bool} {S : gS} {B : rf_M} {M : rf_M} {ls : rf_L} {n0 : Nat} {v0 : Nat} {v1 : Int} {K : Int → rf_M → Prop} (hS : rl S) (hR : fl 22 353 B M) (mv0 : v0 ∈ k1) (iv1 : inr v1) (a0 : rf_ld ls 0 = some (.ref v0)) (a1 : rf_ld ls 1 = some (zv v1)) (h : e_P_has v0 v1 M K) : lx (cx0 fz) n0 64 0 ls [] (M, S) (vl_i 22 353 B S K) := by
  unfold e_P_has at h
  refine l1 (n := 1) rfl rfl rfl (li_of a1) ?_
  refine l_if rfl iv1 (fun c => ?_) (fun c => ?_)
  · replace h := h.1 c
    exact E_P_has_16 hS hR  h
  · replace h := h.2 c
    refine l1 (n := 1) rfl rfl rfl (li_of a1) ?_
    refine l1 (n := 1) rfl rfl rfl (la_of a0) ?_
    refine l_gi rfl (ko_1 hS mv0) rfl (fun _ => rfl) ?_
    refine l_ic rfl iv1 (inr_gi _ _ _) (fun c => ?_) (fun c => ?_)
    · replace h := h.1 c
      exact E_P_has_16 hS hR  h
    · replace h := h.2 c
      refine l1 (n := 1) rfl rfl rfl rfl ?_
      refine l3 rfl rfl rfl ?_
      exact E_P_has_17 hS hR ⟨by decide, by decide⟩ h
def em_P_has (x0 : Nat) (x1 : Int) (M : rf_M) (K : Int → rf_M → Prop) : Prop := e_P_has x0 x1 M K
theorem E_P_has_m {fz : Bool} {S : gS} {B : rf_M} {M : rf_M} {n0 : Nat} {x0 : Nat} {x1 : Int} {K : Int → rf_M → Prop} (hS : rl S) (hR : fl 22 353 B M) (mx0 : x0 ∈ k1) (ix1 : inr x1) (h : em_P_has x0 x1 M K) : lx (cx0 fz) n0 64 0 (lv_args 0 [.ref x0, zv x1]) [] (M, S) (vl_i 22 353 B S K) :=
  E_P_has hS hR mx0 ix1 rfl rfl h
def e_A_push_29 (M : rf_M) (K : rf_M → Prop) : Prop := K M
theorem E_A_push_29 {fz : Bool} {S : gS} {B : rf_M} {M : rf_M} {ls : rf_L} {n0 : Nat} {K : rf_M → Prop} (hS : rl S) (hR : fl 22 353 B M) (h : e_A_push_29 M K) : lx (cx0 fz) n0 66 29 ls [] (M, S) (vl_v 22 353 B S K) := by
  unfold e_A_push_29 at h
  exact l_rv rfl rfl hR h
def e_A_push (v0 : Nat) (v1 : Int64) (M : rf_M) (K : rf_M → Prop) : Prop := (60 ≤ (gi M v0 1) → (e_A_push_29 M K)) ∧ (¬ (60 ≤ (gi M v0 1)) → ((0 ≤ (gi M v0 1) ∧ (gi M v0 1) < 60 → (∀ M1 : rf_M, M1 = wl M (v0 + 1) (gi M v0 1).toNat v1 → (∀ M2 : rf_M, M2 = wi M1 v0 1 ((gi M1 v0 1) + 1) → (e_A_push_29 M2 K))))))
theorem E_A_push {fz : Bool} {S : gS} {B : rf_M} {M : rf_M} {ls : rf_L} {n0 : Nat} {v0 : Nat} {v1 : Int64} {K : rf_M → Prop} (hS : rl S) (hR : fl 22 353 B M) (mv0 : v0 ∈ k5) (a0 : rf_ld ls 0 = some (.ref v0)) (a1 : rf_ld ls 1 = some (.long v1)) (h : e_A_push v0 v1 M K) : lx (cx0 fz) n0 66 0 ls [] (M, S) (vl_v 22 353 B S K) := by
  unfold e_A_push at h
  refine l1 (n := 1) rfl rfl rfl (la_of a0) ?_
  refine l_gi rfl (ko_5 hS mv0) rfl (fun _ => rfl) ?_
  refine l_bi rfl (by decide) ?_
  refine l_ic rfl (inr_gi _ _ _) ⟨by decide, by decide⟩ (fun c => ?_) (fun c => ?_)
  · replace h := h.1 c
    exact E_A_push_29 hS hR  h
  · replace h := h.2 c
    refine l1 (n := 1) rfl rfl rfl (la_of a0) ?_
    refine l_gr rfl (ko_5 hS mv0) rfl (fun _ => rfl) (kf_5_0 hR.2 mv0) ?_
    refine l1 (n := 1) rfl rfl rfl (la_of a0) ?_
    refine l_gi rfl (ko_5 hS mv0) rfl (fun _ => rfl) ?_
    refine l1 (n := 1) rfl rfl rfl (ll_of a1) ?_
    refine b_ls rfl (kt_5_0 (fz := fz) hS mv0).1 (Nat.le_of_ble_eq_true rfl) (inr_gi _ _ _) (fun q M1 e => ?_)
    replace h := h q M1 e
    have r1 := hR.wl (kt_5_0 (fz := fz) hS mv0).1.1 (kt_5_0 (fz := fz) hS mv0).2 e
    refine l1 (n := 1) rfl rfl rfl (la_of a0) ?_
    refine l0 rfl rfl rfl ?_
    refine l_gi rfl (ko_5 hS mv0) rfl (fun _ => rfl) ?_
    refine l1 (n := 1) rfl rfl rfl rfl ?_
    refine l_add rfl ?_
    refine l_pi rfl (ko_5 (fz := fz) hS mv0) rfl (fun _ _ => rfl) (fun M2 e => ?_)
    replace h := h M2 e
    have r2 := r1.wi (ko_5 (fz := fz) hS mv0).1 (kl_5 mv0) e
    exact E_A_push_29 hS r2  h
def em_A_push (x0 : Nat) (x1 : Int64) (M : rf_M) (K : rf_M → Prop) : Prop := e_A_push x0 x1 M K
theorem E_A_push_m {fz : Bool} {S : gS} {B : rf_M} {M : rf_M} {n0 : Nat} {x0 : Nat} {x1 : Int64} {K : rf_M → Prop} (hS : rl S) (hR : fl 22 353 B M) (mx0 : x0 ∈ k5) (h : em_A_push x0 x1 M K) : lx (cx0 fz) n0 66 0 (lv_args 0 [.ref x0, .long x1]) [] (M, S) (vl_v 22 353 B S K) :=
  E_A_push hS hR mx0 rfl rfl h
def e_S_find_21 (s0 : Nat) (s1 : Int64) (M : rf_M) (K : Int → rf_M → Prop) : Prop := ∀ M1 : rf_M, M1 = wl M s0 7 s1 → (K 1 M1)
theorem E_S_find_21 {fz : Bool} {S : gS} {B : rf_M} {M : rf_M} {ls : rf_L} {n0 : Nat} {s0 : Nat} {s1 : Int64} {K : Int → rf_M → Prop} (hS : rl S) (hR : fl 22 353 B M) (ms0 : s0 ∈ k4) (h : e_S_find_21 s0 s1 M K) : lx (cx0 fz) n0 73 21 ls [.long s1, .ref s0] (M, S) (vl_i 22 353 B S K) := by
  unfold e_S_find_21 at h
  refine l_pl rfl (ko_4 (fz := fz) hS ms0) rfl (fun _ _ => rfl) (fun M1 e => ?_)
  replace h := h M1 e
  have r1 := hR.wl (ko_4 (fz := fz) hS ms0).1 (kl_4 ms0) e
  refine l1 (n := 1) rfl rfl rfl rfl ?_
  exact l_rb rfl rfl (Or.inr rfl) r1 h
def e_S_find_20 (s0 : Nat) (M : rf_M) (K : Int → rf_M → Prop) : Prop := e_S_find_21 s0 (Int64.ofNat 0) M K
theorem E_S_find_20 {fz : Bool} {S : gS} {B : rf_M} {M : rf_M} {ls : rf_L} {n0 : Nat} {s0 : Nat} {K : Int → rf_M → Prop} (hS : rl S) (hR : fl 22 353 B M) (ms0 : s0 ∈ k4) (h : e_S_find_20 s0 M K) : lx (cx0 fz) n0 73 20 ls [.ref s0] (M, S) (vl_i 22 353 B S K) := by
  unfold e_S_find_20 at h
  refine l1 (n := 1) rfl rfl rfl rfl ?_
  exact E_S_find_21 hS hR ms0 h
def e_S_find (v0 : Nat) (v1 : Int) (M : rf_M) (K : Int → rf_M → Prop) : Prop := (v1 < 0 → (e_S_find_20 v0 M K)) ∧ (¬ (v1 < 0) → ((16 ≤ v1 → (e_S_find_20 v0 M K)) ∧ (¬ (16 ≤ v1) → ((0 ≤ v1 ∧ v1 < 16 → (e_S_find_21 v0 (gl M (v0 + 5) (v1).toNat) M K))))))
theorem E_S_find {fz : Bool} {S : gS} {B : rf_M} {M : rf_M} {ls : rf_L} {n0 : Nat} {v0 : Nat} {v1 : Int} {K : Int → rf_M → Prop} (hS : rl S) (hR : fl 22 353 B M) (mv0 : v0 ∈ k4) (iv1 : inr v1) (a0 : rf_ld ls 0 = some (.ref v0)) (a1 : rf_ld ls 1 = some (zv v1)) (h : e_S_find v0 v1 M K) : lx (cx0 fz) n0 73 0 ls [] (M, S) (vl_i 22 353 B S K) := by
  unfold e_S_find at h
  refine l1 (n := 1) rfl rfl rfl (la_of a0) ?_
  refine l1 (n := 1) rfl rfl rfl (li_of a1) ?_
  refine l_if rfl iv1 (fun c => ?_) (fun c => ?_)
  · replace h := h.1 c
    exact E_S_find_20 hS hR mv0 h
  · replace h := h.2 c
    refine l1 (n := 1) rfl rfl rfl (li_of a1) ?_
    refine l_bi rfl (by decide) ?_
    refine l_ic rfl iv1 ⟨by decide, by decide⟩ (fun c => ?_) (fun c => ?_)
    · replace h := h.1 c
      exact E_S_find_20 hS hR mv0 h
    · replace h := h.2 c
      refine l1 (n := 1) rfl rfl rfl (la_of a0) ?_
      refine l_gr rfl (ko_4 hS mv0) rfl (fun _ => rfl) (kf_4_5 hR.2 mv0) ?_
      refine l1 (n := 1) rfl rfl rfl (li_of a1) ?_
      refine b_la rfl (kt_4_5 (fz := fz) hS mv0).1 (Nat.le_of_ble_eq_true rfl) iv1 (fun q => ?_)
      replace h := h q
      refine l3 rfl rfl rfl ?_
      exact E_S_find_21 hS hR mv0 h
def em_S_find (x0 : Nat) (x1 : Int) (M : rf_M) (K : Int → rf_M → Prop) : Prop := e_S_find x0 x1 M K
theorem E_S_find_m {fz : Bool} {S : gS} {B : rf_M} {M : rf_M} {n0 : Nat} {x0 : Nat} {x1 : Int} {K : Int → rf_M → Prop} (hS : rl S) (hR : fl 22 353 B M) (mx0 : x0 ∈ k4) (ix1 : inr x1) (h : em_S_find x0 x1 M K) : lx (cx0 fz) n0 73 0 (lv_args 0 [.ref x0, zv x1]) [] (M, S) (vl_i 22 353 B S K) :=
  E_S_find hS hR mx0 ix1 rfl rfl h
def e_A_pop (v0 : Nat) (M : rf_M) (K : Int64 → rf_M → Prop) : Prop := (0 < (gi M v0 1) → (∀ M1 : rf_M, M1 = wi M v0 1 ((gi M v0 1) - 1) → ((0 ≤ (gi M1 v0 1) ∧ (gi M1 v0 1) < 60 → (K (gl M1 (v0 + 1) (gi M1 v0 1).toNat) M1))))) ∧ (¬ (0 < (gi M v0 1)) → (K (Int64.ofNat 0) M))
theorem E_A_pop {fz : Bool} {S : gS} {B : rf_M} {M : rf_M} {ls : rf_L} {n0 : Nat} {v0 : Nat} {K : Int64 → rf_M → Prop} (hS : rl S) (hR : fl 22 353 B M) (mv0 : v0 ∈ k5) (a0 : rf_ld ls 0 = some (.ref v0)) (h : e_A_pop v0 M K) : lx (cx0 fz) n0 74 0 ls [] (M, S) (vl_l 22 353 B S K) := by
  unfold e_A_pop at h
  refine l1 (n := 1) rfl rfl rfl (la_of a0) ?_
  refine l_gi rfl (ko_5 hS mv0) rfl (fun _ => rfl) ?_
  refine l_if rfl (inr_gi _ _ _) (fun c => ?_) (fun c => ?_)
  · replace h := h.1 c
    refine l1 (n := 1) rfl rfl rfl (la_of a0) ?_
    refine l0 rfl rfl rfl ?_
    refine l_gi rfl (ko_5 hS mv0) rfl (fun _ => rfl) ?_
    refine l1 (n := 1) rfl rfl rfl rfl ?_
    refine l_sub rfl ?_
    refine l_pi rfl (ko_5 (fz := fz) hS mv0) rfl (fun _ _ => rfl) (fun M1 e => ?_)
    replace h := h M1 e
    have r1 := hR.wi (ko_5 (fz := fz) hS mv0).1 (kl_5 mv0) e
    refine l1 (n := 1) rfl rfl rfl (la_of a0) ?_
    refine l_gr rfl (ko_5 hS mv0) rfl (fun _ => rfl) (kf_5_0 r1.2 mv0) ?_
    refine l1 (n := 1) rfl rfl rfl (la_of a0) ?_
    refine l_gi rfl (ko_5 hS mv0) rfl (fun _ => rfl) ?_
    refine b_la rfl (kt_5_0 (fz := fz) hS mv0).1 (Nat.le_of_ble_eq_true rfl) (inr_gi _ _ _) (fun q => ?_)
    replace h := h q
    exact l_rl rfl rfl r1 h
  · replace h := h.2 c
    refine l1 (n := 1) rfl rfl rfl rfl ?_
    exact l_rl rfl rfl hR h
def em_A_pop (x0 : Nat) (M : rf_M) (K : Int64 → rf_M → Prop) : Prop := e_A_pop x0 M K
theorem E_A_pop_m {fz : Bool} {S : gS} {B : rf_M} {M : rf_M} {n0 : Nat} {x0 : Nat} {K : Int64 → rf_M → Prop} (hS : rl S) (hR : fl 22 353 B M) (mx0 : x0 ∈ k5) (h : em_A_pop x0 M K) : lx (cx0 fz) n0 74 0 (lv_args 0 [.ref x0]) [] (M, S) (vl_l 22 353 B S K) :=
  E_A_pop hS hR mx0 rfl h
def e_A_join_179 (s0 : Int64) (M : rf_M) (K : Int64 → rf_M → Prop) : Prop := K s0 M
theorem E_A_join_179 {fz : Bool} {S : gS} {B : rf_M} {M : rf_M} {ls : rf_L} {n0 : Nat} {s0 : Int64} {K : Int64 → rf_M → Prop} (hS : rl S) (hR : fl 22 353 B M) (h : e_A_join_179 s0 M K) : lx (cx0 fz) n0 75 179 ls [.long s0] (M, S) (vl_l 22 353 B S K) := by
  unfold e_A_join_179 at h
  exact l_rl rfl rfl hR h
def e_A_join_167 (s0 : Int64) (M : rf_M) (K : Int64 → rf_M → Prop) : Prop := K s0 M
theorem E_A_join_167 {fz : Bool} {S : gS} {B : rf_M} {M : rf_M} {ls : rf_L} {n0 : Nat} {s0 : Int64} {K : Int64 → rf_M → Prop} (hS : rl S) (hR : fl 22 353 B M) (h : e_A_join_167 s0 M K) : lx (cx0 fz) n0 75 167 ls [.long s0] (M, S) (vl_l 22 353 B S K) := by
  unfold e_A_join_167 at h
  exact l_rl rfl rfl hR h
def e_A_join_141 (s0 : Int64) (M : rf_M) (K : Int64 → rf_M → Prop) : Prop := K s0 M
theorem E_A_join_141 {fz : Bool} {S : gS} {B : rf_M} {M : rf_M} {ls : rf_L} {n0 : Nat} {s0 : Int64} {K : Int64 → rf_M → Prop} (hS : rl S) (hR : fl 22 353 B M) (h : e_A_join_141 s0 M K) : lx (cx0 fz) n0 75 141 ls [.long s0] (M, S) (vl_l 22 353 B S K) := by
  unfold e_A_join_141 at h
  exact l_rl rfl rfl hR h
def e_A_join_155 (s0 : Int64) (M : rf_M) (K : Int64 → rf_M → Prop) : Prop := K s0 M
theorem E_A_join_155 {fz : Bool} {S : gS} {B : rf_M} {M : rf_M} {ls : rf_L} {n0 : Nat} {s0 : Int64} {K : Int64 → rf_M → Prop} (hS : rl S) (hR : fl 22 353 B M) (h : e_A_join_155 s0 M K) : lx (cx0 fz) n0 75 155 ls [.long s0] (M, S) (vl_l 22 353 B S K) := by
  unfold e_A_join_155 at h
  exact l_rl rfl rfl hR h
def e_A_join_191 (s0 : Int64) (M : rf_M) (K : Int64 → rf_M → Prop) : Prop := K s0 M
theorem E_A_join_191 {fz : Bool} {S : gS} {B : rf_M} {M : rf_M} {ls : rf_L} {n0 : Nat} {s0 : Int64} {K : Int64 → rf_M → Prop} (hS : rl S) (hR : fl 22 353 B M) (h : e_A_join_191 s0 M K) : lx (cx0 fz) n0 75 191 ls [.long s0] (M, S) (vl_l 22 353 B S K) := by
  unfold e_A_join_191 at h
  exact l_rl rfl rfl hR h
def e_A_join (v0 : Int) (v1 : Int64) (v3 : Int64) (M : rf_M) (K : Int64 → rf_M → Prop) : Prop := (v0 = 37 → (((lg_cmp v3 (Int64.ofNat 0)).toInt = 0 → (e_A_join_155 (Int64.ofNat 0) M K)) ∧ (¬ (lg_cmp v3 (Int64.ofNat 0)).toInt = 0 → ((¬ v3 = 0 → (e_A_join_155 (v1 - v1 / v3 * v3) M K)))))) ∧ (v0 = 42 → (K (v1 * v3) M)) ∧ (v0 = 43 → (K (v1 + v3) M)) ∧ (v0 = 45 → (K (v1 - v3) M)) ∧ (v0 = 47 → (((lg_cmp v3 (Int64.ofNat 0)).toInt = 0 → (e_A_join_141 (Int64.ofNat 0) M K)) ∧ (¬ (lg_cmp v3 (Int64.ofNat 0)).toInt = 0 → ((¬ v3 = 0 → (e_A_join_141 (v1 / v3) M K)))))) ∧ (v0 = 60 → ((0 ≤ (lg_cmp v1 v3).toInt → (e_A_join_167 (Int64.ofNat 0) M K)) ∧ (¬ (0 ≤ (lg_cmp v1 v3).toInt) → (e_A_join_167 (Int64.ofNat 1) M K)))) ∧ (v0 = 61 → (((lg_cmp v1 v3).toInt = 0 → (e_A_join_179 (Int64.ofNat 1) M K)) ∧ (¬ (lg_cmp v1 v3).toInt = 0 → (e_A_join_179 (Int64.ofNat 0) M K)))) ∧ (¬ v0 = 37 ∧ ¬ v0 = 42 ∧ ¬ v0 = 43 ∧ ¬ v0 = 45 ∧ ¬ v0 = 47 ∧ ¬ v0 = 60 ∧ ¬ v0 = 61 → (((lg_cmp v1 v3).toInt = 0 → (e_A_join_191 (Int64.ofNat 0) M K)) ∧ (¬ ((lg_cmp v1 v3).toInt = 0) → (e_A_join_191 (Int64.ofNat 1) M K))))
theorem E_A_join {fz : Bool} {S : gS} {B : rf_M} {M : rf_M} {ls : rf_L} {n0 : Nat} {v0 : Int} {v1 : Int64} {v3 : Int64} {K : Int64 → rf_M → Prop} (hS : rl S) (hR : fl 22 353 B M) (iv0 : inr v0) (a0 : rf_ld ls 0 = some (zv v0)) (a1 : rf_ld ls 1 = some (.long v1)) (a3 : rf_ld ls 3 = some (.long v3)) (h : e_A_join v0 v1 v3 M K) : lx (cx0 fz) n0 75 0 ls [] (M, S) (vl_l 22 353 B S K) := by
  unfold e_A_join at h
  refine l1 (n := 1) rfl rfl rfl (li_of a0) ?_
  have ia : inr v0 := iv0
  obtain ⟨h1, h⟩ := h
  by_cases e37 : v0 = 37
  · replace h := h1 e37
    refine l_sw e37 rfl rfl rfl ?_
    refine l1 (n := 1) rfl rfl rfl (ll_of a3) ?_
    refine l1 (n := 1) rfl rfl rfl rfl ?_
    refine l_op (T := (lg_cmp v3 (Int64.ofNat 0))) rfl rfl rfl ?_
    refine l_if rfl (inr_ti _) (fun c => ?_) (fun c => ?_)
    · replace h := h.2 c
      refine l1 (n := 1) rfl rfl rfl (ll_of a1) ?_
      refine l1 (n := 1) rfl rfl rfl (ll_of a3) ?_
      refine b_rm rfl (fun q => ?_)
      replace h := h q
      exact E_A_join_155 hS hR  h
    · replace h := h.1 (Classical.not_not.mp c)
      refine l1 (n := 1) rfl rfl rfl rfl ?_
      refine l3 rfl rfl rfl ?_
      exact E_A_join_155 hS hR  h
  obtain ⟨h1, h⟩ := h
  by_cases e42 : v0 = 42
  · replace h := h1 e42
    refine l_sw e42 rfl rfl rfl ?_
    refine l1 (n := 1) rfl rfl rfl (ll_of a1) ?_
    refine l1 (n := 1) rfl rfl rfl (ll_of a3) ?_
    refine l0 rfl rfl rfl ?_
    exact l_rl rfl rfl hR h
  obtain ⟨h1, h⟩ := h
  by_cases e43 : v0 = 43
  · replace h := h1 e43
    refine l_sw e43 rfl rfl rfl ?_
    refine l1 (n := 1) rfl rfl rfl (ll_of a1) ?_
    refine l1 (n := 1) rfl rfl rfl (ll_of a3) ?_
    refine l0 rfl rfl rfl ?_
    exact l_rl rfl rfl hR h
  obtain ⟨h1, h⟩ := h
  by_cases e45 : v0 = 45
  · replace h := h1 e45
    refine l_sw e45 rfl rfl rfl ?_
    refine l1 (n := 1) rfl rfl rfl (ll_of a1) ?_
    refine l1 (n := 1) rfl rfl rfl (ll_of a3) ?_
    refine l0 rfl rfl rfl ?_
    exact l_rl rfl rfl hR h
  obtain ⟨h1, h⟩ := h
  by_cases e47 : v0 = 47
  · replace h := h1 e47
    refine l_sw e47 rfl rfl rfl ?_
    refine l1 (n := 1) rfl rfl rfl (ll_of a3) ?_
    refine l1 (n := 1) rfl rfl rfl rfl ?_
    refine l_op (T := (lg_cmp v3 (Int64.ofNat 0))) rfl rfl rfl ?_
    refine l_if rfl (inr_ti _) (fun c => ?_) (fun c => ?_)
    · replace h := h.2 c
      refine l1 (n := 1) rfl rfl rfl (ll_of a1) ?_
      refine l1 (n := 1) rfl rfl rfl (ll_of a3) ?_
      refine b_dv rfl (fun q => ?_)
      replace h := h q
      exact E_A_join_141 hS hR  h
    · replace h := h.1 (Classical.not_not.mp c)
      refine l1 (n := 1) rfl rfl rfl rfl ?_
      refine l3 rfl rfl rfl ?_
      exact E_A_join_141 hS hR  h
  obtain ⟨h1, h⟩ := h
  by_cases e60 : v0 = 60
  · replace h := h1 e60
    refine l_sw e60 rfl rfl rfl ?_
    refine l1 (n := 1) rfl rfl rfl (ll_of a1) ?_
    refine l1 (n := 1) rfl rfl rfl (ll_of a3) ?_
    refine l_op (T := (lg_cmp v1 v3)) rfl rfl rfl ?_
    refine l_if rfl (inr_ti _) (fun c => ?_) (fun c => ?_)
    · replace h := h.1 c
      refine l1 (n := 1) rfl rfl rfl rfl ?_
      exact E_A_join_167 hS hR  h
    · replace h := h.2 c
      refine l1 (n := 1) rfl rfl rfl rfl ?_
      refine l3 rfl rfl rfl ?_
      exact E_A_join_167 hS hR  h
  obtain ⟨h1, h⟩ := h
  by_cases e61 : v0 = 61
  · replace h := h1 e61
    refine l_sw e61 rfl rfl rfl ?_
    refine l1 (n := 1) rfl rfl rfl (ll_of a1) ?_
    refine l1 (n := 1) rfl rfl rfl (ll_of a3) ?_
    refine l_op (T := (lg_cmp v1 v3)) rfl rfl rfl ?_
    refine l_if rfl (inr_ti _) (fun c => ?_) (fun c => ?_)
    · replace h := h.2 c
      refine l1 (n := 1) rfl rfl rfl rfl ?_
      exact E_A_join_179 hS hR  h
    · replace h := h.1 (Classical.not_not.mp c)
      refine l1 (n := 1) rfl rfl rfl rfl ?_
      refine l3 rfl rfl rfl ?_
      exact E_A_join_179 hS hR  h
  replace h := h ⟨e37, e42, e43, e45, e47, e60, e61⟩
  by_cases e38 : v0 = 38
  · refine l_sw e38 rfl rfl rfl ?_
    refine l1 (n := 1) rfl rfl rfl (ll_of a1) ?_
    refine l1 (n := 1) rfl rfl rfl (ll_of a3) ?_
    refine l_op (T := (lg_cmp v1 v3)) rfl rfl rfl ?_
    refine l_if rfl (inr_ti _) (fun c => ?_) (fun c => ?_)
    · replace h := h.1 c
      refine l1 (n := 1) rfl rfl rfl rfl ?_
      exact E_A_join_191 hS hR  h
    · replace h := h.2 c
      refine l1 (n := 1) rfl rfl rfl rfl ?_
      refine l3 rfl rfl rfl ?_
      exact E_A_join_191 hS hR  h
  by_cases e39 : v0 = 39
  · refine l_sw e39 rfl rfl rfl ?_
    refine l1 (n := 1) rfl rfl rfl (ll_of a1) ?_
    refine l1 (n := 1) rfl rfl rfl (ll_of a3) ?_
    refine l_op (T := (lg_cmp v1 v3)) rfl rfl rfl ?_
    refine l_if rfl (inr_ti _) (fun c => ?_) (fun c => ?_)
    · replace h := h.1 c
      refine l1 (n := 1) rfl rfl rfl rfl ?_
      exact E_A_join_191 hS hR  h
    · replace h := h.2 c
      refine l1 (n := 1) rfl rfl rfl rfl ?_
      refine l3 rfl rfl rfl ?_
      exact E_A_join_191 hS hR  h
  by_cases e40 : v0 = 40
  · refine l_sw e40 rfl rfl rfl ?_
    refine l1 (n := 1) rfl rfl rfl (ll_of a1) ?_
    refine l1 (n := 1) rfl rfl rfl (ll_of a3) ?_
    refine l_op (T := (lg_cmp v1 v3)) rfl rfl rfl ?_
    refine l_if rfl (inr_ti _) (fun c => ?_) (fun c => ?_)
    · replace h := h.1 c
      refine l1 (n := 1) rfl rfl rfl rfl ?_
      exact E_A_join_191 hS hR  h
    · replace h := h.2 c
      refine l1 (n := 1) rfl rfl rfl rfl ?_
      refine l3 rfl rfl rfl ?_
      exact E_A_join_191 hS hR  h
  by_cases e41 : v0 = 41
  · refine l_sw e41 rfl rfl rfl ?_
    refine l1 (n := 1) rfl rfl rfl (ll_of a1) ?_
    refine l1 (n := 1) rfl rfl rfl (ll_of a3) ?_
    refine l_op (T := (lg_cmp v1 v3)) rfl rfl rfl ?_
    refine l_if rfl (inr_ti _) (fun c => ?_) (fun c => ?_)
    · replace h := h.1 c
      refine l1 (n := 1) rfl rfl rfl rfl ?_
      exact E_A_join_191 hS hR  h
    · replace h := h.2 c
      refine l1 (n := 1) rfl rfl rfl rfl ?_
      refine l3 rfl rfl rfl ?_
      exact E_A_join_191 hS hR  h
  by_cases e44 : v0 = 44
  · refine l_sw e44 rfl rfl rfl ?_
    refine l1 (n := 1) rfl rfl rfl (ll_of a1) ?_
    refine l1 (n := 1) rfl rfl rfl (ll_of a3) ?_
    refine l_op (T := (lg_cmp v1 v3)) rfl rfl rfl ?_
    refine l_if rfl (inr_ti _) (fun c => ?_) (fun c => ?_)
    · replace h := h.1 c
      refine l1 (n := 1) rfl rfl rfl rfl ?_
      exact E_A_join_191 hS hR  h
    · replace h := h.2 c
      refine l1 (n := 1) rfl rfl rfl rfl ?_
      refine l3 rfl rfl rfl ?_
      exact E_A_join_191 hS hR  h
  by_cases e46 : v0 = 46
  · refine l_sw e46 rfl rfl rfl ?_
    refine l1 (n := 1) rfl rfl rfl (ll_of a1) ?_
    refine l1 (n := 1) rfl rfl rfl (ll_of a3) ?_
    refine l_op (T := (lg_cmp v1 v3)) rfl rfl rfl ?_
    refine l_if rfl (inr_ti _) (fun c => ?_) (fun c => ?_)
    · replace h := h.1 c
      refine l1 (n := 1) rfl rfl rfl rfl ?_
      exact E_A_join_191 hS hR  h
    · replace h := h.2 c
      refine l1 (n := 1) rfl rfl rfl rfl ?_
      refine l3 rfl rfl rfl ?_
      exact E_A_join_191 hS hR  h
  by_cases e48 : v0 = 48
  · refine l_sw e48 rfl rfl rfl ?_
    refine l1 (n := 1) rfl rfl rfl (ll_of a1) ?_
    refine l1 (n := 1) rfl rfl rfl (ll_of a3) ?_
    refine l_op (T := (lg_cmp v1 v3)) rfl rfl rfl ?_
    refine l_if rfl (inr_ti _) (fun c => ?_) (fun c => ?_)
    · replace h := h.1 c
      refine l1 (n := 1) rfl rfl rfl rfl ?_
      exact E_A_join_191 hS hR  h
    · replace h := h.2 c
      refine l1 (n := 1) rfl rfl rfl rfl ?_
      refine l3 rfl rfl rfl ?_
      exact E_A_join_191 hS hR  h
  by_cases e49 : v0 = 49
  · refine l_sw e49 rfl rfl rfl ?_
    refine l1 (n := 1) rfl rfl rfl (ll_of a1) ?_
    refine l1 (n := 1) rfl rfl rfl (ll_of a3) ?_
    refine l_op (T := (lg_cmp v1 v3)) rfl rfl rfl ?_
    refine l_if rfl (inr_ti _) (fun c => ?_) (fun c => ?_)
    · replace h := h.1 c
      refine l1 (n := 1) rfl rfl rfl rfl ?_
      exact E_A_join_191 hS hR  h
    · replace h := h.2 c
      refine l1 (n := 1) rfl rfl rfl rfl ?_
      refine l3 rfl rfl rfl ?_
      exact E_A_join_191 hS hR  h
  by_cases e50 : v0 = 50
  · refine l_sw e50 rfl rfl rfl ?_
    refine l1 (n := 1) rfl rfl rfl (ll_of a1) ?_
    refine l1 (n := 1) rfl rfl rfl (ll_of a3) ?_
    refine l_op (T := (lg_cmp v1 v3)) rfl rfl rfl ?_
    refine l_if rfl (inr_ti _) (fun c => ?_) (fun c => ?_)
    · replace h := h.1 c
      refine l1 (n := 1) rfl rfl rfl rfl ?_
      exact E_A_join_191 hS hR  h
    · replace h := h.2 c
      refine l1 (n := 1) rfl rfl rfl rfl ?_
      refine l3 rfl rfl rfl ?_
      exact E_A_join_191 hS hR  h
  by_cases e51 : v0 = 51
  · refine l_sw e51 rfl rfl rfl ?_
    refine l1 (n := 1) rfl rfl rfl (ll_of a1) ?_
    refine l1 (n := 1) rfl rfl rfl (ll_of a3) ?_
    refine l_op (T := (lg_cmp v1 v3)) rfl rfl rfl ?_
    refine l_if rfl (inr_ti _) (fun c => ?_) (fun c => ?_)
    · replace h := h.1 c
      refine l1 (n := 1) rfl rfl rfl rfl ?_
      exact E_A_join_191 hS hR  h
    · replace h := h.2 c
      refine l1 (n := 1) rfl rfl rfl rfl ?_
      refine l3 rfl rfl rfl ?_
      exact E_A_join_191 hS hR  h
  by_cases e52 : v0 = 52
  · refine l_sw e52 rfl rfl rfl ?_
    refine l1 (n := 1) rfl rfl rfl (ll_of a1) ?_
    refine l1 (n := 1) rfl rfl rfl (ll_of a3) ?_
    refine l_op (T := (lg_cmp v1 v3)) rfl rfl rfl ?_
    refine l_if rfl (inr_ti _) (fun c => ?_) (fun c => ?_)
    · replace h := h.1 c
      refine l1 (n := 1) rfl rfl rfl rfl ?_
      exact E_A_join_191 hS hR  h
    · replace h := h.2 c
      refine l1 (n := 1) rfl rfl rfl rfl ?_
      refine l3 rfl rfl rfl ?_
      exact E_A_join_191 hS hR  h
  by_cases e53 : v0 = 53
  · refine l_sw e53 rfl rfl rfl ?_
    refine l1 (n := 1) rfl rfl rfl (ll_of a1) ?_
    refine l1 (n := 1) rfl rfl rfl (ll_of a3) ?_
    refine l_op (T := (lg_cmp v1 v3)) rfl rfl rfl ?_
    refine l_if rfl (inr_ti _) (fun c => ?_) (fun c => ?_)
    · replace h := h.1 c
      refine l1 (n := 1) rfl rfl rfl rfl ?_
      exact E_A_join_191 hS hR  h
    · replace h := h.2 c
      refine l1 (n := 1) rfl rfl rfl rfl ?_
      refine l3 rfl rfl rfl ?_
      exact E_A_join_191 hS hR  h
  by_cases e54 : v0 = 54
  · refine l_sw e54 rfl rfl rfl ?_
    refine l1 (n := 1) rfl rfl rfl (ll_of a1) ?_
    refine l1 (n := 1) rfl rfl rfl (ll_of a3) ?_
    refine l_op (T := (lg_cmp v1 v3)) rfl rfl rfl ?_
    refine l_if rfl (inr_ti _) (fun c => ?_) (fun c => ?_)
    · replace h := h.1 c
      refine l1 (n := 1) rfl rfl rfl rfl ?_
      exact E_A_join_191 hS hR  h
    · replace h := h.2 c
      refine l1 (n := 1) rfl rfl rfl rfl ?_
      refine l3 rfl rfl rfl ?_
      exact E_A_join_191 hS hR  h
  by_cases e55 : v0 = 55
  · refine l_sw e55 rfl rfl rfl ?_
    refine l1 (n := 1) rfl rfl rfl (ll_of a1) ?_
    refine l1 (n := 1) rfl rfl rfl (ll_of a3) ?_
    refine l_op (T := (lg_cmp v1 v3)) rfl rfl rfl ?_
    refine l_if rfl (inr_ti _) (fun c => ?_) (fun c => ?_)
    · replace h := h.1 c
      refine l1 (n := 1) rfl rfl rfl rfl ?_
      exact E_A_join_191 hS hR  h
    · replace h := h.2 c
      refine l1 (n := 1) rfl rfl rfl rfl ?_
      refine l3 rfl rfl rfl ?_
      exact E_A_join_191 hS hR  h
  by_cases e56 : v0 = 56
  · refine l_sw e56 rfl rfl rfl ?_
    refine l1 (n := 1) rfl rfl rfl (ll_of a1) ?_
    refine l1 (n := 1) rfl rfl rfl (ll_of a3) ?_
    refine l_op (T := (lg_cmp v1 v3)) rfl rfl rfl ?_
    refine l_if rfl (inr_ti _) (fun c => ?_) (fun c => ?_)
    · replace h := h.1 c
      refine l1 (n := 1) rfl rfl rfl rfl ?_
      exact E_A_join_191 hS hR  h
    · replace h := h.2 c
      refine l1 (n := 1) rfl rfl rfl rfl ?_
      refine l3 rfl rfl rfl ?_
      exact E_A_join_191 hS hR  h
  by_cases e57 : v0 = 57
  · refine l_sw e57 rfl rfl rfl ?_
    refine l1 (n := 1) rfl rfl rfl (ll_of a1) ?_
    refine l1 (n := 1) rfl rfl rfl (ll_of a3) ?_
    refine l_op (T := (lg_cmp v1 v3)) rfl rfl rfl ?_
    refine l_if rfl (inr_ti _) (fun c => ?_) (fun c => ?_)
    · replace h := h.1 c
      refine l1 (n := 1) rfl rfl rfl rfl ?_
      exact E_A_join_191 hS hR  h
    · replace h := h.2 c
      refine l1 (n := 1) rfl rfl rfl rfl ?_
      refine l3 rfl rfl rfl ?_
      exact E_A_join_191 hS hR  h
  by_cases e58 : v0 = 58
  · refine l_sw e58 rfl rfl rfl ?_
    refine l1 (n := 1) rfl rfl rfl (ll_of a1) ?_
    refine l1 (n := 1) rfl rfl rfl (ll_of a3) ?_
    refine l_op (T := (lg_cmp v1 v3)) rfl rfl rfl ?_
    refine l_if rfl (inr_ti _) (fun c => ?_) (fun c => ?_)
    · replace h := h.1 c
      refine l1 (n := 1) rfl rfl rfl rfl ?_
      exact E_A_join_191 hS hR  h
    · replace h := h.2 c
      refine l1 (n := 1) rfl rfl rfl rfl ?_
      refine l3 rfl rfl rfl ?_
      exact E_A_join_191 hS hR  h
  by_cases e59 : v0 = 59
  · refine l_sw e59 rfl rfl rfl ?_
    refine l1 (n := 1) rfl rfl rfl (ll_of a1) ?_
    refine l1 (n := 1) rfl rfl rfl (ll_of a3) ?_
    refine l_op (T := (lg_cmp v1 v3)) rfl rfl rfl ?_
    refine l_if rfl (inr_ti _) (fun c => ?_) (fun c => ?_)
    · replace h := h.1 c
      refine l1 (n := 1) rfl rfl rfl rfl ?_
      exact E_A_join_191 hS hR  h
    · replace h := h.2 c
      refine l1 (n := 1) rfl rfl rfl rfl ?_
      refine l3 rfl rfl rfl ?_
      exact E_A_join_191 hS hR  h
  refine l_swt (a := v0) rfl ia (by omega) ?_
  refine l1 (n := 1) rfl rfl rfl (ll_of a1) ?_
  refine l1 (n := 1) rfl rfl rfl (ll_of a3) ?_
  refine l_op (T := (lg_cmp v1 v3)) rfl rfl rfl ?_
  refine l_if rfl (inr_ti _) (fun c => ?_) (fun c => ?_)
  · replace h := h.1 c
    refine l1 (n := 1) rfl rfl rfl rfl ?_
    exact E_A_join_191 hS hR  h
  · replace h := h.2 c
    refine l1 (n := 1) rfl rfl rfl rfl ?_
    refine l3 rfl rfl rfl ?_
    exact E_A_join_191 hS hR  h
