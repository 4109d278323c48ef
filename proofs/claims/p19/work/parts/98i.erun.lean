/-! the program's runs as formulas, for lx (printed by wip/tools/vl.py) -/
def e_M_isCell_15 (s0 : Int) (M : rf_M) (K : Int → rf_M → Prop) : Prop := (s0 = 0 ∨ s0 = 1) ∧ K s0 M
theorem Z_M_isCell_15 {w fz : Bool} {S : gS} {B : rf_M} {M : rf_M} {ls : rf_L} {n0 : Nat} {s0 : Int} {K : Int → rf_M → Prop} (hS : rl S) (hR : fl 22 (gwH w) B M) (is0 : inr s0) (h : e_M_isCell_15 s0 M K) : lx (cx0 fz) n0 52 15 ls [zv s0] (M, S) (vl_i 22 (gwH w) B S K) := by
  unfold e_M_isCell_15 at h
  exact l_rb rfl rfl h.1 hR h.2
def e_M_isCell_14 (M : rf_M) (K : Int → rf_M → Prop) : Prop := e_M_isCell_15 0 M K
theorem Z_M_isCell_14 {w fz : Bool} {S : gS} {B : rf_M} {M : rf_M} {ls : rf_L} {n0 : Nat} {K : Int → rf_M → Prop} (hS : rl S) (hR : fl 22 (gwH w) B M) (h : e_M_isCell_14 M K) : lx (cx0 fz) n0 52 14 ls [] (M, S) (vl_i 22 (gwH w) B S K) := by
  unfold e_M_isCell_14 at h
  refine l1 (n := 1) rfl rfl rfl rfl ?_
  exact Z_M_isCell_15 hS hR ⟨by decide, by decide⟩ h
def e_M_isCell (v0 : Int) (M : rf_M) (K : Int → rf_M → Prop) : Prop := (v0 < 0 → (e_M_isCell_14 M K)) ∧ (¬ (v0 < 0) → ((16 ≤ v0 → (e_M_isCell_14 M K)) ∧ (¬ (16 ≤ v0) → (e_M_isCell_15 1 M K))))
theorem Z_M_isCell {w fz : Bool} {S : gS} {B : rf_M} {M : rf_M} {ls : rf_L} {n0 : Nat} {v0 : Int} {K : Int → rf_M → Prop} (hS : rl S) (hR : fl 22 (gwH w) B M) (iv0 : inr v0) (a0 : rf_ld ls 0 = some (zv v0)) (h : e_M_isCell v0 M K) : lx (cx0 fz) n0 52 0 ls [] (M, S) (vl_i 22 (gwH w) B S K) := by
  unfold e_M_isCell at h
  refine l1 (n := 1) rfl rfl rfl (li_of a0) ?_
  refine l_if rfl iv0 (fun c => ?_) (fun c => ?_)
  · replace h := h.1 c
    exact Z_M_isCell_14 hS hR  h
  · replace h := h.2 c
    refine l1 (n := 1) rfl rfl rfl (li_of a0) ?_
    refine l_bi rfl (by decide) ?_
    refine l_ic rfl iv0 ⟨by decide, by decide⟩ (fun c => ?_) (fun c => ?_)
    · replace h := h.1 c
      exact Z_M_isCell_14 hS hR  h
    · replace h := h.2 c
      refine l1 (n := 1) rfl rfl rfl rfl ?_
      refine l3 rfl rfl rfl ?_
      exact Z_M_isCell_15 hS hR ⟨by decide, by decide⟩ h
def em_M_isCell (x0 : Int) (M : rf_M) (K : Int → rf_M → Prop) : Prop := e_M_isCell x0 M K
theorem Z_M_isCell_m {w fz : Bool} {S : gS} {B : rf_M} {M : rf_M} {n0 : Nat} {x0 : Int} {K : Int → rf_M → Prop} (hS : rl S) (hR : fl 22 (gwH w) B M) (ix0 : inr x0) (h : em_M_isCell x0 M K) : lx (cx0 fz) n0 52 0 (lv_args 0 [zv x0]) [] (M, S) (vl_i 22 (gwH w) B S K) :=
  Z_M_isCell hS hR ix0 rfl h
theorem E_M_isCell_m {fz : Bool} {S : gS} {B : rf_M} {M : rf_M} {n0 : Nat} {x0 : Int} {K : Int → rf_M → Prop} (hS : rl S) (hR : fl 22 353 B M) (ix0 : inr x0) (h : em_M_isCell x0 M K) : lx (cx0 fz) n0 52 0 (lv_args 0 [zv x0]) [] (M, S) (vl_i 22 353 B S K) :=
  Z_M_isCell_m (w := true) hS hR ix0 h
def e_J_isFull_15 (s0 : Int) (M : rf_M) (K : Int → rf_M → Prop) : Prop := (s0 = 0 ∨ s0 = 1) ∧ K s0 M
theorem Z_J_isFull_15 {w fz : Bool} {S : gS} {B : rf_M} {M : rf_M} {ls : rf_L} {n0 : Nat} {s0 : Int} {K : Int → rf_M → Prop} (hS : rl S) (hR : fl 22 (gwH w) B M) (is0 : inr s0) (h : e_J_isFull_15 s0 M K) : lx (cx0 fz) n0 60 15 ls [zv s0] (M, S) (vl_i 22 (gwH w) B S K) := by
  unfold e_J_isFull_15 at h
  exact l_rb rfl rfl h.1 hR h.2
def e_J_isFull (M : rf_M) (K : Int → rf_M → Prop) : Prop := ((gi M 324 0) < 300 → (e_J_isFull_15 0 M K)) ∧ (¬ ((gi M 324 0) < 300) → (e_J_isFull_15 1 M K))
theorem Z_J_isFull {w fz : Bool} {S : gS} {B : rf_M} {M : rf_M} {ls : rf_L} {n0 : Nat} {K : Int → rf_M → Prop} (hS : rl S) (hR : fl 22 (gwH w) B M) (a0 : rf_ld ls 0 = some (.ref 324)) (h : e_J_isFull M K) : lx (cx0 fz) n0 60 0 ls [] (M, S) (vl_i 22 (gwH w) B S K) := by
  unfold e_J_isFull at h
  refine l1 (n := 1) rfl rfl rfl (la_of a0) ?_
  refine l_gi rfl (ko_9 hS (List.Mem.head _)) rfl (fun _ => rfl) ?_
  refine l_si rfl (by decide) ?_
  refine l_ic rfl (inr_gi _ _ _) ⟨by decide, by decide⟩ (fun c => ?_) (fun c => ?_)
  · replace h := h.1 c
    refine l1 (n := 1) rfl rfl rfl rfl ?_
    exact Z_J_isFull_15 hS hR ⟨by decide, by decide⟩ h
  · replace h := h.2 c
    refine l1 (n := 1) rfl rfl rfl rfl ?_
    refine l3 rfl rfl rfl ?_
    exact Z_J_isFull_15 hS hR ⟨by decide, by decide⟩ h
def em_J_isFull (M : rf_M) (K : Int → rf_M → Prop) : Prop := e_J_isFull  M K
theorem Z_J_isFull_m {w fz : Bool} {S : gS} {B : rf_M} {M : rf_M} {n0 : Nat} {K : Int → rf_M → Prop} (hS : rl S) (hR : fl 22 (gwH w) B M) (h : em_J_isFull  M K) : lx (cx0 fz) n0 60 0 (lv_args 0 [.ref 324]) [] (M, S) (vl_i 22 (gwH w) B S K) :=
  Z_J_isFull hS hR rfl h
def e_P_has_17 (s0 : Int) (M : rf_M) (K : Int → rf_M → Prop) : Prop := (s0 = 0 ∨ s0 = 1) ∧ K s0 M
theorem Z_P_has_17 {w fz : Bool} {S : gS} {B : rf_M} {M : rf_M} {ls : rf_L} {n0 : Nat} {s0 : Int} {K : Int → rf_M → Prop} (hS : rl S) (hR : fl 22 (gwH w) B M) (is0 : inr s0) (h : e_P_has_17 s0 M K) : lx (cx0 fz) n0 64 17 ls [zv s0] (M, S) (vl_i 22 (gwH w) B S K) := by
  unfold e_P_has_17 at h
  exact l_rb rfl rfl h.1 hR h.2
def e_P_has_16 (M : rf_M) (K : Int → rf_M → Prop) : Prop := e_P_has_17 0 M K
theorem Z_P_has_16 {w fz : Bool} {S : gS} {B : rf_M} {M : rf_M} {ls : rf_L} {n0 : Nat} {K : Int → rf_M → Prop} (hS : rl S) (hR : fl 22 (gwH w) B M) (h : e_P_has_16 M K) : lx (cx0 fz) n0 64 16 ls [] (M, S) (vl_i 22 (gwH w) B S K) := by
  unfold e_P_has_16 at h
  refine l1 (n := 1) rfl rfl rfl rfl ?_
  exact Z_P_has_17 hS hR ⟨by decide, by decide⟩ h
def e_P_has (v0 : Nat) (v1 : Int) (M : rf_M) (K : Int → rf_M → Prop) : Prop := (v1 < 0 → (e_P_has_16 M K)) ∧ (¬ (v1 < 0) → (((gi M v0 0) ≤ v1 → (e_P_has_16 M K)) ∧ (¬ ((gi M v0 0) ≤ v1) → (e_P_has_17 1 M K))))
theorem Z_P_has {w fz : Bool} {S : gS} {B : rf_M} {M : rf_M} {ls : rf_L} {n0 : Nat} {v0 : Nat} {v1 : Int} {K : Int → rf_M → Prop} (hS : rl S) (hR : fl 22 (gwH w) B M) (mv0 : v0 ∈ k1) (iv1 : inr v1) (a0 : rf_ld ls 0 = some (.ref v0)) (a1 : rf_ld ls 1 = some (zv v1)) (h : e_P_has v0 v1 M K) : lx (cx0 fz) n0 64 0 ls [] (M, S) (vl_i 22 (gwH w) B S K) := by
  unfold e_P_has at h
  refine l1 (n := 1) rfl rfl rfl (li_of a1) ?_
  refine l_if rfl iv1 (fun c => ?_) (fun c => ?_)
  · replace h := h.1 c
    exact Z_P_has_16 hS hR  h
  · replace h := h.2 c
    refine l1 (n := 1) rfl rfl rfl (li_of a1) ?_
    refine l1 (n := 1) rfl rfl rfl (la_of a0) ?_
    refine l_gi rfl (ko_1 hS mv0) rfl (fun _ => rfl) ?_
    refine l_ic rfl iv1 (inr_gi _ _ _) (fun c => ?_) (fun c => ?_)
    · replace h := h.1 c
      exact Z_P_has_16 hS hR  h
    · replace h := h.2 c
      refine l1 (n := 1) rfl rfl rfl rfl ?_
      refine l3 rfl rfl rfl ?_
      exact Z_P_has_17 hS hR ⟨by decide, by decide⟩ h
def em_P_has (x0 : Nat) (x1 : Int) (M : rf_M) (K : Int → rf_M → Prop) : Prop := e_P_has x0 x1 M K
theorem Z_P_has_m {w fz : Bool} {S : gS} {B : rf_M} {M : rf_M} {n0 : Nat} {x0 : Nat} {x1 : Int} {K : Int → rf_M → Prop} (hS : rl S) (hR : fl 22 (gwH w) B M) (mx0 : x0 ∈ k1) (ix1 : inr x1) (h : em_P_has x0 x1 M K) : lx (cx0 fz) n0 64 0 (lv_args 0 [.ref x0, zv x1]) [] (M, S) (vl_i 22 (gwH w) B S K) :=
  Z_P_has hS hR mx0 ix1 rfl rfl h
def e_A_push_29 (M : rf_M) (K : rf_M → Prop) : Prop := K M
theorem Z_A_push_29 {w fz : Bool} {S : gS} {B : rf_M} {M : rf_M} {ls : rf_L} {n0 : Nat} {K : rf_M → Prop} (hS : rl S) (hR : fl 22 (gwH w) B M) (h : e_A_push_29 M K) : lx (cx0 fz) n0 66 29 ls [] (M, S) (vl_v 22 (gwH w) B S K) := by
  unfold e_A_push_29 at h
  exact l_rv rfl rfl hR h
def e_A_push (v0 : Nat) (v1 : Int64) (M : rf_M) (K : rf_M → Prop) : Prop := (60 ≤ (gi M v0 1) → (e_A_push_29 M K)) ∧ (¬ (60 ≤ (gi M v0 1)) → ((0 ≤ (gi M v0 1) ∧ (gi M v0 1) < 60 → (∀ M1 : rf_M, M1 = wl M (v0 + 1) (gi M v0 1).toNat v1 → (∀ M2 : rf_M, M2 = wi M1 v0 1 ((gi M1 v0 1) + 1) → (e_A_push_29 M2 K))))))
theorem Z_A_push {w fz : Bool} {S : gS} {B : rf_M} {M : rf_M} {ls : rf_L} {n0 : Nat} {v0 : Nat} {v1 : Int64} {K : rf_M → Prop} (hS : rl S) (hR : fl 22 (gwH w) B M) (mv0 : v0 ∈ gwL5 w) (a0 : rf_ld ls 0 = some (.ref v0)) (a1 : rf_ld ls 1 = some (.long v1)) (h : e_A_push v0 v1 M K) : lx (cx0 fz) n0 66 0 ls [] (M, S) (vl_v 22 (gwH w) B S K) := by
  unfold e_A_push at h
  refine l1 (n := 1) rfl rfl rfl (la_of a0) ?_
  refine l_gi rfl (jgo_5 (w := w) hS mv0) rfl (fun _ => rfl) ?_
  refine l_bi rfl (by decide) ?_
  refine l_ic rfl (inr_gi _ _ _) ⟨by decide, by decide⟩ (fun c => ?_) (fun c => ?_)
  · replace h := h.1 c
    exact Z_A_push_29 hS hR  h
  · replace h := h.2 c
    refine l1 (n := 1) rfl rfl rfl (la_of a0) ?_
    refine l_gr rfl (jgo_5 (w := w) hS mv0) rfl (fun _ => rfl) (jgf_5_0 (w := w) hR.2 mv0) ?_
    refine l1 (n := 1) rfl rfl rfl (la_of a0) ?_
    refine l_gi rfl (jgo_5 (w := w) hS mv0) rfl (fun _ => rfl) ?_
    refine l1 (n := 1) rfl rfl rfl (ll_of a1) ?_
    refine b_ls rfl (jgt_5_0 (w := w) (fz := fz) hS mv0).1 (Nat.le_of_ble_eq_true rfl) (inr_gi _ _ _) (fun q M1 e => ?_)
    replace h := h q M1 e
    have r1 := hR.wl (jgt_5_0 (w := w) (fz := fz) hS mv0).1.1 (jgt_5_0 (w := w) (fz := fz) hS mv0).2 e
    refine l1 (n := 1) rfl rfl rfl (la_of a0) ?_
    refine l0 rfl rfl rfl ?_
    refine l_gi rfl (jgo_5 (w := w) hS mv0) rfl (fun _ => rfl) ?_
    refine l1 (n := 1) rfl rfl rfl rfl ?_
    refine l_add rfl ?_
    refine l_pi rfl (jgo_5 (w := w) (fz := fz) hS mv0) rfl (fun _ _ => rfl) (fun M2 e => ?_)
    replace h := h M2 e
    have r2 := r1.wi (jgo_5 (w := w) (fz := fz) hS mv0).1 (jgl_5 (w := w) mv0) e
    exact Z_A_push_29 hS r2  h
def em_A_push (x0 : Nat) (x1 : Int64) (M : rf_M) (K : rf_M → Prop) : Prop := e_A_push x0 x1 M K
theorem Z_A_push_m {w fz : Bool} {S : gS} {B : rf_M} {M : rf_M} {n0 : Nat} {x0 : Nat} {x1 : Int64} {K : rf_M → Prop} (hS : rl S) (hR : fl 22 (gwH w) B M) (mx0 : x0 ∈ gwL5 w) (h : em_A_push x0 x1 M K) : lx (cx0 fz) n0 66 0 (lv_args 0 [.ref x0, .long x1]) [] (M, S) (vl_v 22 (gwH w) B S K) :=
  Z_A_push hS hR mx0 rfl rfl h
def e_S_find_21 (s0 : Nat) (s1 : Int64) (M : rf_M) (K : Int → rf_M → Prop) : Prop := ∀ M1 : rf_M, M1 = wl M s0 7 s1 → (K 1 M1)
theorem Z_S_find_21 {w fz : Bool} {S : gS} {B : rf_M} {M : rf_M} {ls : rf_L} {n0 : Nat} {s0 : Nat} {s1 : Int64} {K : Int → rf_M → Prop} (hS : rl S) (hR : fl 22 (gwH w) B M) (ms0 : s0 ∈ gwL4 w) (h : e_S_find_21 s0 s1 M K) : lx (cx0 fz) n0 73 21 ls [.long s1, .ref s0] (M, S) (vl_i 22 (gwH w) B S K) := by
  unfold e_S_find_21 at h
  refine l_pl rfl (jgo_4 (w := w) (fz := fz) hS ms0) rfl (fun _ _ => rfl) (fun M1 e => ?_)
  replace h := h M1 e
  have r1 := hR.wl (jgo_4 (w := w) (fz := fz) hS ms0).1 (jgl_4 (w := w) ms0) e
  refine l1 (n := 1) rfl rfl rfl rfl ?_
  exact l_rb rfl rfl (Or.inr rfl) r1 h
def e_S_find_20 (s0 : Nat) (M : rf_M) (K : Int → rf_M → Prop) : Prop := e_S_find_21 s0 (Int64.ofNat 0) M K
theorem Z_S_find_20 {w fz : Bool} {S : gS} {B : rf_M} {M : rf_M} {ls : rf_L} {n0 : Nat} {s0 : Nat} {K : Int → rf_M → Prop} (hS : rl S) (hR : fl 22 (gwH w) B M) (ms0 : s0 ∈ gwL4 w) (h : e_S_find_20 s0 M K) : lx (cx0 fz) n0 73 20 ls [.ref s0] (M, S) (vl_i 22 (gwH w) B S K) := by
  unfold e_S_find_20 at h
  refine l1 (n := 1) rfl rfl rfl rfl ?_
  exact Z_S_find_21 hS hR ms0 h
def e_S_find (v0 : Nat) (v1 : Int) (M : rf_M) (K : Int → rf_M → Prop) : Prop := (v1 < 0 → (e_S_find_20 v0 M K)) ∧ (¬ (v1 < 0) → ((16 ≤ v1 → (e_S_find_20 v0 M K)) ∧ (¬ (16 ≤ v1) → ((0 ≤ v1 ∧ v1 < 16 → (e_S_find_21 v0 (gl M (v0 + 5) (v1).toNat) M K))))))
theorem Z_S_find {w fz : Bool} {S : gS} {B : rf_M} {M : rf_M} {ls : rf_L} {n0 : Nat} {v0 : Nat} {v1 : Int} {K : Int → rf_M → Prop} (hS : rl S) (hR : fl 22 (gwH w) B M) (mv0 : v0 ∈ gwL4 w) (iv1 : inr v1) (a0 : rf_ld ls 0 = some (.ref v0)) (a1 : rf_ld ls 1 = some (zv v1)) (h : e_S_find v0 v1 M K) : lx (cx0 fz) n0 73 0 ls [] (M, S) (vl_i 22 (gwH w) B S K) := by
  unfold e_S_find at h
  refine l1 (n := 1) rfl rfl rfl (la_of a0) ?_
  refine l1 (n := 1) rfl rfl rfl (li_of a1) ?_
  refine l_if rfl iv1 (fun c => ?_) (fun c => ?_)
  · replace h := h.1 c
    exact Z_S_find_20 hS hR mv0 h
  · replace h := h.2 c
    refine l1 (n := 1) rfl rfl rfl (li_of a1) ?_
    refine l_bi rfl (by decide) ?_
    refine l_ic rfl iv1 ⟨by decide, by decide⟩ (fun c => ?_) (fun c => ?_)
    · replace h := h.1 c
      exact Z_S_find_20 hS hR mv0 h
    · replace h := h.2 c
      refine l1 (n := 1) rfl rfl rfl (la_of a0) ?_
      refine l_gr rfl (jgo_4 (w := w) hS mv0) rfl (fun _ => rfl) (jgf_4_5 (w := w) hR.2 mv0) ?_
      refine l1 (n := 1) rfl rfl rfl (li_of a1) ?_
      refine b_la rfl (jgt_4_5 (w := w) (fz := fz) hS mv0).1 (Nat.le_of_ble_eq_true rfl) iv1 (fun q => ?_)
      replace h := h q
      refine l3 rfl rfl rfl ?_
      exact Z_S_find_21 hS hR mv0 h
def em_S_find (x0 : Nat) (x1 : Int) (M : rf_M) (K : Int → rf_M → Prop) : Prop := e_S_find x0 x1 M K
theorem Z_S_find_m {w fz : Bool} {S : gS} {B : rf_M} {M : rf_M} {n0 : Nat} {x0 : Nat} {x1 : Int} {K : Int → rf_M → Prop} (hS : rl S) (hR : fl 22 (gwH w) B M) (mx0 : x0 ∈ gwL4 w) (ix1 : inr x1) (h : em_S_find x0 x1 M K) : lx (cx0 fz) n0 73 0 (lv_args 0 [.ref x0, zv x1]) [] (M, S) (vl_i 22 (gwH w) B S K) :=
  Z_S_find hS hR mx0 ix1 rfl rfl h
def e_A_pop (v0 : Nat) (M : rf_M) (K : Int64 → rf_M → Prop) : Prop := (0 < (gi M v0 1) → (∀ M1 : rf_M, M1 = wi M v0 1 ((gi M v0 1) - 1) → ((0 ≤ (gi M1 v0 1) ∧ (gi M1 v0 1) < 60 → (K (gl M1 (v0 + 1) (gi M1 v0 1).toNat) M1))))) ∧ (¬ (0 < (gi M v0 1)) → (K (Int64.ofNat 0) M))
theorem Z_A_pop {w fz : Bool} {S : gS} {B : rf_M} {M : rf_M} {ls : rf_L} {n0 : Nat} {v0 : Nat} {K : Int64 → rf_M → Prop} (hS : rl S) (hR : fl 22 (gwH w) B M) (mv0 : v0 ∈ gwL5 w) (a0 : rf_ld ls 0 = some (.ref v0)) (h : e_A_pop v0 M K) : lx (cx0 fz) n0 74 0 ls [] (M, S) (vl_l 22 (gwH w) B S K) := by
  unfold e_A_pop at h
  refine l1 (n := 1) rfl rfl rfl (la_of a0) ?_
  refine l_gi rfl (jgo_5 (w := w) hS mv0) rfl (fun _ => rfl) ?_
  refine l_if rfl (inr_gi _ _ _) (fun c => ?_) (fun c => ?_)
  · replace h := h.1 c
    refine l1 (n := 1) rfl rfl rfl (la_of a0) ?_
    refine l0 rfl rfl rfl ?_
    refine l_gi rfl (jgo_5 (w := w) hS mv0) rfl (fun _ => rfl) ?_
    refine l1 (n := 1) rfl rfl rfl rfl ?_
    refine l_sub rfl ?_
    refine l_pi rfl (jgo_5 (w := w) (fz := fz) hS mv0) rfl (fun _ _ => rfl) (fun M1 e => ?_)
    replace h := h M1 e
    have r1 := hR.wi (jgo_5 (w := w) (fz := fz) hS mv0).1 (jgl_5 (w := w) mv0) e
    refine l1 (n := 1) rfl rfl rfl (la_of a0) ?_
    refine l_gr rfl (jgo_5 (w := w) hS mv0) rfl (fun _ => rfl) (jgf_5_0 (w := w) r1.2 mv0) ?_
    refine l1 (n := 1) rfl rfl rfl (la_of a0) ?_
    refine l_gi rfl (jgo_5 (w := w) hS mv0) rfl (fun _ => rfl) ?_
    refine b_la rfl (jgt_5_0 (w := w) (fz := fz) hS mv0).1 (Nat.le_of_ble_eq_true rfl) (inr_gi _ _ _) (fun q => ?_)
    replace h := h q
    exact l_rl rfl rfl r1 h
  · replace h := h.2 c
    refine l1 (n := 1) rfl rfl rfl rfl ?_
    exact l_rl rfl rfl hR h
def em_A_pop (x0 : Nat) (M : rf_M) (K : Int64 → rf_M → Prop) : Prop := e_A_pop x0 M K
theorem Z_A_pop_m {w fz : Bool} {S : gS} {B : rf_M} {M : rf_M} {n0 : Nat} {x0 : Nat} {K : Int64 → rf_M → Prop} (hS : rl S) (hR : fl 22 (gwH w) B M) (mx0 : x0 ∈ gwL5 w) (h : em_A_pop x0 M K) : lx (cx0 fz) n0 74 0 (lv_args 0 [.ref x0]) [] (M, S) (vl_l 22 (gwH w) B S K) :=
  Z_A_pop hS hR mx0 rfl h
def e_A_join_179 (s0 : Int64) (M : rf_M) (K : Int64 → rf_M → Prop) : Prop := K s0 M
theorem Z_A_join_179 {w fz : Bool} {S : gS} {B : rf_M} {M : rf_M} {ls : rf_L} {n0 : Nat} {s0 : Int64} {K : Int64 → rf_M → Prop} (hS : rl S) (hR : fl 22 (gwH w) B M) (h : e_A_join_179 s0 M K) : lx (cx0 fz) n0 75 179 ls [.long s0] (M, S) (vl_l 22 (gwH w) B S K) := by
  unfold e_A_join_179 at h
  exact l_rl rfl rfl hR h
def e_A_join_167 (s0 : Int64) (M : rf_M) (K : Int64 → rf_M → Prop) : Prop := K s0 M
theorem Z_A_join_167 {w fz : Bool} {S : gS} {B : rf_M} {M : rf_M} {ls : rf_L} {n0 : Nat} {s0 : Int64} {K : Int64 → rf_M → Prop} (hS : rl S) (hR : fl 22 (gwH w) B M) (h : e_A_join_167 s0 M K) : lx (cx0 fz) n0 75 167 ls [.long s0] (M, S) (vl_l 22 (gwH w) B S K) := by
  unfold e_A_join_167 at h
  exact l_rl rfl rfl hR h
def e_A_join_141 (s0 : Int64) (M : rf_M) (K : Int64 → rf_M → Prop) : Prop := K s0 M
theorem Z_A_join_141 {w fz : Bool} {S : gS} {B : rf_M} {M : rf_M} {ls : rf_L} {n0 : Nat} {s0 : Int64} {K : Int64 → rf_M → Prop} (hS : rl S) (hR : fl 22 (gwH w) B M) (h : e_A_join_141 s0 M K) : lx (cx0 fz) n0 75 141 ls [.long s0] (M, S) (vl_l 22 (gwH w) B S K) := by
  unfold e_A_join_141 at h
  exact l_rl rfl rfl hR h
def e_A_join_155 (s0 : Int64) (M : rf_M) (K : Int64 → rf_M → Prop) : Prop := K s0 M
theorem Z_A_join_155 {w fz : Bool} {S : gS} {B : rf_M} {M : rf_M} {ls : rf_L} {n0 : Nat} {s0 : Int64} {K : Int64 → rf_M → Prop} (hS : rl S) (hR : fl 22 (gwH w) B M) (h : e_A_join_155 s0 M K) : lx (cx0 fz) n0 75 155 ls [.long s0] (M, S) (vl_l 22 (gwH w) B S K) := by
  unfold e_A_join_155 at h
  exact l_rl rfl rfl hR h
def e_A_join_191 (s0 : Int64) (M : rf_M) (K : Int64 → rf_M → Prop) : Prop := K s0 M
theorem Z_A_join_191 {w fz : Bool} {S : gS} {B : rf_M} {M : rf_M} {ls : rf_L} {n0 : Nat} {s0 : Int64} {K : Int64 → rf_M → Prop} (hS : rl S) (hR : fl 22 (gwH w) B M) (h : e_A_join_191 s0 M K) : lx (cx0 fz) n0 75 191 ls [.long s0] (M, S) (vl_l 22 (gwH w) B S K) := by
  unfold e_A_join_191 at h
  exact l_rl rfl rfl hR h
def e_A_join (v0 : Int) (v1 : Int64) (v3 : Int64) (M : rf_M) (K : Int64 → rf_M → Prop) : Prop := (v0 = 37 → (((lg_cmp v3 (Int64.ofNat 0)).toInt = 0 → (e_A_join_155 (Int64.ofNat 0) M K)) ∧ (¬ (lg_cmp v3 (Int64.ofNat 0)).toInt = 0 → ((¬ v3 = 0 → (e_A_join_155 (v1 - v1 / v3 * v3) M K)))))) ∧ (v0 = 42 → (K (v1 * v3) M)) ∧ (v0 = 43 → (K (v1 + v3) M)) ∧ (v0 = 45 → (K (v1 - v3) M)) ∧ (v0 = 47 → (((lg_cmp v3 (Int64.ofNat 0)).toInt = 0 → (e_A_join_141 (Int64.ofNat 0) M K)) ∧ (¬ (lg_cmp v3 (Int64.ofNat 0)).toInt = 0 → ((¬ v3 = 0 → (e_A_join_141 (v1 / v3) M K)))))) ∧ (v0 = 60 → ((0 ≤ (lg_cmp v1 v3).toInt → (e_A_join_167 (Int64.ofNat 0) M K)) ∧ (¬ (0 ≤ (lg_cmp v1 v3).toInt) → (e_A_join_167 (Int64.ofNat 1) M K)))) ∧ (v0 = 61 → (((lg_cmp v1 v3).toInt = 0 → (e_A_join_179 (Int64.ofNat 1) M K)) ∧ (¬ (lg_cmp v1 v3).toInt = 0 → (e_A_join_179 (Int64.ofNat 0) M K)))) ∧ (¬ v0 = 37 ∧ ¬ v0 = 42 ∧ ¬ v0 = 43 ∧ ¬ v0 = 45 ∧ ¬ v0 = 47 ∧ ¬ v0 = 60 ∧ ¬ v0 = 61 → (((lg_cmp v1 v3).toInt = 0 → (e_A_join_191 (Int64.ofNat 0) M K)) ∧ (¬ ((lg_cmp v1 v3).toInt = 0) → (e_A_join_191 (Int64.ofNat 1) M K))))
theorem Z_A_join {w fz : Bool} {S : gS} {B : rf_M} {M : rf_M} {ls : rf_L} {n0 : Nat} {v0 : Int} {v1 : Int64} {v3 : Int64} {K : Int64 → rf_M → Prop} (hS : rl S) (hR : fl 22 (gwH w) B M) (iv0 : inr v0) (a0 : rf_ld ls 0 = some (zv v0)) (a1 : rf_ld ls 1 = some (.long v1)) (a3 : rf_ld ls 3 = some (.long v3)) (h : e_A_join v0 v1 v3 M K) : lx (cx0 fz) n0 75 0 ls [] (M, S) (vl_l 22 (gwH w) B S K) := by
  unfold e_A_join at h
  refine l1 (n := 1) rfl rfl rfl (li_of a0) ?_
  have ia : inr v0 := iv0
  obtain ⟨h1, h⟩ := h
  by_cases e37 : v0 = 37
  · replace h := h1 e37
    refine l_sw (pc' := 142) e37 rfl rfl rfl ?_
    refine l1 (n := 1) rfl rfl rfl (ll_of a3) ?_
    refine l1 (n := 1) rfl rfl rfl rfl ?_
    refine l_op (T := (lg_cmp v3 (Int64.ofNat 0))) rfl rfl rfl ?_
    refine l_if rfl (inr_ti _) (fun c => ?_) (fun c => ?_)
    · replace h := h.2 c
      refine l1 (n := 1) rfl rfl rfl (ll_of a1) ?_
      refine l1 (n := 1) rfl rfl rfl (ll_of a3) ?_
      refine b_rm rfl (fun q => ?_)
      replace h := h q
      exact Z_A_join_155 hS hR  h
    · replace h := h.1 (Classical.not_not.mp c)
      refine l1 (n := 1) rfl rfl rfl rfl ?_
      refine l3 rfl rfl rfl ?_
      exact Z_A_join_155 hS hR  h
  obtain ⟨h1, h⟩ := h
  by_cases e42 : v0 = 42
  · replace h := h1 e42
    refine l_sw (pc' := 124) e42 rfl rfl rfl ?_
    refine l1 (n := 1) rfl rfl rfl (ll_of a1) ?_
    refine l1 (n := 1) rfl rfl rfl (ll_of a3) ?_
    refine l0 rfl rfl rfl ?_
    exact l_rl rfl rfl hR h
  obtain ⟨h1, h⟩ := h
  by_cases e43 : v0 = 43
  · replace h := h1 e43
    refine l_sw (pc' := 116) e43 rfl rfl rfl ?_
    refine l1 (n := 1) rfl rfl rfl (ll_of a1) ?_
    refine l1 (n := 1) rfl rfl rfl (ll_of a3) ?_
    refine l0 rfl rfl rfl ?_
    exact l_rl rfl rfl hR h
  obtain ⟨h1, h⟩ := h
  by_cases e45 : v0 = 45
  · replace h := h1 e45
    refine l_sw (pc' := 120) e45 rfl rfl rfl ?_
    refine l1 (n := 1) rfl rfl rfl (ll_of a1) ?_
    refine l1 (n := 1) rfl rfl rfl (ll_of a3) ?_
    refine l0 rfl rfl rfl ?_
    exact l_rl rfl rfl hR h
  obtain ⟨h1, h⟩ := h
  by_cases e47 : v0 = 47
  · replace h := h1 e47
    refine l_sw (pc' := 128) e47 rfl rfl rfl ?_
    refine l1 (n := 1) rfl rfl rfl (ll_of a3) ?_
    refine l1 (n := 1) rfl rfl rfl rfl ?_
    refine l_op (T := (lg_cmp v3 (Int64.ofNat 0))) rfl rfl rfl ?_
    refine l_if rfl (inr_ti _) (fun c => ?_) (fun c => ?_)
    · replace h := h.2 c
      refine l1 (n := 1) rfl rfl rfl (ll_of a1) ?_
      refine l1 (n := 1) rfl rfl rfl (ll_of a3) ?_
      refine b_dv rfl (fun q => ?_)
      replace h := h q
      exact Z_A_join_141 hS hR  h
    · replace h := h.1 (Classical.not_not.mp c)
      refine l1 (n := 1) rfl rfl rfl rfl ?_
      refine l3 rfl rfl rfl ?_
      exact Z_A_join_141 hS hR  h
  obtain ⟨h1, h⟩ := h
  by_cases e60 : v0 = 60
  · replace h := h1 e60
    refine l_sw (pc' := 156) e60 rfl rfl rfl ?_
    refine l1 (n := 1) rfl rfl rfl (ll_of a1) ?_
    refine l1 (n := 1) rfl rfl rfl (ll_of a3) ?_
    refine l_op (T := (lg_cmp v1 v3)) rfl rfl rfl ?_
    refine l_if rfl (inr_ti _) (fun c => ?_) (fun c => ?_)
    · replace h := h.1 c
      refine l1 (n := 1) rfl rfl rfl rfl ?_
      exact Z_A_join_167 hS hR  h
    · replace h := h.2 c
      refine l1 (n := 1) rfl rfl rfl rfl ?_
      refine l3 rfl rfl rfl ?_
      exact Z_A_join_167 hS hR  h
  obtain ⟨h1, h⟩ := h
  by_cases e61 : v0 = 61
  · replace h := h1 e61
    refine l_sw (pc' := 168) e61 rfl rfl rfl ?_
    refine l1 (n := 1) rfl rfl rfl (ll_of a1) ?_
    refine l1 (n := 1) rfl rfl rfl (ll_of a3) ?_
    refine l_op (T := (lg_cmp v1 v3)) rfl rfl rfl ?_
    refine l_if rfl (inr_ti _) (fun c => ?_) (fun c => ?_)
    · replace h := h.2 c
      refine l1 (n := 1) rfl rfl rfl rfl ?_
      exact Z_A_join_179 hS hR  h
    · replace h := h.1 (Classical.not_not.mp c)
      refine l1 (n := 1) rfl rfl rfl rfl ?_
      refine l3 rfl rfl rfl ?_
      exact Z_A_join_179 hS hR  h
  replace h := h ⟨e37, e42, e43, e45, e47, e60, e61⟩
  by_cases e38 : v0 = 38
  · refine l_sw (pc' := 180) e38 rfl rfl rfl ?_
    refine l1 (n := 1) rfl rfl rfl (ll_of a1) ?_
    refine l1 (n := 1) rfl rfl rfl (ll_of a3) ?_
    refine l_op (T := (lg_cmp v1 v3)) rfl rfl rfl ?_
    refine l_if rfl (inr_ti _) (fun c => ?_) (fun c => ?_)
    · replace h := h.1 c
      refine l1 (n := 1) rfl rfl rfl rfl ?_
      exact Z_A_join_191 hS hR  h
    · replace h := h.2 c
      refine l1 (n := 1) rfl rfl rfl rfl ?_
      refine l3 rfl rfl rfl ?_
      exact Z_A_join_191 hS hR  h
  by_cases e39 : v0 = 39
  · refine l_sw (pc' := 180) e39 rfl rfl rfl ?_
    refine l1 (n := 1) rfl rfl rfl (ll_of a1) ?_
    refine l1 (n := 1) rfl rfl rfl (ll_of a3) ?_
    refine l_op (T := (lg_cmp v1 v3)) rfl rfl rfl ?_
    refine l_if rfl (inr_ti _) (fun c => ?_) (fun c => ?_)
    · replace h := h.1 c
      refine l1 (n := 1) rfl rfl rfl rfl ?_
      exact Z_A_join_191 hS hR  h
    · replace h := h.2 c
      refine l1 (n := 1) rfl rfl rfl rfl ?_
      refine l3 rfl rfl rfl ?_
      exact Z_A_join_191 hS hR  h
  by_cases e40 : v0 = 40
  · refine l_sw (pc' := 180) e40 rfl rfl rfl ?_
    refine l1 (n := 1) rfl rfl rfl (ll_of a1) ?_
    refine l1 (n := 1) rfl rfl rfl (ll_of a3) ?_
    refine l_op (T := (lg_cmp v1 v3)) rfl rfl rfl ?_
    refine l_if rfl (inr_ti _) (fun c => ?_) (fun c => ?_)
    · replace h := h.1 c
      refine l1 (n := 1) rfl rfl rfl rfl ?_
      exact Z_A_join_191 hS hR  h
    · replace h := h.2 c
      refine l1 (n := 1) rfl rfl rfl rfl ?_
      refine l3 rfl rfl rfl ?_
      exact Z_A_join_191 hS hR  h
  by_cases e41 : v0 = 41
  · refine l_sw (pc' := 180) e41 rfl rfl rfl ?_
    refine l1 (n := 1) rfl rfl rfl (ll_of a1) ?_
    refine l1 (n := 1) rfl rfl rfl (ll_of a3) ?_
    refine l_op (T := (lg_cmp v1 v3)) rfl rfl rfl ?_
    refine l_if rfl (inr_ti _) (fun c => ?_) (fun c => ?_)
    · replace h := h.1 c
      refine l1 (n := 1) rfl rfl rfl rfl ?_
      exact Z_A_join_191 hS hR  h
    · replace h := h.2 c
      refine l1 (n := 1) rfl rfl rfl rfl ?_
      refine l3 rfl rfl rfl ?_
      exact Z_A_join_191 hS hR  h
  by_cases e44 : v0 = 44
  · refine l_sw (pc' := 180) e44 rfl rfl rfl ?_
    refine l1 (n := 1) rfl rfl rfl (ll_of a1) ?_
    refine l1 (n := 1) rfl rfl rfl (ll_of a3) ?_
    refine l_op (T := (lg_cmp v1 v3)) rfl rfl rfl ?_
    refine l_if rfl (inr_ti _) (fun c => ?_) (fun c => ?_)
    · replace h := h.1 c
      refine l1 (n := 1) rfl rfl rfl rfl ?_
      exact Z_A_join_191 hS hR  h
    · replace h := h.2 c
      refine l1 (n := 1) rfl rfl rfl rfl ?_
      refine l3 rfl rfl rfl ?_
      exact Z_A_join_191 hS hR  h
  by_cases e46 : v0 = 46
  · refine l_sw (pc' := 180) e46 rfl rfl rfl ?_
    refine l1 (n := 1) rfl rfl rfl (ll_of a1) ?_
    refine l1 (n := 1) rfl rfl rfl (ll_of a3) ?_
    refine l_op (T := (lg_cmp v1 v3)) rfl rfl rfl ?_
    refine l_if rfl (inr_ti _) (fun c => ?_) (fun c => ?_)
    · replace h := h.1 c
      refine l1 (n := 1) rfl rfl rfl rfl ?_
      exact Z_A_join_191 hS hR  h
    · replace h := h.2 c
      refine l1 (n := 1) rfl rfl rfl rfl ?_
      refine l3 rfl rfl rfl ?_
      exact Z_A_join_191 hS hR  h
  by_cases e48 : v0 = 48
  · refine l_sw (pc' := 180) e48 rfl rfl rfl ?_
    refine l1 (n := 1) rfl rfl rfl (ll_of a1) ?_
    refine l1 (n := 1) rfl rfl rfl (ll_of a3) ?_
    refine l_op (T := (lg_cmp v1 v3)) rfl rfl rfl ?_
    refine l_if rfl (inr_ti _) (fun c => ?_) (fun c => ?_)
    · replace h := h.1 c
      refine l1 (n := 1) rfl rfl rfl rfl ?_
      exact Z_A_join_191 hS hR  h
    · replace h := h.2 c
      refine l1 (n := 1) rfl rfl rfl rfl ?_
      refine l3 rfl rfl rfl ?_
      exact Z_A_join_191 hS hR  h
  by_cases e49 : v0 = 49
  · refine l_sw (pc' := 180) e49 rfl rfl rfl ?_
    refine l1 (n := 1) rfl rfl rfl (ll_of a1) ?_
    refine l1 (n := 1) rfl rfl rfl (ll_of a3) ?_
    refine l_op (T := (lg_cmp v1 v3)) rfl rfl rfl ?_
    refine l_if rfl (inr_ti _) (fun c => ?_) (fun c => ?_)
    · replace h := h.1 c
      refine l1 (n := 1) rfl rfl rfl rfl ?_
      exact Z_A_join_191 hS hR  h
    · replace h := h.2 c
      refine l1 (n := 1) rfl rfl rfl rfl ?_
      refine l3 rfl rfl rfl ?_
      exact Z_A_join_191 hS hR  h
  by_cases e50 : v0 = 50
  · refine l_sw (pc' := 180) e50 rfl rfl rfl ?_
    refine l1 (n := 1) rfl rfl rfl (ll_of a1) ?_
    refine l1 (n := 1) rfl rfl rfl (ll_of a3) ?_
    refine l_op (T := (lg_cmp v1 v3)) rfl rfl rfl ?_
    refine l_if rfl (inr_ti _) (fun c => ?_) (fun c => ?_)
    · replace h := h.1 c
      refine l1 (n := 1) rfl rfl rfl rfl ?_
      exact Z_A_join_191 hS hR  h
    · replace h := h.2 c
      refine l1 (n := 1) rfl rfl rfl rfl ?_
      refine l3 rfl rfl rfl ?_
      exact Z_A_join_191 hS hR  h
  by_cases e51 : v0 = 51
  · refine l_sw (pc' := 180) e51 rfl rfl rfl ?_
    refine l1 (n := 1) rfl rfl rfl (ll_of a1) ?_
    refine l1 (n := 1) rfl rfl rfl (ll_of a3) ?_
    refine l_op (T := (lg_cmp v1 v3)) rfl rfl rfl ?_
    refine l_if rfl (inr_ti _) (fun c => ?_) (fun c => ?_)
    · replace h := h.1 c
      refine l1 (n := 1) rfl rfl rfl rfl ?_
      exact Z_A_join_191 hS hR  h
    · replace h := h.2 c
      refine l1 (n := 1) rfl rfl rfl rfl ?_
      refine l3 rfl rfl rfl ?_
      exact Z_A_join_191 hS hR  h
  by_cases e52 : v0 = 52
  · refine l_sw (pc' := 180) e52 rfl rfl rfl ?_
    refine l1 (n := 1) rfl rfl rfl (ll_of a1) ?_
    refine l1 (n := 1) rfl rfl rfl (ll_of a3) ?_
    refine l_op (T := (lg_cmp v1 v3)) rfl rfl rfl ?_
    refine l_if rfl (inr_ti _) (fun c => ?_) (fun c => ?_)
    · replace h := h.1 c
      refine l1 (n := 1) rfl rfl rfl rfl ?_
      exact Z_A_join_191 hS hR  h
    · replace h := h.2 c
      refine l1 (n := 1) rfl rfl rfl rfl ?_
      refine l3 rfl rfl rfl ?_
      exact Z_A_join_191 hS hR  h
  by_cases e53 : v0 = 53
  · refine l_sw (pc' := 180) e53 rfl rfl rfl ?_
    refine l1 (n := 1) rfl rfl rfl (ll_of a1) ?_
    refine l1 (n := 1) rfl rfl rfl (ll_of a3) ?_
    refine l_op (T := (lg_cmp v1 v3)) rfl rfl rfl ?_
    refine l_if rfl (inr_ti _) (fun c => ?_) (fun c => ?_)
    · replace h := h.1 c
      refine l1 (n := 1) rfl rfl rfl rfl ?_
      exact Z_A_join_191 hS hR  h
    · replace h := h.2 c
      refine l1 (n := 1) rfl rfl rfl rfl ?_
      refine l3 rfl rfl rfl ?_
      exact Z_A_join_191 hS hR  h
  by_cases e54 : v0 = 54
  · refine l_sw (pc' := 180) e54 rfl rfl rfl ?_
    refine l1 (n := 1) rfl rfl rfl (ll_of a1) ?_
    refine l1 (n := 1) rfl rfl rfl (ll_of a3) ?_
    refine l_op (T := (lg_cmp v1 v3)) rfl rfl rfl ?_
    refine l_if rfl (inr_ti _) (fun c => ?_) (fun c => ?_)
    · replace h := h.1 c
      refine l1 (n := 1) rfl rfl rfl rfl ?_
      exact Z_A_join_191 hS hR  h
    · replace h := h.2 c
      refine l1 (n := 1) rfl rfl rfl rfl ?_
      refine l3 rfl rfl rfl ?_
      exact Z_A_join_191 hS hR  h
  by_cases e55 : v0 = 55
  · refine l_sw (pc' := 180) e55 rfl rfl rfl ?_
    refine l1 (n := 1) rfl rfl rfl (ll_of a1) ?_
    refine l1 (n := 1) rfl rfl rfl (ll_of a3) ?_
    refine l_op (T := (lg_cmp v1 v3)) rfl rfl rfl ?_
    refine l_if rfl (inr_ti _) (fun c => ?_) (fun c => ?_)
    · replace h := h.1 c
      refine l1 (n := 1) rfl rfl rfl rfl ?_
      exact Z_A_join_191 hS hR  h
    · replace h := h.2 c
      refine l1 (n := 1) rfl rfl rfl rfl ?_
      refine l3 rfl rfl rfl ?_
      exact Z_A_join_191 hS hR  h
  by_cases e56 : v0 = 56
  · refine l_sw (pc' := 180) e56 rfl rfl rfl ?_
    refine l1 (n := 1) rfl rfl rfl (ll_of a1) ?_
    refine l1 (n := 1) rfl rfl rfl (ll_of a3) ?_
    refine l_op (T := (lg_cmp v1 v3)) rfl rfl rfl ?_
    refine l_if rfl (inr_ti _) (fun c => ?_) (fun c => ?_)
    · replace h := h.1 c
      refine l1 (n := 1) rfl rfl rfl rfl ?_
      exact Z_A_join_191 hS hR  h
    · replace h := h.2 c
      refine l1 (n := 1) rfl rfl rfl rfl ?_
      refine l3 rfl rfl rfl ?_
      exact Z_A_join_191 hS hR  h
  by_cases e57 : v0 = 57
  · refine l_sw (pc' := 180) e57 rfl rfl rfl ?_
    refine l1 (n := 1) rfl rfl rfl (ll_of a1) ?_
    refine l1 (n := 1) rfl rfl rfl (ll_of a3) ?_
    refine l_op (T := (lg_cmp v1 v3)) rfl rfl rfl ?_
    refine l_if rfl (inr_ti _) (fun c => ?_) (fun c => ?_)
    · replace h := h.1 c
      refine l1 (n := 1) rfl rfl rfl rfl ?_
      exact Z_A_join_191 hS hR  h
    · replace h := h.2 c
      refine l1 (n := 1) rfl rfl rfl rfl ?_
      refine l3 rfl rfl rfl ?_
      exact Z_A_join_191 hS hR  h
  by_cases e58 : v0 = 58
  · refine l_sw (pc' := 180) e58 rfl rfl rfl ?_
    refine l1 (n := 1) rfl rfl rfl (ll_of a1) ?_
    refine l1 (n := 1) rfl rfl rfl (ll_of a3) ?_
    refine l_op (T := (lg_cmp v1 v3)) rfl rfl rfl ?_
    refine l_if rfl (inr_ti _) (fun c => ?_) (fun c => ?_)
    · replace h := h.1 c
      refine l1 (n := 1) rfl rfl rfl rfl ?_
      exact Z_A_join_191 hS hR  h
    · replace h := h.2 c
      refine l1 (n := 1) rfl rfl rfl rfl ?_
      refine l3 rfl rfl rfl ?_
      exact Z_A_join_191 hS hR  h
  by_cases e59 : v0 = 59
  · refine l_sw (pc' := 180) e59 rfl rfl rfl ?_
    refine l1 (n := 1) rfl rfl rfl (ll_of a1) ?_
    refine l1 (n := 1) rfl rfl rfl (ll_of a3) ?_
    refine l_op (T := (lg_cmp v1 v3)) rfl rfl rfl ?_
    refine l_if rfl (inr_ti _) (fun c => ?_) (fun c => ?_)
    · replace h := h.1 c
      refine l1 (n := 1) rfl rfl rfl rfl ?_
      exact Z_A_join_191 hS hR  h
    · replace h := h.2 c
      refine l1 (n := 1) rfl rfl rfl rfl ?_
      refine l3 rfl rfl rfl ?_
      exact Z_A_join_191 hS hR  h
  refine l_swt (a := v0) rfl ia (swo_37_61 e37 e38 e39 e40 e41 e42 e43 e44 e45 e46 e47 e48 e49 e50 e51 e52 e53 e54 e55 e56 e57 e58 e59 e60 e61) ?_
  show lx _ _ _ 180 _ _ _ _
  refine l1 (n := 1) rfl rfl rfl (ll_of a1) ?_
  refine l1 (n := 1) rfl rfl rfl (ll_of a3) ?_
  refine l_op (T := (lg_cmp v1 v3)) rfl rfl rfl ?_
  refine l_if rfl (inr_ti _) (fun c => ?_) (fun c => ?_)
  · replace h := h.1 c
    refine l1 (n := 1) rfl rfl rfl rfl ?_
    exact Z_A_join_191 hS hR  h
  · replace h := h.2 c
    refine l1 (n := 1) rfl rfl rfl rfl ?_
    refine l3 rfl rfl rfl ?_
    exact Z_A_join_191 hS hR  h
def em_A_join (x0 : Int) (x1 : Int64) (x2 : Int64) (M : rf_M) (K : Int64 → rf_M → Prop) : Prop := e_A_join x0 x1 x2 M K
theorem Z_A_join_m {w fz : Bool} {S : gS} {B : rf_M} {M : rf_M} {n0 : Nat} {x0 : Int} {x1 : Int64} {x2 : Int64} {K : Int64 → rf_M → Prop} (hS : rl S) (hR : fl 22 (gwH w) B M) (ix0 : inr x0) (h : em_A_join x0 x1 x2 M K) : lx (cx0 fz) n0 75 0 (lv_args 0 [zv x0, .long x1, .long x2]) [] (M, S) (vl_l 22 (gwH w) B S K) :=
  Z_A_join hS hR ix0 rfl rfl rfl h
def e_A_workS_158 (v0 : Nat) (v1 : Nat) (v3 : Nat) (v4 : Int) (M : rf_M) (b8 : Nat → Nat → Nat → Int → rf_M → Prop) (K : Int → rf_M → Prop) : Prop := inr (v4 + 1) ∧ (b8 v0 v1 v3 (v4 + 1) M)
theorem Z_A_workS_158 {w fz : Bool} {S : gS} {B : rf_M} {M : rf_M} {ls : rf_L} {n0 : Nat} {v0 : Nat} {v1 : Nat} {v3 : Nat} {v4 : Int} {b8 : Nat → Nat → Nat → Int → rf_M → Prop} {K : Int → rf_M → Prop} (hS : rl S) (hR : fl 22 (gwH w) B M) (mv0 : v0 ∈ gwL5 w) (mv1 : v1 ∈ k1) (mv3 : v3 ∈ gwL4 w) (iv4 : inr v4) (a0 : rf_ld ls 0 = some (.ref v0)) (a1 : rf_ld ls 1 = some (.ref v1)) (a3 : rf_ld ls 3 = some (.ref v3)) (a4 : rf_ld ls 4 = some (zv v4)) (hb8 : ∀ n', n' < n0 → ∀ (v0 : Nat) (v1 : Nat) (v3 : Nat) (v4 : Int) (M : rf_M) (ls : rf_L), fl 22 (gwH w) B M → v0 ∈ gwL5 w → v1 ∈ k1 → v3 ∈ gwL4 w → inr v4 → rf_ld ls 0 = some (.ref v0) → rf_ld ls 1 = some (.ref v1) → rf_ld ls 3 = some (.ref v3) → rf_ld ls 4 = some (zv v4) → b8 v0 v1 v3 v4 M → lx (cx0 fz) n' 65 8 ls [] (M, S) (vl_i 22 (gwH w) B S K)) (h : e_A_workS_158 v0 v1 v3 v4 M b8 K) : lx (cx0 fz) n0 65 158 ls [] (M, S) (vl_i 22 (gwH w) B S K) := by
  unfold e_A_workS_158 at h
  rcases Nat.eq_zero_or_pos n0 with e0 | hp
  · rw [e0]; exact lx_zero
  refine l_ii rfl a4 (Nat.le_of_ble_eq_true rfl) (fun ls y1 ho => ?_)
  have y2 := ho 0 _ (by decide) (fun q => by cases q.2) a0
  have y3 := ho 1 _ (by decide) (fun q => by cases q.2) a1
  have y4 := ho 3 _ (by decide) (fun q => by cases q.2) a3
  refine l3 rfl rfl rfl ?_
  obtain ⟨i1, h⟩ := h
  exact hb8 _ (by omega) _ _ _ _ _ _ hR mv0 mv1 mv3 i1 y2 y3 y4 y1 h
def e_A_workS_143 (M : rf_M) (K : Int → rf_M → Prop) : Prop := K 2 M
theorem Z_A_workS_143 {w fz : Bool} {S : gS} {B : rf_M} {M : rf_M} {ls : rf_L} {n0 : Nat} {K : Int → rf_M → Prop} (hS : rl S) (hR : fl 22 (gwH w) B M) (h : e_A_workS_143 M K) : lx (cx0 fz) n0 65 143 ls [] (M, S) (vl_i 22 (gwH w) B S K) := by
  unfold e_A_workS_143 at h
  refine l1 (n := 1) rfl rfl rfl rfl ?_
  exact l_ri rfl rfl ⟨by decide, by decide⟩ hR h
def e_A_workS_145 (v0 : Nat) (v1 : Nat) (v3 : Nat) (v4 : Int) (v5 : Int) (v6 : Int64) (v8 : Int64) (M : rf_M) (b8 : Nat → Nat → Nat → Int → rf_M → Prop) (K : Int → rf_M → Prop) : Prop := em_A_join v5 v8 v6 M (fun (z1 : Int64) (M1 : rf_M) => em_A_push v0 z1 M1 (fun (M2 : rf_M) => e_A_workS_158 v0 v1 v3 v4 M2 b8 K))
theorem Z_A_workS_145 {w fz : Bool} {S : gS} {B : rf_M} {M : rf_M} {ls : rf_L} {n0 : Nat} {v0 : Nat} {v1 : Nat} {v3 : Nat} {v4 : Int} {v5 : Int} {v6 : Int64} {v8 : Int64} {b8 : Nat → Nat → Nat → Int → rf_M → Prop} {K : Int → rf_M → Prop} (hS : rl S) (hR : fl 22 (gwH w) B M) (mv0 : v0 ∈ gwL5 w) (mv1 : v1 ∈ k1) (mv3 : v3 ∈ gwL4 w) (iv4 : inr v4) (iv5 : inr v5) (a0 : rf_ld ls 0 = some (.ref v0)) (a1 : rf_ld ls 1 = some (.ref v1)) (a3 : rf_ld ls 3 = some (.ref v3)) (a4 : rf_ld ls 4 = some (zv v4)) (a5 : rf_ld ls 5 = some (zv v5)) (a6 : rf_ld ls 6 = some (.long v6)) (a8 : rf_ld ls 8 = some (.long v8)) (hb8 : ∀ n', n' < n0 → ∀ (v0 : Nat) (v1 : Nat) (v3 : Nat) (v4 : Int) (M : rf_M) (ls : rf_L), fl 22 (gwH w) B M → v0 ∈ gwL5 w → v1 ∈ k1 → v3 ∈ gwL4 w → inr v4 → rf_ld ls 0 = some (.ref v0) → rf_ld ls 1 = some (.ref v1) → rf_ld ls 3 = some (.ref v3) → rf_ld ls 4 = some (zv v4) → b8 v0 v1 v3 v4 M → lx (cx0 fz) n' 65 8 ls [] (M, S) (vl_i 22 (gwH w) B S K)) (h : e_A_workS_145 v0 v1 v3 v4 v5 v6 v8 M b8 K) : lx (cx0 fz) n0 65 145 ls [] (M, S) (vl_i 22 (gwH w) B S K) := by
  unfold e_A_workS_145 at h
  rcases Nat.eq_zero_or_pos n0 with e0 | hp
  · rw [e0]; exact lx_zero
  refine l1 (n := 1) rfl rfl rfl (la_of a0) ?_
  refine l1 (n := 2) rfl rfl rfl (li_of a5) ?_
  refine l1 (n := 2) rfl rfl rfl (ll_of a8) ?_
  refine l1 (n := 2) rfl rfl rfl (ll_of a6) ?_
  refine b_st (as := [zv v5, .long v8, .long v6]) (rest := [.ref v0]) rfl (by decide) rfl (Nat.le_of_ble_eq_true rfl) (fun hq => ?_)
  refine lx_mono (Z_A_join_m hS hR iv5 h) ?_
  rintro _ _ ⟨z1, M1, rfl, rfl, r1, h⟩
  refine b_iv (c := v0) (as := [.long z1]) (rest := []) rfl (by decide) (jgo_5 (w := w) hS mv0) rfl rfl (Nat.le_of_ble_eq_true rfl) (fun hq => ?_)
  refine lx_mono (Z_A_push_m hS r1 mv0 h) ?_
  rintro _ _ ⟨M2, rfl, rfl, r2, h⟩
  exact Z_A_workS_158 hS r2 mv0 mv1 mv3 iv4 a0 a1 a3 a4 (fun n' hn' => hb8 n' (by omega)) h
def e_A_workS_164 (M : rf_M) (K : Int → rf_M → Prop) : Prop := K 0 M
theorem Z_A_workS_164 {w fz : Bool} {S : gS} {B : rf_M} {M : rf_M} {ls : rf_L} {n0 : Nat} {K : Int → rf_M → Prop} (hS : rl S) (hR : fl 22 (gwH w) B M) (h : e_A_workS_164 M K) : lx (cx0 fz) n0 65 164 ls [] (M, S) (vl_i 22 (gwH w) B S K) := by
  unfold e_A_workS_164 at h
  refine l1 (n := 1) rfl rfl rfl rfl ?_
  exact l_ri rfl rfl ⟨by decide, by decide⟩ hR h
def e_A_workS_8b (v0 : Nat) (v1 : Nat) (v3 : Nat) (v4 : Int) (M : rf_M) (b8 : Nat → Nat → Nat → Int → rf_M → Prop) (K : Int → rf_M → Prop) : Prop := (v4 < 0 → (e_A_workS_164 M K)) ∧ (¬ (v4 < 0) → (((gi M v1 3) ≤ v4 → (e_A_workS_164 M K)) ∧ (¬ ((gi M v1 3) ≤ v4) → ((0 ≤ v4 ∧ v4 < 160 → (((gi M (v1 + 10) (v4).toNat) = 0 → (K 0 M)) ∧ (¬ (gi M (v1 + 10) (v4).toNat) = 0 → (((gi M (v1 + 10) (v4).toNat) = 1 → ((0 ≤ v4 ∧ v4 < 160 → (em_A_push v0 (Int32.ofInt (gi M (v1 + 11) (v4).toNat)).toInt64 M (fun (M7 : rf_M) => e_A_workS_158 v0 v1 v3 v4 M7 b8 K))))) ∧ (¬ (gi M (v1 + 10) (v4).toNat) = 1 → (((gi M (v1 + 10) (v4).toNat) = 2 → ((0 ≤ v4 ∧ v4 < 160 → (em_S_find v3 (gi M (v1 + 11) (v4).toNat) M (fun (z5 : Int) (M5 : rf_M) => (z5 = 0 → (K 1 M5)) ∧ (¬ z5 = 0 → (em_A_push v0 (gl M5 v3 7) M5 (fun (M6 : rf_M) => e_A_workS_158 v0 v1 v3 v4 M6 b8 K)))))))) ∧ (¬ (gi M (v1 + 10) (v4).toNat) = 2 → (((gi M (v1 + 10) (v4).toNat) = 3 → (em_A_pop v0 M (fun (z3 : Int64) (M3 : rf_M) => em_A_push v0 (-z3) M3 (fun (M4 : rf_M) => e_A_workS_158 v0 v1 v3 v4 M4 b8 K)))) ∧ (¬ (gi M (v1 + 10) (v4).toNat) = 3 → (em_A_pop v0 M (fun (z1 : Int64) (M1 : rf_M) => em_A_pop v0 M1 (fun (z2 : Int64) (M2 : rf_M) => ((lg_cmp z1 (Int64.ofNat 0)).toInt = 0 → (((gi M (v1 + 10) (v4).toNat) = 47 → (e_A_workS_143 M2 K)) ∧ (¬ ((gi M (v1 + 10) (v4).toNat) = 47) → (((gi M (v1 + 10) (v4).toNat) = 37 → (e_A_workS_143 M2 K)) ∧ (¬ (gi M (v1 + 10) (v4).toNat) = 37 → (e_A_workS_145 v0 v1 v3 v4 (gi M (v1 + 10) (v4).toNat) z1 z2 M2 b8 K)))))) ∧ (¬ (lg_cmp z1 (Int64.ofNat 0)).toInt = 0 → (e_A_workS_145 v0 v1 v3 v4 (gi M (v1 + 10) (v4).toNat) z1 z2 M2 b8 K))))))))))))))))))
theorem Z_A_workS_8b {w fz : Bool} {S : gS} {B : rf_M} {M : rf_M} {ls : rf_L} {n0 : Nat} {v0 : Nat} {v1 : Nat} {v3 : Nat} {v4 : Int} {b8 : Nat → Nat → Nat → Int → rf_M → Prop} {K : Int → rf_M → Prop} (hS : rl S) (hR : fl 22 (gwH w) B M) (mv0 : v0 ∈ gwL5 w) (mv1 : v1 ∈ k1) (mv3 : v3 ∈ gwL4 w) (iv4 : inr v4) (a0 : rf_ld ls 0 = some (.ref v0)) (a1 : rf_ld ls 1 = some (.ref v1)) (a3 : rf_ld ls 3 = some (.ref v3)) (a4 : rf_ld ls 4 = some (zv v4)) (hb8 : ∀ n', n' < n0 → ∀ (v0 : Nat) (v1 : Nat) (v3 : Nat) (v4 : Int) (M : rf_M) (ls : rf_L), fl 22 (gwH w) B M → v0 ∈ gwL5 w → v1 ∈ k1 → v3 ∈ gwL4 w → inr v4 → rf_ld ls 0 = some (.ref v0) → rf_ld ls 1 = some (.ref v1) → rf_ld ls 3 = some (.ref v3) → rf_ld ls 4 = some (zv v4) → b8 v0 v1 v3 v4 M → lx (cx0 fz) n' 65 8 ls [] (M, S) (vl_i 22 (gwH w) B S K)) (h : e_A_workS_8b v0 v1 v3 v4 M b8 K) : lx (cx0 fz) n0 65 8 ls [] (M, S) (vl_i 22 (gwH w) B S K) := by
  unfold e_A_workS_8b at h
  rcases Nat.eq_zero_or_pos n0 with e0 | hp
  · rw [e0]; exact lx_zero
  refine l1 (n := 2) rfl rfl rfl (li_of a4) ?_
  refine l_if rfl iv4 (fun c => ?_) (fun c => ?_)
  · replace h := h.1 c
    exact Z_A_workS_164 hS hR  h
  · replace h := h.2 c
    refine l1 (n := 2) rfl rfl rfl (li_of a4) ?_
    refine l1 (n := 1) rfl rfl rfl (la_of a1) ?_
    refine l_gi rfl (ko_1 hS mv1) rfl (fun _ => rfl) ?_
    refine l_ic rfl iv4 (inr_gi _ _ _) (fun c => ?_) (fun c => ?_)
    · replace h := h.1 c
      exact Z_A_workS_164 hS hR  h
    · replace h := h.2 c
      refine l1 (n := 1) rfl rfl rfl (la_of a1) ?_
      refine l_gr rfl (ko_1 hS mv1) rfl (fun _ => rfl) (kf_1_14 hR.2 mv1) ?_
      refine l1 (n := 2) rfl rfl rfl (li_of a4) ?_
      refine b_ia rfl (jgt_1_14 (w := w) (fz := fz) hS mv1).1 (Nat.le_of_ble_eq_true rfl) iv4 (fun q => ?_)
      replace h := h q
      refine l_s1 (n := 2) rfl rfl rfl rfl (fun ls y1 ho => ?_)
      have y2 := ho 0 _ (by decide) (fun q => by cases q.2) a0
      have y3 := ho 1 _ (by decide) (fun q => by cases q.2) a1
      have y4 := ho 3 _ (by decide) (fun q => by cases q.2) a3
      have y5 := ho 4 _ (by decide) (fun q => by cases q.2) a4
      refine l1 (n := 2) rfl rfl rfl (li_of y1) ?_
      refine l_if rfl (inr_gi _ _ _) (fun c => ?_) (fun c => ?_)
      · replace h := h.2 c
        refine l1 (n := 2) rfl rfl rfl (li_of y1) ?_
        refine l1 (n := 1) rfl rfl rfl rfl ?_
        refine l_ic rfl (inr_gi _ _ _) ⟨by decide, by decide⟩ (fun c => ?_) (fun c => ?_)
        · replace h := h.2 c
          refine l1 (n := 2) rfl rfl rfl (li_of y1) ?_
          refine l1 (n := 1) rfl rfl rfl rfl ?_
          refine l_ic rfl (inr_gi _ _ _) ⟨by decide, by decide⟩ (fun c => ?_) (fun c => ?_)
          · replace h := h.2 c
            refine l1 (n := 2) rfl rfl rfl (li_of y1) ?_
            refine l1 (n := 1) rfl rfl rfl rfl ?_
            refine l_ic rfl (inr_gi _ _ _) ⟨by decide, by decide⟩ (fun c => ?_) (fun c => ?_)
            · replace h := h.2 c
              refine l1 (n := 1) rfl rfl rfl (la_of y2) ?_
              refine b_iv (c := v0) (as := []) (rest := []) rfl (by decide) (jgo_5 (w := w) hS mv0) rfl rfl (Nat.le_of_ble_eq_true rfl) (fun hq => ?_)
              refine lx_mono (Z_A_pop_m hS hR mv0 h) ?_
              rintro _ _ ⟨z1, M1, rfl, rfl, r1, h⟩
              refine l_s2 (n := 2) rfl rfl rfl rfl (fun ls y6 ho => ?_)
              have y7 := ho 0 _ (by decide) (by decide) (fun q => by cases q.2) y2
              have y8 := ho 1 _ (by decide) (by decide) (fun q => by cases q.2) y3
              have y9 := ho 3 _ (by decide) (by decide) (fun q => by cases q.2) y4
              have y10 := ho 4 _ (by decide) (by decide) (fun q => by cases q.2) y5
              have y11 := ho 5 _ (by decide) (by decide) (fun q => by cases q.2) y1
              refine l1 (n := 1) rfl rfl rfl (la_of y7) ?_
              refine b_iv (c := v0) (as := []) (rest := []) rfl (by decide) (jgo_5 (w := w) hS mv0) rfl rfl (Nat.le_of_ble_eq_true rfl) (fun hq => ?_)
              refine lx_mono (Z_A_pop_m hS r1 mv0 h) ?_
              rintro _ _ ⟨z2, M2, rfl, rfl, r2, h⟩
              refine l_s2 (n := 2) rfl rfl rfl rfl (fun ls y12 ho => ?_)
              have y13 := ho 0 _ (by decide) (by decide) (fun q => by cases q.2) y7
              have y14 := ho 1 _ (by decide) (by decide) (fun q => by cases q.2) y8
              have y15 := ho 3 _ (by decide) (by decide) (fun q => by cases q.2) y9
              have y16 := ho 4 _ (by decide) (by decide) (fun q => by cases q.2) y10
              have y17 := ho 5 _ (by decide) (by decide) (fun q => by cases q.2) y11
              have y18 := ho 6 _ (by decide) (by decide) (fun q => absurd q.1 (by decide)) y6
              refine l1 (n := 2) rfl rfl rfl (ll_of y18) ?_
              refine l1 (n := 1) rfl rfl rfl rfl ?_
              refine l_op (T := (lg_cmp z1 (Int64.ofNat 0))) rfl rfl rfl ?_
              refine l_if rfl (inr_ti _) (fun c => ?_) (fun c => ?_)
              · replace h := h.2 c
                exact Z_A_workS_145 hS r2 mv0 mv1 mv3 iv4 (inr_gi _ _ _) y13 y14 y15 y16 y17 y18 y12 (fun n' hn' => hb8 n' (by omega)) h
              · replace h := h.1 (Classical.not_not.mp c)
                refine l1 (n := 2) rfl rfl rfl (li_of y17) ?_
                refine l_bi rfl (by decide) ?_
                refine l_ic rfl (inr_gi _ _ _) ⟨by decide, by decide⟩ (fun c => ?_) (fun c => ?_)
                · replace h := h.1 c
                  exact Z_A_workS_143 hS r2  h
                · replace h := h.2 c
                  refine l1 (n := 2) rfl rfl rfl (li_of y17) ?_
                  refine l_bi rfl (by decide) ?_
                  refine l_ic rfl (inr_gi _ _ _) ⟨by decide, by decide⟩ (fun c => ?_) (fun c => ?_)
                  · replace h := h.2 c
                    exact Z_A_workS_145 hS r2 mv0 mv1 mv3 iv4 (inr_gi _ _ _) y13 y14 y15 y16 y17 y18 y12 (fun n' hn' => hb8 n' (by omega)) h
                  · replace h := h.1 (Classical.not_not.mp c)
                    exact Z_A_workS_143 hS r2  h
            · replace h := h.1 (Classical.not_not.mp c)
              refine l1 (n := 1) rfl rfl rfl (la_of y2) ?_
              refine l1 (n := 1) rfl rfl rfl (la_of y2) ?_
              refine b_iv (c := v0) (as := []) (rest := [.ref v0]) rfl (by decide) (jgo_5 (w := w) hS mv0) rfl rfl (Nat.le_of_ble_eq_true rfl) (fun hq => ?_)
              refine lx_mono (Z_A_pop_m hS hR mv0 h) ?_
              rintro _ _ ⟨z3, M3, rfl, rfl, r3, h⟩
              refine l0 rfl rfl rfl ?_
              refine b_iv (c := v0) (as := [.long (-z3)]) (rest := []) rfl (by decide) (jgo_5 (w := w) hS mv0) rfl rfl (Nat.le_of_ble_eq_true rfl) (fun hq => ?_)
              refine lx_mono (Z_A_push_m hS r3 mv0 h) ?_
              rintro _ _ ⟨M4, rfl, rfl, r4, h⟩
              refine l3 rfl rfl rfl ?_
              exact Z_A_workS_158 hS r4 mv0 mv1 mv3 iv4 y2 y3 y4 y5 (fun n' hn' => hb8 n' (by omega)) h
          · replace h := h.1 (Classical.not_not.mp c)
            refine l1 (n := 1) rfl rfl rfl (la_of y4) ?_
            refine l1 (n := 1) rfl rfl rfl (la_of y3) ?_
            refine l_gr rfl (ko_1 hS mv1) rfl (fun _ => rfl) (kf_1_15 hR.2 mv1) ?_
            refine l1 (n := 2) rfl rfl rfl (li_of y5) ?_
            refine b_ia rfl (jgt_1_15 (w := w) (fz := fz) hS mv1).1 (Nat.le_of_ble_eq_true rfl) iv4 (fun q => ?_)
            replace h := h q
            refine b_iv (c := v3) (as := [zv (gi M (v1 + 11) (v4).toNat)]) (rest := []) rfl (by decide) (jgo_4 (w := w) hS mv3) rfl rfl (Nat.le_of_ble_eq_true rfl) (fun hq => ?_)
            refine lx_mono (Z_S_find_m hS hR mv3 (inr_gi _ _ _) h) ?_
            rintro _ _ ⟨z5, M5, rfl, rfl, r5, iz5, h⟩
            refine l_if rfl iz5 (fun c => ?_) (fun c => ?_)
            · replace h := h.2 c
              refine l1 (n := 1) rfl rfl rfl (la_of y2) ?_
              refine l1 (n := 1) rfl rfl rfl (la_of y4) ?_
              refine l_gl rfl (jgo_4 (w := w) hS mv3) rfl (fun _ => rfl) ?_
              refine b_iv (c := v0) (as := [.long (gl M5 v3 7)]) (rest := []) rfl (by decide) (jgo_5 (w := w) hS mv0) rfl rfl (Nat.le_of_ble_eq_true rfl) (fun hq => ?_)
              refine lx_mono (Z_A_push_m hS r5 mv0 h) ?_
              rintro _ _ ⟨M6, rfl, rfl, r6, h⟩
              refine l3 rfl rfl rfl ?_
              exact Z_A_workS_158 hS r6 mv0 mv1 mv3 iv4 y2 y3 y4 y5 (fun n' hn' => hb8 n' (by omega)) h
            · replace h := h.1 (Classical.not_not.mp c)
              refine l1 (n := 1) rfl rfl rfl rfl ?_
              exact l_ri rfl rfl ⟨by decide, by decide⟩ r5 h
        · replace h := h.1 (Classical.not_not.mp c)
          refine l1 (n := 1) rfl rfl rfl (la_of y2) ?_
          refine l1 (n := 1) rfl rfl rfl (la_of y3) ?_
          refine l_gr rfl (ko_1 hS mv1) rfl (fun _ => rfl) (kf_1_15 hR.2 mv1) ?_
          refine l1 (n := 2) rfl rfl rfl (li_of y5) ?_
          refine b_ia rfl (jgt_1_15 (w := w) (fz := fz) hS mv1).1 (Nat.le_of_ble_eq_true rfl) iv4 (fun q => ?_)
          replace h := h q
          refine l0 rfl rfl rfl ?_
          refine b_iv (c := v0) (as := [.long (Int32.ofInt (gi M (v1 + 11) (v4).toNat)).toInt64]) (rest := []) rfl (by decide) (jgo_5 (w := w) hS mv0) rfl rfl (Nat.le_of_ble_eq_true rfl) (fun hq => ?_)
          refine lx_mono (Z_A_push_m hS hR mv0 h) ?_
          rintro _ _ ⟨M7, rfl, rfl, r7, h⟩
          refine l3 rfl rfl rfl ?_
          exact Z_A_workS_158 hS r7 mv0 mv1 mv3 iv4 y2 y3 y4 y5 (fun n' hn' => hb8 n' (by omega)) h
      · replace h := h.1 (Classical.not_not.mp c)
        refine l1 (n := 1) rfl rfl rfl rfl ?_
        exact l_ri rfl rfl ⟨by decide, by decide⟩ hR h
def e_A_workS_8 (v0 : Nat) (v1 : Nat) (v3 : Nat) (v4 : Int) (M : rf_M) (K : Int → rf_M → Prop) : Prop := ∃ Inv : Nat → Nat → Nat → Int → rf_M → Prop, Inv v0 v1 v3 v4 M ∧ ∀ (v0 : Nat) (v1 : Nat) (v3 : Nat) (v4 : Int) (M : rf_M), inr v4 → Inv v0 v1 v3 v4 M → e_A_workS_8b v0 v1 v3 v4 M Inv K
theorem Z_A_workS_8 {w fz : Bool} {S : gS} {B : rf_M} {M : rf_M} {ls : rf_L} {n0 : Nat} {v0 : Nat} {v1 : Nat} {v3 : Nat} {v4 : Int} {K : Int → rf_M → Prop} (hS : rl S) (hR : fl 22 (gwH w) B M) (mv0 : v0 ∈ gwL5 w) (mv1 : v1 ∈ k1) (mv3 : v3 ∈ gwL4 w) (iv4 : inr v4) (a0 : rf_ld ls 0 = some (.ref v0)) (a1 : rf_ld ls 1 = some (.ref v1)) (a3 : rf_ld ls 3 = some (.ref v3)) (a4 : rf_ld ls 4 = some (zv v4)) (h : e_A_workS_8 v0 v1 v3 v4 M K) : lx (cx0 fz) n0 65 8 ls [] (M, S) (vl_i 22 (gwH w) B S K) := by
  obtain ⟨Inv, hm, hb⟩ := h
  induction n0 using Nat.strongRecOn generalizing ls M v0 v1 v3 v4 with
  | _ n0 ih =>
    refine Z_A_workS_8b hS hR mv0 mv1 mv3 iv4 a0 a1 a3 a4 (fun n' hn' v0' v1' v3' v4' M' ls' hR' f0 f1 f2 f3 f4 f5 f6 f7 q2 => ih n' hn' hR' f0 f1 f2 f3 f4 f5 f6 f7 q2) (hb v0 v1 v3 v4 M iv4 hm)
def e_A_workS (v0 : Nat) (v1 : Nat) (v2 : Int) (v3 : Nat) (M : rf_M) (K : Int → rf_M → Prop) : Prop := ∀ M1 : rf_M, M1 = wi M v0 1 0 → (e_A_workS_8 v0 v1 v3 v2 M1 K)
theorem Z_A_workS {w fz : Bool} {S : gS} {B : rf_M} {M : rf_M} {ls : rf_L} {n0 : Nat} {v0 : Nat} {v1 : Nat} {v2 : Int} {v3 : Nat} {K : Int → rf_M → Prop} (hS : rl S) (hR : fl 22 (gwH w) B M) (mv0 : v0 ∈ gwL5 w) (mv1 : v1 ∈ k1) (iv2 : inr v2) (mv3 : v3 ∈ gwL4 w) (a0 : rf_ld ls 0 = some (.ref v0)) (a1 : rf_ld ls 1 = some (.ref v1)) (a2 : rf_ld ls 2 = some (zv v2)) (a3 : rf_ld ls 3 = some (.ref v3)) (h : e_A_workS v0 v1 v2 v3 M K) : lx (cx0 fz) n0 65 0 ls [] (M, S) (vl_i 22 (gwH w) B S K) := by
  unfold e_A_workS at h
  refine l1 (n := 1) rfl rfl rfl (la_of a0) ?_
  refine l1 (n := 1) rfl rfl rfl rfl ?_
  refine l_pi rfl (jgo_5 (w := w) (fz := fz) hS mv0) rfl (fun _ _ => rfl) (fun M1 e => ?_)
  replace h := h M1 e
  have r1 := hR.wi (jgo_5 (w := w) (fz := fz) hS mv0).1 (jgl_5 (w := w) mv0) e
  refine l1 (n := 1) rfl rfl rfl (li_of a2) ?_
  refine l_s1 (n := 2) rfl rfl rfl rfl (fun ls y1 ho => ?_)
  have y2 := ho 0 _ (by decide) (fun q => by cases q.2) a0
  have y3 := ho 1 _ (by decide) (fun q => by cases q.2) a1
  have y4 := ho 3 _ (by decide) (fun q => by cases q.2) a3
  exact Z_A_workS_8 hS r1 mv0 mv1 mv3 iv2 y2 y3 y4 y1 h
def em_A_workS (x0 : Nat) (x1 : Nat) (x2 : Int) (x3 : Nat) (M : rf_M) (K : Int → rf_M → Prop) : Prop := e_A_workS x0 x1 x2 x3 M K
theorem Z_A_workS_m {w fz : Bool} {S : gS} {B : rf_M} {M : rf_M} {n0 : Nat} {x0 : Nat} {x1 : Nat} {x2 : Int} {x3 : Nat} {K : Int → rf_M → Prop} (hS : rl S) (hR : fl 22 (gwH w) B M) (mx0 : x0 ∈ gwL5 w) (mx1 : x1 ∈ k1) (ix2 : inr x2) (mx3 : x3 ∈ gwL4 w) (h : em_A_workS x0 x1 x2 x3 M K) : lx (cx0 fz) n0 65 0 (lv_args 0 [.ref x0, .ref x1, zv x2, .ref x3]) [] (M, S) (vl_i 22 (gwH w) B S K) :=
  Z_A_workS hS hR mx0 mx1 ix2 mx3 rfl rfl rfl rfl h
def e_A_result_17 (s0 : Int64) (M : rf_M) (K : Int64 → rf_M → Prop) : Prop := K s0 M
theorem Z_A_result_17 {w fz : Bool} {S : gS} {B : rf_M} {M : rf_M} {ls : rf_L} {n0 : Nat} {s0 : Int64} {K : Int64 → rf_M → Prop} (hS : rl S) (hR : fl 22 (gwH w) B M) (h : e_A_result_17 s0 M K) : lx (cx0 fz) n0 76 17 ls [.long s0] (M, S) (vl_l 22 (gwH w) B S K) := by
  unfold e_A_result_17 at h
  exact l_rl rfl rfl hR h
def e_A_result (v0 : Nat) (M : rf_M) (K : Int64 → rf_M → Prop) : Prop := ((gi M v0 1) ≤ 0 → (e_A_result_17 (Int64.ofNat 0) M K)) ∧ (¬ ((gi M v0 1) ≤ 0) → ((0 ≤ (0 : Int) ∧ (0 : Int) < 60 → (e_A_result_17 (gl M (v0 + 1) 0) M K))))
theorem Z_A_result {w fz : Bool} {S : gS} {B : rf_M} {M : rf_M} {ls : rf_L} {n0 : Nat} {v0 : Nat} {K : Int64 → rf_M → Prop} (hS : rl S) (hR : fl 22 (gwH w) B M) (mv0 : v0 ∈ gwL5 w) (a0 : rf_ld ls 0 = some (.ref v0)) (h : e_A_result v0 M K) : lx (cx0 fz) n0 76 0 ls [] (M, S) (vl_l 22 (gwH w) B S K) := by
  unfold e_A_result at h
  refine l1 (n := 1) rfl rfl rfl (la_of a0) ?_
  refine l_gi rfl (jgo_5 (w := w) hS mv0) rfl (fun _ => rfl) ?_
  refine l_if rfl (inr_gi _ _ _) (fun c => ?_) (fun c => ?_)
  · replace h := h.1 c
    refine l1 (n := 1) rfl rfl rfl rfl ?_
    exact Z_A_result_17 hS hR  h
  · replace h := h.2 c
    refine l1 (n := 1) rfl rfl rfl (la_of a0) ?_
    refine l_gr rfl (jgo_5 (w := w) hS mv0) rfl (fun _ => rfl) (jgf_5_0 (w := w) hR.2 mv0) ?_
    refine l1 (n := 1) rfl rfl rfl rfl ?_
    refine b_la rfl (jgt_5_0 (w := w) (fz := fz) hS mv0).1 (Nat.le_of_ble_eq_true rfl) ⟨by decide, by decide⟩ (fun q => ?_)
    replace h := h q
    refine l3 rfl rfl rfl ?_
    exact Z_A_result_17 hS hR  h
def em_A_result (x0 : Nat) (M : rf_M) (K : Int64 → rf_M → Prop) : Prop := e_A_result x0 M K
theorem Z_A_result_m {w fz : Bool} {S : gS} {B : rf_M} {M : rf_M} {n0 : Nat} {x0 : Nat} {K : Int64 → rf_M → Prop} (hS : rl S) (hR : fl 22 (gwH w) B M) (mx0 : x0 ∈ gwL5 w) (h : em_A_result x0 M K) : lx (cx0 fz) n0 76 0 (lv_args 0 [.ref x0]) [] (M, S) (vl_l 22 (gwH w) B S K) :=
  Z_A_result hS hR mx0 rfl h
def e_S_holdsAhead_49 (s0 : Int) (M : rf_M) (K : Int → rf_M → Prop) : Prop := (s0 = 0 ∨ s0 = 1) ∧ K s0 M
theorem Z_S_holdsAhead_49 {w fz : Bool} {S : gS} {B : rf_M} {M : rf_M} {ls : rf_L} {n0 : Nat} {s0 : Int} {K : Int → rf_M → Prop} (hS : rl S) (hR : fl 22 (gwH w) B M) (is0 : inr s0) (h : e_S_holdsAhead_49 s0 M K) : lx (cx0 fz) n0 63 49 ls [zv s0] (M, S) (vl_i 22 (gwH w) B S K) := by
  unfold e_S_holdsAhead_49 at h
  exact l_rb rfl rfl h.1 hR h.2
def e_S_holdsAhead_48 (M : rf_M) (K : Int → rf_M → Prop) : Prop := e_S_holdsAhead_49 0 M K
theorem Z_S_holdsAhead_48 {w fz : Bool} {S : gS} {B : rf_M} {M : rf_M} {ls : rf_L} {n0 : Nat} {K : Int → rf_M → Prop} (hS : rl S) (hR : fl 22 (gwH w) B M) (h : e_S_holdsAhead_48 M K) : lx (cx0 fz) n0 63 48 ls [] (M, S) (vl_i 22 (gwH w) B S K) := by
  unfold e_S_holdsAhead_48 at h
  refine l1 (n := 1) rfl rfl rfl rfl ?_
  exact Z_S_holdsAhead_49 hS hR ⟨by decide, by decide⟩ h
def e_S_holdsAhead (v0 : Nat) (v1 : Nat) (v2 : Int) (M : rf_M) (K : Int → rf_M → Prop) : Prop := em_P_has v1 v2 M (fun (z1 : Int) (M1 : rf_M) => (z1 = 0 → (K 0 M1)) ∧ (¬ z1 = 0 → ((0 ≤ v2 ∧ v2 < 40 → (em_A_workS (v0 + 6) v1 (gi M1 (v1 + 3) (v2).toNat) v0 M1 (fun (z2 : Int) (M2 : rf_M) => (z2 = 0 → (em_A_result (v0 + 6) M2 (fun (z3 : Int64) (M3 : rf_M) => ((lg_cmp z3 (Int64.ofNat 0)).toInt = 0 → (e_S_holdsAhead_48 M3 K)) ∧ (¬ ((lg_cmp z3 (Int64.ofNat 0)).toInt = 0) → (e_S_holdsAhead_49 1 M3 K))))) ∧ (¬ z2 = 0 → (e_S_holdsAhead_48 M2 K))))))))
theorem Z_S_holdsAhead {w fz : Bool} {S : gS} {B : rf_M} {M : rf_M} {ls : rf_L} {n0 : Nat} {v0 : Nat} {v1 : Nat} {v2 : Int} {K : Int → rf_M → Prop} (hS : rl S) (hR : fl 22 (gwH w) B M) (mv0 : v0 ∈ gwL4 w) (mv1 : v1 ∈ k1) (iv2 : inr v2) (a0 : rf_ld ls 0 = some (.ref v0)) (a1 : rf_ld ls 1 = some (.ref v1)) (a2 : rf_ld ls 2 = some (zv v2)) (h : e_S_holdsAhead v0 v1 v2 M K) : lx (cx0 fz) n0 63 0 ls [] (M, S) (vl_i 22 (gwH w) B S K) := by
  unfold e_S_holdsAhead at h
  refine l1 (n := 1) rfl rfl rfl (la_of a1) ?_
  refine l3 rfl rfl rfl ?_
  refine l1 (n := 1) rfl rfl rfl (la_of a1) ?_
  refine l1 (n := 1) rfl rfl rfl (li_of a2) ?_
  refine b_iv (c := v1) (as := [zv v2]) (rest := []) rfl (by decide) (ko_1 hS mv1) rfl rfl (Nat.le_of_ble_eq_true rfl) (fun hq => ?_)
  refine lx_mono (Z_P_has_m hS hR mv1 iv2 h) ?_
  rintro _ _ ⟨z1, M1, rfl, rfl, r1, iz1, h⟩
  refine l_if rfl iz1 (fun c => ?_) (fun c => ?_)
  · replace h := h.2 c
    refine l1 (n := 1) rfl rfl rfl (la_of a0) ?_
    refine l_gr rfl (jgo_4 (w := w) hS mv0) rfl (fun _ => rfl) (jgf_4_6 (w := w) r1.2 mv0) ?_
    refine l1 (n := 1) rfl rfl rfl (la_of a1) ?_
    refine l1 (n := 1) rfl rfl rfl (la_of a1) ?_
    refine l_gr rfl (ko_1 hS mv1) rfl (fun _ => rfl) (kf_1_7 r1.2 mv1) ?_
    refine l1 (n := 1) rfl rfl rfl (li_of a2) ?_
    refine b_ia rfl (jgt_1_7 (w := w) (fz := fz) hS mv1).1 (Nat.le_of_ble_eq_true rfl) iv2 (fun q => ?_)
    replace h := h q
    refine l1 (n := 1) rfl rfl rfl (la_of a0) ?_
    refine b_iv (c := (v0 + 6)) (as := [.ref v1, zv (gi M1 (v1 + 3) (v2).toNat), .ref v0]) (rest := []) rfl (by decide) (jgo_5 (w := w) hS (jgt_4_6 (w := w) mv0)) rfl rfl (Nat.le_of_ble_eq_true rfl) (fun hq => ?_)
    refine lx_mono (Z_A_workS_m hS r1 (jgt_4_6 (w := w) mv0) mv1 (inr_gi _ _ _) mv0 h) ?_
    rintro _ _ ⟨z2, M2, rfl, rfl, r2, iz2, h⟩
    refine l_if rfl iz2 (fun c => ?_) (fun c => ?_)
    · replace h := h.2 c
      exact Z_S_holdsAhead_48 hS r2  h
    · replace h := h.1 (Classical.not_not.mp c)
      refine l1 (n := 1) rfl rfl rfl (la_of a0) ?_
      refine l_gr rfl (jgo_4 (w := w) hS mv0) rfl (fun _ => rfl) (jgf_4_6 (w := w) r2.2 mv0) ?_
      refine b_iv (c := (v0 + 6)) (as := []) (rest := []) rfl (by decide) (jgo_5 (w := w) hS (jgt_4_6 (w := w) mv0)) rfl rfl (Nat.le_of_ble_eq_true rfl) (fun hq => ?_)
      refine lx_mono (Z_A_result_m hS r2 (jgt_4_6 (w := w) mv0) h) ?_
      rintro _ _ ⟨z3, M3, rfl, rfl, r3, h⟩
      refine l1 (n := 1) rfl rfl rfl rfl ?_
      refine l_op (T := (lg_cmp z3 (Int64.ofNat 0))) rfl rfl rfl ?_
      refine l_if rfl (inr_ti _) (fun c => ?_) (fun c => ?_)
      · replace h := h.1 c
        exact Z_S_holdsAhead_48 hS r3  h
      · replace h := h.2 c
        refine l1 (n := 1) rfl rfl rfl rfl ?_
        refine l3 rfl rfl rfl ?_
        exact Z_S_holdsAhead_49 hS r3 ⟨by decide, by decide⟩ h
  · replace h := h.1 (Classical.not_not.mp c)
    refine l1 (n := 1) rfl rfl rfl rfl ?_
    exact l_rb rfl rfl (Or.inl rfl) r1 h
def em_S_holdsAhead (x0 : Nat) (x1 : Nat) (x2 : Int) (M : rf_M) (K : Int → rf_M → Prop) : Prop := e_S_holdsAhead x0 x1 x2 M K
theorem Z_S_holdsAhead_m {w fz : Bool} {S : gS} {B : rf_M} {M : rf_M} {n0 : Nat} {x0 : Nat} {x1 : Nat} {x2 : Int} {K : Int → rf_M → Prop} (hS : rl S) (hR : fl 22 (gwH w) B M) (mx0 : x0 ∈ gwL4 w) (mx1 : x1 ∈ k1) (ix2 : inr x2) (h : em_S_holdsAhead x0 x1 x2 M K) : lx (cx0 fz) n0 63 0 (lv_args 0 [.ref x0, .ref x1, zv x2]) [] (M, S) (vl_i 22 (gwH w) B S K) :=
  Z_S_holdsAhead hS hR mx0 mx1 ix2 rfl rfl rfl h
def e_S_holdAhead_2b (v0 : Nat) (v1 : Int) (M : rf_M) (b2 : Nat → Int → rf_M → Prop) (K : Int → rf_M → Prop) : Prop := ((gi M v0 2) ≤ v1 → (K 1 M)) ∧ (¬ ((gi M v0 2) ≤ v1) → ((0 ≤ v1 ∧ v1 < 32 → (isP M (v0 + 3) (v1).toNat ∧ ((0 ≤ v1 ∧ v1 < 32 → (em_S_holdsAhead v0 (gr M (v0 + 3) (v1).toNat) (gi M (v0 + 4) (v1).toNat) M (fun (z1 : Int) (M1 : rf_M) => (z1 = 0 → (K 0 M1)) ∧ (¬ z1 = 0 → (inr (v1 + 1) ∧ (b2 v0 (v1 + 1) M1)))))))))))
theorem Z_S_holdAhead_2b {w fz : Bool} {S : gS} {B : rf_M} {M : rf_M} {ls : rf_L} {n0 : Nat} {v0 : Nat} {v1 : Int} {b2 : Nat → Int → rf_M → Prop} {K : Int → rf_M → Prop} (hS : rl S) (hR : fl 22 (gwH w) B M) (mv0 : v0 ∈ gwL4 w) (iv1 : inr v1) (a0 : rf_ld ls 0 = some (.ref v0)) (a1 : rf_ld ls 1 = some (zv v1)) (hb2 : ∀ n', n' < n0 → ∀ (v0 : Nat) (v1 : Int) (M : rf_M) (ls : rf_L), fl 22 (gwH w) B M → v0 ∈ gwL4 w → inr v1 → rf_ld ls 0 = some (.ref v0) → rf_ld ls 1 = some (zv v1) → b2 v0 v1 M → lx (cx0 fz) n' 62 2 ls [] (M, S) (vl_i 22 (gwH w) B S K)) (h : e_S_holdAhead_2b v0 v1 M b2 K) : lx (cx0 fz) n0 62 2 ls [] (M, S) (vl_i 22 (gwH w) B S K) := by
  unfold e_S_holdAhead_2b at h
  rcases Nat.eq_zero_or_pos n0 with e0 | hp
  · rw [e0]; exact lx_zero
  refine l1 (n := 1) rfl rfl rfl (li_of a1) ?_
  refine l1 (n := 1) rfl rfl rfl (la_of a0) ?_
  refine l_gi rfl (jgo_4 (w := w) hS mv0) rfl (fun _ => rfl) ?_
  refine l_ic rfl iv1 (inr_gi _ _ _) (fun c => ?_) (fun c => ?_)
  · replace h := h.1 c
    refine l1 (n := 1) rfl rfl rfl rfl ?_
    exact l_rb rfl rfl (Or.inr rfl) hR h
  · replace h := h.2 c
    refine l1 (n := 1) rfl rfl rfl (la_of a0) ?_
    refine l1 (n := 1) rfl rfl rfl (la_of a0) ?_
    refine l_gr rfl (jgo_4 (w := w) hS mv0) rfl (fun _ => rfl) (jgf_4_3 (w := w) hR.2 mv0) ?_
    refine l1 (n := 1) rfl rfl rfl (li_of a1) ?_
    refine b_aa rfl (jgt_4_3 (w := w) (fz := fz) hS mv0).1 (Nat.le_of_ble_eq_true rfl) iv1 (fun q1 => ⟨(h q1).1.1, ?_⟩)
    replace h := h q1
    obtain ⟨q2, h⟩ := h
    refine l1 (n := 1) rfl rfl rfl (la_of a0) ?_
    refine l_gr rfl (jgo_4 (w := w) hS mv0) rfl (fun _ => rfl) (jgf_4_4 (w := w) hR.2 mv0) ?_
    refine l1 (n := 1) rfl rfl rfl (li_of a1) ?_
    refine b_ia rfl (jgt_4_4 (w := w) (fz := fz) hS mv0).1 (Nat.le_of_ble_eq_true rfl) iv1 (fun q => ?_)
    replace h := h q
    refine b_iv (c := v0) (as := [.ref (gr M (v0 + 3) (v1).toNat), zv (gi M (v0 + 4) (v1).toNat)]) (rest := []) rfl (by decide) (jgo_4 (w := w) hS mv0) rfl rfl (Nat.le_of_ble_eq_true rfl) (fun hq => ?_)
    refine lx_mono (Z_S_holdsAhead_m hS hR mv0 q2.2 (inr_gi _ _ _) h) ?_
    rintro _ _ ⟨z1, M1, rfl, rfl, r1, iz1, h⟩
    refine l_if rfl iz1 (fun c => ?_) (fun c => ?_)
    · replace h := h.2 c
      refine l_ii rfl a1 (Nat.le_of_ble_eq_true rfl) (fun ls y1 ho => ?_)
      have y2 := ho 0 _ (by decide) (fun q => by cases q.2) a0
      refine l3 rfl rfl rfl ?_
      obtain ⟨i1, h⟩ := h
      exact hb2 _ (by omega) _ _ _ _ r1 mv0 i1 y2 y1 h
    · replace h := h.1 (Classical.not_not.mp c)
      refine l1 (n := 1) rfl rfl rfl rfl ?_
      exact l_rb rfl rfl (Or.inl rfl) r1 h
def e_S_holdAhead_2 (v0 : Nat) (v1 : Int) (M : rf_M) (K : Int → rf_M → Prop) : Prop := ∃ Inv : Nat → Int → rf_M → Prop, Inv v0 v1 M ∧ ∀ (v0 : Nat) (v1 : Int) (M : rf_M), inr v1 → Inv v0 v1 M → e_S_holdAhead_2b v0 v1 M Inv K
theorem Z_S_holdAhead_2 {w fz : Bool} {S : gS} {B : rf_M} {M : rf_M} {ls : rf_L} {n0 : Nat} {v0 : Nat} {v1 : Int} {K : Int → rf_M → Prop} (hS : rl S) (hR : fl 22 (gwH w) B M) (mv0 : v0 ∈ gwL4 w) (iv1 : inr v1) (a0 : rf_ld ls 0 = some (.ref v0)) (a1 : rf_ld ls 1 = some (zv v1)) (h : e_S_holdAhead_2 v0 v1 M K) : lx (cx0 fz) n0 62 2 ls [] (M, S) (vl_i 22 (gwH w) B S K) := by
  obtain ⟨Inv, hm, hb⟩ := h
  induction n0 using Nat.strongRecOn generalizing ls M v0 v1 with
  | _ n0 ih =>
    refine Z_S_holdAhead_2b hS hR mv0 iv1 a0 a1 (fun n' hn' v0' v1' M' ls' hR' f0 f1 f2 f3 q2 => ih n' hn' hR' f0 f1 f2 f3 q2) (hb v0 v1 M iv1 hm)
def e_S_holdAhead (v0 : Nat) (M : rf_M) (K : Int → rf_M → Prop) : Prop := e_S_holdAhead_2 v0 0 M K
theorem Z_S_holdAhead {w fz : Bool} {S : gS} {B : rf_M} {M : rf_M} {ls : rf_L} {n0 : Nat} {v0 : Nat} {K : Int → rf_M → Prop} (hS : rl S) (hR : fl 22 (gwH w) B M) (mv0 : v0 ∈ gwL4 w) (a0 : rf_ld ls 0 = some (.ref v0)) (h : e_S_holdAhead v0 M K) : lx (cx0 fz) n0 62 0 ls [] (M, S) (vl_i 22 (gwH w) B S K) := by
  unfold e_S_holdAhead at h
  refine l1 (n := 1) rfl rfl rfl rfl ?_
  refine l_s1 (n := 1) rfl rfl rfl rfl (fun ls y1 ho => ?_)
  have y2 := ho 0 _ (by decide) (fun q => by cases q.2) a0
  exact Z_S_holdAhead_2 hS hR mv0 ⟨by decide, by decide⟩ y2 y1 h
def em_S_holdAhead (x0 : Nat) (M : rf_M) (K : Int → rf_M → Prop) : Prop := e_S_holdAhead x0 M K
theorem Z_S_holdAhead_m {w fz : Bool} {S : gS} {B : rf_M} {M : rf_M} {n0 : Nat} {x0 : Nat} {K : Int → rf_M → Prop} (hS : rl S) (hR : fl 22 (gwH w) B M) (mx0 : x0 ∈ gwL4 w) (h : em_S_holdAhead x0 M K) : lx (cx0 fz) n0 62 0 (lv_args 0 [.ref x0]) [] (M, S) (vl_i 22 (gwH w) B S K) :=
  Z_S_holdAhead hS hR mx0 rfl h
def e_S_allows_29 (v0 : Nat) (M : rf_M) (K : Int → rf_M → Prop) : Prop := em_S_holdAhead v0 M (fun (z1 : Int) (M1 : rf_M) => (z1 = 0 ∨ z1 = 1) ∧ K z1 M1)
theorem Z_S_allows_29 {w fz : Bool} {S : gS} {B : rf_M} {M : rf_M} {ls : rf_L} {n0 : Nat} {v0 : Nat} {K : Int → rf_M → Prop} (hS : rl S) (hR : fl 22 (gwH w) B M) (mv0 : v0 ∈ gwL4 w) (a0 : rf_ld ls 0 = some (.ref v0)) (h : e_S_allows_29 v0 M K) : lx (cx0 fz) n0 61 29 ls [] (M, S) (vl_i 22 (gwH w) B S K) := by
  unfold e_S_allows_29 at h
  refine l1 (n := 1) rfl rfl rfl (la_of a0) ?_
  refine b_iv (c := v0) (as := []) (rest := []) rfl (by decide) (jgo_4 (w := w) hS mv0) rfl rfl (Nat.le_of_ble_eq_true rfl) (fun hq => ?_)
  refine lx_mono (Z_S_holdAhead_m hS hR mv0 h) ?_
  rintro _ _ ⟨z1, M1, rfl, rfl, r1, iz1, h⟩
  exact l_rb rfl rfl h.1 r1 h.2
def e_S_allows (v0 : Nat) (v1 : Int) (v2 : Int64) (M : rf_M) (K : Int → rf_M → Prop) : Prop := ((0 ≤ (0 : Int) ∧ 0 ≤ (0 : Int) ∧ 0 ≤ (16 : Int)) ∧ (0 : Int) + (16 : Int) ≤ 16 ∧ (0 : Int) + (16 : Int) ≤ 16 → (∀ M1 : rf_M, M1 = cpl M (v0 + 1) 0 (v0 + 5) 0 16 → (em_M_isCell v1 M1 (fun (z2 : Int) (M2 : rf_M) => (z2 = 0 → (e_S_allows_29 v0 M2 K)) ∧ (¬ (z2 = 0) → ((0 ≤ v1 ∧ v1 < 16 → (∀ M3 : rf_M, M3 = wl M2 (v0 + 5) (v1).toNat v2 → (e_S_allows_29 v0 M3 K)))))))))
theorem Z_S_allows {w fz : Bool} {S : gS} {B : rf_M} {M : rf_M} {ls : rf_L} {n0 : Nat} {v0 : Nat} {v1 : Int} {v2 : Int64} {K : Int → rf_M → Prop} (hS : rl S) (hR : fl 22 (gwH w) B M) (mv0 : v0 ∈ gwL4 w) (iv1 : inr v1) (a0 : rf_ld ls 0 = some (.ref v0)) (a1 : rf_ld ls 1 = some (zv v1)) (a2 : rf_ld ls 2 = some (.long v2)) (h : e_S_allows v0 v1 v2 M K) : lx (cx0 fz) n0 61 0 ls [] (M, S) (vl_i 22 (gwH w) B S K) := by
  unfold e_S_allows at h
  refine l1 (n := 1) rfl rfl rfl (la_of a0) ?_
  refine l_gr rfl (jgo_4 (w := w) hS mv0) rfl (fun _ => rfl) (jgf_4_0 (w := w) hR.2 mv0) ?_
  refine l1 (n := 1) rfl rfl rfl rfl ?_
  refine l1 (n := 1) rfl rfl rfl (la_of a0) ?_
  refine l_gr rfl (jgo_4 (w := w) hS mv0) rfl (fun _ => rfl) (jgf_4_5 (w := w) hR.2 mv0) ?_
  refine l1 (n := 1) rfl rfl rfl rfl ?_
  refine l_bi rfl (by decide) ?_
  refine b_cpl rfl rfl (jgt_4_0 (w := w) (fz := fz) hS mv0).1 (jgt_4_5 (w := w) (fz := fz) hS mv0).1 ⟨by decide, by decide⟩ ⟨by decide, by decide⟩ ⟨by decide, by decide⟩ (fun q M1 e => ?_)
  replace h := h q M1 e
  have r1 := hR.cpl (jgt_4_5 (w := w) (fz := fz) hS mv0).1.1 (jgt_4_5 (w := w) (fz := fz) hS mv0).2 e
  refine l1 (n := 1) rfl rfl rfl (li_of a1) ?_
  refine b_st (as := [zv v1]) (rest := []) rfl (by decide) rfl (Nat.le_of_ble_eq_true rfl) (fun hq => ?_)
  refine lx_mono (Z_M_isCell_m hS r1 iv1 h) ?_
  rintro _ _ ⟨z2, M2, rfl, rfl, r2, iz2, h⟩
  refine l_if rfl iz2 (fun c => ?_) (fun c => ?_)
  · replace h := h.1 c
    exact Z_S_allows_29 hS r2 mv0 a0 h
  · replace h := h.2 c
    refine l1 (n := 1) rfl rfl rfl (la_of a0) ?_
    refine l_gr rfl (jgo_4 (w := w) hS mv0) rfl (fun _ => rfl) (jgf_4_5 (w := w) r2.2 mv0) ?_
    refine l1 (n := 1) rfl rfl rfl (li_of a1) ?_
    refine l1 (n := 1) rfl rfl rfl (ll_of a2) ?_
    refine b_ls rfl (jgt_4_5 (w := w) (fz := fz) hS mv0).1 (Nat.le_of_ble_eq_true rfl) iv1 (fun q M3 e => ?_)
    replace h := h q M3 e
    have r3 := r2.wl (jgt_4_5 (w := w) (fz := fz) hS mv0).1.1 (jgt_4_5 (w := w) (fz := fz) hS mv0).2 e
    exact Z_S_allows_29 hS r3 mv0 a0 h
def em_S_allows (x0 : Nat) (x1 : Int) (x2 : Int64) (M : rf_M) (K : Int → rf_M → Prop) : Prop := e_S_allows x0 x1 x2 M K
theorem Z_S_allows_m {w fz : Bool} {S : gS} {B : rf_M} {M : rf_M} {n0 : Nat} {x0 : Nat} {x1 : Int} {x2 : Int64} {K : Int → rf_M → Prop} (hS : rl S) (hR : fl 22 (gwH w) B M) (mx0 : x0 ∈ gwL4 w) (ix1 : inr x1) (h : em_S_allows x0 x1 x2 M K) : lx (cx0 fz) n0 61 0 (lv_args 0 [.ref x0, zv x1, .long x2]) [] (M, S) (vl_i 22 (gwH w) B S K) :=
  Z_S_allows hS hR mx0 ix1 rfl rfl rfl h
theorem E_S_allows_m {fz : Bool} {S : gS} {B : rf_M} {M : rf_M} {n0 : Nat} {x0 : Nat} {x1 : Int} {x2 : Int64} {K : Int → rf_M → Prop} (hS : rl S) (hR : fl 22 353 B M) (mx0 : x0 ∈ k4) (ix1 : inr x1) (h : em_S_allows x0 x1 x2 M K) : lx (cx0 fz) n0 61 0 (lv_args 0 [.ref x0, zv x1, .long x2]) [] (M, S) (vl_i 22 353 B S K) :=
  Z_S_allows_m (w := true) hS hR mx0 ix1 h
def e_S_write_24 (M : rf_M) (K : rf_M → Prop) : Prop := K M
theorem Z_S_write_24 {w fz : Bool} {S : gS} {B : rf_M} {M : rf_M} {ls : rf_L} {n0 : Nat} {K : rf_M → Prop} (hS : rl S) (hR : fl 22 (gwH w) B M) (h : e_S_write_24 M K) : lx (cx0 fz) n0 77 24 ls [] (M, S) (vl_v 22 (gwH w) B S K) := by
  unfold e_S_write_24 at h
  exact l_rv rfl rfl hR h
def e_S_write (v0 : Nat) (v1 : Int) (v2 : Int64) (M : rf_M) (K : rf_M → Prop) : Prop := em_M_isCell v1 M (fun (z1 : Int) (M1 : rf_M) => (z1 = 0 → (e_S_write_24 M1 K)) ∧ (¬ (z1 = 0) → ((0 ≤ v1 ∧ v1 < 16 → (∀ M2 : rf_M, M2 = wl M1 (v0 + 1) (v1).toNat v2 → ((0 ≤ v1 ∧ v1 < 16 → ((0 ≤ v1 ∧ v1 < 16 → (∀ M3 : rf_M, M3 = wi M2 (v0 + 2) (v1).toNat ((gi M2 (v0 + 2) (v1).toNat) + 1) → (e_S_write_24 M3 K)))))))))))
theorem Z_S_write {w fz : Bool} {S : gS} {B : rf_M} {M : rf_M} {ls : rf_L} {n0 : Nat} {v0 : Nat} {v1 : Int} {v2 : Int64} {K : rf_M → Prop} (hS : rl S) (hR : fl 22 (gwH w) B M) (mv0 : v0 ∈ gwL4 w) (iv1 : inr v1) (a0 : rf_ld ls 0 = some (.ref v0)) (a1 : rf_ld ls 1 = some (zv v1)) (a2 : rf_ld ls 2 = some (.long v2)) (h : e_S_write v0 v1 v2 M K) : lx (cx0 fz) n0 77 0 ls [] (M, S) (vl_v 22 (gwH w) B S K) := by
  unfold e_S_write at h
  refine l1 (n := 1) rfl rfl rfl (li_of a1) ?_
  refine b_st (as := [zv v1]) (rest := []) rfl (by decide) rfl (Nat.le_of_ble_eq_true rfl) (fun hq => ?_)
  refine lx_mono (Z_M_isCell_m hS hR iv1 h) ?_
  rintro _ _ ⟨z1, M1, rfl, rfl, r1, iz1, h⟩
  refine l_if rfl iz1 (fun c => ?_) (fun c => ?_)
  · replace h := h.1 c
    exact Z_S_write_24 hS r1  h
  · replace h := h.2 c
    refine l1 (n := 1) rfl rfl rfl (la_of a0) ?_
    refine l_gr rfl (jgo_4 (w := w) hS mv0) rfl (fun _ => rfl) (jgf_4_0 (w := w) r1.2 mv0) ?_
    refine l1 (n := 1) rfl rfl rfl (li_of a1) ?_
    refine l1 (n := 1) rfl rfl rfl (ll_of a2) ?_
    refine b_ls rfl (jgt_4_0 (w := w) (fz := fz) hS mv0).1 (Nat.le_of_ble_eq_true rfl) iv1 (fun q M2 e => ?_)
    replace h := h q M2 e
    have r2 := r1.wl (jgt_4_0 (w := w) (fz := fz) hS mv0).1.1 (jgt_4_0 (w := w) (fz := fz) hS mv0).2 e
    refine l1 (n := 1) rfl rfl rfl (la_of a0) ?_
    refine l_gr rfl (jgo_4 (w := w) hS mv0) rfl (fun _ => rfl) (jgf_4_1 (w := w) r2.2 mv0) ?_
    refine l1 (n := 1) rfl rfl rfl (li_of a1) ?_
    refine l0 rfl rfl rfl ?_
    refine b_ia rfl (jgt_4_1 (w := w) (fz := fz) hS mv0).1 (Nat.le_of_ble_eq_true rfl) iv1 (fun q => ?_)
    replace h := h q
    refine l1 (n := 1) rfl rfl rfl rfl ?_
    refine l_add rfl ?_
    refine b_is rfl (jgt_4_1 (w := w) (fz := fz) hS mv0).1 (Nat.le_of_ble_eq_true rfl) iv1 (fun q M3 e => ?_)
    replace h := h q M3 e
    have r3 := r2.wi (jgt_4_1 (w := w) (fz := fz) hS mv0).1.1 (jgt_4_1 (w := w) (fz := fz) hS mv0).2 e
    exact Z_S_write_24 hS r3  h
def em_S_write (x0 : Nat) (x1 : Int) (x2 : Int64) (M : rf_M) (K : rf_M → Prop) : Prop := e_S_write x0 x1 x2 M K
theorem Z_S_write_m {w fz : Bool} {S : gS} {B : rf_M} {M : rf_M} {n0 : Nat} {x0 : Nat} {x1 : Int} {x2 : Int64} {K : rf_M → Prop} (hS : rl S) (hR : fl 22 (gwH w) B M) (mx0 : x0 ∈ gwL4 w) (ix1 : inr x1) (h : em_S_write x0 x1 x2 M K) : lx (cx0 fz) n0 77 0 (lv_args 0 [.ref x0, zv x1, .long x2]) [] (M, S) (vl_v 22 (gwH w) B S K) :=
  Z_S_write hS hR mx0 ix1 rfl rfl rfl h
theorem E_S_write_m {fz : Bool} {S : gS} {B : rf_M} {M : rf_M} {n0 : Nat} {x0 : Nat} {x1 : Int} {x2 : Int64} {K : rf_M → Prop} (hS : rl S) (hR : fl 22 353 B M) (mx0 : x0 ∈ k4) (ix1 : inr x1) (h : em_S_write x0 x1 x2 M K) : lx (cx0 fz) n0 77 0 (lv_args 0 [.ref x0, zv x1, .long x2]) [] (M, S) (vl_v 22 353 B S K) :=
  Z_S_write_m (w := true) hS hR mx0 ix1 h
def e_J_note (v1 : Int) (v2 : Int) (v3 : Int) (v4 : Int) (v5 : Int) (v6 : Int64) (M : rf_M) (K : rf_M → Prop) : Prop := em_J_isFull  M (fun (z1 : Int) (M1 : rf_M) => (z1 = 0 → ((0 ≤ (gi M1 324 0) ∧ (gi M1 324 0) < 300 → (∀ M2 : rf_M, M2 = wi M1 325 (gi M1 324 0).toNat v1 → ((0 ≤ (gi M2 324 0) ∧ (gi M2 324 0) < 300 → (∀ M3 : rf_M, M3 = wi M2 326 (gi M2 324 0).toNat v2 → ((0 ≤ (gi M3 324 0) ∧ (gi M3 324 0) < 300 → (∀ M4 : rf_M, M4 = wi M3 327 (gi M3 324 0).toNat v3 → ((0 ≤ (gi M4 324 0) ∧ (gi M4 324 0) < 300 → (∀ M5 : rf_M, M5 = wi M4 328 (gi M4 324 0).toNat v4 → ((0 ≤ (gi M5 324 0) ∧ (gi M5 324 0) < 300 → (∀ M6 : rf_M, M6 = wi M5 329 (gi M5 324 0).toNat v5 → ((0 ≤ (gi M6 324 0) ∧ (gi M6 324 0) < 300 → (∀ M7 : rf_M, M7 = wl M6 330 (gi M6 324 0).toNat v6 → (∀ M8 : rf_M, M8 = wi M7 324 0 ((gi M7 324 0) + 1) → (K M8))))))))))))))))))))) ∧ (¬ (z1 = 0) → (K M1)))
theorem Z_J_note {w fz : Bool} {S : gS} {B : rf_M} {M : rf_M} {ls : rf_L} {n0 : Nat} {v1 : Int} {v2 : Int} {v3 : Int} {v4 : Int} {v5 : Int} {v6 : Int64} {K : rf_M → Prop} (hS : rl S) (hR : fl 22 (gwH w) B M) (iv1 : inr v1) (iv2 : inr v2) (iv3 : inr v3) (iv4 : inr v4) (iv5 : inr v5) (a0 : rf_ld ls 0 = some (.ref 324)) (a1 : rf_ld ls 1 = some (zv v1)) (a2 : rf_ld ls 2 = some (zv v2)) (a3 : rf_ld ls 3 = some (zv v3)) (a4 : rf_ld ls 4 = some (zv v4)) (a5 : rf_ld ls 5 = some (zv v5)) (a6 : rf_ld ls 6 = some (.long v6)) (h : e_J_note v1 v2 v3 v4 v5 v6 M K) : lx (cx0 fz) n0 78 0 ls [] (M, S) (vl_v 22 (gwH w) B S K) := by
  unfold e_J_note at h
  refine l1 (n := 1) rfl rfl rfl (la_of a0) ?_
  refine b_iv (c := 324) (as := []) (rest := []) rfl (by decide) (ko_9 hS (List.Mem.head _)) rfl rfl (Nat.le_of_ble_eq_true rfl) (fun hq => ?_)
  refine lx_mono (Z_J_isFull_m hS hR h) ?_
  rintro _ _ ⟨z1, M1, rfl, rfl, r1, iz1, h⟩
  refine l_if rfl iz1 (fun c => ?_) (fun c => ?_)
  · replace h := h.1 c
    refine l1 (n := 1) rfl rfl rfl (la_of a0) ?_
    refine l_gr rfl (ko_9 hS (List.Mem.head _)) rfl (fun _ => rfl) (kf_9_1 r1.2 (List.Mem.head _)) ?_
    refine l1 (n := 1) rfl rfl rfl (la_of a0) ?_
    refine l_gi rfl (ko_9 hS (List.Mem.head _)) rfl (fun _ => rfl) ?_
    refine l1 (n := 1) rfl rfl rfl (li_of a1) ?_
    refine b_is rfl (jgc_325 (w := w) (fz := fz) hS).1 (Nat.le_of_ble_eq_true rfl) (inr_gi _ _ _) (fun q M2 e => ?_)
    replace h := h q M2 e
    have r2 := r1.wi (Nat.le_of_ble_eq_true rfl) (jgb rfl) e
    refine l1 (n := 1) rfl rfl rfl (la_of a0) ?_
    refine l_gr rfl (ko_9 hS (List.Mem.head _)) rfl (fun _ => rfl) (kf_9_2 r2.2 (List.Mem.head _)) ?_
    refine l1 (n := 1) rfl rfl rfl (la_of a0) ?_
    refine l_gi rfl (ko_9 hS (List.Mem.head _)) rfl (fun _ => rfl) ?_
    refine l1 (n := 1) rfl rfl rfl (li_of a2) ?_
    refine b_is rfl (jgc_326 (w := w) (fz := fz) hS).1 (Nat.le_of_ble_eq_true rfl) (inr_gi _ _ _) (fun q M3 e => ?_)
    replace h := h q M3 e
    have r3 := r2.wi (Nat.le_of_ble_eq_true rfl) (jgb rfl) e
    refine l1 (n := 1) rfl rfl rfl (la_of a0) ?_
    refine l_gr rfl (ko_9 hS (List.Mem.head _)) rfl (fun _ => rfl) (kf_9_3 r3.2 (List.Mem.head _)) ?_
    refine l1 (n := 1) rfl rfl rfl (la_of a0) ?_
    refine l_gi rfl (ko_9 hS (List.Mem.head _)) rfl (fun _ => rfl) ?_
    refine l1 (n := 1) rfl rfl rfl (li_of a3) ?_
    refine b_is rfl (jgc_327 (w := w) (fz := fz) hS).1 (Nat.le_of_ble_eq_true rfl) (inr_gi _ _ _) (fun q M4 e => ?_)
    replace h := h q M4 e
    have r4 := r3.wi (Nat.le_of_ble_eq_true rfl) (jgb rfl) e
    refine l1 (n := 1) rfl rfl rfl (la_of a0) ?_
    refine l_gr rfl (ko_9 hS (List.Mem.head _)) rfl (fun _ => rfl) (kf_9_4 r4.2 (List.Mem.head _)) ?_
    refine l1 (n := 1) rfl rfl rfl (la_of a0) ?_
    refine l_gi rfl (ko_9 hS (List.Mem.head _)) rfl (fun _ => rfl) ?_
    refine l1 (n := 2) rfl rfl rfl (li_of a4) ?_
    refine b_is rfl (jgc_328 (w := w) (fz := fz) hS).1 (Nat.le_of_ble_eq_true rfl) (inr_gi _ _ _) (fun q M5 e => ?_)
    replace h := h q M5 e
    have r5 := r4.wi (Nat.le_of_ble_eq_true rfl) (jgb rfl) e
    refine l1 (n := 1) rfl rfl rfl (la_of a0) ?_
    refine l_gr rfl (ko_9 hS (List.Mem.head _)) rfl (fun _ => rfl) (kf_9_5 r5.2 (List.Mem.head _)) ?_
    refine l1 (n := 1) rfl rfl rfl (la_of a0) ?_
    refine l_gi rfl (ko_9 hS (List.Mem.head _)) rfl (fun _ => rfl) ?_
    refine l1 (n := 2) rfl rfl rfl (li_of a5) ?_
    refine b_is rfl (jgc_329 (w := w) (fz := fz) hS).1 (Nat.le_of_ble_eq_true rfl) (inr_gi _ _ _) (fun q M6 e => ?_)
    replace h := h q M6 e
    have r6 := r5.wi (Nat.le_of_ble_eq_true rfl) (jgb rfl) e
    refine l1 (n := 1) rfl rfl rfl (la_of a0) ?_
    refine l_gr rfl (ko_9 hS (List.Mem.head _)) rfl (fun _ => rfl) (kf_9_6 r6.2 (List.Mem.head _)) ?_
    refine l1 (n := 1) rfl rfl rfl (la_of a0) ?_
    refine l_gi rfl (ko_9 hS (List.Mem.head _)) rfl (fun _ => rfl) ?_
    refine l1 (n := 2) rfl rfl rfl (ll_of a6) ?_
    refine b_ls rfl (jgc_330 (w := w) (fz := fz) hS).1 (Nat.le_of_ble_eq_true rfl) (inr_gi _ _ _) (fun q M7 e => ?_)
    replace h := h q M7 e
    have r7 := r6.wl (Nat.le_of_ble_eq_true rfl) (jgb rfl) e
    refine l1 (n := 1) rfl rfl rfl (la_of a0) ?_
    refine l0 rfl rfl rfl ?_
    refine l_gi rfl (ko_9 hS (List.Mem.head _)) rfl (fun _ => rfl) ?_
    refine l1 (n := 1) rfl rfl rfl rfl ?_
    refine l_add rfl ?_
    refine l_pi rfl (ko_9 (fz := fz) hS (List.Mem.head _)) rfl (fun _ _ => rfl) (fun M8 e => ?_)
    replace h := h M8 e
    have r8 := r7.wi (ko_9 (fz := fz) hS (List.Mem.head _)).1 (jgl_9 (w := w) (List.Mem.head _)) e
    exact l_rv rfl rfl r8 h
  · replace h := h.2 c
    exact l_rv rfl rfl r1 h
def em_J_note (x1 : Int) (x2 : Int) (x3 : Int) (x4 : Int) (x5 : Int) (x6 : Int64) (M : rf_M) (K : rf_M → Prop) : Prop := e_J_note x1 x2 x3 x4 x5 x6 M K
theorem Z_J_note_m {w fz : Bool} {S : gS} {B : rf_M} {M : rf_M} {n0 : Nat} {x1 : Int} {x2 : Int} {x3 : Int} {x4 : Int} {x5 : Int} {x6 : Int64} {K : rf_M → Prop} (hS : rl S) (hR : fl 22 (gwH w) B M) (ix1 : inr x1) (ix2 : inr x2) (ix3 : inr x3) (ix4 : inr x4) (ix5 : inr x5) (h : em_J_note x1 x2 x3 x4 x5 x6 M K) : lx (cx0 fz) n0 78 0 (lv_args 0 [.ref 324, zv x1, zv x2, zv x3, zv x4, zv x5, .long x6]) [] (M, S) (vl_v 22 (gwH w) B S K) :=
  Z_J_note hS hR ix1 ix2 ix3 ix4 ix5 rfl rfl rfl rfl rfl rfl rfl h
def e_M_put_17 (M : rf_M) (K : Int → rf_M → Prop) : Prop := K (-1) M
theorem Z_M_put_17 {w fz : Bool} {S : gS} {B : rf_M} {M : rf_M} {ls : rf_L} {n0 : Nat} {K : Int → rf_M → Prop} (hS : rl S) (hR : fl 22 (gwH w) B M) (h : e_M_put_17 M K) : lx (cx0 fz) n0 59 17 ls [] (M, S) (vl_i 22 (gwH w) B S K) := by
  unfold e_M_put_17 at h
  refine l1 (n := 1) rfl rfl rfl rfl ?_
  exact l_ri rfl rfl ⟨by decide, by decide⟩ hR h
def e_M_put (v1 : Int) (v2 : Int64) (M : rf_M) (K : Int → rf_M → Prop) : Prop := em_M_isCell v1 M (fun (z1 : Int) (M1 : rf_M) => (z1 = 0 → (e_M_put_17 M1 K)) ∧ (¬ (z1 = 0) → (em_J_isFull  M1 (fun (z2 : Int) (M2 : rf_M) => (z2 = 0 → (em_S_allows 187 v1 v2 M2 (fun (z3 : Int) (M3 : rf_M) => (z3 = 0 → (K (-2) M3)) ∧ (¬ z3 = 0 → (em_S_write 187 v1 v2 M3 (fun (M4 : rf_M) => em_J_note 0 (-1) v1 0 0 v2 M4 (fun (M5 : rf_M) => (0 ≤ v1 ∧ v1 < 16 → (K (gi M5 189 (v1).toNat) M5))))))))) ∧ (¬ (z2 = 0) → (e_M_put_17 M2 K))))))
theorem Z_M_put {w fz : Bool} {S : gS} {B : rf_M} {M : rf_M} {ls : rf_L} {n0 : Nat} {v1 : Int} {v2 : Int64} {K : Int → rf_M → Prop} (hS : rl S) (hR : fl 22 (gwH w) B M) (iv1 : inr v1) (a0 : rf_ld ls 0 = some (.ref 22)) (a1 : rf_ld ls 1 = some (zv v1)) (a2 : rf_ld ls 2 = some (.long v2)) (h : e_M_put v1 v2 M K) : lx (cx0 fz) n0 59 0 ls [] (M, S) (vl_i 22 (gwH w) B S K) := by
  unfold e_M_put at h
  refine l1 (n := 1) rfl rfl rfl (li_of a1) ?_
  refine b_st (as := [zv v1]) (rest := []) rfl (by decide) rfl (Nat.le_of_ble_eq_true rfl) (fun hq => ?_)
  refine lx_mono (Z_M_isCell_m hS hR iv1 h) ?_
  rintro _ _ ⟨z1, M1, rfl, rfl, r1, iz1, h⟩
  refine l_if rfl iz1 (fun c => ?_) (fun c => ?_)
  · replace h := h.1 c
    exact Z_M_put_17 hS r1  h
  · replace h := h.2 c
    refine l1 (n := 1) rfl rfl rfl (la_of a0) ?_
    refine l_gr rfl (ko_0 hS (List.Mem.head _)) rfl (fun _ => rfl) (kf_0_8 r1.2 (List.Mem.head _)) ?_
    refine b_iv (c := 324) (as := []) (rest := []) rfl (by decide) (ko_9 hS (List.Mem.head _)) rfl rfl (Nat.le_of_ble_eq_true rfl) (fun hq => ?_)
    refine lx_mono (Z_J_isFull_m hS r1 h) ?_
    rintro _ _ ⟨z2, M2, rfl, rfl, r2, iz2, h⟩
    refine l_if rfl iz2 (fun c => ?_) (fun c => ?_)
    · replace h := h.1 c
      refine l1 (n := 1) rfl rfl rfl (la_of a0) ?_
      refine l_gr rfl (ko_0 hS (List.Mem.head _)) rfl (fun _ => rfl) (kf_0_6 r2.2 (List.Mem.head _)) ?_
      refine l1 (n := 1) rfl rfl rfl (li_of a1) ?_
      refine l1 (n := 1) rfl rfl rfl (ll_of a2) ?_
      refine b_iv (c := 187) (as := [zv v1, .long v2]) (rest := []) rfl (by decide) (jgo_4 (w := w) hS (List.Mem.head _)) rfl rfl (Nat.le_of_ble_eq_true rfl) (fun hq => ?_)
      refine lx_mono (Z_S_allows_m hS r2 (List.Mem.head _) iv1 h) ?_
      rintro _ _ ⟨z3, M3, rfl, rfl, r3, iz3, h⟩
      refine l_if rfl iz3 (fun c => ?_) (fun c => ?_)
      · replace h := h.2 c
        refine l1 (n := 1) rfl rfl rfl (la_of a0) ?_
        refine l_gr rfl (ko_0 hS (List.Mem.head _)) rfl (fun _ => rfl) (kf_0_6 r3.2 (List.Mem.head _)) ?_
        refine l1 (n := 1) rfl rfl rfl (li_of a1) ?_
        refine l1 (n := 1) rfl rfl rfl (ll_of a2) ?_
        refine b_iv (c := 187) (as := [zv v1, .long v2]) (rest := []) rfl (by decide) (jgo_4 (w := w) hS (List.Mem.head _)) rfl rfl (Nat.le_of_ble_eq_true rfl) (fun hq => ?_)
        refine lx_mono (Z_S_write_m hS r3 (List.Mem.head _) iv1 h) ?_
        rintro _ _ ⟨M4, rfl, rfl, r4, h⟩
        refine l1 (n := 1) rfl rfl rfl (la_of a0) ?_
        refine l_gr rfl (ko_0 hS (List.Mem.head _)) rfl (fun _ => rfl) (kf_0_8 r4.2 (List.Mem.head _)) ?_
        refine l1 (n := 1) rfl rfl rfl rfl ?_
        refine l1 (n := 1) rfl rfl rfl rfl ?_
        refine l1 (n := 1) rfl rfl rfl (li_of a1) ?_
        refine l1 (n := 1) rfl rfl rfl rfl ?_
        refine l1 (n := 1) rfl rfl rfl rfl ?_
        refine l1 (n := 1) rfl rfl rfl (ll_of a2) ?_
        refine b_iv (c := 324) (as := [zv 0, zv (-1), zv v1, zv 0, zv 0, .long v2]) (rest := []) rfl (by decide) (ko_9 hS (List.Mem.head _)) rfl rfl (Nat.le_of_ble_eq_true rfl) (fun hq => ?_)
        refine lx_mono (Z_J_note_m hS r4 ⟨by decide, by decide⟩ ⟨by decide, by decide⟩ iv1 ⟨by decide, by decide⟩ ⟨by decide, by decide⟩ h) ?_
        rintro _ _ ⟨M5, rfl, rfl, r5, h⟩
        refine l1 (n := 1) rfl rfl rfl (la_of a0) ?_
        refine l_gr rfl (ko_0 hS (List.Mem.head _)) rfl (fun _ => rfl) (kf_0_6 r5.2 (List.Mem.head _)) ?_
        refine l_gr rfl (jgo_4 (w := w) hS (List.Mem.head _)) rfl (fun _ => rfl) (jgf_4_1 (w := w) r5.2 (List.Mem.head _)) ?_
        refine l1 (n := 1) rfl rfl rfl (li_of a1) ?_
        refine b_ia rfl (jgc_189 (w := w) (fz := fz) hS).1 (Nat.le_of_ble_eq_true rfl) iv1 (fun q => ?_)
        replace h := h q
        exact l_ri rfl rfl (inr_gi _ _ _) r5 h
      · replace h := h.1 (Classical.not_not.mp c)
        refine l_bi rfl (by decide) ?_
        exact l_ri rfl rfl ⟨by decide, by decide⟩ r3 h
    · replace h := h.2 c
      exact Z_M_put_17 hS r2  h
def em_M_put (x1 : Int) (x2 : Int64) (M : rf_M) (K : Int → rf_M → Prop) : Prop := e_M_put x1 x2 M K
theorem Z_M_put_m {w fz : Bool} {S : gS} {B : rf_M} {M : rf_M} {n0 : Nat} {x1 : Int} {x2 : Int64} {K : Int → rf_M → Prop} (hS : rl S) (hR : fl 22 (gwH w) B M) (ix1 : inr x1) (h : em_M_put x1 x2 M K) : lx (cx0 fz) n0 59 0 (lv_args 0 [.ref 22, zv x1, .long x2]) [] (M, S) (vl_i 22 (gwH w) B S K) :=
  Z_M_put hS hR ix1 rfl rfl rfl h
def e_M_cell_20 (s0 : Int64) (M : rf_M) (K : Int64 → rf_M → Prop) : Prop := K s0 M
theorem Z_M_cell_20 {w fz : Bool} {S : gS} {B : rf_M} {M : rf_M} {ls : rf_L} {n0 : Nat} {s0 : Int64} {K : Int64 → rf_M → Prop} (hS : rl S) (hR : fl 22 (gwH w) B M) (h : e_M_cell_20 s0 M K) : lx (cx0 fz) n0 79 20 ls [.long s0] (M, S) (vl_l 22 (gwH w) B S K) := by
  unfold e_M_cell_20 at h
  exact l_rl rfl rfl hR h
def e_M_cell (v1 : Int) (M : rf_M) (K : Int64 → rf_M → Prop) : Prop := em_M_isCell v1 M (fun (z1 : Int) (M1 : rf_M) => (z1 = 0 → (e_M_cell_20 (Int64.ofNat 0) M1 K)) ∧ (¬ (z1 = 0) → ((0 ≤ v1 ∧ v1 < 16 → (e_M_cell_20 (gl M1 188 (v1).toNat) M1 K)))))
theorem Z_M_cell {w fz : Bool} {S : gS} {B : rf_M} {M : rf_M} {ls : rf_L} {n0 : Nat} {v1 : Int} {K : Int64 → rf_M → Prop} (hS : rl S) (hR : fl 22 (gwH w) B M) (iv1 : inr v1) (a0 : rf_ld ls 0 = some (.ref 22)) (a1 : rf_ld ls 1 = some (zv v1)) (h : e_M_cell v1 M K) : lx (cx0 fz) n0 79 0 ls [] (M, S) (vl_l 22 (gwH w) B S K) := by
  unfold e_M_cell at h
  refine l1 (n := 1) rfl rfl rfl (li_of a1) ?_
  refine b_st (as := [zv v1]) (rest := []) rfl (by decide) rfl (Nat.le_of_ble_eq_true rfl) (fun hq => ?_)
  refine lx_mono (Z_M_isCell_m hS hR iv1 h) ?_
  rintro _ _ ⟨z1, M1, rfl, rfl, r1, iz1, h⟩
  refine l_if rfl iz1 (fun c => ?_) (fun c => ?_)
  · replace h := h.1 c
    refine l1 (n := 1) rfl rfl rfl rfl ?_
    exact Z_M_cell_20 hS r1  h
  · replace h := h.2 c
    refine l1 (n := 1) rfl rfl rfl (la_of a0) ?_
    refine l_gr rfl (ko_0 hS (List.Mem.head _)) rfl (fun _ => rfl) (kf_0_6 r1.2 (List.Mem.head _)) ?_
    refine l_gr rfl (jgo_4 (w := w) hS (List.Mem.head _)) rfl (fun _ => rfl) (jgf_4_0 (w := w) r1.2 (List.Mem.head _)) ?_
    refine l1 (n := 1) rfl rfl rfl (li_of a1) ?_
    refine b_la rfl (jgc_188 (w := w) (fz := fz) hS).1 (Nat.le_of_ble_eq_true rfl) iv1 (fun q => ?_)
    replace h := h q
    refine l3 rfl rfl rfl ?_
    exact Z_M_cell_20 hS r1  h
def em_M_cell (x1 : Int) (M : rf_M) (K : Int64 → rf_M → Prop) : Prop := e_M_cell x1 M K
theorem Z_M_cell_m {w fz : Bool} {S : gS} {B : rf_M} {M : rf_M} {n0 : Nat} {x1 : Int} {K : Int64 → rf_M → Prop} (hS : rl S) (hR : fl 22 (gwH w) B M) (ix1 : inr x1) (h : em_M_cell x1 M K) : lx (cx0 fz) n0 79 0 (lv_args 0 [.ref 22, zv x1]) [] (M, S) (vl_l 22 (gwH w) B S K) :=
  Z_M_cell hS hR ix1 rfl rfl h
def e_M_version_20 (s0 : Int) (M : rf_M) (K : Int → rf_M → Prop) : Prop := K s0 M
theorem Z_M_version_20 {w fz : Bool} {S : gS} {B : rf_M} {M : rf_M} {ls : rf_L} {n0 : Nat} {s0 : Int} {K : Int → rf_M → Prop} (hS : rl S) (hR : fl 22 (gwH w) B M) (is0 : inr s0) (h : e_M_version_20 s0 M K) : lx (cx0 fz) n0 80 20 ls [zv s0] (M, S) (vl_i 22 (gwH w) B S K) := by
  unfold e_M_version_20 at h
  exact l_ri rfl rfl is0 hR h
def e_M_version (v1 : Int) (M : rf_M) (K : Int → rf_M → Prop) : Prop := em_M_isCell v1 M (fun (z1 : Int) (M1 : rf_M) => (z1 = 0 → (e_M_version_20 (-1) M1 K)) ∧ (¬ (z1 = 0) → ((0 ≤ v1 ∧ v1 < 16 → (e_M_version_20 (gi M1 189 (v1).toNat) M1 K)))))
theorem Z_M_version {w fz : Bool} {S : gS} {B : rf_M} {M : rf_M} {ls : rf_L} {n0 : Nat} {v1 : Int} {K : Int → rf_M → Prop} (hS : rl S) (hR : fl 22 (gwH w) B M) (iv1 : inr v1) (a0 : rf_ld ls 0 = some (.ref 22)) (a1 : rf_ld ls 1 = some (zv v1)) (h : e_M_version v1 M K) : lx (cx0 fz) n0 80 0 ls [] (M, S) (vl_i 22 (gwH w) B S K) := by
  unfold e_M_version at h
  refine l1 (n := 1) rfl rfl rfl (li_of a1) ?_
  refine b_st (as := [zv v1]) (rest := []) rfl (by decide) rfl (Nat.le_of_ble_eq_true rfl) (fun hq => ?_)
  refine lx_mono (Z_M_isCell_m hS hR iv1 h) ?_
  rintro _ _ ⟨z1, M1, rfl, rfl, r1, iz1, h⟩
  refine l_if rfl iz1 (fun c => ?_) (fun c => ?_)
  · replace h := h.1 c
    refine l1 (n := 1) rfl rfl rfl rfl ?_
    exact Z_M_version_20 hS r1 ⟨by decide, by decide⟩ h
  · replace h := h.2 c
    refine l1 (n := 1) rfl rfl rfl (la_of a0) ?_
    refine l_gr rfl (ko_0 hS (List.Mem.head _)) rfl (fun _ => rfl) (kf_0_6 r1.2 (List.Mem.head _)) ?_
    refine l_gr rfl (jgo_4 (w := w) hS (List.Mem.head _)) rfl (fun _ => rfl) (jgf_4_1 (w := w) r1.2 (List.Mem.head _)) ?_
    refine l1 (n := 1) rfl rfl rfl (li_of a1) ?_
    refine b_ia rfl (jgc_189 (w := w) (fz := fz) hS).1 (Nat.le_of_ble_eq_true rfl) iv1 (fun q => ?_)
    replace h := h q
    refine l3 rfl rfl rfl ?_
    exact Z_M_version_20 hS r1 (inr_gi _ _ _) h
def em_M_version (x1 : Int) (M : rf_M) (K : Int → rf_M → Prop) : Prop := e_M_version x1 M K
theorem Z_M_version_m {w fz : Bool} {S : gS} {B : rf_M} {M : rf_M} {n0 : Nat} {x1 : Int} {K : Int → rf_M → Prop} (hS : rl S) (hR : fl 22 (gwH w) B M) (ix1 : inr x1) (h : em_M_version x1 M K) : lx (cx0 fz) n0 80 0 (lv_args 0 [.ref 22, zv x1]) [] (M, S) (vl_i 22 (gwH w) B S K) :=
  Z_M_version hS hR ix1 rfl rfl h
def e_M_isClient_15 (s0 : Int) (M : rf_M) (K : Int → rf_M → Prop) : Prop := (s0 = 0 ∨ s0 = 1) ∧ K s0 M
theorem Z_M_isClient_15 {w fz : Bool} {S : gS} {B : rf_M} {M : rf_M} {ls : rf_L} {n0 : Nat} {s0 : Int} {K : Int → rf_M → Prop} (hS : rl S) (hR : fl 22 (gwH w) B M) (is0 : inr s0) (h : e_M_isClient_15 s0 M K) : lx (cx0 fz) n0 82 15 ls [zv s0] (M, S) (vl_i 22 (gwH w) B S K) := by
  unfold e_M_isClient_15 at h
  exact l_rb rfl rfl h.1 hR h.2
def e_M_isClient_14 (M : rf_M) (K : Int → rf_M → Prop) : Prop := e_M_isClient_15 0 M K
theorem Z_M_isClient_14 {w fz : Bool} {S : gS} {B : rf_M} {M : rf_M} {ls : rf_L} {n0 : Nat} {K : Int → rf_M → Prop} (hS : rl S) (hR : fl 22 (gwH w) B M) (h : e_M_isClient_14 M K) : lx (cx0 fz) n0 82 14 ls [] (M, S) (vl_i 22 (gwH w) B S K) := by
  unfold e_M_isClient_14 at h
  refine l1 (n := 1) rfl rfl rfl rfl ?_
  exact Z_M_isClient_15 hS hR ⟨by decide, by decide⟩ h
def e_M_isClient (v1 : Int) (M : rf_M) (K : Int → rf_M → Prop) : Prop := (v1 < 0 → (e_M_isClient_14 M K)) ∧ (¬ (v1 < 0) → ((8 ≤ v1 → (e_M_isClient_14 M K)) ∧ (¬ (8 ≤ v1) → (e_M_isClient_15 1 M K))))
theorem Z_M_isClient {w fz : Bool} {S : gS} {B : rf_M} {M : rf_M} {ls : rf_L} {n0 : Nat} {v1 : Int} {K : Int → rf_M → Prop} (hS : rl S) (hR : fl 22 (gwH w) B M) (iv1 : inr v1) (a1 : rf_ld ls 1 = some (zv v1)) (h : e_M_isClient v1 M K) : lx (cx0 fz) n0 82 0 ls [] (M, S) (vl_i 22 (gwH w) B S K) := by
  unfold e_M_isClient at h
  refine l1 (n := 1) rfl rfl rfl (li_of a1) ?_
  refine l_if rfl iv1 (fun c => ?_) (fun c => ?_)
  · replace h := h.1 c
    exact Z_M_isClient_14 hS hR  h
  · replace h := h.2 c
    refine l1 (n := 1) rfl rfl rfl (li_of a1) ?_
    refine l_bi rfl (by decide) ?_
    refine l_ic rfl iv1 ⟨by decide, by decide⟩ (fun c => ?_) (fun c => ?_)
    · replace h := h.1 c
      exact Z_M_isClient_14 hS hR  h
    · replace h := h.2 c
      refine l1 (n := 1) rfl rfl rfl rfl ?_
      refine l3 rfl rfl rfl ?_
      exact Z_M_isClient_15 hS hR ⟨by decide, by decide⟩ h
def em_M_isClient (x1 : Int) (M : rf_M) (K : Int → rf_M → Prop) : Prop := e_M_isClient x1 M K
theorem Z_M_isClient_m {w fz : Bool} {S : gS} {B : rf_M} {M : rf_M} {n0 : Nat} {x1 : Int} {K : Int → rf_M → Prop} (hS : rl S) (hR : fl 22 (gwH w) B M) (ix1 : inr x1) (h : em_M_isClient x1 M K) : lx (cx0 fz) n0 82 0 (lv_args 0 [.ref 22, zv x1]) [] (M, S) (vl_i 22 (gwH w) B S K) :=
  Z_M_isClient hS hR ix1 rfl h
def e_M_isTransaction_17 (s0 : Int) (M : rf_M) (K : Int → rf_M → Prop) : Prop := (s0 = 0 ∨ s0 = 1) ∧ K s0 M
theorem Z_M_isTransaction_17 {w fz : Bool} {S : gS} {B : rf_M} {M : rf_M} {ls : rf_L} {n0 : Nat} {s0 : Int} {K : Int → rf_M → Prop} (hS : rl S) (hR : fl 22 (gwH w) B M) (is0 : inr s0) (h : e_M_isTransaction_17 s0 M K) : lx (cx0 fz) n0 58 17 ls [zv s0] (M, S) (vl_i 22 (gwH w) B S K) := by
  unfold e_M_isTransaction_17 at h
  exact l_rb rfl rfl h.1 hR h.2
def e_M_isTransaction_16 (M : rf_M) (K : Int → rf_M → Prop) : Prop := e_M_isTransaction_17 0 M K
theorem Z_M_isTransaction_16 {w fz : Bool} {S : gS} {B : rf_M} {M : rf_M} {ls : rf_L} {n0 : Nat} {K : Int → rf_M → Prop} (hS : rl S) (hR : fl 22 (gwH w) B M) (h : e_M_isTransaction_16 M K) : lx (cx0 fz) n0 58 16 ls [] (M, S) (vl_i 22 (gwH w) B S K) := by
  unfold e_M_isTransaction_16 at h
  refine l1 (n := 1) rfl rfl rfl rfl ?_
  exact Z_M_isTransaction_17 hS hR ⟨by decide, by decide⟩ h
def e_M_isTransaction (v1 : Int) (M : rf_M) (K : Int → rf_M → Prop) : Prop := (v1 < 0 → (e_M_isTransaction_16 M K)) ∧ (¬ (v1 < 0) → (((gi M 22 3) ≤ v1 → (e_M_isTransaction_16 M K)) ∧ (¬ ((gi M 22 3) ≤ v1) → (e_M_isTransaction_17 1 M K))))
theorem Z_M_isTransaction {w fz : Bool} {S : gS} {B : rf_M} {M : rf_M} {ls : rf_L} {n0 : Nat} {v1 : Int} {K : Int → rf_M → Prop} (hS : rl S) (hR : fl 22 (gwH w) B M) (iv1 : inr v1) (a0 : rf_ld ls 0 = some (.ref 22)) (a1 : rf_ld ls 1 = some (zv v1)) (h : e_M_isTransaction v1 M K) : lx (cx0 fz) n0 58 0 ls [] (M, S) (vl_i 22 (gwH w) B S K) := by
  unfold e_M_isTransaction at h
  refine l1 (n := 1) rfl rfl rfl (li_of a1) ?_
  refine l_if rfl iv1 (fun c => ?_) (fun c => ?_)
  · replace h := h.1 c
    exact Z_M_isTransaction_16 hS hR  h
  · replace h := h.2 c
    refine l1 (n := 1) rfl rfl rfl (li_of a1) ?_
    refine l1 (n := 1) rfl rfl rfl (la_of a0) ?_
    refine l_gi rfl (ko_0 hS (List.Mem.head _)) rfl (fun _ => rfl) ?_
    refine l_ic rfl iv1 (inr_gi _ _ _) (fun c => ?_) (fun c => ?_)
    · replace h := h.1 c
      exact Z_M_isTransaction_16 hS hR  h
    · replace h := h.2 c
      refine l1 (n := 1) rfl rfl rfl rfl ?_
      refine l3 rfl rfl rfl ?_
      exact Z_M_isTransaction_17 hS hR ⟨by decide, by decide⟩ h
def em_M_isTransaction (x1 : Int) (M : rf_M) (K : Int → rf_M → Prop) : Prop := e_M_isTransaction x1 M K
theorem Z_M_isTransaction_m {w fz : Bool} {S : gS} {B : rf_M} {M : rf_M} {n0 : Nat} {x1 : Int} {K : Int → rf_M → Prop} (hS : rl S) (hR : fl 22 (gwH w) B M) (ix1 : inr x1) (h : em_M_isTransaction x1 M K) : lx (cx0 fz) n0 58 0 (lv_args 0 [.ref 22, zv x1]) [] (M, S) (vl_i 22 (gwH w) B S K) :=
  Z_M_isTransaction hS hR ix1 rfl rfl h
def e_C_enlist_43 (v0 : Nat) (M : rf_M) (K : Int → rf_M → Prop) : Prop := K (gi M v0 5) M
theorem Z_C_enlist_43 {w fz : Bool} {S : gS} {B : rf_M} {M : rf_M} {ls : rf_L} {n0 : Nat} {v0 : Nat} {K : Int → rf_M → Prop} (hS : rl S) (hR : fl 22 (gwH w) B M) (mv0 : v0 ∈ gwL6 w) (a0 : rf_ld ls 0 = some (.ref v0)) (h : e_C_enlist_43 v0 M K) : lx (cx0 fz) n0 83 43 ls [] (M, S) (vl_i 22 (gwH w) B S K) := by
  unfold e_C_enlist_43 at h
  refine l1 (n := 1) rfl rfl rfl (la_of a0) ?_
  refine l_gi rfl (jgo_6 (w := w) hS mv0) rfl (fun _ => rfl) ?_
  exact l_ri rfl rfl (inr_gi _ _ _) hR h
def e_C_enlist (v0 : Nat) (v1 : Int) (M : rf_M) (K : Int → rf_M → Prop) : Prop := ((gi M v0 5) < 16 → ((0 ≤ (gi M v0 5) ∧ (gi M v0 5) < 16 → (∀ M1 : rf_M, M1 = wi M (v0 + 1) (gi M v0 5).toNat v1 → (∀ M2 : rf_M, M2 = wi M1 v0 5 ((gi M1 v0 5) + 1) → (((gi M2 v0 0) = 0 → (∀ M3 : rf_M, M3 = wi M2 v0 0 1 → (e_C_enlist_43 v0 M3 K))) ∧ (¬ (gi M2 v0 0) = 0 → (e_C_enlist_43 v0 M2 K)))))))) ∧ (¬ ((gi M v0 5) < 16) → (K (-1) M))
theorem Z_C_enlist {w fz : Bool} {S : gS} {B : rf_M} {M : rf_M} {ls : rf_L} {n0 : Nat} {v0 : Nat} {v1 : Int} {K : Int → rf_M → Prop} (hS : rl S) (hR : fl 22 (gwH w) B M) (mv0 : v0 ∈ gwL6 w) (iv1 : inr v1) (a0 : rf_ld ls 0 = some (.ref v0)) (a1 : rf_ld ls 1 = some (zv v1)) (h : e_C_enlist v0 v1 M K) : lx (cx0 fz) n0 83 0 ls [] (M, S) (vl_i 22 (gwH w) B S K) := by
  unfold e_C_enlist at h
  refine l1 (n := 1) rfl rfl rfl (la_of a0) ?_
  refine l_gi rfl (jgo_6 (w := w) hS mv0) rfl (fun _ => rfl) ?_
  refine l_bi rfl (by decide) ?_
  refine l_ic rfl (inr_gi _ _ _) ⟨by decide, by decide⟩ (fun c => ?_) (fun c => ?_)
  · replace h := h.1 c
    refine l1 (n := 1) rfl rfl rfl (la_of a0) ?_
    refine l_gr rfl (jgo_6 (w := w) hS mv0) rfl (fun _ => rfl) (jgf_6_3 (w := w) hR.2 mv0) ?_
    refine l1 (n := 1) rfl rfl rfl (la_of a0) ?_
    refine l_gi rfl (jgo_6 (w := w) hS mv0) rfl (fun _ => rfl) ?_
    refine l1 (n := 1) rfl rfl rfl (li_of a1) ?_
    refine b_is rfl (jgt_6_3 (w := w) (fz := fz) hS mv0).1 (Nat.le_of_ble_eq_true rfl) (inr_gi _ _ _) (fun q M1 e => ?_)
    replace h := h q M1 e
    have r1 := hR.wi (jgt_6_3 (w := w) (fz := fz) hS mv0).1.1 (jgt_6_3 (w := w) (fz := fz) hS mv0).2 e
    refine l1 (n := 1) rfl rfl rfl (la_of a0) ?_
    refine l0 rfl rfl rfl ?_
    refine l_gi rfl (jgo_6 (w := w) hS mv0) rfl (fun _ => rfl) ?_
    refine l1 (n := 1) rfl rfl rfl rfl ?_
    refine l_add rfl ?_
    refine l_pi rfl (jgo_6 (w := w) (fz := fz) hS mv0) rfl (fun _ _ => rfl) (fun M2 e => ?_)
    replace h := h M2 e
    have r2 := r1.wi (jgo_6 (w := w) (fz := fz) hS mv0).1 (jgl_6 (w := w) mv0) e
    refine l1 (n := 1) rfl rfl rfl (la_of a0) ?_
    refine l_gi rfl (jgo_6 (w := w) hS mv0) rfl (fun _ => rfl) ?_
    refine l_if rfl (inr_gi _ _ _) (fun c => ?_) (fun c => ?_)
    · replace h := h.2 c
      exact Z_C_enlist_43 hS r2 mv0 a0 h
    · replace h := h.1 (Classical.not_not.mp c)
      refine l1 (n := 1) rfl rfl rfl (la_of a0) ?_
      refine l1 (n := 1) rfl rfl rfl rfl ?_
      refine l_pi rfl (jgo_6 (w := w) (fz := fz) hS mv0) rfl (fun _ _ => rfl) (fun M3 e => ?_)
      replace h := h M3 e
      have r3 := r2.wi (jgo_6 (w := w) (fz := fz) hS mv0).1 (jgl_6 (w := w) mv0) e
      exact Z_C_enlist_43 hS r3 mv0 a0 h
  · replace h := h.2 c
    refine l1 (n := 1) rfl rfl rfl rfl ?_
    exact l_ri rfl rfl ⟨by decide, by decide⟩ hR h
def em_C_enlist (x0 : Nat) (x1 : Int) (M : rf_M) (K : Int → rf_M → Prop) : Prop := e_C_enlist x0 x1 M K
theorem Z_C_enlist_m {w fz : Bool} {S : gS} {B : rf_M} {M : rf_M} {n0 : Nat} {x0 : Nat} {x1 : Int} {K : Int → rf_M → Prop} (hS : rl S) (hR : fl 22 (gwH w) B M) (mx0 : x0 ∈ gwL6 w) (ix1 : inr x1) (h : em_C_enlist x0 x1 M K) : lx (cx0 fz) n0 83 0 (lv_args 0 [.ref x0, zv x1]) [] (M, S) (vl_i 22 (gwH w) B S K) :=
  Z_C_enlist hS hR mx0 ix1 rfl rfl h
def e_M_add_16 (M : rf_M) (K : Int → rf_M → Prop) : Prop := K (-1) M
theorem Z_M_add_16 {w fz : Bool} {S : gS} {B : rf_M} {M : rf_M} {ls : rf_L} {n0 : Nat} {K : Int → rf_M → Prop} (hS : rl S) (hR : fl 22 (gwH w) B M) (h : e_M_add_16 M K) : lx (cx0 fz) n0 81 16 ls [] (M, S) (vl_i 22 (gwH w) B S K) := by
  unfold e_M_add_16 at h
  refine l1 (n := 1) rfl rfl rfl rfl ?_
  exact l_ri rfl rfl ⟨by decide, by decide⟩ hR h
def e_M_add (v1 : Int) (v2 : Int) (M : rf_M) (K : Int → rf_M → Prop) : Prop := em_M_isClient v1 M (fun (z1 : Int) (M1 : rf_M) => (z1 = 0 → (e_M_add_16 M1 K)) ∧ (¬ (z1 = 0) → (em_M_isTransaction v2 M1 (fun (z2 : Int) (M2 : rf_M) => (z2 = 0 → (e_M_add_16 M2 K)) ∧ (¬ z2 = 0 → ((0 ≤ v1 ∧ v1 < 8 → (em_C_enlist (clA v1) v2 M2 (fun (z3 : Int) (M3 : rf_M) => K z3 M3)))))))))
theorem Z_M_add {w fz : Bool} {S : gS} {B : rf_M} {M : rf_M} {ls : rf_L} {n0 : Nat} {v1 : Int} {v2 : Int} {K : Int → rf_M → Prop} (hS : rl S) (hR : fl 22 (gwH w) B M) (iv1 : inr v1) (iv2 : inr v2) (a0 : rf_ld ls 0 = some (.ref 22)) (a1 : rf_ld ls 1 = some (zv v1)) (a2 : rf_ld ls 2 = some (zv v2)) (h : e_M_add v1 v2 M K) : lx (cx0 fz) n0 81 0 ls [] (M, S) (vl_i 22 (gwH w) B S K) := by
  unfold e_M_add at h
  refine l1 (n := 1) rfl rfl rfl (la_of a0) ?_
  refine l1 (n := 1) rfl rfl rfl (li_of a1) ?_
  refine b_iv (c := 22) (as := [zv v1]) (rest := []) rfl (by decide) (ko_0 hS (List.Mem.head _)) rfl rfl (Nat.le_of_ble_eq_true rfl) (fun hq => ?_)
  refine lx_mono (Z_M_isClient_m hS hR iv1 h) ?_
  rintro _ _ ⟨z1, M1, rfl, rfl, r1, iz1, h⟩
  refine l_if rfl iz1 (fun c => ?_) (fun c => ?_)
  · replace h := h.1 c
    exact Z_M_add_16 hS r1  h
  · replace h := h.2 c
    refine l1 (n := 1) rfl rfl rfl (la_of a0) ?_
    refine l1 (n := 1) rfl rfl rfl (li_of a2) ?_
    refine b_iv (c := 22) (as := [zv v2]) (rest := []) rfl (by decide) (ko_0 hS (List.Mem.head _)) rfl rfl (Nat.le_of_ble_eq_true rfl) (fun hq => ?_)
    refine lx_mono (Z_M_isTransaction_m hS r1 iv2 h) ?_
    rintro _ _ ⟨z2, M2, rfl, rfl, r2, iz2, h⟩
    refine l_if rfl iz2 (fun c => ?_) (fun c => ?_)
    · replace h := h.2 c
      refine l1 (n := 1) rfl rfl rfl (la_of a0) ?_
      refine l_gr rfl (ko_0 hS (List.Mem.head _)) rfl (fun _ => rfl) (kf_0_7 r2.2 (List.Mem.head _)) ?_
      refine l1 (n := 1) rfl rfl rfl (li_of a1) ?_
      refine b_aa rfl (jgc_195 (w := w) (fz := fz) hS).1 (Nat.le_of_ble_eq_true rfl) iv1 (fun q1 => ⟨clA_ref r2.2 q1, ?_⟩)
      replace h := h q1
      refine l1 (n := 1) rfl rfl rfl (li_of a2) ?_
      refine b_iv (c := (clA v1)) (as := [zv v2]) (rest := []) rfl (by decide) (jgo_6 (w := w) hS (clA_memg q1)) rfl rfl (Nat.le_of_ble_eq_true rfl) (fun hq => ?_)
      refine lx_mono (Z_C_enlist_m hS r2 (clA_memg q1) iv2 h) ?_
      rintro _ _ ⟨z3, M3, rfl, rfl, r3, iz3, h⟩
      exact l_ri rfl rfl iz3 r3 h
    · replace h := h.1 (Classical.not_not.mp c)
      exact Z_M_add_16 hS r2  h
def em_M_add (x1 : Int) (x2 : Int) (M : rf_M) (K : Int → rf_M → Prop) : Prop := e_M_add x1 x2 M K
theorem Z_M_add_m {w fz : Bool} {S : gS} {B : rf_M} {M : rf_M} {n0 : Nat} {x1 : Int} {x2 : Int} {K : Int → rf_M → Prop} (hS : rl S) (hR : fl 22 (gwH w) B M) (ix1 : inr x1) (ix2 : inr x2) (h : em_M_add x1 x2 M K) : lx (cx0 fz) n0 81 0 (lv_args 0 [.ref 22, zv x1, zv x2]) [] (M, S) (vl_i 22 (gwH w) B S K) :=
  Z_M_add hS hR ix1 ix2 rfl rfl rfl h
def e_S_differs_36 (v0 : Nat) (v1 : Int) (v2 : Nat) (v3 : Int) (M : rf_M) (b2 : Nat → Int → Nat → Int → rf_M → Prop) (K : Int → rf_M → Prop) : Prop := inr (v3 + 1) ∧ (b2 v0 v1 v2 (v3 + 1) M)
theorem Z_S_differs_36 {w fz : Bool} {S : gS} {B : rf_M} {M : rf_M} {ls : rf_L} {n0 : Nat} {v0 : Nat} {v1 : Int} {v2 : Nat} {v3 : Int} {b2 : Nat → Int → Nat → Int → rf_M → Prop} {K : Int → rf_M → Prop} (hS : rl S) (hR : fl 22 (gwH w) B M) (mv0 : v0 ∈ gwL4 w) (iv1 : inr v1) (mv2 : gwP w fz S v2 .int 16) (iv3 : inr v3) (a0 : rf_ld ls 0 = some (.ref v0)) (a1 : rf_ld ls 1 = some (zv v1)) (a2 : rf_ld ls 2 = some (.ref v2)) (a3 : rf_ld ls 3 = some (zv v3)) (hb2 : ∀ n', n' < n0 → ∀ (v0 : Nat) (v1 : Int) (v2 : Nat) (v3 : Int) (M : rf_M) (ls : rf_L), fl 22 (gwH w) B M → v0 ∈ gwL4 w → inr v1 → gwP w fz S v2 .int 16 → inr v3 → rf_ld ls 0 = some (.ref v0) → rf_ld ls 1 = some (zv v1) → rf_ld ls 2 = some (.ref v2) → rf_ld ls 3 = some (zv v3) → b2 v0 v1 v2 v3 M → lx (cx0 fz) n' 72 2 ls [] (M, S) (vl_i 22 (gwH w) B S K)) (h : e_S_differs_36 v0 v1 v2 v3 M b2 K) : lx (cx0 fz) n0 72 36 ls [] (M, S) (vl_i 22 (gwH w) B S K) := by
  unfold e_S_differs_36 at h
  rcases Nat.eq_zero_or_pos n0 with e0 | hp
  · rw [e0]; exact lx_zero
  refine l_ii rfl a3 (Nat.le_of_ble_eq_true rfl) (fun ls y1 ho => ?_)
  have y2 := ho 0 _ (by decide) (fun q => by cases q.2) a0
  have y3 := ho 1 _ (by decide) (fun q => by cases q.2) a1
  have y4 := ho 2 _ (by decide) (fun q => by cases q.2) a2
  refine l3 rfl rfl rfl ?_
  obtain ⟨i1, h⟩ := h
  exact hb2 _ (by omega) _ _ _ _ _ _ hR mv0 iv1 mv2 i1 y2 y3 y4 y1 h
def e_S_differs_42 (M : rf_M) (K : Int → rf_M → Prop) : Prop := K 0 M
theorem Z_S_differs_42 {w fz : Bool} {S : gS} {B : rf_M} {M : rf_M} {ls : rf_L} {n0 : Nat} {K : Int → rf_M → Prop} (hS : rl S) (hR : fl 22 (gwH w) B M) (h : e_S_differs_42 M K) : lx (cx0 fz) n0 72 42 ls [] (M, S) (vl_i 22 (gwH w) B S K) := by
  unfold e_S_differs_42 at h
  refine l1 (n := 1) rfl rfl rfl rfl ?_
  exact l_rb rfl rfl (Or.inl rfl) hR h
def e_S_differs_2b (v0 : Nat) (v1 : Int) (v2 : Nat) (v3 : Int) (M : rf_M) (b2 : Nat → Int → Nat → Int → rf_M → Prop) (K : Int → rf_M → Prop) : Prop := (16 ≤ v3 → (e_S_differs_42 M K)) ∧ (¬ (16 ≤ v3) → ((16 ≤ v3 → (e_S_differs_42 M K)) ∧ (¬ (16 ≤ v3) → (((Int32.ofInt ((Int32.ofInt v1).toUInt32 >>> ((Int32.ofInt v3).toUInt32 &&& Int32.toUInt32 31)).toInt32.toInt &&& Int32.ofInt 1).toInt = 0 → (e_S_differs_36 v0 v1 v2 v3 M b2 K)) ∧ (¬ ((Int32.ofInt ((Int32.ofInt v1).toUInt32 >>> ((Int32.ofInt v3).toUInt32 &&& Int32.toUInt32 31)).toInt32.toInt &&& Int32.ofInt 1).toInt = 0) → ((0 ≤ v3 ∧ v3 < 16 → ((0 ≤ v3 ∧ v3 < 16 → (((gi M (v0 + 2) (v3).toNat) = (gi M v2 (v3).toNat) → (e_S_differs_36 v0 v1 v2 v3 M b2 K)) ∧ (¬ ((gi M (v0 + 2) (v3).toNat) = (gi M v2 (v3).toNat)) → (K 1 M))))))))))))
theorem Z_S_differs_2b {w fz : Bool} {S : gS} {B : rf_M} {M : rf_M} {ls : rf_L} {n0 : Nat} {v0 : Nat} {v1 : Int} {v2 : Nat} {v3 : Int} {b2 : Nat → Int → Nat → Int → rf_M → Prop} {K : Int → rf_M → Prop} (hS : rl S) (hR : fl 22 (gwH w) B M) (mv0 : v0 ∈ gwL4 w) (iv1 : inr v1) (mv2 : gwP w fz S v2 .int 16) (iv3 : inr v3) (a0 : rf_ld ls 0 = some (.ref v0)) (a1 : rf_ld ls 1 = some (zv v1)) (a2 : rf_ld ls 2 = some (.ref v2)) (a3 : rf_ld ls 3 = some (zv v3)) (hb2 : ∀ n', n' < n0 → ∀ (v0 : Nat) (v1 : Int) (v2 : Nat) (v3 : Int) (M : rf_M) (ls : rf_L), fl 22 (gwH w) B M → v0 ∈ gwL4 w → inr v1 → gwP w fz S v2 .int 16 → inr v3 → rf_ld ls 0 = some (.ref v0) → rf_ld ls 1 = some (zv v1) → rf_ld ls 2 = some (.ref v2) → rf_ld ls 3 = some (zv v3) → b2 v0 v1 v2 v3 M → lx (cx0 fz) n' 72 2 ls [] (M, S) (vl_i 22 (gwH w) B S K)) (h : e_S_differs_2b v0 v1 v2 v3 M b2 K) : lx (cx0 fz) n0 72 2 ls [] (M, S) (vl_i 22 (gwH w) B S K) := by
  unfold e_S_differs_2b at h
  rcases Nat.eq_zero_or_pos n0 with e0 | hp
  · rw [e0]; exact lx_zero
  refine l1 (n := 1) rfl rfl rfl (li_of a3) ?_
  refine l_bi rfl (by decide) ?_
  refine l_ic rfl iv3 ⟨by decide, by decide⟩ (fun c => ?_) (fun c => ?_)
  · replace h := h.1 c
    exact Z_S_differs_42 hS hR  h
  · replace h := h.2 c
    refine l1 (n := 1) rfl rfl rfl (li_of a3) ?_
    refine l1 (n := 1) rfl rfl rfl (la_of a2) ?_
    refine l_al (z := 16) rfl mv2.1 rfl ?_
    refine l_ic rfl iv3 ⟨by decide, by decide⟩ (fun c => ?_) (fun c => ?_)
    · replace h := h.1 c
      exact Z_S_differs_42 hS hR  h
    · replace h := h.2 c
      refine l1 (n := 1) rfl rfl rfl (li_of a1) ?_
      refine l1 (n := 1) rfl rfl rfl (li_of a3) ?_
      refine l_op (T := ((Int32.ofInt v1).toUInt32 >>> ((Int32.ofInt v3).toUInt32 &&& Int32.toUInt32 31)).toInt32) rfl rfl rfl ?_
      refine l1 (n := 1) rfl rfl rfl rfl ?_
      refine l_op (T := (Int32.ofInt ((Int32.ofInt v1).toUInt32 >>> ((Int32.ofInt v3).toUInt32 &&& Int32.toUInt32 31)).toInt32.toInt &&& Int32.ofInt 1)) rfl rfl rfl ?_
      refine l_if rfl (inr_ti _) (fun c => ?_) (fun c => ?_)
      · replace h := h.1 c
        exact Z_S_differs_36 hS hR mv0 iv1 mv2 iv3 a0 a1 a2 a3 (fun n' hn' => hb2 n' (by omega)) h
      · replace h := h.2 c
        refine l1 (n := 1) rfl rfl rfl (la_of a0) ?_
        refine l_gr rfl (jgo_4 (w := w) hS mv0) rfl (fun _ => rfl) (jgf_4_1 (w := w) hR.2 mv0) ?_
        refine l1 (n := 1) rfl rfl rfl (li_of a3) ?_
        refine b_ia rfl (jgt_4_1 (w := w) (fz := fz) hS mv0).1 (Nat.le_of_ble_eq_true rfl) iv3 (fun q => ?_)
        replace h := h q
        refine l1 (n := 1) rfl rfl rfl (la_of a2) ?_
        refine l1 (n := 1) rfl rfl rfl (li_of a3) ?_
        refine b_ia rfl mv2.1 (Nat.le_of_ble_eq_true rfl) iv3 (fun q => ?_)
        replace h := h q
        refine l_ic rfl (inr_gi _ _ _) (inr_gi _ _ _) (fun c => ?_) (fun c => ?_)
        · replace h := h.1 c
          exact Z_S_differs_36 hS hR mv0 iv1 mv2 iv3 a0 a1 a2 a3 (fun n' hn' => hb2 n' (by omega)) h
        · replace h := h.2 c
          refine l1 (n := 1) rfl rfl rfl rfl ?_
          exact l_rb rfl rfl (Or.inr rfl) hR h
def e_S_differs_2 (v0 : Nat) (v1 : Int) (v2 : Nat) (v3 : Int) (M : rf_M) (K : Int → rf_M → Prop) : Prop := ∃ Inv : Nat → Int → Nat → Int → rf_M → Prop, Inv v0 v1 v2 v3 M ∧ ∀ (v0 : Nat) (v1 : Int) (v2 : Nat) (v3 : Int) (M : rf_M), inr v1 → inr v3 → Inv v0 v1 v2 v3 M → e_S_differs_2b v0 v1 v2 v3 M Inv K
theorem Z_S_differs_2 {w fz : Bool} {S : gS} {B : rf_M} {M : rf_M} {ls : rf_L} {n0 : Nat} {v0 : Nat} {v1 : Int} {v2 : Nat} {v3 : Int} {K : Int → rf_M → Prop} (hS : rl S) (hR : fl 22 (gwH w) B M) (mv0 : v0 ∈ gwL4 w) (iv1 : inr v1) (mv2 : gwP w fz S v2 .int 16) (iv3 : inr v3) (a0 : rf_ld ls 0 = some (.ref v0)) (a1 : rf_ld ls 1 = some (zv v1)) (a2 : rf_ld ls 2 = some (.ref v2)) (a3 : rf_ld ls 3 = some (zv v3)) (h : e_S_differs_2 v0 v1 v2 v3 M K) : lx (cx0 fz) n0 72 2 ls [] (M, S) (vl_i 22 (gwH w) B S K) := by
  obtain ⟨Inv, hm, hb⟩ := h
  induction n0 using Nat.strongRecOn generalizing ls M v0 v1 v2 v3 with
  | _ n0 ih =>
    refine Z_S_differs_2b hS hR mv0 iv1 mv2 iv3 a0 a1 a2 a3 (fun n' hn' v0' v1' v2' v3' M' ls' hR' f0 f1 f2 f3 f4 f5 f6 f7 q2 => ih n' hn' hR' f0 f1 f2 f3 f4 f5 f6 f7 q2) (hb v0 v1 v2 v3 M iv1 iv3 hm)
def e_S_differs (v0 : Nat) (v1 : Int) (v2 : Nat) (M : rf_M) (K : Int → rf_M → Prop) : Prop := e_S_differs_2 v0 v1 v2 0 M K
theorem Z_S_differs {w fz : Bool} {S : gS} {B : rf_M} {M : rf_M} {ls : rf_L} {n0 : Nat} {v0 : Nat} {v1 : Int} {v2 : Nat} {K : Int → rf_M → Prop} (hS : rl S) (hR : fl 22 (gwH w) B M) (mv0 : v0 ∈ gwL4 w) (iv1 : inr v1) (mv2 : gwP w fz S v2 .int 16) (a0 : rf_ld ls 0 = some (.ref v0)) (a1 : rf_ld ls 1 = some (zv v1)) (a2 : rf_ld ls 2 = some (.ref v2)) (h : e_S_differs v0 v1 v2 M K) : lx (cx0 fz) n0 72 0 ls [] (M, S) (vl_i 22 (gwH w) B S K) := by
  unfold e_S_differs at h
  refine l1 (n := 1) rfl rfl rfl rfl ?_
  refine l_s1 (n := 1) rfl rfl rfl rfl (fun ls y1 ho => ?_)
  have y2 := ho 0 _ (by decide) (fun q => by cases q.2) a0
  have y3 := ho 1 _ (by decide) (fun q => by cases q.2) a1
  have y4 := ho 2 _ (by decide) (fun q => by cases q.2) a2
  exact Z_S_differs_2 hS hR mv0 iv1 mv2 ⟨by decide, by decide⟩ y2 y3 y4 y1 h
def em_S_differs (x0 : Nat) (x1 : Int) (x2 : Nat) (M : rf_M) (K : Int → rf_M → Prop) : Prop := e_S_differs x0 x1 x2 M K
theorem Z_S_differs_m {w fz : Bool} {S : gS} {B : rf_M} {M : rf_M} {n0 : Nat} {x0 : Nat} {x1 : Int} {x2 : Nat} {K : Int → rf_M → Prop} (hS : rl S) (hR : fl 22 (gwH w) B M) (mx0 : x0 ∈ gwL4 w) (ix1 : inr x1) (mx2 : gwP w fz S x2 .int 16) (h : em_S_differs x0 x1 x2 M K) : lx (cx0 fz) n0 72 0 (lv_args 0 [.ref x0, zv x1, .ref x2]) [] (M, S) (vl_i 22 (gwH w) B S K) :=
  Z_S_differs hS hR mx0 ix1 mx2 rfl rfl rfl h
def e_C_isWoken (v0 : Nat) (v1 : Nat) (M : rf_M) (K : Int → rf_M → Prop) : Prop := em_S_differs v1 (gi M v0 6) (v0 + 2) M (fun (z1 : Int) (M1 : rf_M) => (z1 = 0 ∨ z1 = 1) ∧ K z1 M1)
theorem Z_C_isWoken {w fz : Bool} {S : gS} {B : rf_M} {M : rf_M} {ls : rf_L} {n0 : Nat} {v0 : Nat} {v1 : Nat} {K : Int → rf_M → Prop} (hS : rl S) (hR : fl 22 (gwH w) B M) (mv0 : v0 ∈ gwL6 w) (mv1 : v1 ∈ gwL4 w) (a0 : rf_ld ls 0 = some (.ref v0)) (a1 : rf_ld ls 1 = some (.ref v1)) (h : e_C_isWoken v0 v1 M K) : lx (cx0 fz) n0 86 0 ls [] (M, S) (vl_i 22 (gwH w) B S K) := by
  unfold e_C_isWoken at h
  refine l1 (n := 1) rfl rfl rfl (la_of a1) ?_
  refine l1 (n := 1) rfl rfl rfl (la_of a0) ?_
  refine l_gi rfl (jgo_6 (w := w) hS mv0) rfl (fun _ => rfl) ?_
  refine l1 (n := 1) rfl rfl rfl (la_of a0) ?_
  refine l_gr rfl (jgo_6 (w := w) hS mv0) rfl (fun _ => rfl) (jgf_6_7 (w := w) hR.2 mv0) ?_
  refine b_iv (c := v1) (as := [zv (gi M v0 6), .ref (v0 + 2)]) (rest := []) rfl (by decide) (jgo_4 (w := w) hS mv1) rfl rfl (Nat.le_of_ble_eq_true rfl) (fun hq => ?_)
  refine lx_mono (Z_S_differs_m hS hR mv1 (inr_gi _ _ _) (jgt_6_7 (w := w) (fz := fz) hS mv0) h) ?_
  rintro _ _ ⟨z1, M1, rfl, rfl, r1, iz1, h⟩
  exact l_rb rfl rfl h.1 r1 h.2
def em_C_isWoken (x0 : Nat) (x1 : Nat) (M : rf_M) (K : Int → rf_M → Prop) : Prop := e_C_isWoken x0 x1 M K
theorem Z_C_isWoken_m {w fz : Bool} {S : gS} {B : rf_M} {M : rf_M} {n0 : Nat} {x0 : Nat} {x1 : Nat} {K : Int → rf_M → Prop} (hS : rl S) (hR : fl 22 (gwH w) B M) (mx0 : x0 ∈ gwL6 w) (mx1 : x1 ∈ gwL4 w) (h : em_C_isWoken x0 x1 M K) : lx (cx0 fz) n0 86 0 (lv_args 0 [.ref x0, .ref x1]) [] (M, S) (vl_i 22 (gwH w) B S K) :=
  Z_C_isWoken hS hR mx0 mx1 rfl rfl h
def e_F_fillJ10_6b (v0 : Nat) (v1 : Int64) (v3 : Int) (v4 : Int) (M : rf_M) (b6 : Nat → Int64 → Int → Int → rf_M → Prop) (K : rf_M → Prop) : Prop := (v4 ≤ v3 → (K M)) ∧ (¬ (v4 ≤ v3) → ((0 ≤ v3 ∧ v3 < 10 → (∀ M1 : rf_M, M1 = wl M v0 (v3).toNat v1 → (inr (v3 + 1) ∧ (b6 v0 v1 (v3 + 1) v4 M1))))))
theorem Z_F_fillJ10_6b {w fz : Bool} {S : gS} {B : rf_M} {M : rf_M} {ls : rf_L} {n0 : Nat} {v0 : Nat} {v1 : Int64} {v3 : Int} {v4 : Int} {b6 : Nat → Int64 → Int → Int → rf_M → Prop} {K : rf_M → Prop} (hS : rl S) (hR : fl 22 (gwH w) B M) (mv0 : gwP w fz S v0 .long 10) (iv3 : inr v3) (iv4 : inr v4) (a0 : rf_ld ls 0 = some (.ref v0)) (a1 : rf_ld ls 1 = some (.long v1)) (a3 : rf_ld ls 3 = some (zv v3)) (a4 : rf_ld ls 4 = some (zv v4)) (hb6 : ∀ n', n' < n0 → ∀ (v0 : Nat) (v1 : Int64) (v3 : Int) (v4 : Int) (M : rf_M) (ls : rf_L), fl 22 (gwH w) B M → gwP w fz S v0 .long 10 → inr v3 → inr v4 → rf_ld ls 0 = some (.ref v0) → rf_ld ls 1 = some (.long v1) → rf_ld ls 3 = some (zv v3) → rf_ld ls 4 = some (zv v4) → b6 v0 v1 v3 v4 M → lx (cx0 fz) n' 89 6 ls [] (M, S) (vl_v 22 (gwH w) B S K)) (h : e_F_fillJ10_6b v0 v1 v3 v4 M b6 K) : lx (cx0 fz) n0 89 6 ls [] (M, S) (vl_v 22 (gwH w) B S K) := by
  unfold e_F_fillJ10_6b at h
  rcases Nat.eq_zero_or_pos n0 with e0 | hp
  · rw [e0]; exact lx_zero
  refine l1 (n := 1) rfl rfl rfl (li_of a3) ?_
  refine l1 (n := 2) rfl rfl rfl (li_of a4) ?_
  refine l_ic rfl iv3 iv4 (fun c => ?_) (fun c => ?_)
  · replace h := h.1 c
    exact l_rv rfl rfl hR h
  · replace h := h.2 c
    refine l1 (n := 1) rfl rfl rfl (la_of a0) ?_
    refine l1 (n := 1) rfl rfl rfl (li_of a3) ?_
    refine l1 (n := 1) rfl rfl rfl (ll_of a1) ?_
    refine b_ls rfl mv0.1 (Nat.le_of_ble_eq_true rfl) iv3 (fun q M1 e => ?_)
    replace h := h q M1 e
    have r1 := hR.wl mv0.1.1 mv0.2 e
    refine l_ii rfl a3 (Nat.le_of_ble_eq_true rfl) (fun ls y1 ho => ?_)
    have y2 := ho 0 _ (by decide) (fun q => by cases q.2) a0
    have y3 := ho 1 _ (by decide) (fun q => absurd q.1 (by decide)) a1
    have y4 := ho 4 _ (by decide) (fun q => by cases q.2) a4
    refine l3 rfl rfl rfl ?_
    obtain ⟨i1, h⟩ := h
    exact hb6 _ (by omega) _ _ _ _ _ _ r1 mv0 i1 iv4 y2 y3 y1 y4 h
def e_F_fillJ10_6 (v0 : Nat) (v1 : Int64) (v3 : Int) (v4 : Int) (M : rf_M) (K : rf_M → Prop) : Prop := ∃ Inv : Nat → Int64 → Int → Int → rf_M → Prop, Inv v0 v1 v3 v4 M ∧ ∀ (v0 : Nat) (v1 : Int64) (v3 : Int) (v4 : Int) (M : rf_M), inr v3 → inr v4 → Inv v0 v1 v3 v4 M → e_F_fillJ10_6b v0 v1 v3 v4 M Inv K
theorem Z_F_fillJ10_6 {w fz : Bool} {S : gS} {B : rf_M} {M : rf_M} {ls : rf_L} {n0 : Nat} {v0 : Nat} {v1 : Int64} {v3 : Int} {v4 : Int} {K : rf_M → Prop} (hS : rl S) (hR : fl 22 (gwH w) B M) (mv0 : gwP w fz S v0 .long 10) (iv3 : inr v3) (iv4 : inr v4) (a0 : rf_ld ls 0 = some (.ref v0)) (a1 : rf_ld ls 1 = some (.long v1)) (a3 : rf_ld ls 3 = some (zv v3)) (a4 : rf_ld ls 4 = some (zv v4)) (h : e_F_fillJ10_6 v0 v1 v3 v4 M K) : lx (cx0 fz) n0 89 6 ls [] (M, S) (vl_v 22 (gwH w) B S K) := by
  obtain ⟨Inv, hm, hb⟩ := h
  induction n0 using Nat.strongRecOn generalizing ls M v0 v1 v3 v4 with
  | _ n0 ih =>
    refine Z_F_fillJ10_6b hS hR mv0 iv3 iv4 a0 a1 a3 a4 (fun n' hn' v0' v1' v3' v4' M' ls' hR' f0 f1 f2 f3 f4 f5 f6 q2 => ih n' hn' hR' f0 f1 f2 f3 f4 f5 f6 q2) (hb v0 v1 v3 v4 M iv3 iv4 hm)
def e_F_fillJ10 (v0 : Nat) (v1 : Int64) (M : rf_M) (K : rf_M → Prop) : Prop := e_F_fillJ10_6 v0 v1 0 10 M K
theorem Z_F_fillJ10 {w fz : Bool} {S : gS} {B : rf_M} {M : rf_M} {ls : rf_L} {n0 : Nat} {v0 : Nat} {v1 : Int64} {K : rf_M → Prop} (hS : rl S) (hR : fl 22 (gwH w) B M) (mv0 : gwP w fz S v0 .long 10) (a0 : rf_ld ls 0 = some (.ref v0)) (a1 : rf_ld ls 1 = some (.long v1)) (h : e_F_fillJ10 v0 v1 M K) : lx (cx0 fz) n0 89 0 ls [] (M, S) (vl_v 22 (gwH w) B S K) := by
  unfold e_F_fillJ10 at h
  refine l1 (n := 1) rfl rfl rfl rfl ?_
  refine l_s1 (n := 1) rfl rfl rfl rfl (fun ls y1 ho => ?_)
  have y2 := ho 0 _ (by decide) (fun q => by cases q.2) a0
  have y3 := ho 1 _ (by decide) (fun q => absurd q.1 (by decide)) a1
  refine l1 (n := 1) rfl rfl rfl (la_of y2) ?_
  refine l_al (z := 10) rfl mv0.1 rfl ?_
  refine l_s1 (n := 2) rfl rfl rfl rfl (fun ls y4 ho => ?_)
  have y5 := ho 0 _ (by decide) (fun q => by cases q.2) y2
  have y6 := ho 1 _ (by decide) (fun q => absurd q.1 (by decide)) y3
  have y7 := ho 3 _ (by decide) (fun q => by cases q.2) y1
  exact Z_F_fillJ10_6 hS hR mv0 ⟨by decide, by decide⟩ ⟨by decide, by decide⟩ y5 y6 y7 y4 h
def em_F_fillJ10 (x0 : Nat) (x1 : Int64) (M : rf_M) (K : rf_M → Prop) : Prop := e_F_fillJ10 x0 x1 M K
theorem Z_F_fillJ10_m {w fz : Bool} {S : gS} {B : rf_M} {M : rf_M} {n0 : Nat} {x0 : Nat} {x1 : Int64} {K : rf_M → Prop} (hS : rl S) (hR : fl 22 (gwH w) B M) (mx0 : gwP w fz S x0 .long 10) (h : em_F_fillJ10 x0 x1 M K) : lx (cx0 fz) n0 89 0 (lv_args 0 [.ref x0, .long x1]) [] (M, S) (vl_v 22 (gwH w) B S K) :=
  Z_F_fillJ10 hS hR mx0 rfl rfl h
def e_D_reset (v0 : Nat) (M : rf_M) (K : rf_M → Prop) : Prop := ∀ M1 : rf_M, M1 = wi M v0 0 0 → (∀ M2 : rf_M, M2 = wi M1 v0 3 0 → (em_F_fillJ10 (v0 + 2) (Int64.ofNat 0) M2 (fun (M3 : rf_M) => K M3)))
theorem Z_D_reset {w fz : Bool} {S : gS} {B : rf_M} {M : rf_M} {ls : rf_L} {n0 : Nat} {v0 : Nat} {K : rf_M → Prop} (hS : rl S) (hR : fl 22 (gwH w) B M) (mv0 : v0 ∈ gwL8 w) (a0 : rf_ld ls 0 = some (.ref v0)) (h : e_D_reset v0 M K) : lx (cx0 fz) n0 88 0 ls [] (M, S) (vl_v 22 (gwH w) B S K) := by
  unfold e_D_reset at h
  refine l1 (n := 1) rfl rfl rfl (la_of a0) ?_
  refine l1 (n := 1) rfl rfl rfl rfl ?_
  refine l_pi rfl (jgo_8 (w := w) (fz := fz) hS mv0) rfl (fun _ _ => rfl) (fun M1 e => ?_)
  replace h := h M1 e
  have r1 := hR.wi (jgo_8 (w := w) (fz := fz) hS mv0).1 (jgl_8 (w := w) mv0) e
  refine l1 (n := 1) rfl rfl rfl (la_of a0) ?_
  refine l1 (n := 1) rfl rfl rfl rfl ?_
  refine l_pi rfl (jgo_8 (w := w) (fz := fz) hS mv0) rfl (fun _ _ => rfl) (fun M2 e => ?_)
  replace h := h M2 e
  have r2 := r1.wi (jgo_8 (w := w) (fz := fz) hS mv0).1 (jgl_8 (w := w) mv0) e
  refine l1 (n := 1) rfl rfl rfl (la_of a0) ?_
  refine l_gr rfl (jgo_8 (w := w) hS mv0) rfl (fun _ => rfl) (jgf_8_2 (w := w) r2.2 mv0) ?_
  refine l1 (n := 1) rfl rfl rfl rfl ?_
  refine b_st (as := [.ref (v0 + 2), .long (Int64.ofNat 0)]) (rest := []) rfl (by decide) rfl (Nat.le_of_ble_eq_true rfl) (fun hq => ?_)
  refine lx_mono (Z_F_fillJ10_m hS r2 (jgt_8_2 (w := w) (fz := fz) hS mv0) h) ?_
  rintro _ _ ⟨M3, rfl, rfl, r3, h⟩
  exact l_rv rfl rfl r3 h
def em_D_reset (x0 : Nat) (M : rf_M) (K : rf_M → Prop) : Prop := e_D_reset x0 M K
theorem Z_D_reset_m {w fz : Bool} {S : gS} {B : rf_M} {M : rf_M} {n0 : Nat} {x0 : Nat} {K : rf_M → Prop} (hS : rl S) (hR : fl 22 (gwH w) B M) (mx0 : x0 ∈ gwL8 w) (h : em_D_reset x0 M K) : lx (cx0 fz) n0 88 0 (lv_args 0 [.ref x0]) [] (M, S) (vl_v 22 (gwH w) B S K) :=
  Z_D_reset hS hR mx0 rfl h
def e_R_begin (v0 : Nat) (v1 : Nat) (M : rf_M) (K : rf_M → Prop) : Prop := ∀ M1 : rf_M, M1 = wq M v0 0 v1 → (∀ M2 : rf_M, M2 = wi M1 v0 6 (gi M1 v1 4) → (∀ M3 : rf_M, M3 = wi M2 v0 1 0 → (∀ M4 : rf_M, M4 = wi M3 v0 2 0 → (∀ M5 : rf_M, M5 = wl M4 v0 3 (Int64.ofNat 0) → (em_D_reset (v0 + 2) M5 (fun (M6 : rf_M) => K M6))))))
theorem Z_R_begin {w fz : Bool} {S : gS} {B : rf_M} {M : rf_M} {ls : rf_L} {n0 : Nat} {v0 : Nat} {v1 : Nat} {K : rf_M → Prop} (hS : rl S) (hR : fl 22 (gwH w) B M) (mv0 : v0 ∈ gwL7 w) (mv1 : v1 ∈ k1) (a0 : rf_ld ls 0 = some (.ref v0)) (a1 : rf_ld ls 1 = some (.ref v1)) (h : e_R_begin v0 v1 M K) : lx (cx0 fz) n0 87 0 ls [] (M, S) (vl_v 22 (gwH w) B S K) := by
  unfold e_R_begin at h
  refine l1 (n := 1) rfl rfl rfl (la_of a0) ?_
  refine l1 (n := 1) rfl rfl rfl (la_of a1) ?_
  refine l_pq rfl (jgo_7 (w := w) (fz := fz) hS mv0) rfl (fun _ _ => rfl) (fun M1 e => ?_)
  replace h := h M1 e
  have r1 := hR.wqRg mv0 e
  refine l1 (n := 1) rfl rfl rfl (la_of a0) ?_
  refine l1 (n := 1) rfl rfl rfl (la_of a1) ?_
  refine l_gi rfl (ko_1 hS mv1) rfl (fun _ => rfl) ?_
  refine l_pi rfl (jgo_7 (w := w) (fz := fz) hS mv0) rfl (fun _ _ => rfl) (fun M2 e => ?_)
  replace h := h M2 e
  have r2 := r1.wi (jgo_7 (w := w) (fz := fz) hS mv0).1 (jgl_7 (w := w) mv0) e
  refine l1 (n := 1) rfl rfl rfl (la_of a0) ?_
  refine l1 (n := 1) rfl rfl rfl rfl ?_
  refine l_pi rfl (jgo_7 (w := w) (fz := fz) hS mv0) rfl (fun _ _ => rfl) (fun M3 e => ?_)
  replace h := h M3 e
  have r3 := r2.wi (jgo_7 (w := w) (fz := fz) hS mv0).1 (jgl_7 (w := w) mv0) e
  refine l1 (n := 1) rfl rfl rfl (la_of a0) ?_
  refine l1 (n := 1) rfl rfl rfl rfl ?_
  refine l_pi rfl (jgo_7 (w := w) (fz := fz) hS mv0) rfl (fun _ _ => rfl) (fun M4 e => ?_)
  replace h := h M4 e
  have r4 := r3.wi (jgo_7 (w := w) (fz := fz) hS mv0).1 (jgl_7 (w := w) mv0) e
  refine l1 (n := 1) rfl rfl rfl (la_of a0) ?_
  refine l1 (n := 1) rfl rfl rfl rfl ?_
  refine l_pl rfl (jgo_7 (w := w) (fz := fz) hS mv0) rfl (fun _ _ => rfl) (fun M5 e => ?_)
  replace h := h M5 e
  have r5 := r4.wl (jgo_7 (w := w) (fz := fz) hS mv0).1 (jgl_7 (w := w) mv0) e
  refine l1 (n := 1) rfl rfl rfl (la_of a0) ?_
  refine l_gr rfl (jgo_7 (w := w) hS mv0) rfl (fun _ => rfl) (jgf_7_5 (w := w) r5.2 mv0) ?_
  refine b_iv (c := (v0 + 2)) (as := []) (rest := []) rfl (by decide) (jgo_8 (w := w) hS (jgt_7_5 (w := w) mv0)) rfl rfl (Nat.le_of_ble_eq_true rfl) (fun hq => ?_)
  refine lx_mono (Z_D_reset_m hS r5 (jgt_7_5 (w := w) mv0) h) ?_
  rintro _ _ ⟨M6, rfl, rfl, r6, h⟩
  exact l_rv rfl rfl r6 h
def em_R_begin (x0 : Nat) (x1 : Nat) (M : rf_M) (K : rf_M → Prop) : Prop := e_R_begin x0 x1 M K
theorem Z_R_begin_m {w fz : Bool} {S : gS} {B : rf_M} {M : rf_M} {n0 : Nat} {x0 : Nat} {x1 : Nat} {K : rf_M → Prop} (hS : rl S) (hR : fl 22 (gwH w) B M) (mx0 : x0 ∈ gwL7 w) (mx1 : x1 ∈ k1) (h : em_R_begin x0 x1 M K) : lx (cx0 fz) n0 87 0 (lv_args 0 [.ref x0, .ref x1]) [] (M, S) (vl_v 22 (gwH w) B S K) :=
  Z_R_begin hS hR mx0 mx1 rfl rfl h
theorem E_R_begin_m {fz : Bool} {S : gS} {B : rf_M} {M : rf_M} {n0 : Nat} {x0 : Nat} {x1 : Nat} {K : rf_M → Prop} (hS : rl S) (hR : fl 22 353 B M) (mx0 : x0 ∈ k7) (mx1 : x1 ∈ k1) (h : em_R_begin x0 x1 M K) : lx (cx0 fz) n0 87 0 (lv_args 0 [.ref x0, .ref x1]) [] (M, S) (vl_v 22 353 B S K) :=
  Z_R_begin_m (w := true) hS hR mx0 mx1 h
def e_D_mark_10 (M : rf_M) (K : rf_M → Prop) : Prop := K M
theorem Z_D_mark_10 {w fz : Bool} {S : gS} {B : rf_M} {M : rf_M} {ls : rf_L} {n0 : Nat} {K : rf_M → Prop} (hS : rl S) (hR : fl 22 (gwH w) B M) (h : e_D_mark_10 M K) : lx (cx0 fz) n0 91 10 ls [] (M, S) (vl_v 22 (gwH w) B S K) := by
  unfold e_D_mark_10 at h
  exact l_rv rfl rfl hR h
def e_D_mark (v0 : Nat) (v1 : Int) (M : rf_M) (K : rf_M → Prop) : Prop := (v1 < 0 → (e_D_mark_10 M K)) ∧ (¬ (v1 < 0) → ((v1 < 8 → ((0 ≤ v1 ∧ v1 < 8 → (∀ M1 : rf_M, M1 = wi M (v0 + 4) (v1).toNat (gi M v0 0) → ((0 ≤ v1 ∧ v1 < 8 → (∀ M2 : rf_M, M2 = wi M1 (v0 + 7) (v1).toNat (gi M1 v0 3) → (inr (v1 * 16) ∧ (((0 ≤ (0 : Int) ∧ 0 ≤ (v1 * 16) ∧ 0 ≤ (16 : Int)) ∧ (0 : Int) + (16 : Int) ≤ 16 ∧ (v1 * 16) + (16 : Int) ≤ 128 → (∀ M3 : rf_M, M3 = cpl M2 (v0 + 1) 0 (v0 + 5) (v1 * 16).toNat 16 → (inr (v1 * 10) ∧ (((0 ≤ (0 : Int) ∧ 0 ≤ (v1 * 10) ∧ 0 ≤ (10 : Int)) ∧ (0 : Int) + (10 : Int) ≤ 10 ∧ (v1 * 10) + (10 : Int) ≤ 80 → (∀ M4 : rf_M, M4 = cpl M3 (v0 + 2) 0 (v0 + 6) (v1 * 10).toNat 10 → (K M4)))))))))))))))) ∧ (¬ (v1 < 8) → (e_D_mark_10 M K))))
theorem Z_D_mark {w fz : Bool} {S : gS} {B : rf_M} {M : rf_M} {ls : rf_L} {n0 : Nat} {v0 : Nat} {v1 : Int} {K : rf_M → Prop} (hS : rl S) (hR : fl 22 (gwH w) B M) (mv0 : v0 ∈ gwL8 w) (iv1 : inr v1) (a0 : rf_ld ls 0 = some (.ref v0)) (a1 : rf_ld ls 1 = some (zv v1)) (h : e_D_mark v0 v1 M K) : lx (cx0 fz) n0 91 0 ls [] (M, S) (vl_v 22 (gwH w) B S K) := by
  unfold e_D_mark at h
  refine l1 (n := 1) rfl rfl rfl (li_of a1) ?_
  refine l_if rfl iv1 (fun c => ?_) (fun c => ?_)
  · replace h := h.1 c
    exact Z_D_mark_10 hS hR  h
  · replace h := h.2 c
    refine l1 (n := 1) rfl rfl rfl (li_of a1) ?_
    refine l_bi rfl (by decide) ?_
    refine l_ic rfl iv1 ⟨by decide, by decide⟩ (fun c => ?_) (fun c => ?_)
    · replace h := h.1 c
      refine l1 (n := 1) rfl rfl rfl (la_of a0) ?_
      refine l_gr rfl (jgo_8 (w := w) hS mv0) rfl (fun _ => rfl) (jgf_8_5 (w := w) hR.2 mv0) ?_
      refine l1 (n := 1) rfl rfl rfl (li_of a1) ?_
      refine l1 (n := 1) rfl rfl rfl (la_of a0) ?_
      refine l_gi rfl (jgo_8 (w := w) hS mv0) rfl (fun _ => rfl) ?_
      refine b_is rfl (jgt_8_5 (w := w) (fz := fz) hS mv0).1 (Nat.le_of_ble_eq_true rfl) iv1 (fun q M1 e => ?_)
      replace h := h q M1 e
      have r1 := hR.wi (jgt_8_5 (w := w) (fz := fz) hS mv0).1.1 (jgt_8_5 (w := w) (fz := fz) hS mv0).2 e
      refine l1 (n := 1) rfl rfl rfl (la_of a0) ?_
      refine l_gr rfl (jgo_8 (w := w) hS mv0) rfl (fun _ => rfl) (jgf_8_8 (w := w) r1.2 mv0) ?_
      refine l1 (n := 1) rfl rfl rfl (li_of a1) ?_
      refine l1 (n := 1) rfl rfl rfl (la_of a0) ?_
      refine l_gi rfl (jgo_8 (w := w) hS mv0) rfl (fun _ => rfl) ?_
      refine b_is rfl (jgt_8_8 (w := w) (fz := fz) hS mv0).1 (Nat.le_of_ble_eq_true rfl) iv1 (fun q M2 e => ?_)
      replace h := h q M2 e
      have r2 := r1.wi (jgt_8_8 (w := w) (fz := fz) hS mv0).1.1 (jgt_8_8 (w := w) (fz := fz) hS mv0).2 e
      refine l1 (n := 1) rfl rfl rfl (la_of a0) ?_
      refine l_gr rfl (jgo_8 (w := w) hS mv0) rfl (fun _ => rfl) (jgf_8_1 (w := w) r2.2 mv0) ?_
      refine l1 (n := 1) rfl rfl rfl rfl ?_
      refine l1 (n := 1) rfl rfl rfl (la_of a0) ?_
      refine l_gr rfl (jgo_8 (w := w) hS mv0) rfl (fun _ => rfl) (jgf_8_6 (w := w) r2.2 mv0) ?_
      refine l1 (n := 1) rfl rfl rfl (li_of a1) ?_
      refine l_bi rfl (by decide) ?_
      refine l_mul rfl ?_
      refine l_bi rfl (by decide) ?_
      obtain ⟨i1, h⟩ := h
      refine b_cpl rfl rfl (jgt_8_1 (w := w) (fz := fz) hS mv0).1 (jgt_8_6 (w := w) (fz := fz) hS mv0).1 ⟨by decide, by decide⟩ i1 ⟨by decide, by decide⟩ (fun q M3 e => ?_)
      replace h := h q M3 e
      have r3 := r2.cpl (jgt_8_6 (w := w) (fz := fz) hS mv0).1.1 (jgt_8_6 (w := w) (fz := fz) hS mv0).2 e
      refine l1 (n := 1) rfl rfl rfl (la_of a0) ?_
      refine l_gr rfl (jgo_8 (w := w) hS mv0) rfl (fun _ => rfl) (jgf_8_2 (w := w) r3.2 mv0) ?_
      refine l1 (n := 1) rfl rfl rfl rfl ?_
      refine l1 (n := 1) rfl rfl rfl (la_of a0) ?_
      refine l_gr rfl (jgo_8 (w := w) hS mv0) rfl (fun _ => rfl) (jgf_8_7 (w := w) r3.2 mv0) ?_
      refine l1 (n := 1) rfl rfl rfl (li_of a1) ?_
      refine l_bi rfl (by decide) ?_
      refine l_mul rfl ?_
      refine l_bi rfl (by decide) ?_
      obtain ⟨i2, h⟩ := h
      refine b_cpl rfl rfl (jgt_8_2 (w := w) (fz := fz) hS mv0).1 (jgt_8_7 (w := w) (fz := fz) hS mv0).1 ⟨by decide, by decide⟩ i2 ⟨by decide, by decide⟩ (fun q M4 e => ?_)
      replace h := h q M4 e
      have r4 := r3.cpl (jgt_8_7 (w := w) (fz := fz) hS mv0).1.1 (jgt_8_7 (w := w) (fz := fz) hS mv0).2 e
      exact l_rv rfl rfl r4 h
    · replace h := h.2 c
      exact Z_D_mark_10 hS hR  h
def em_D_mark (x0 : Nat) (x1 : Int) (M : rf_M) (K : rf_M → Prop) : Prop := e_D_mark x0 x1 M K
theorem Z_D_mark_m {w fz : Bool} {S : gS} {B : rf_M} {M : rf_M} {n0 : Nat} {x0 : Nat} {x1 : Int} {K : rf_M → Prop} (hS : rl S) (hR : fl 22 (gwH w) B M) (mx0 : x0 ∈ gwL8 w) (ix1 : inr x1) (h : em_D_mark x0 x1 M K) : lx (cx0 fz) n0 91 0 (lv_args 0 [.ref x0, zv x1]) [] (M, S) (vl_v 22 (gwH w) B S K) :=
  Z_D_mark hS hR mx0 ix1 rfl rfl h
def e_P_behind_63 (v0 : Nat) (v2 : Int) (v3 : Int) (M : rf_M) (b4 : Nat → Int → Int → rf_M → Prop) (K : Int → rf_M → Prop) : Prop := inr (v3 + 1) ∧ (b4 v0 v2 (v3 + 1) M)
theorem Z_P_behind_63 {w fz : Bool} {S : gS} {B : rf_M} {M : rf_M} {ls : rf_L} {n0 : Nat} {v0 : Nat} {v2 : Int} {v3 : Int} {b4 : Nat → Int → Int → rf_M → Prop} {K : Int → rf_M → Prop} (hS : rl S) (hR : fl 22 (gwH w) B M) (mv0 : v0 ∈ k1) (iv2 : inr v2) (iv3 : inr v3) (a0 : rf_ld ls 0 = some (.ref v0)) (a2 : rf_ld ls 2 = some (zv v2)) (a3 : rf_ld ls 3 = some (zv v3)) (hb4 : ∀ n', n' < n0 → ∀ (v0 : Nat) (v2 : Int) (v3 : Int) (M : rf_M) (ls : rf_L), fl 22 (gwH w) B M → v0 ∈ k1 → inr v2 → inr v3 → rf_ld ls 0 = some (.ref v0) → rf_ld ls 2 = some (zv v2) → rf_ld ls 3 = some (zv v3) → b4 v0 v2 v3 M → lx (cx0 fz) n' 93 4 ls [] (M, S) (vl_i 22 (gwH w) B S K)) (h : e_P_behind_63 v0 v2 v3 M b4 K) : lx (cx0 fz) n0 93 63 ls [] (M, S) (vl_i 22 (gwH w) B S K) := by
  unfold e_P_behind_63 at h
  rcases Nat.eq_zero_or_pos n0 with e0 | hp
  · rw [e0]; exact lx_zero
  refine l_ii rfl a3 (Nat.le_of_ble_eq_true rfl) (fun ls y1 ho => ?_)
  have y2 := ho 0 _ (by decide) (fun q => by cases q.2) a0
  have y3 := ho 2 _ (by decide) (fun q => by cases q.2) a2
  refine l3 rfl rfl rfl ?_
  obtain ⟨i1, h⟩ := h
  exact hb4 _ (by omega) _ _ _ _ _ hR mv0 iv2 i1 y2 y3 y1 h
def e_P_behind_69 (M : rf_M) (K : Int → rf_M → Prop) : Prop := K (-1) M
theorem Z_P_behind_69 {w fz : Bool} {S : gS} {B : rf_M} {M : rf_M} {ls : rf_L} {n0 : Nat} {K : Int → rf_M → Prop} (hS : rl S) (hR : fl 22 (gwH w) B M) (h : e_P_behind_69 M K) : lx (cx0 fz) n0 93 69 ls [] (M, S) (vl_i 22 (gwH w) B S K) := by
  unfold e_P_behind_69 at h
  refine l1 (n := 1) rfl rfl rfl rfl ?_
  exact l_ri rfl rfl ⟨by decide, by decide⟩ hR h
def e_P_behind_4b (v0 : Nat) (v2 : Int) (v3 : Int) (M : rf_M) (b4 : Nat → Int → Int → rf_M → Prop) (K : Int → rf_M → Prop) : Prop := (8 < v3 → (e_P_behind_69 M K)) ∧ (¬ (8 < v3) → (em_P_has v0 v2 M (fun (z1 : Int) (M1 : rf_M) => (z1 = 0 → (e_P_behind_69 M1 K)) ∧ (¬ (z1 = 0) → ((0 ≤ v2 ∧ v2 < 40 → (((gi M1 (v0 + 7) (v2).toNat) = (-1) → ((0 ≤ v2 ∧ v2 < 40 → (em_P_has v0 (gi M1 (v0 + 4) (v2).toNat) M1 (fun (z2 : Int) (M2 : rf_M) => (z2 = 0 → (e_P_behind_63 v0 (gi M1 (v0 + 4) (v2).toNat) v3 M2 b4 K)) ∧ (¬ (z2 = 0) → ((0 ≤ (gi M1 (v0 + 4) (v2).toNat) ∧ (gi M1 (v0 + 4) (v2).toNat) < 40 → (((gi M2 (v0 + 1) (gi M1 (v0 + 4) (v2).toNat).toNat) = 12 → (K (gi M1 (v0 + 4) (v2).toNat) M2)) ∧ (¬ (gi M2 (v0 + 1) (gi M1 (v0 + 4) (v2).toNat).toNat) = 12 → (e_P_behind_63 v0 (gi M1 (v0 + 4) (v2).toNat) v3 M2 b4 K))))))))))) ∧ (¬ ((gi M1 (v0 + 7) (v2).toNat) = (-1)) → ((0 ≤ v2 ∧ v2 < 40 → (K (gi M1 (v0 + 7) (v2).toNat) M1)))))))))))
theorem Z_P_behind_4b {w fz : Bool} {S : gS} {B : rf_M} {M : rf_M} {ls : rf_L} {n0 : Nat} {v0 : Nat} {v2 : Int} {v3 : Int} {b4 : Nat → Int → Int → rf_M → Prop} {K : Int → rf_M → Prop} (hS : rl S) (hR : fl 22 (gwH w) B M) (mv0 : v0 ∈ k1) (iv2 : inr v2) (iv3 : inr v3) (a0 : rf_ld ls 0 = some (.ref v0)) (a2 : rf_ld ls 2 = some (zv v2)) (a3 : rf_ld ls 3 = some (zv v3)) (hb4 : ∀ n', n' < n0 → ∀ (v0 : Nat) (v2 : Int) (v3 : Int) (M : rf_M) (ls : rf_L), fl 22 (gwH w) B M → v0 ∈ k1 → inr v2 → inr v3 → rf_ld ls 0 = some (.ref v0) → rf_ld ls 2 = some (zv v2) → rf_ld ls 3 = some (zv v3) → b4 v0 v2 v3 M → lx (cx0 fz) n' 93 4 ls [] (M, S) (vl_i 22 (gwH w) B S K)) (h : e_P_behind_4b v0 v2 v3 M b4 K) : lx (cx0 fz) n0 93 4 ls [] (M, S) (vl_i 22 (gwH w) B S K) := by
  unfold e_P_behind_4b at h
  rcases Nat.eq_zero_or_pos n0 with e0 | hp
  · rw [e0]; exact lx_zero
  refine l1 (n := 1) rfl rfl rfl (li_of a3) ?_
  refine l_bi rfl (by decide) ?_
  refine l_ic rfl iv3 ⟨by decide, by decide⟩ (fun c => ?_) (fun c => ?_)
  · replace h := h.1 c
    exact Z_P_behind_69 hS hR  h
  · replace h := h.2 c
    refine l1 (n := 1) rfl rfl rfl (la_of a0) ?_
    refine l1 (n := 1) rfl rfl rfl (li_of a2) ?_
    refine b_iv (c := v0) (as := [zv v2]) (rest := []) rfl (by decide) (ko_1 hS mv0) rfl rfl (Nat.le_of_ble_eq_true rfl) (fun hq => ?_)
    refine lx_mono (Z_P_has_m hS hR mv0 iv2 h) ?_
    rintro _ _ ⟨z1, M1, rfl, rfl, r1, iz1, h⟩
    refine l_if rfl iz1 (fun c => ?_) (fun c => ?_)
    · replace h := h.1 c
      exact Z_P_behind_69 hS r1  h
    · replace h := h.2 c
      refine l1 (n := 1) rfl rfl rfl (la_of a0) ?_
      refine l_gr rfl (ko_1 hS mv0) rfl (fun _ => rfl) (kf_1_11 r1.2 mv0) ?_
      refine l1 (n := 1) rfl rfl rfl (li_of a2) ?_
      refine b_ia rfl (jgt_1_11 (w := w) (fz := fz) hS mv0).1 (Nat.le_of_ble_eq_true rfl) iv2 (fun q => ?_)
      replace h := h q
      refine l1 (n := 1) rfl rfl rfl rfl ?_
      refine l_ic rfl (inr_gi _ _ _) ⟨by decide, by decide⟩ (fun c => ?_) (fun c => ?_)
      · replace h := h.1 c
        refine l1 (n := 1) rfl rfl rfl (la_of a0) ?_
        refine l_gr rfl (ko_1 hS mv0) rfl (fun _ => rfl) (kf_1_8 r1.2 mv0) ?_
        refine l1 (n := 1) rfl rfl rfl (li_of a2) ?_
        refine b_ia rfl (jgt_1_8 (w := w) (fz := fz) hS mv0).1 (Nat.le_of_ble_eq_true rfl) iv2 (fun q => ?_)
        replace h := h q
        refine l_s1 (n := 1) rfl rfl rfl rfl (fun ls y1 ho => ?_)
        have y2 := ho 0 _ (by decide) (fun q => by cases q.2) a0
        have y3 := ho 3 _ (by decide) (fun q => by cases q.2) a3
        refine l1 (n := 1) rfl rfl rfl (la_of y2) ?_
        refine l1 (n := 1) rfl rfl rfl (li_of y1) ?_
        refine b_iv (c := v0) (as := [zv (gi M1 (v0 + 4) (v2).toNat)]) (rest := []) rfl (by decide) (ko_1 hS mv0) rfl rfl (Nat.le_of_ble_eq_true rfl) (fun hq => ?_)
        refine lx_mono (Z_P_has_m hS r1 mv0 (inr_gi _ _ _) h) ?_
        rintro _ _ ⟨z2, M2, rfl, rfl, r2, iz2, h⟩
        refine l_if rfl iz2 (fun c => ?_) (fun c => ?_)
        · replace h := h.1 c
          exact Z_P_behind_63 hS r2 mv0 (inr_gi _ _ _) iv3 y2 y1 y3 (fun n' hn' => hb4 n' (by omega)) h
        · replace h := h.2 c
          refine l1 (n := 1) rfl rfl rfl (la_of y2) ?_
          refine l_gr rfl (ko_1 hS mv0) rfl (fun _ => rfl) (kf_1_5 r2.2 mv0) ?_
          refine l1 (n := 1) rfl rfl rfl (li_of y1) ?_
          refine b_ia rfl (jgt_1_5 (w := w) (fz := fz) hS mv0).1 (Nat.le_of_ble_eq_true rfl) (inr_gi _ _ _) (fun q => ?_)
          replace h := h q
          refine l_bi rfl (by decide) ?_
          refine l_ic rfl (inr_gi _ _ _) ⟨by decide, by decide⟩ (fun c => ?_) (fun c => ?_)
          · replace h := h.2 c
            exact Z_P_behind_63 hS r2 mv0 (inr_gi _ _ _) iv3 y2 y1 y3 (fun n' hn' => hb4 n' (by omega)) h
          · replace h := h.1 (Classical.not_not.mp c)
            refine l1 (n := 1) rfl rfl rfl (li_of y1) ?_
            exact l_ri rfl rfl (inr_gi _ _ _) r2 h
      · replace h := h.2 c
        refine l1 (n := 1) rfl rfl rfl (la_of a0) ?_
        refine l_gr rfl (ko_1 hS mv0) rfl (fun _ => rfl) (kf_1_11 r1.2 mv0) ?_
        refine l1 (n := 1) rfl rfl rfl (li_of a2) ?_
        refine b_ia rfl (jgt_1_11 (w := w) (fz := fz) hS mv0).1 (Nat.le_of_ble_eq_true rfl) iv2 (fun q => ?_)
        replace h := h q
        exact l_ri rfl rfl (inr_gi _ _ _) r1 h
def e_P_behind_4 (v0 : Nat) (v2 : Int) (v3 : Int) (M : rf_M) (K : Int → rf_M → Prop) : Prop := ∃ Inv : Nat → Int → Int → rf_M → Prop, Inv v0 v2 v3 M ∧ ∀ (v0 : Nat) (v2 : Int) (v3 : Int) (M : rf_M), inr v2 → inr v3 → Inv v0 v2 v3 M → e_P_behind_4b v0 v2 v3 M Inv K
theorem Z_P_behind_4 {w fz : Bool} {S : gS} {B : rf_M} {M : rf_M} {ls : rf_L} {n0 : Nat} {v0 : Nat} {v2 : Int} {v3 : Int} {K : Int → rf_M → Prop} (hS : rl S) (hR : fl 22 (gwH w) B M) (mv0 : v0 ∈ k1) (iv2 : inr v2) (iv3 : inr v3) (a0 : rf_ld ls 0 = some (.ref v0)) (a2 : rf_ld ls 2 = some (zv v2)) (a3 : rf_ld ls 3 = some (zv v3)) (h : e_P_behind_4 v0 v2 v3 M K) : lx (cx0 fz) n0 93 4 ls [] (M, S) (vl_i 22 (gwH w) B S K) := by
  obtain ⟨Inv, hm, hb⟩ := h
  induction n0 using Nat.strongRecOn generalizing ls M v0 v2 v3 with
  | _ n0 ih =>
    refine Z_P_behind_4b hS hR mv0 iv2 iv3 a0 a2 a3 (fun n' hn' v0' v2' v3' M' ls' hR' f0 f1 f2 f3 f4 f5 q2 => ih n' hn' hR' f0 f1 f2 f3 f4 f5 q2) (hb v0 v2 v3 M iv2 iv3 hm)
def e_P_behind (v0 : Nat) (v1 : Int) (M : rf_M) (K : Int → rf_M → Prop) : Prop := e_P_behind_4 v0 v1 0 M K
theorem Z_P_behind {w fz : Bool} {S : gS} {B : rf_M} {M : rf_M} {ls : rf_L} {n0 : Nat} {v0 : Nat} {v1 : Int} {K : Int → rf_M → Prop} (hS : rl S) (hR : fl 22 (gwH w) B M) (mv0 : v0 ∈ k1) (iv1 : inr v1) (a0 : rf_ld ls 0 = some (.ref v0)) (a1 : rf_ld ls 1 = some (zv v1)) (h : e_P_behind v0 v1 M K) : lx (cx0 fz) n0 93 0 ls [] (M, S) (vl_i 22 (gwH w) B S K) := by
  unfold e_P_behind at h
  refine l1 (n := 1) rfl rfl rfl (li_of a1) ?_
  refine l_s1 (n := 1) rfl rfl rfl rfl (fun ls y1 ho => ?_)
  have y2 := ho 0 _ (by decide) (fun q => by cases q.2) a0
  refine l1 (n := 1) rfl rfl rfl rfl ?_
  refine l_s1 (n := 1) rfl rfl rfl rfl (fun ls y3 ho => ?_)
  have y4 := ho 0 _ (by decide) (fun q => by cases q.2) y2
  have y5 := ho 2 _ (by decide) (fun q => by cases q.2) y1
  exact Z_P_behind_4 hS hR mv0 iv1 ⟨by decide, by decide⟩ y4 y5 y3 h
def em_P_behind (x0 : Nat) (x1 : Int) (M : rf_M) (K : Int → rf_M → Prop) : Prop := e_P_behind x0 x1 M K
theorem Z_P_behind_m {w fz : Bool} {S : gS} {B : rf_M} {M : rf_M} {n0 : Nat} {x0 : Nat} {x1 : Int} {K : Int → rf_M → Prop} (hS : rl S) (hR : fl 22 (gwH w) B M) (mx0 : x0 ∈ k1) (ix1 : inr x1) (h : em_P_behind x0 x1 M K) : lx (cx0 fz) n0 93 0 (lv_args 0 [.ref x0, zv x1]) [] (M, S) (vl_i 22 (gwH w) B S K) :=
  Z_P_behind hS hR mx0 ix1 rfl rfl h
def e_P_into_28 (v0 : Nat) (v1 : Int) (M : rf_M) (K : Int → rf_M → Prop) : Prop := em_P_behind v0 v1 M (fun (z1 : Int) (M1 : rf_M) => K z1 M1)
theorem Z_P_into_28 {w fz : Bool} {S : gS} {B : rf_M} {M : rf_M} {ls : rf_L} {n0 : Nat} {v0 : Nat} {v1 : Int} {K : Int → rf_M → Prop} (hS : rl S) (hR : fl 22 (gwH w) B M) (mv0 : v0 ∈ k1) (iv1 : inr v1) (a0 : rf_ld ls 0 = some (.ref v0)) (a1 : rf_ld ls 1 = some (zv v1)) (h : e_P_into_28 v0 v1 M K) : lx (cx0 fz) n0 92 28 ls [] (M, S) (vl_i 22 (gwH w) B S K) := by
  unfold e_P_into_28 at h
  refine l1 (n := 1) rfl rfl rfl (la_of a0) ?_
  refine l1 (n := 1) rfl rfl rfl (li_of a1) ?_
  refine b_iv (c := v0) (as := [zv v1]) (rest := []) rfl (by decide) (ko_1 hS mv0) rfl rfl (Nat.le_of_ble_eq_true rfl) (fun hq => ?_)
  refine lx_mono (Z_P_behind_m hS hR mv0 iv1 h) ?_
  rintro _ _ ⟨z1, M1, rfl, rfl, r1, iz1, h⟩
  exact l_ri rfl rfl iz1 r1 h
def e_P_into (v0 : Nat) (v1 : Int) (v2 : Int) (M : rf_M) (K : Int → rf_M → Prop) : Prop := (v2 = (-1) → (em_P_has v0 v1 M (fun (z1 : Int) (M1 : rf_M) => (z1 = 0 → (e_P_into_28 v0 v1 M1 K)) ∧ (¬ (z1 = 0) → ((0 ≤ v1 ∧ v1 < 40 → (((gi M1 (v0 + 1) (v1).toNat) = 12 → (K v1 M1)) ∧ (¬ (gi M1 (v0 + 1) (v1).toNat) = 12 → (e_P_into_28 v0 v1 M1 K))))))))) ∧ (¬ (v2 = (-1)) → (K v2 M))
theorem Z_P_into {w fz : Bool} {S : gS} {B : rf_M} {M : rf_M} {ls : rf_L} {n0 : Nat} {v0 : Nat} {v1 : Int} {v2 : Int} {K : Int → rf_M → Prop} (hS : rl S) (hR : fl 22 (gwH w) B M) (mv0 : v0 ∈ k1) (iv1 : inr v1) (iv2 : inr v2) (a0 : rf_ld ls 0 = some (.ref v0)) (a1 : rf_ld ls 1 = some (zv v1)) (a2 : rf_ld ls 2 = some (zv v2)) (h : e_P_into v0 v1 v2 M K) : lx (cx0 fz) n0 92 0 ls [] (M, S) (vl_i 22 (gwH w) B S K) := by
  unfold e_P_into at h
  refine l1 (n := 1) rfl rfl rfl (li_of a2) ?_
  refine l1 (n := 1) rfl rfl rfl rfl ?_
  refine l_ic rfl iv2 ⟨by decide, by decide⟩ (fun c => ?_) (fun c => ?_)
  · replace h := h.1 c
    refine l1 (n := 1) rfl rfl rfl (la_of a0) ?_
    refine l1 (n := 1) rfl rfl rfl (li_of a1) ?_
    refine b_iv (c := v0) (as := [zv v1]) (rest := []) rfl (by decide) (ko_1 hS mv0) rfl rfl (Nat.le_of_ble_eq_true rfl) (fun hq => ?_)
    refine lx_mono (Z_P_has_m hS hR mv0 iv1 h) ?_
    rintro _ _ ⟨z1, M1, rfl, rfl, r1, iz1, h⟩
    refine l_if rfl iz1 (fun c => ?_) (fun c => ?_)
    · replace h := h.1 c
      exact Z_P_into_28 hS r1 mv0 iv1 a0 a1 h
    · replace h := h.2 c
      refine l1 (n := 1) rfl rfl rfl (la_of a0) ?_
      refine l_gr rfl (ko_1 hS mv0) rfl (fun _ => rfl) (kf_1_5 r1.2 mv0) ?_
      refine l1 (n := 1) rfl rfl rfl (li_of a1) ?_
      refine b_ia rfl (jgt_1_5 (w := w) (fz := fz) hS mv0).1 (Nat.le_of_ble_eq_true rfl) iv1 (fun q => ?_)
      replace h := h q
      refine l_bi rfl (by decide) ?_
      refine l_ic rfl (inr_gi _ _ _) ⟨by decide, by decide⟩ (fun c => ?_) (fun c => ?_)
      · replace h := h.2 c
        exact Z_P_into_28 hS r1 mv0 iv1 a0 a1 h
      · replace h := h.1 (Classical.not_not.mp c)
        refine l1 (n := 1) rfl rfl rfl (li_of a1) ?_
        exact l_ri rfl rfl iv1 r1 h
  · replace h := h.2 c
    refine l1 (n := 1) rfl rfl rfl (li_of a2) ?_
    exact l_ri rfl rfl iv2 hR h
def em_P_into (x0 : Nat) (x1 : Int) (x2 : Int) (M : rf_M) (K : Int → rf_M → Prop) : Prop := e_P_into x0 x1 x2 M K
theorem Z_P_into_m {w fz : Bool} {S : gS} {B : rf_M} {M : rf_M} {n0 : Nat} {x0 : Nat} {x1 : Int} {x2 : Int} {K : Int → rf_M → Prop} (hS : rl S) (hR : fl 22 (gwH w) B M) (mx0 : x0 ∈ k1) (ix1 : inr x1) (ix2 : inr x2) (h : em_P_into x0 x1 x2 M K) : lx (cx0 fz) n0 92 0 (lv_args 0 [.ref x0, zv x1, zv x2]) [] (M, S) (vl_i 22 (gwH w) B S K) :=
  Z_P_into hS hR mx0 ix1 ix2 rfl rfl rfl h
def e_D_addRule_30 (M : rf_M) (K : rf_M → Prop) : Prop := K M
theorem Z_D_addRule_30 {w fz : Bool} {S : gS} {B : rf_M} {M : rf_M} {ls : rf_L} {n0 : Nat} {K : rf_M → Prop} (hS : rl S) (hR : fl 22 (gwH w) B M) (h : e_D_addRule_30 M K) : lx (cx0 fz) n0 94 30 ls [] (M, S) (vl_v 22 (gwH w) B S K) := by
  unfold e_D_addRule_30 at h
  exact l_rv rfl rfl hR h
def e_D_addRule (v0 : Nat) (v1 : Int) (M : rf_M) (K : rf_M → Prop) : Prop := (300 ≤ (gi M v0 3) → (e_D_addRule_30 M K)) ∧ (¬ (300 ≤ (gi M v0 3)) → ((0 ≤ (gi M v0 3) ∧ (gi M v0 3) < 300 → (∀ M1 : rf_M, M1 = wi M (v0 + 3) (gi M v0 3).toNat v1 → (∀ M2 : rf_M, M2 = wi M1 v0 3 ((gi M1 v0 3) + 1) → (e_D_addRule_30 M2 K))))))
theorem Z_D_addRule {w fz : Bool} {S : gS} {B : rf_M} {M : rf_M} {ls : rf_L} {n0 : Nat} {v0 : Nat} {v1 : Int} {K : rf_M → Prop} (hS : rl S) (hR : fl 22 (gwH w) B M) (mv0 : v0 ∈ gwL8 w) (iv1 : inr v1) (a0 : rf_ld ls 0 = some (.ref v0)) (a1 : rf_ld ls 1 = some (zv v1)) (h : e_D_addRule v0 v1 M K) : lx (cx0 fz) n0 94 0 ls [] (M, S) (vl_v 22 (gwH w) B S K) := by
  unfold e_D_addRule at h
  refine l1 (n := 1) rfl rfl rfl (la_of a0) ?_
  refine l_gi rfl (jgo_8 (w := w) hS mv0) rfl (fun _ => rfl) ?_
  refine l_si rfl (by decide) ?_
  refine l_ic rfl (inr_gi _ _ _) ⟨by decide, by decide⟩ (fun c => ?_) (fun c => ?_)
  · replace h := h.1 c
    exact Z_D_addRule_30 hS hR  h
  · replace h := h.2 c
    refine l1 (n := 1) rfl rfl rfl (la_of a0) ?_
    refine l_gr rfl (jgo_8 (w := w) hS mv0) rfl (fun _ => rfl) (jgf_8_4 (w := w) hR.2 mv0) ?_
    refine l1 (n := 1) rfl rfl rfl (la_of a0) ?_
    refine l_gi rfl (jgo_8 (w := w) hS mv0) rfl (fun _ => rfl) ?_
    refine l1 (n := 1) rfl rfl rfl (li_of a1) ?_
    refine b_is rfl (jgt_8_4 (w := w) (fz := fz) hS mv0).1 (Nat.le_of_ble_eq_true rfl) (inr_gi _ _ _) (fun q M1 e => ?_)
    replace h := h q M1 e
    have r1 := hR.wi (jgt_8_4 (w := w) (fz := fz) hS mv0).1.1 (jgt_8_4 (w := w) (fz := fz) hS mv0).2 e
    refine l1 (n := 1) rfl rfl rfl (la_of a0) ?_
    refine l0 rfl rfl rfl ?_
    refine l_gi rfl (jgo_8 (w := w) hS mv0) rfl (fun _ => rfl) ?_
    refine l1 (n := 1) rfl rfl rfl rfl ?_
    refine l_add rfl ?_
    refine l_pi rfl (jgo_8 (w := w) (fz := fz) hS mv0) rfl (fun _ _ => rfl) (fun M2 e => ?_)
    replace h := h M2 e
    have r2 := r1.wi (jgo_8 (w := w) (fz := fz) hS mv0).1 (jgl_8 (w := w) mv0) e
    exact Z_D_addRule_30 hS r2  h
def em_D_addRule (x0 : Nat) (x1 : Int) (M : rf_M) (K : rf_M → Prop) : Prop := e_D_addRule x0 x1 M K
theorem Z_D_addRule_m {w fz : Bool} {S : gS} {B : rf_M} {M : rf_M} {n0 : Nat} {x0 : Nat} {x1 : Int} {K : rf_M → Prop} (hS : rl S) (hR : fl 22 (gwH w) B M) (mx0 : x0 ∈ gwL8 w) (ix1 : inr x1) (h : em_D_addRule x0 x1 M K) : lx (cx0 fz) n0 94 0 (lv_args 0 [.ref x0, zv x1]) [] (M, S) (vl_v 22 (gwH w) B S K) :=
  Z_D_addRule hS hR mx0 ix1 rfl rfl h
def e_P_around_60 (v0 : Nat) (v2 : Int) (v4 : Int) (v5 : Int) (M : rf_M) (b5 : Nat → Int → Int → Int → rf_M → Prop) (K : Int → rf_M → Prop) : Prop := inr (v4 + 1) ∧ (b5 v0 v2 v5 (v4 + 1) M)
theorem Z_P_around_60 {w fz : Bool} {S : gS} {B : rf_M} {M : rf_M} {ls : rf_L} {n0 : Nat} {v0 : Nat} {v2 : Int} {v4 : Int} {v5 : Int} {b5 : Nat → Int → Int → Int → rf_M → Prop} {K : Int → rf_M → Prop} (hS : rl S) (hR : fl 22 (gwH w) B M) (mv0 : v0 ∈ k1) (iv2 : inr v2) (iv4 : inr v4) (iv5 : inr v5) (a0 : rf_ld ls 0 = some (.ref v0)) (a2 : rf_ld ls 2 = some (zv v2)) (a4 : rf_ld ls 4 = some (zv v4)) (a5 : rf_ld ls 5 = some (zv v5)) (hb5 : ∀ n', n' < n0 → ∀ (v0 : Nat) (v2 : Int) (v3 : Int) (v4 : Int) (M : rf_M) (ls : rf_L), fl 22 (gwH w) B M → v0 ∈ k1 → inr v2 → inr v3 → inr v4 → rf_ld ls 0 = some (.ref v0) → rf_ld ls 2 = some (zv v2) → rf_ld ls 3 = some (zv v3) → rf_ld ls 4 = some (zv v4) → b5 v0 v2 v3 v4 M → lx (cx0 fz) n' 96 5 ls [] (M, S) (vl_i 22 (gwH w) B S K)) (h : e_P_around_60 v0 v2 v4 v5 M b5 K) : lx (cx0 fz) n0 96 60 ls [] (M, S) (vl_i 22 (gwH w) B S K) := by
  unfold e_P_around_60 at h
  rcases Nat.eq_zero_or_pos n0 with e0 | hp
  · rw [e0]; exact lx_zero
  refine l1 (n := 2) rfl rfl rfl (li_of a5) ?_
  refine l_s1 (n := 1) rfl rfl rfl rfl (fun ls y1 ho => ?_)
  have y2 := ho 0 _ (by decide) (fun q => by cases q.2) a0
  have y3 := ho 2 _ (by decide) (fun q => by cases q.2) a2
  have y4 := ho 4 _ (by decide) (fun q => by cases q.2) a4
  refine l_ii rfl y4 (Nat.le_of_ble_eq_true rfl) (fun ls y5 ho => ?_)
  have y6 := ho 0 _ (by decide) (fun q => by cases q.2) y2
  have y7 := ho 2 _ (by decide) (fun q => by cases q.2) y3
  have y8 := ho 3 _ (by decide) (fun q => by cases q.2) y1
  refine l3 rfl rfl rfl ?_
  obtain ⟨i1, h⟩ := h
  exact hb5 _ (by omega) _ _ _ _ _ _ hR mv0 iv2 iv5 i1 y6 y7 y8 y5 h
def e_P_around_69 (M : rf_M) (K : Int → rf_M → Prop) : Prop := K (-1) M
theorem Z_P_around_69 {w fz : Bool} {S : gS} {B : rf_M} {M : rf_M} {ls : rf_L} {n0 : Nat} {K : Int → rf_M → Prop} (hS : rl S) (hR : fl 22 (gwH w) B M) (h : e_P_around_69 M K) : lx (cx0 fz) n0 96 69 ls [] (M, S) (vl_i 22 (gwH w) B S K) := by
  unfold e_P_around_69 at h
  refine l1 (n := 1) rfl rfl rfl rfl ?_
  exact l_ri rfl rfl ⟨by decide, by decide⟩ hR h
def e_P_around_5b (v0 : Nat) (v2 : Int) (v3 : Int) (v4 : Int) (M : rf_M) (b5 : Nat → Int → Int → Int → rf_M → Prop) (K : Int → rf_M → Prop) : Prop := (8 < v4 → (e_P_around_69 M K)) ∧ (¬ (8 < v4) → (em_P_has v0 v3 M (fun (z1 : Int) (M1 : rf_M) => (z1 = 0 → (e_P_around_69 M1 K)) ∧ (¬ (z1 = 0) → ((0 ≤ v3 ∧ v3 < 40 → (em_P_has v0 (gi M1 (v0 + 4) (v3).toNat) M1 (fun (z2 : Int) (M2 : rf_M) => (z2 = 0 → (e_P_around_60 v0 v2 v4 (gi M1 (v0 + 4) (v3).toNat) M2 b5 K)) ∧ (¬ (z2 = 0) → ((0 ≤ v3 ∧ v3 < 40 → (((gi M2 (v0 + 5) (v3).toNat) = 0 → ((0 ≤ (gi M1 (v0 + 4) (v3).toNat) ∧ (gi M1 (v0 + 4) (v3).toNat) < 40 → (((gi M2 (v0 + 1) (gi M1 (v0 + 4) (v3).toNat).toNat) = v2 → (K (gi M1 (v0 + 4) (v3).toNat) M2)) ∧ (¬ (gi M2 (v0 + 1) (gi M1 (v0 + 4) (v3).toNat).toNat) = v2 → (e_P_around_60 v0 v2 v4 (gi M1 (v0 + 4) (v3).toNat) M2 b5 K)))))) ∧ (¬ (gi M2 (v0 + 5) (v3).toNat) = 0 → (e_P_around_60 v0 v2 v4 (gi M1 (v0 + 4) (v3).toNat) M2 b5 K))))))))))))))
theorem Z_P_around_5b {w fz : Bool} {S : gS} {B : rf_M} {M : rf_M} {ls : rf_L} {n0 : Nat} {v0 : Nat} {v2 : Int} {v3 : Int} {v4 : Int} {b5 : Nat → Int → Int → Int → rf_M → Prop} {K : Int → rf_M → Prop} (hS : rl S) (hR : fl 22 (gwH w) B M) (mv0 : v0 ∈ k1) (iv2 : inr v2) (iv3 : inr v3) (iv4 : inr v4) (a0 : rf_ld ls 0 = some (.ref v0)) (a2 : rf_ld ls 2 = some (zv v2)) (a3 : rf_ld ls 3 = some (zv v3)) (a4 : rf_ld ls 4 = some (zv v4)) (hb5 : ∀ n', n' < n0 → ∀ (v0 : Nat) (v2 : Int) (v3 : Int) (v4 : Int) (M : rf_M) (ls : rf_L), fl 22 (gwH w) B M → v0 ∈ k1 → inr v2 → inr v3 → inr v4 → rf_ld ls 0 = some (.ref v0) → rf_ld ls 2 = some (zv v2) → rf_ld ls 3 = some (zv v3) → rf_ld ls 4 = some (zv v4) → b5 v0 v2 v3 v4 M → lx (cx0 fz) n' 96 5 ls [] (M, S) (vl_i 22 (gwH w) B S K)) (h : e_P_around_5b v0 v2 v3 v4 M b5 K) : lx (cx0 fz) n0 96 5 ls [] (M, S) (vl_i 22 (gwH w) B S K) := by
  unfold e_P_around_5b at h
  rcases Nat.eq_zero_or_pos n0 with e0 | hp
  · rw [e0]; exact lx_zero
  refine l1 (n := 2) rfl rfl rfl (li_of a4) ?_
  refine l_bi rfl (by decide) ?_
  refine l_ic rfl iv4 ⟨by decide, by decide⟩ (fun c => ?_) (fun c => ?_)
  · replace h := h.1 c
    exact Z_P_around_69 hS hR  h
  · replace h := h.2 c
    refine l1 (n := 1) rfl rfl rfl (la_of a0) ?_
    refine l1 (n := 1) rfl rfl rfl (li_of a3) ?_
    refine b_iv (c := v0) (as := [zv v3]) (rest := []) rfl (by decide) (ko_1 hS mv0) rfl rfl (Nat.le_of_ble_eq_true rfl) (fun hq => ?_)
    refine lx_mono (Z_P_has_m hS hR mv0 iv3 h) ?_
    rintro _ _ ⟨z1, M1, rfl, rfl, r1, iz1, h⟩
    refine l_if rfl iz1 (fun c => ?_) (fun c => ?_)
    · replace h := h.1 c
      exact Z_P_around_69 hS r1  h
    · replace h := h.2 c
      refine l1 (n := 1) rfl rfl rfl (la_of a0) ?_
      refine l_gr rfl (ko_1 hS mv0) rfl (fun _ => rfl) (kf_1_8 r1.2 mv0) ?_
      refine l1 (n := 1) rfl rfl rfl (li_of a3) ?_
      refine b_ia rfl (jgt_1_8 (w := w) (fz := fz) hS mv0).1 (Nat.le_of_ble_eq_true rfl) iv3 (fun q => ?_)
      replace h := h q
      refine l_s1 (n := 2) rfl rfl rfl rfl (fun ls y1 ho => ?_)
      have y2 := ho 0 _ (by decide) (fun q => by cases q.2) a0
      have y3 := ho 2 _ (by decide) (fun q => by cases q.2) a2
      have y4 := ho 3 _ (by decide) (fun q => by cases q.2) a3
      have y5 := ho 4 _ (by decide) (fun q => by cases q.2) a4
      refine l1 (n := 1) rfl rfl rfl (la_of y2) ?_
      refine l1 (n := 2) rfl rfl rfl (li_of y1) ?_
      refine b_iv (c := v0) (as := [zv (gi M1 (v0 + 4) (v3).toNat)]) (rest := []) rfl (by decide) (ko_1 hS mv0) rfl rfl (Nat.le_of_ble_eq_true rfl) (fun hq => ?_)
      refine lx_mono (Z_P_has_m hS r1 mv0 (inr_gi _ _ _) h) ?_
      rintro _ _ ⟨z2, M2, rfl, rfl, r2, iz2, h⟩
      refine l_if rfl iz2 (fun c => ?_) (fun c => ?_)
      · replace h := h.1 c
        exact Z_P_around_60 hS r2 mv0 iv2 iv4 (inr_gi _ _ _) y2 y3 y5 y1 (fun n' hn' => hb5 n' (by omega)) h
      · replace h := h.2 c
        refine l1 (n := 1) rfl rfl rfl (la_of y2) ?_
        refine l_gr rfl (ko_1 hS mv0) rfl (fun _ => rfl) (kf_1_9 r2.2 mv0) ?_
        refine l1 (n := 1) rfl rfl rfl (li_of y4) ?_
        refine b_ia rfl (jgt_1_9 (w := w) (fz := fz) hS mv0).1 (Nat.le_of_ble_eq_true rfl) iv3 (fun q => ?_)
        replace h := h q
        refine l_if rfl (inr_gi _ _ _) (fun c => ?_) (fun c => ?_)
        · replace h := h.2 c
          exact Z_P_around_60 hS r2 mv0 iv2 iv4 (inr_gi _ _ _) y2 y3 y5 y1 (fun n' hn' => hb5 n' (by omega)) h
        · replace h := h.1 (Classical.not_not.mp c)
          refine l1 (n := 1) rfl rfl rfl (la_of y2) ?_
          refine l_gr rfl (ko_1 hS mv0) rfl (fun _ => rfl) (kf_1_5 r2.2 mv0) ?_
          refine l1 (n := 2) rfl rfl rfl (li_of y1) ?_
          refine b_ia rfl (jgt_1_5 (w := w) (fz := fz) hS mv0).1 (Nat.le_of_ble_eq_true rfl) (inr_gi _ _ _) (fun q => ?_)
          replace h := h q
          refine l1 (n := 1) rfl rfl rfl (li_of y3) ?_
          refine l_ic rfl (inr_gi _ _ _) iv2 (fun c => ?_) (fun c => ?_)
          · replace h := h.2 c
            exact Z_P_around_60 hS r2 mv0 iv2 iv4 (inr_gi _ _ _) y2 y3 y5 y1 (fun n' hn' => hb5 n' (by omega)) h
          · replace h := h.1 (Classical.not_not.mp c)
            refine l1 (n := 2) rfl rfl rfl (li_of y1) ?_
            exact l_ri rfl rfl (inr_gi _ _ _) r2 h
def e_P_around_5 (v0 : Nat) (v2 : Int) (v3 : Int) (v4 : Int) (M : rf_M) (K : Int → rf_M → Prop) : Prop := ∃ Inv : Nat → Int → Int → Int → rf_M → Prop, Inv v0 v2 v3 v4 M ∧ ∀ (v0 : Nat) (v2 : Int) (v3 : Int) (v4 : Int) (M : rf_M), inr v2 → inr v3 → inr v4 → Inv v0 v2 v3 v4 M → e_P_around_5b v0 v2 v3 v4 M Inv K
theorem Z_P_around_5 {w fz : Bool} {S : gS} {B : rf_M} {M : rf_M} {ls : rf_L} {n0 : Nat} {v0 : Nat} {v2 : Int} {v3 : Int} {v4 : Int} {K : Int → rf_M → Prop} (hS : rl S) (hR : fl 22 (gwH w) B M) (mv0 : v0 ∈ k1) (iv2 : inr v2) (iv3 : inr v3) (iv4 : inr v4) (a0 : rf_ld ls 0 = some (.ref v0)) (a2 : rf_ld ls 2 = some (zv v2)) (a3 : rf_ld ls 3 = some (zv v3)) (a4 : rf_ld ls 4 = some (zv v4)) (h : e_P_around_5 v0 v2 v3 v4 M K) : lx (cx0 fz) n0 96 5 ls [] (M, S) (vl_i 22 (gwH w) B S K) := by
  obtain ⟨Inv, hm, hb⟩ := h
  induction n0 using Nat.strongRecOn generalizing ls M v0 v2 v3 v4 with
  | _ n0 ih =>
    refine Z_P_around_5b hS hR mv0 iv2 iv3 iv4 a0 a2 a3 a4 (fun n' hn' v0' v2' v3' v4' M' ls' hR' f0 f1 f2 f3 f4 f5 f6 f7 q2 => ih n' hn' hR' f0 f1 f2 f3 f4 f5 f6 f7 q2) (hb v0 v2 v3 v4 M iv2 iv3 iv4 hm)
def e_P_around (v0 : Nat) (v1 : Int) (v2 : Int) (M : rf_M) (K : Int → rf_M → Prop) : Prop := e_P_around_5 v0 v2 v1 0 M K
theorem Z_P_around {w fz : Bool} {S : gS} {B : rf_M} {M : rf_M} {ls : rf_L} {n0 : Nat} {v0 : Nat} {v1 : Int} {v2 : Int} {K : Int → rf_M → Prop} (hS : rl S) (hR : fl 22 (gwH w) B M) (mv0 : v0 ∈ k1) (iv1 : inr v1) (iv2 : inr v2) (a0 : rf_ld ls 0 = some (.ref v0)) (a1 : rf_ld ls 1 = some (zv v1)) (a2 : rf_ld ls 2 = some (zv v2)) (h : e_P_around v0 v1 v2 M K) : lx (cx0 fz) n0 96 0 ls [] (M, S) (vl_i 22 (gwH w) B S K) := by
  unfold e_P_around at h
  refine l1 (n := 1) rfl rfl rfl (li_of a1) ?_
  refine l_s1 (n := 1) rfl rfl rfl rfl (fun ls y1 ho => ?_)
  have y2 := ho 0 _ (by decide) (fun q => by cases q.2) a0
  have y3 := ho 2 _ (by decide) (fun q => by cases q.2) a2
  refine l1 (n := 1) rfl rfl rfl rfl ?_
  refine l_s1 (n := 2) rfl rfl rfl rfl (fun ls y4 ho => ?_)
  have y5 := ho 0 _ (by decide) (fun q => by cases q.2) y2
  have y6 := ho 2 _ (by decide) (fun q => by cases q.2) y3
  have y7 := ho 3 _ (by decide) (fun q => by cases q.2) y1
  exact Z_P_around_5 hS hR mv0 iv2 iv1 ⟨by decide, by decide⟩ y5 y6 y7 y4 h
def em_P_around (x0 : Nat) (x1 : Int) (x2 : Int) (M : rf_M) (K : Int → rf_M → Prop) : Prop := e_P_around x0 x1 x2 M K
theorem Z_P_around_m {w fz : Bool} {S : gS} {B : rf_M} {M : rf_M} {n0 : Nat} {x0 : Nat} {x1 : Int} {x2 : Int} {K : Int → rf_M → Prop} (hS : rl S) (hR : fl 22 (gwH w) B M) (mx0 : x0 ∈ k1) (ix1 : inr x1) (ix2 : inr x2) (h : em_P_around x0 x1 x2 M K) : lx (cx0 fz) n0 96 0 (lv_args 0 [.ref x0, zv x1, zv x2]) [] (M, S) (vl_i 22 (gwH w) B S K) :=
  Z_P_around hS hR mx0 ix1 ix2 rfl rfl rfl h
def e_D_takeBack_10 (M : rf_M) (K : rf_M → Prop) : Prop := K M
theorem Z_D_takeBack_10 {w fz : Bool} {S : gS} {B : rf_M} {M : rf_M} {ls : rf_L} {n0 : Nat} {K : rf_M → Prop} (hS : rl S) (hR : fl 22 (gwH w) B M) (h : e_D_takeBack_10 M K) : lx (cx0 fz) n0 97 10 ls [] (M, S) (vl_v 22 (gwH w) B S K) := by
  unfold e_D_takeBack_10 at h
  exact l_rv rfl rfl hR h
def e_D_takeBack (v0 : Nat) (v1 : Int) (M : rf_M) (K : rf_M → Prop) : Prop := (v1 < 0 → (e_D_takeBack_10 M K)) ∧ (¬ (v1 < 0) → ((v1 < 8 → ((0 ≤ v1 ∧ v1 < 8 → (∀ M1 : rf_M, M1 = wi M v0 0 (gi M (v0 + 4) (v1).toNat) → ((0 ≤ v1 ∧ v1 < 8 → (∀ M2 : rf_M, M2 = wi M1 v0 3 (gi M1 (v0 + 7) (v1).toNat) → (inr (v1 * 16) ∧ (((0 ≤ (v1 * 16) ∧ 0 ≤ (0 : Int) ∧ 0 ≤ (16 : Int)) ∧ (v1 * 16) + (16 : Int) ≤ 128 ∧ (0 : Int) + (16 : Int) ≤ 16 → (∀ M3 : rf_M, M3 = cpl M2 (v0 + 5) (v1 * 16).toNat (v0 + 1) 0 16 → (inr (v1 * 10) ∧ (((0 ≤ (v1 * 10) ∧ 0 ≤ (0 : Int) ∧ 0 ≤ (10 : Int)) ∧ (v1 * 10) + (10 : Int) ≤ 80 ∧ (0 : Int) + (10 : Int) ≤ 10 → (∀ M4 : rf_M, M4 = cpl M3 (v0 + 6) (v1 * 10).toNat (v0 + 2) 0 10 → (K M4)))))))))))))))) ∧ (¬ (v1 < 8) → (e_D_takeBack_10 M K))))
theorem Z_D_takeBack {w fz : Bool} {S : gS} {B : rf_M} {M : rf_M} {ls : rf_L} {n0 : Nat} {v0 : Nat} {v1 : Int} {K : rf_M → Prop} (hS : rl S) (hR : fl 22 (gwH w) B M) (mv0 : v0 ∈ gwL8 w) (iv1 : inr v1) (a0 : rf_ld ls 0 = some (.ref v0)) (a1 : rf_ld ls 1 = some (zv v1)) (h : e_D_takeBack v0 v1 M K) : lx (cx0 fz) n0 97 0 ls [] (M, S) (vl_v 22 (gwH w) B S K) := by
  unfold e_D_takeBack at h
  refine l1 (n := 1) rfl rfl rfl (li_of a1) ?_
  refine l_if rfl iv1 (fun c => ?_) (fun c => ?_)
  · replace h := h.1 c
    exact Z_D_takeBack_10 hS hR  h
  · replace h := h.2 c
    refine l1 (n := 1) rfl rfl rfl (li_of a1) ?_
    refine l_bi rfl (by decide) ?_
    refine l_ic rfl iv1 ⟨by decide, by decide⟩ (fun c => ?_) (fun c => ?_)
    · replace h := h.1 c
      refine l1 (n := 1) rfl rfl rfl (la_of a0) ?_
      refine l1 (n := 1) rfl rfl rfl (la_of a0) ?_
      refine l_gr rfl (jgo_8 (w := w) hS mv0) rfl (fun _ => rfl) (jgf_8_5 (w := w) hR.2 mv0) ?_
      refine l1 (n := 1) rfl rfl rfl (li_of a1) ?_
      refine b_ia rfl (jgt_8_5 (w := w) (fz := fz) hS mv0).1 (Nat.le_of_ble_eq_true rfl) iv1 (fun q => ?_)
      replace h := h q
      refine l_pi rfl (jgo_8 (w := w) (fz := fz) hS mv0) rfl (fun _ _ => rfl) (fun M1 e => ?_)
      replace h := h M1 e
      have r1 := hR.wi (jgo_8 (w := w) (fz := fz) hS mv0).1 (jgl_8 (w := w) mv0) e
      refine l1 (n := 1) rfl rfl rfl (la_of a0) ?_
      refine l1 (n := 1) rfl rfl rfl (la_of a0) ?_
      refine l_gr rfl (jgo_8 (w := w) hS mv0) rfl (fun _ => rfl) (jgf_8_8 (w := w) r1.2 mv0) ?_
      refine l1 (n := 1) rfl rfl rfl (li_of a1) ?_
      refine b_ia rfl (jgt_8_8 (w := w) (fz := fz) hS mv0).1 (Nat.le_of_ble_eq_true rfl) iv1 (fun q => ?_)
      replace h := h q
      refine l_pi rfl (jgo_8 (w := w) (fz := fz) hS mv0) rfl (fun _ _ => rfl) (fun M2 e => ?_)
      replace h := h M2 e
      have r2 := r1.wi (jgo_8 (w := w) (fz := fz) hS mv0).1 (jgl_8 (w := w) mv0) e
      refine l1 (n := 1) rfl rfl rfl (la_of a0) ?_
      refine l_gr rfl (jgo_8 (w := w) hS mv0) rfl (fun _ => rfl) (jgf_8_6 (w := w) r2.2 mv0) ?_
      refine l1 (n := 1) rfl rfl rfl (li_of a1) ?_
      refine l_bi rfl (by decide) ?_
      refine l_mul rfl ?_
      refine l1 (n := 1) rfl rfl rfl (la_of a0) ?_
      refine l_gr rfl (jgo_8 (w := w) hS mv0) rfl (fun _ => rfl) (jgf_8_1 (w := w) r2.2 mv0) ?_
      refine l1 (n := 1) rfl rfl rfl rfl ?_
      refine l_bi rfl (by decide) ?_
      obtain ⟨i1, h⟩ := h
      refine b_cpl rfl rfl (jgt_8_6 (w := w) (fz := fz) hS mv0).1 (jgt_8_1 (w := w) (fz := fz) hS mv0).1 i1 ⟨by decide, by decide⟩ ⟨by decide, by decide⟩ (fun q M3 e => ?_)
      replace h := h q M3 e
      have r3 := r2.cpl (jgt_8_1 (w := w) (fz := fz) hS mv0).1.1 (jgt_8_1 (w := w) (fz := fz) hS mv0).2 e
      refine l1 (n := 1) rfl rfl rfl (la_of a0) ?_
      refine l_gr rfl (jgo_8 (w := w) hS mv0) rfl (fun _ => rfl) (jgf_8_7 (w := w) r3.2 mv0) ?_
      refine l1 (n := 1) rfl rfl rfl (li_of a1) ?_
      refine l_bi rfl (by decide) ?_
      refine l_mul rfl ?_
      refine l1 (n := 1) rfl rfl rfl (la_of a0) ?_
      refine l_gr rfl (jgo_8 (w := w) hS mv0) rfl (fun _ => rfl) (jgf_8_2 (w := w) r3.2 mv0) ?_
      refine l1 (n := 1) rfl rfl rfl rfl ?_
      refine l_bi rfl (by decide) ?_
      obtain ⟨i2, h⟩ := h
      refine b_cpl rfl rfl (jgt_8_7 (w := w) (fz := fz) hS mv0).1 (jgt_8_2 (w := w) (fz := fz) hS mv0).1 i2 ⟨by decide, by decide⟩ ⟨by decide, by decide⟩ (fun q M4 e => ?_)
      replace h := h q M4 e
      have r4 := r3.cpl (jgt_8_2 (w := w) (fz := fz) hS mv0).1.1 (jgt_8_2 (w := w) (fz := fz) hS mv0).2 e
      exact l_rv rfl rfl r4 h
    · replace h := h.2 c
      exact Z_D_takeBack_10 hS hR  h
def em_D_takeBack (x0 : Nat) (x1 : Int) (M : rf_M) (K : rf_M → Prop) : Prop := e_D_takeBack x0 x1 M K
theorem Z_D_takeBack_m {w fz : Bool} {S : gS} {B : rf_M} {M : rf_M} {n0 : Nat} {x0 : Nat} {x1 : Int} {K : rf_M → Prop} (hS : rl S) (hR : fl 22 (gwH w) B M) (mx0 : x0 ∈ gwL8 w) (ix1 : inr x1) (h : em_D_takeBack x0 x1 M K) : lx (cx0 fz) n0 97 0 (lv_args 0 [.ref x0, zv x1]) [] (M, S) (vl_v 22 (gwH w) B S K) :=
  Z_D_takeBack hS hR mx0 ix1 rfl rfl h
def e_R_retry (v0 : Nat) (M : rf_M) (K : Int → rf_M → Prop) : Prop := isP M v0 0 ∧ (em_P_around (gr M v0 0) (gi M v0 6) 15 M (fun (z1 : Int) (M1 : rf_M) => (z1 = (-1) → (K 4 M1)) ∧ (¬ z1 = (-1) → (isP M1 v0 0 ∧ ((0 ≤ z1 ∧ z1 < 40 → (em_D_takeBack (v0 + 2) (gi M1 ((gr M1 v0 0) + 6) (z1).toNat) M1 (fun (M2 : rf_M) => isP M2 v0 0 ∧ (isP M2 v0 0 ∧ ((0 ≤ z1 ∧ z1 < 40 → (em_P_into (gr M2 v0 0) z1 (gi M2 ((gr M2 v0 0) + 9) (z1).toNat) M2 (fun (z3 : Int) (M3 : rf_M) => ∀ M4 : rf_M, M4 = wi M3 v0 6 z3 → (K 0 M4))))))))))))))
theorem Z_R_retry {w fz : Bool} {S : gS} {B : rf_M} {M : rf_M} {ls : rf_L} {n0 : Nat} {v0 : Nat} {K : Int → rf_M → Prop} (hS : rl S) (hR : fl 22 (gwH w) B M) (mv0 : v0 ∈ gwL7 w) (a0 : rf_ld ls 0 = some (.ref v0)) (h : e_R_retry v0 M K) : lx (cx0 fz) n0 95 0 ls [] (M, S) (vl_i 22 (gwH w) B S K) := by
  unfold e_R_retry at h
  refine l1 (n := 1) rfl rfl rfl (la_of a0) ?_
  obtain ⟨q1, h⟩ := h
  refine l_gr rfl (jgo_7 (w := w) hS mv0) rfl (fun _ => rfl) q1.1 ?_
  refine l1 (n := 1) rfl rfl rfl (la_of a0) ?_
  refine l_gi rfl (jgo_7 (w := w) hS mv0) rfl (fun _ => rfl) ?_
  refine l_bi rfl (by decide) ?_
  refine b_iv (c := (gr M v0 0)) (as := [zv (gi M v0 6), zv 15]) (rest := []) rfl (by decide) (ko_1 hS q1.2) rfl rfl (Nat.le_of_ble_eq_true rfl) (fun hq => ?_)
  refine lx_mono (Z_P_around_m hS hR q1.2 (inr_gi _ _ _) ⟨by decide, by decide⟩ h) ?_
  rintro _ _ ⟨z1, M1, rfl, rfl, r1, iz1, h⟩
  refine l_s1 (n := 1) rfl rfl rfl rfl (fun ls y1 ho => ?_)
  have y2 := ho 0 _ (by decide) (fun q => by cases q.2) a0
  refine l1 (n := 1) rfl rfl rfl (li_of y1) ?_
  refine l1 (n := 1) rfl rfl rfl rfl ?_
  refine l_ic rfl iz1 ⟨by decide, by decide⟩ (fun c => ?_) (fun c => ?_)
  · replace h := h.2 c
    refine l1 (n := 1) rfl rfl rfl (la_of y2) ?_
    refine l_gr rfl (jgo_7 (w := w) hS mv0) rfl (fun _ => rfl) (jgf_7_5 (w := w) r1.2 mv0) ?_
    refine l1 (n := 1) rfl rfl rfl (la_of y2) ?_
    obtain ⟨q2, h⟩ := h
    refine l_gr rfl (jgo_7 (w := w) hS mv0) rfl (fun _ => rfl) q2.1 ?_
    refine l_gr rfl (ko_1 hS q2.2) rfl (fun _ => rfl) (kf_1_10 r1.2 q2.2) ?_
    refine l1 (n := 1) rfl rfl rfl (li_of y1) ?_
    refine b_ia rfl (jgt_1_10 (w := w) (fz := fz) hS q2.2).1 (Nat.le_of_ble_eq_true rfl) iz1 (fun q => ?_)
    replace h := h q
    refine b_iv (c := (v0 + 2)) (as := [zv (gi M1 ((gr M1 v0 0) + 6) (z1).toNat)]) (rest := []) rfl (by decide) (jgo_8 (w := w) hS (jgt_7_5 (w := w) mv0)) rfl rfl (Nat.le_of_ble_eq_true rfl) (fun hq => ?_)
    refine lx_mono (Z_D_takeBack_m hS r1 (jgt_7_5 (w := w) mv0) (inr_gi _ _ _) h) ?_
    rintro _ _ ⟨M2, rfl, rfl, r2, h⟩
    refine l1 (n := 1) rfl rfl rfl (la_of y2) ?_
    refine l1 (n := 1) rfl rfl rfl (la_of y2) ?_
    obtain ⟨q3, h⟩ := h
    refine l_gr rfl (jgo_7 (w := w) hS mv0) rfl (fun _ => rfl) q3.1 ?_
    refine l1 (n := 1) rfl rfl rfl (li_of y1) ?_
    refine l1 (n := 1) rfl rfl rfl (la_of y2) ?_
    obtain ⟨q4, h⟩ := h
    refine l_gr rfl (jgo_7 (w := w) hS mv0) rfl (fun _ => rfl) q4.1 ?_
    refine l_gr rfl (ko_1 hS q4.2) rfl (fun _ => rfl) (kf_1_13 r2.2 q4.2) ?_
    refine l1 (n := 1) rfl rfl rfl (li_of y1) ?_
    refine b_ia rfl (jgt_1_13 (w := w) (fz := fz) hS q4.2).1 (Nat.le_of_ble_eq_true rfl) iz1 (fun q => ?_)
    replace h := h q
    refine b_iv (c := (gr M2 v0 0)) (as := [zv z1, zv (gi M2 ((gr M2 v0 0) + 9) (z1).toNat)]) (rest := [.ref v0]) rfl (by decide) (ko_1 hS q3.2) rfl rfl (Nat.le_of_ble_eq_true rfl) (fun hq => ?_)
    refine lx_mono (Z_P_into_m hS r2 q3.2 iz1 (inr_gi _ _ _) h) ?_
    rintro _ _ ⟨z3, M3, rfl, rfl, r3, iz3, h⟩
    refine l_pi rfl (jgo_7 (w := w) (fz := fz) hS mv0) rfl (fun _ _ => rfl) (fun M4 e => ?_)
    replace h := h M4 e
    have r4 := r3.wi (jgo_7 (w := w) (fz := fz) hS mv0).1 (jgl_7 (w := w) mv0) e
    refine l1 (n := 1) rfl rfl rfl rfl ?_
    exact l_ri rfl rfl ⟨by decide, by decide⟩ r4 h
  · replace h := h.1 (Classical.not_not.mp c)
    refine l1 (n := 1) rfl rfl rfl rfl ?_
    exact l_ri rfl rfl ⟨by decide, by decide⟩ r1 h
def em_R_retry (x0 : Nat) (M : rf_M) (K : Int → rf_M → Prop) : Prop := e_R_retry x0 M K
theorem Z_R_retry_m {w fz : Bool} {S : gS} {B : rf_M} {M : rf_M} {n0 : Nat} {x0 : Nat} {K : Int → rf_M → Prop} (hS : rl S) (hR : fl 22 (gwH w) B M) (mx0 : x0 ∈ gwL7 w) (h : em_R_retry x0 M K) : lx (cx0 fz) n0 95 0 (lv_args 0 [.ref x0]) [] (M, S) (vl_i 22 (gwH w) B S K) :=
  Z_R_retry hS hR mx0 rfl h
def e_D_hasWritten_16 (s0 : Int) (M : rf_M) (K : Int → rf_M → Prop) : Prop := (s0 = 0 ∨ s0 = 1) ∧ K s0 M
theorem Z_D_hasWritten_16 {w fz : Bool} {S : gS} {B : rf_M} {M : rf_M} {ls : rf_L} {n0 : Nat} {s0 : Int} {K : Int → rf_M → Prop} (hS : rl S) (hR : fl 22 (gwH w) B M) (is0 : inr s0) (h : e_D_hasWritten_16 s0 M K) : lx (cx0 fz) n0 68 16 ls [zv s0] (M, S) (vl_i 22 (gwH w) B S K) := by
  unfold e_D_hasWritten_16 at h
  exact l_rb rfl rfl h.1 hR h.2
def e_D_hasWritten (v0 : Nat) (v1 : Int) (M : rf_M) (K : Int → rf_M → Prop) : Prop := ((Int32.ofInt ((Int32.ofInt (gi M v0 0)).toUInt32 >>> ((Int32.ofInt v1).toUInt32 &&& Int32.toUInt32 31)).toInt32.toInt &&& Int32.ofInt 1).toInt = 0 → (e_D_hasWritten_16 0 M K)) ∧ (¬ ((Int32.ofInt ((Int32.ofInt (gi M v0 0)).toUInt32 >>> ((Int32.ofInt v1).toUInt32 &&& Int32.toUInt32 31)).toInt32.toInt &&& Int32.ofInt 1).toInt = 0) → (e_D_hasWritten_16 1 M K))
theorem Z_D_hasWritten {w fz : Bool} {S : gS} {B : rf_M} {M : rf_M} {ls : rf_L} {n0 : Nat} {v0 : Nat} {v1 : Int} {K : Int → rf_M → Prop} (hS : rl S) (hR : fl 22 (gwH w) B M) (mv0 : v0 ∈ gwL8 w) (iv1 : inr v1) (a0 : rf_ld ls 0 = some (.ref v0)) (a1 : rf_ld ls 1 = some (zv v1)) (h : e_D_hasWritten v0 v1 M K) : lx (cx0 fz) n0 68 0 ls [] (M, S) (vl_i 22 (gwH w) B S K) := by
  unfold e_D_hasWritten at h
  refine l1 (n := 1) rfl rfl rfl (la_of a0) ?_
  refine l_gi rfl (jgo_8 (w := w) hS mv0) rfl (fun _ => rfl) ?_
  refine l1 (n := 1) rfl rfl rfl (li_of a1) ?_
  refine l_op (T := ((Int32.ofInt (gi M v0 0)).toUInt32 >>> ((Int32.ofInt v1).toUInt32 &&& Int32.toUInt32 31)).toInt32) rfl rfl rfl ?_
  refine l1 (n := 1) rfl rfl rfl rfl ?_
  refine l_op (T := (Int32.ofInt ((Int32.ofInt (gi M v0 0)).toUInt32 >>> ((Int32.ofInt v1).toUInt32 &&& Int32.toUInt32 31)).toInt32.toInt &&& Int32.ofInt 1)) rfl rfl rfl ?_
  refine l_if rfl (inr_ti _) (fun c => ?_) (fun c => ?_)
  · replace h := h.1 c
    refine l1 (n := 1) rfl rfl rfl rfl ?_
    exact Z_D_hasWritten_16 hS hR ⟨by decide, by decide⟩ h
  · replace h := h.2 c
    refine l1 (n := 1) rfl rfl rfl rfl ?_
    refine l3 rfl rfl rfl ?_
    exact Z_D_hasWritten_16 hS hR ⟨by decide, by decide⟩ h
def em_D_hasWritten (x0 : Nat) (x1 : Int) (M : rf_M) (K : Int → rf_M → Prop) : Prop := e_D_hasWritten x0 x1 M K
theorem Z_D_hasWritten_m {w fz : Bool} {S : gS} {B : rf_M} {M : rf_M} {n0 : Nat} {x0 : Nat} {x1 : Int} {K : Int → rf_M → Prop} (hS : rl S) (hR : fl 22 (gwH w) B M) (mx0 : x0 ∈ gwL8 w) (ix1 : inr x1) (h : em_D_hasWritten x0 x1 M K) : lx (cx0 fz) n0 68 0 (lv_args 0 [.ref x0, zv x1]) [] (M, S) (vl_i 22 (gwH w) B S K) :=
  Z_D_hasWritten hS hR mx0 ix1 rfl rfl h
def e_R_hasRead_16 (s0 : Int) (M : rf_M) (K : Int → rf_M → Prop) : Prop := (s0 = 0 ∨ s0 = 1) ∧ K s0 M
theorem Z_R_hasRead_16 {w fz : Bool} {S : gS} {B : rf_M} {M : rf_M} {ls : rf_L} {n0 : Nat} {s0 : Int} {K : Int → rf_M → Prop} (hS : rl S) (hR : fl 22 (gwH w) B M) (is0 : inr s0) (h : e_R_hasRead_16 s0 M K) : lx (cx0 fz) n0 69 16 ls [zv s0] (M, S) (vl_i 22 (gwH w) B S K) := by
  unfold e_R_hasRead_16 at h
  exact l_rb rfl rfl h.1 hR h.2
def e_R_hasRead (v0 : Nat) (v1 : Int) (M : rf_M) (K : Int → rf_M → Prop) : Prop := ((Int32.ofInt ((Int32.ofInt (gi M v0 2)).toUInt32 >>> ((Int32.ofInt v1).toUInt32 &&& Int32.toUInt32 31)).toInt32.toInt &&& Int32.ofInt 1).toInt = 0 → (e_R_hasRead_16 0 M K)) ∧ (¬ ((Int32.ofInt ((Int32.ofInt (gi M v0 2)).toUInt32 >>> ((Int32.ofInt v1).toUInt32 &&& Int32.toUInt32 31)).toInt32.toInt &&& Int32.ofInt 1).toInt = 0) → (e_R_hasRead_16 1 M K))
theorem Z_R_hasRead {w fz : Bool} {S : gS} {B : rf_M} {M : rf_M} {ls : rf_L} {n0 : Nat} {v0 : Nat} {v1 : Int} {K : Int → rf_M → Prop} (hS : rl S) (hR : fl 22 (gwH w) B M) (mv0 : v0 ∈ gwL7 w) (iv1 : inr v1) (a0 : rf_ld ls 0 = some (.ref v0)) (a1 : rf_ld ls 1 = some (zv v1)) (h : e_R_hasRead v0 v1 M K) : lx (cx0 fz) n0 69 0 ls [] (M, S) (vl_i 22 (gwH w) B S K) := by
  unfold e_R_hasRead at h
  refine l1 (n := 1) rfl rfl rfl (la_of a0) ?_
  refine l_gi rfl (jgo_7 (w := w) hS mv0) rfl (fun _ => rfl) ?_
  refine l1 (n := 1) rfl rfl rfl (li_of a1) ?_
  refine l_op (T := ((Int32.ofInt (gi M v0 2)).toUInt32 >>> ((Int32.ofInt v1).toUInt32 &&& Int32.toUInt32 31)).toInt32) rfl rfl rfl ?_
  refine l1 (n := 1) rfl rfl rfl rfl ?_
  refine l_op (T := (Int32.ofInt ((Int32.ofInt (gi M v0 2)).toUInt32 >>> ((Int32.ofInt v1).toUInt32 &&& Int32.toUInt32 31)).toInt32.toInt &&& Int32.ofInt 1)) rfl rfl rfl ?_
  refine l_if rfl (inr_ti _) (fun c => ?_) (fun c => ?_)
  · replace h := h.1 c
    refine l1 (n := 1) rfl rfl rfl rfl ?_
    exact Z_R_hasRead_16 hS hR ⟨by decide, by decide⟩ h
  · replace h := h.2 c
    refine l1 (n := 1) rfl rfl rfl rfl ?_
    refine l3 rfl rfl rfl ?_
    exact Z_R_hasRead_16 hS hR ⟨by decide, by decide⟩ h
def em_R_hasRead (x0 : Nat) (x1 : Int) (M : rf_M) (K : Int → rf_M → Prop) : Prop := e_R_hasRead x0 x1 M K
theorem Z_R_hasRead_m {w fz : Bool} {S : gS} {B : rf_M} {M : rf_M} {n0 : Nat} {x0 : Nat} {x1 : Int} {K : Int → rf_M → Prop} (hS : rl S) (hR : fl 22 (gwH w) B M) (mx0 : x0 ∈ gwL7 w) (ix1 : inr x1) (h : em_R_hasRead x0 x1 M K) : lx (cx0 fz) n0 69 0 (lv_args 0 [.ref x0, zv x1]) [] (M, S) (vl_i 22 (gwH w) B S K) :=
  Z_R_hasRead hS hR mx0 ix1 rfl rfl h
def e_R_shows_81 (s0 : Int64) (M : rf_M) (K : Int64 → rf_M → Prop) : Prop := K s0 M
theorem Z_R_shows_81 {w fz : Bool} {S : gS} {B : rf_M} {M : rf_M} {ls : rf_L} {n0 : Nat} {s0 : Int64} {K : Int64 → rf_M → Prop} (hS : rl S) (hR : fl 22 (gwH w) B M) (h : e_R_shows_81 s0 M K) : lx (cx0 fz) n0 70 81 ls [.long s0] (M, S) (vl_l 22 (gwH w) B S K) := by
  unfold e_R_shows_81 at h
  exact l_rl rfl rfl hR h
def e_R_shows_25 (v0 : Nat) (v1 : Int) (M : rf_M) (K : Int64 → rf_M → Prop) : Prop := em_M_isCell v1 M (fun (z1 : Int) (M1 : rf_M) => (z1 = 0 → (K (Int64.ofNat 0) M1)) ∧ (¬ z1 = 0 → (em_D_hasWritten (v0 + 2) v1 M1 (fun (z2 : Int) (M2 : rf_M) => (z2 = 0 → (em_R_hasRead v0 v1 M2 (fun (z3 : Int) (M3 : rf_M) => (z3 = 0 → ((0 ≤ v1 ∧ v1 < 16 → (e_R_shows_81 (gl M3 ((stR v0) + 1) (v1).toNat) M3 K)))) ∧ (¬ (z3 = 0) → ((0 ≤ v1 ∧ v1 < 16 → (e_R_shows_81 (gl M3 (v0 + 10) (v1).toNat) M3 K))))))) ∧ (¬ (z2 = 0) → ((0 ≤ v1 ∧ v1 < 16 → (K (gl M2 (v0 + 3) (v1).toNat) M2))))))))
theorem Z_R_shows_25 {w fz : Bool} {S : gS} {B : rf_M} {M : rf_M} {ls : rf_L} {n0 : Nat} {v0 : Nat} {v1 : Int} {K : Int64 → rf_M → Prop} (hS : rl S) (hR : fl 22 (gwH w) B M) (mv0 : v0 ∈ gwL7 w) (iv1 : inr v1) (a0 : rf_ld ls 0 = some (.ref v0)) (a1 : rf_ld ls 1 = some (zv v1)) (h : e_R_shows_25 v0 v1 M K) : lx (cx0 fz) n0 70 25 ls [] (M, S) (vl_l 22 (gwH w) B S K) := by
  unfold e_R_shows_25 at h
  refine l1 (n := 1) rfl rfl rfl (li_of a1) ?_
  refine b_st (as := [zv v1]) (rest := []) rfl (by decide) rfl (Nat.le_of_ble_eq_true rfl) (fun hq => ?_)
  refine lx_mono (Z_M_isCell_m hS hR iv1 h) ?_
  rintro _ _ ⟨z1, M1, rfl, rfl, r1, iz1, h⟩
  refine l_if rfl iz1 (fun c => ?_) (fun c => ?_)
  · replace h := h.2 c
    refine l1 (n := 1) rfl rfl rfl (la_of a0) ?_
    refine l_gr rfl (jgo_7 (w := w) hS mv0) rfl (fun _ => rfl) (jgf_7_5 (w := w) r1.2 mv0) ?_
    refine l1 (n := 1) rfl rfl rfl (li_of a1) ?_
    refine b_iv (c := (v0 + 2)) (as := [zv v1]) (rest := []) rfl (by decide) (jgo_8 (w := w) hS (jgt_7_5 (w := w) mv0)) rfl rfl (Nat.le_of_ble_eq_true rfl) (fun hq => ?_)
    refine lx_mono (Z_D_hasWritten_m hS r1 (jgt_7_5 (w := w) mv0) iv1 h) ?_
    rintro _ _ ⟨z2, M2, rfl, rfl, r2, iz2, h⟩
    refine l_if rfl iz2 (fun c => ?_) (fun c => ?_)
    · replace h := h.1 c
      refine l1 (n := 1) rfl rfl rfl (la_of a0) ?_
      refine l1 (n := 1) rfl rfl rfl (li_of a1) ?_
      refine b_iv (c := v0) (as := [zv v1]) (rest := []) rfl (by decide) (jgo_7 (w := w) hS mv0) rfl rfl (Nat.le_of_ble_eq_true rfl) (fun hq => ?_)
      refine lx_mono (Z_R_hasRead_m hS r2 mv0 iv1 h) ?_
      rintro _ _ ⟨z3, M3, rfl, rfl, r3, iz3, h⟩
      refine l_if rfl iz3 (fun c => ?_) (fun c => ?_)
      · replace h := h.1 c
        refine l1 (n := 1) rfl rfl rfl (la_of a0) ?_
        refine l_gr rfl (jgo_7 (w := w) hS mv0) rfl (fun _ => rfl) (jgf_7_8 (w := w) r3.2 mv0) ?_
        refine l_gr rfl (jgo_4 (w := w) hS (jgt_7_8 (w := w) mv0)) rfl (fun _ => rfl) (jgf_4_0 (w := w) r3.2 (jgt_7_8 (w := w) mv0)) ?_
        refine l1 (n := 1) rfl rfl rfl (li_of a1) ?_
        refine b_la rfl (jgt_4_0 (w := w) (fz := fz) hS (jgt_7_8 (w := w) mv0)).1 (Nat.le_of_ble_eq_true rfl) iv1 (fun q => ?_)
        replace h := h q
        exact Z_R_shows_81 hS r3  h
      · replace h := h.2 c
        refine l1 (n := 1) rfl rfl rfl (la_of a0) ?_
        refine l_gr rfl (jgo_7 (w := w) hS mv0) rfl (fun _ => rfl) (jgf_7_7 (w := w) r3.2 mv0) ?_
        refine l1 (n := 1) rfl rfl rfl (li_of a1) ?_
        refine b_la rfl (jgt_7_7 (w := w) (fz := fz) hS mv0).1 (Nat.le_of_ble_eq_true rfl) iv1 (fun q => ?_)
        replace h := h q
        refine l3 rfl rfl rfl ?_
        exact Z_R_shows_81 hS r3  h
    · replace h := h.2 c
      refine l1 (n := 1) rfl rfl rfl (la_of a0) ?_
      refine l_gr rfl (jgo_7 (w := w) hS mv0) rfl (fun _ => rfl) (jgf_7_5 (w := w) r2.2 mv0) ?_
      refine l_gr rfl (jgo_8 (w := w) hS (jgt_7_5 (w := w) mv0)) rfl (fun _ => rfl) (jgf_8_1 (w := w) r2.2 (jgt_7_5 (w := w) mv0)) ?_
      refine l1 (n := 1) rfl rfl rfl (li_of a1) ?_
      refine b_la rfl (jgt_8_1 (w := w) (fz := fz) hS (jgt_7_5 (w := w) mv0)).1 (Nat.le_of_ble_eq_true rfl) iv1 (fun q => ?_)
      replace h := h q
      exact l_rl rfl rfl r2 h
  · replace h := h.1 (Classical.not_not.mp c)
    refine l1 (n := 1) rfl rfl rfl rfl ?_
    exact l_rl rfl rfl r1 h
def e_R_shows (v0 : Nat) (v1 : Int) (M : rf_M) (K : Int64 → rf_M → Prop) : Prop := (v1 < 16 → (e_R_shows_25 v0 v1 M K)) ∧ (¬ (v1 < 16) → ((26 ≤ v1 → (e_R_shows_25 v0 v1 M K)) ∧ (¬ (26 ≤ v1) → (inr (v1 - 16) ∧ ((0 ≤ (v1 - 16) ∧ (v1 - 16) < 10 → (K (gl M (v0 + 4) (v1 - 16).toNat) M)))))))
theorem Z_R_shows {w fz : Bool} {S : gS} {B : rf_M} {M : rf_M} {ls : rf_L} {n0 : Nat} {v0 : Nat} {v1 : Int} {K : Int64 → rf_M → Prop} (hS : rl S) (hR : fl 22 (gwH w) B M) (mv0 : v0 ∈ gwL7 w) (iv1 : inr v1) (a0 : rf_ld ls 0 = some (.ref v0)) (a1 : rf_ld ls 1 = some (zv v1)) (h : e_R_shows v0 v1 M K) : lx (cx0 fz) n0 70 0 ls [] (M, S) (vl_l 22 (gwH w) B S K) := by
  unfold e_R_shows at h
  refine l1 (n := 1) rfl rfl rfl (li_of a1) ?_
  refine l_bi rfl (by decide) ?_
  refine l_ic rfl iv1 ⟨by decide, by decide⟩ (fun c => ?_) (fun c => ?_)
  · replace h := h.1 c
    exact Z_R_shows_25 hS hR mv0 iv1 a0 a1 h
  · replace h := h.2 c
    refine l1 (n := 1) rfl rfl rfl (li_of a1) ?_
    refine l_bi rfl (by decide) ?_
    refine l_ic rfl iv1 ⟨by decide, by decide⟩ (fun c => ?_) (fun c => ?_)
    · replace h := h.1 c
      exact Z_R_shows_25 hS hR mv0 iv1 a0 a1 h
    · replace h := h.2 c
      refine l1 (n := 1) rfl rfl rfl (la_of a0) ?_
      refine l_gr rfl (jgo_7 (w := w) hS mv0) rfl (fun _ => rfl) (jgf_7_5 (w := w) hR.2 mv0) ?_
      refine l_gr rfl (jgo_8 (w := w) hS (jgt_7_5 (w := w) mv0)) rfl (fun _ => rfl) (jgf_8_2 (w := w) hR.2 (jgt_7_5 (w := w) mv0)) ?_
      refine l1 (n := 1) rfl rfl rfl (li_of a1) ?_
      refine l_bi rfl (by decide) ?_
      refine l_sub rfl ?_
      obtain ⟨i1, h⟩ := h
      refine b_la rfl (jgt_8_2 (w := w) (fz := fz) hS (jgt_7_5 (w := w) mv0)).1 (Nat.le_of_ble_eq_true rfl) i1 (fun q => ?_)
      replace h := h q
      exact l_rl rfl rfl hR h
def em_R_shows (x0 : Nat) (x1 : Int) (M : rf_M) (K : Int64 → rf_M → Prop) : Prop := e_R_shows x0 x1 M K
theorem Z_R_shows_m {w fz : Bool} {S : gS} {B : rf_M} {M : rf_M} {n0 : Nat} {x0 : Nat} {x1 : Int} {K : Int64 → rf_M → Prop} (hS : rl S) (hR : fl 22 (gwH w) B M) (mx0 : x0 ∈ gwL7 w) (ix1 : inr x1) (h : em_R_shows x0 x1 M K) : lx (cx0 fz) n0 70 0 (lv_args 0 [.ref x0, zv x1]) [] (M, S) (vl_l 22 (gwH w) B S K) :=
  Z_R_shows hS hR mx0 ix1 rfl rfl h
def e_R_isStale (v0 : Nat) (M : rf_M) (K : Int → rf_M → Prop) : Prop := em_S_differs (stR v0) (gi M v0 2) (v0 + 1) M (fun (z1 : Int) (M1 : rf_M) => (z1 = 0 ∨ z1 = 1) ∧ K z1 M1)
theorem Z_R_isStale {w fz : Bool} {S : gS} {B : rf_M} {M : rf_M} {ls : rf_L} {n0 : Nat} {v0 : Nat} {K : Int → rf_M → Prop} (hS : rl S) (hR : fl 22 (gwH w) B M) (mv0 : v0 ∈ gwL7 w) (a0 : rf_ld ls 0 = some (.ref v0)) (h : e_R_isStale v0 M K) : lx (cx0 fz) n0 71 0 ls [] (M, S) (vl_i 22 (gwH w) B S K) := by
  unfold e_R_isStale at h
  refine l1 (n := 1) rfl rfl rfl (la_of a0) ?_
  refine l_gr rfl (jgo_7 (w := w) hS mv0) rfl (fun _ => rfl) (jgf_7_8 (w := w) hR.2 mv0) ?_
  refine l1 (n := 1) rfl rfl rfl (la_of a0) ?_
  refine l_gi rfl (jgo_7 (w := w) hS mv0) rfl (fun _ => rfl) ?_
  refine l1 (n := 1) rfl rfl rfl (la_of a0) ?_
  refine l_gr rfl (jgo_7 (w := w) hS mv0) rfl (fun _ => rfl) (jgf_7_4 (w := w) hR.2 mv0) ?_
  refine b_iv (c := (stR v0)) (as := [zv (gi M v0 2), .ref (v0 + 1)]) (rest := []) rfl (by decide) (jgo_4 (w := w) hS (jgt_7_8 (w := w) mv0)) rfl rfl (Nat.le_of_ble_eq_true rfl) (fun hq => ?_)
  refine lx_mono (Z_S_differs_m hS hR (jgt_7_8 (w := w) mv0) (inr_gi _ _ _) (jgt_7_4 (w := w) (fz := fz) hS mv0) h) ?_
  rintro _ _ ⟨z1, M1, rfl, rfl, r1, iz1, h⟩
  exact l_rb rfl rfl h.1 r1 h.2
def em_R_isStale (x0 : Nat) (M : rf_M) (K : Int → rf_M → Prop) : Prop := e_R_isStale x0 M K
theorem Z_R_isStale_m {w fz : Bool} {S : gS} {B : rf_M} {M : rf_M} {n0 : Nat} {x0 : Nat} {K : Int → rf_M → Prop} (hS : rl S) (hR : fl 22 (gwH w) B M) (mx0 : x0 ∈ gwL7 w) (h : em_R_isStale x0 M K) : lx (cx0 fz) n0 71 0 (lv_args 0 [.ref x0]) [] (M, S) (vl_i 22 (gwH w) B S K) :=
  Z_R_isStale hS hR mx0 rfl h
def e_R_find_26 (v0 : Nat) (v1 : Int) (M : rf_M) (K : Int → rf_M → Prop) : Prop := em_R_shows v0 v1 M (fun (z1 : Int64) (M1 : rf_M) => ∀ M2 : rf_M, M2 = wl M1 v0 10 z1 → (K 1 M2))
theorem Z_R_find_26 {w fz : Bool} {S : gS} {B : rf_M} {M : rf_M} {ls : rf_L} {n0 : Nat} {v0 : Nat} {v1 : Int} {K : Int → rf_M → Prop} (hS : rl S) (hR : fl 22 (gwH w) B M) (mv0 : v0 ∈ gwL7 w) (iv1 : inr v1) (a0 : rf_ld ls 0 = some (.ref v0)) (a1 : rf_ld ls 1 = some (zv v1)) (h : e_R_find_26 v0 v1 M K) : lx (cx0 fz) n0 67 26 ls [] (M, S) (vl_i 22 (gwH w) B S K) := by
  unfold e_R_find_26 at h
  refine l1 (n := 1) rfl rfl rfl (la_of a0) ?_
  refine l1 (n := 1) rfl rfl rfl (la_of a0) ?_
  refine l1 (n := 1) rfl rfl rfl (li_of a1) ?_
  refine b_iv (c := v0) (as := [zv v1]) (rest := [.ref v0]) rfl (by decide) (jgo_7 (w := w) hS mv0) rfl rfl (Nat.le_of_ble_eq_true rfl) (fun hq => ?_)
  refine lx_mono (Z_R_shows_m hS hR mv0 iv1 h) ?_
  rintro _ _ ⟨z1, M1, rfl, rfl, r1, h⟩
  refine l_pl rfl (jgo_7 (w := w) (fz := fz) hS mv0) rfl (fun _ _ => rfl) (fun M2 e => ?_)
  replace h := h M2 e
  have r2 := r1.wl (jgo_7 (w := w) (fz := fz) hS mv0).1 (jgl_7 (w := w) mv0) e
  refine l1 (n := 1) rfl rfl rfl rfl ?_
  exact l_rb rfl rfl (Or.inr rfl) r2 h
def e_R_find (v0 : Nat) (v1 : Int) (M : rf_M) (K : Int → rf_M → Prop) : Prop := em_M_isCell v1 M (fun (z1 : Int) (M1 : rf_M) => (z1 = 0 → (e_R_find_26 v0 v1 M1 K)) ∧ (¬ (z1 = 0) → (em_D_hasWritten (v0 + 2) v1 M1 (fun (z2 : Int) (M2 : rf_M) => (z2 = 0 → (em_R_hasRead v0 v1 M2 (fun (z3 : Int) (M3 : rf_M) => (z3 = 0 → (em_R_isStale v0 M3 (fun (z4 : Int) (M4 : rf_M) => (z4 = 0 → (∀ M5 : rf_M, M5 = wi M4 v0 2 (Int32.ofInt (gi M4 v0 2) ||| Int32.ofInt (Int32.ofInt 1 <<< (Int32.ofInt v1 &&& 31)).toInt).toInt → ((0 ≤ v1 ∧ v1 < 16 → ((0 ≤ v1 ∧ v1 < 16 → (∀ M6 : rf_M, M6 = wl M5 (v0 + 10) (v1).toNat (gl M5 ((stR v0) + 1) (v1).toNat) → ((0 ≤ v1 ∧ v1 < 16 → ((0 ≤ v1 ∧ v1 < 16 → (∀ M7 : rf_M, M7 = wi M6 (v0 + 1) (v1).toNat (gi M6 ((stR v0) + 2) (v1).toNat) → ((0 ≤ v1 ∧ v1 < 16 → (∀ M8 : rf_M, M8 = wl M7 v0 10 (gl M7 (v0 + 10) (v1).toNat) → (K 1 M8)))))))))))))))) ∧ (¬ (z4 = 0) → (K 0 M4))))) ∧ (¬ (z3 = 0) → (e_R_find_26 v0 v1 M3 K))))) ∧ (¬ z2 = 0 → (e_R_find_26 v0 v1 M2 K))))))
theorem Z_R_find {w fz : Bool} {S : gS} {B : rf_M} {M : rf_M} {ls : rf_L} {n0 : Nat} {v0 : Nat} {v1 : Int} {K : Int → rf_M → Prop} (hS : rl S) (hR : fl 22 (gwH w) B M) (mv0 : v0 ∈ gwL7 w) (iv1 : inr v1) (a0 : rf_ld ls 0 = some (.ref v0)) (a1 : rf_ld ls 1 = some (zv v1)) (h : e_R_find v0 v1 M K) : lx (cx0 fz) n0 67 0 ls [] (M, S) (vl_i 22 (gwH w) B S K) := by
  unfold e_R_find at h
  refine l1 (n := 1) rfl rfl rfl (li_of a1) ?_
  refine b_st (as := [zv v1]) (rest := []) rfl (by decide) rfl (Nat.le_of_ble_eq_true rfl) (fun hq => ?_)
  refine lx_mono (Z_M_isCell_m hS hR iv1 h) ?_
  rintro _ _ ⟨z1, M1, rfl, rfl, r1, iz1, h⟩
  refine l_if rfl iz1 (fun c => ?_) (fun c => ?_)
  · replace h := h.1 c
    exact Z_R_find_26 hS r1 mv0 iv1 a0 a1 h
  · replace h := h.2 c
    refine l1 (n := 1) rfl rfl rfl (la_of a0) ?_
    refine l_gr rfl (jgo_7 (w := w) hS mv0) rfl (fun _ => rfl) (jgf_7_5 (w := w) r1.2 mv0) ?_
    refine l1 (n := 1) rfl rfl rfl (li_of a1) ?_
    refine b_iv (c := (v0 + 2)) (as := [zv v1]) (rest := []) rfl (by decide) (jgo_8 (w := w) hS (jgt_7_5 (w := w) mv0)) rfl rfl (Nat.le_of_ble_eq_true rfl) (fun hq => ?_)
    refine lx_mono (Z_D_hasWritten_m hS r1 (jgt_7_5 (w := w) mv0) iv1 h) ?_
    rintro _ _ ⟨z2, M2, rfl, rfl, r2, iz2, h⟩
    refine l_if rfl iz2 (fun c => ?_) (fun c => ?_)
    · replace h := h.2 c
      exact Z_R_find_26 hS r2 mv0 iv1 a0 a1 h
    · replace h := h.1 (Classical.not_not.mp c)
      refine l1 (n := 1) rfl rfl rfl (la_of a0) ?_
      refine l1 (n := 1) rfl rfl rfl (li_of a1) ?_
      refine b_iv (c := v0) (as := [zv v1]) (rest := []) rfl (by decide) (jgo_7 (w := w) hS mv0) rfl rfl (Nat.le_of_ble_eq_true rfl) (fun hq => ?_)
      refine lx_mono (Z_R_hasRead_m hS r2 mv0 iv1 h) ?_
      rintro _ _ ⟨z3, M3, rfl, rfl, r3, iz3, h⟩
      refine l_if rfl iz3 (fun c => ?_) (fun c => ?_)
      · replace h := h.1 c
        refine l1 (n := 1) rfl rfl rfl (la_of a0) ?_
        refine b_iv (c := v0) (as := []) (rest := []) rfl (by decide) (jgo_7 (w := w) hS mv0) rfl rfl (Nat.le_of_ble_eq_true rfl) (fun hq => ?_)
        refine lx_mono (Z_R_isStale_m hS r3 mv0 h) ?_
        rintro _ _ ⟨z4, M4, rfl, rfl, r4, iz4, h⟩
        refine l_if rfl iz4 (fun c => ?_) (fun c => ?_)
        · replace h := h.1 c
          refine l1 (n := 1) rfl rfl rfl (la_of a0) ?_
          refine l0 rfl rfl rfl ?_
          refine l_gi rfl (jgo_7 (w := w) hS mv0) rfl (fun _ => rfl) ?_
          refine l1 (n := 1) rfl rfl rfl rfl ?_
          refine l1 (n := 1) rfl rfl rfl (li_of a1) ?_
          refine l_op (T := (Int32.ofInt 1 <<< (Int32.ofInt v1 &&& 31))) rfl rfl rfl ?_
          refine l_op (T := (Int32.ofInt (gi M4 v0 2) ||| Int32.ofInt (Int32.ofInt 1 <<< (Int32.ofInt v1 &&& 31)).toInt)) rfl rfl rfl ?_
          refine l_pi rfl (jgo_7 (w := w) (fz := fz) hS mv0) rfl (fun _ _ => rfl) (fun M5 e => ?_)
          replace h := h M5 e
          have r5 := r4.wi (jgo_7 (w := w) (fz := fz) hS mv0).1 (jgl_7 (w := w) mv0) e
          refine l1 (n := 1) rfl rfl rfl (la_of a0) ?_
          refine l_gr rfl (jgo_7 (w := w) hS mv0) rfl (fun _ => rfl) (jgf_7_7 (w := w) r5.2 mv0) ?_
          refine l1 (n := 1) rfl rfl rfl (li_of a1) ?_
          refine l1 (n := 1) rfl rfl rfl (la_of a0) ?_
          refine l_gr rfl (jgo_7 (w := w) hS mv0) rfl (fun _ => rfl) (jgf_7_8 (w := w) r5.2 mv0) ?_
          refine l_gr rfl (jgo_4 (w := w) hS (jgt_7_8 (w := w) mv0)) rfl (fun _ => rfl) (jgf_4_0 (w := w) r5.2 (jgt_7_8 (w := w) mv0)) ?_
          refine l1 (n := 1) rfl rfl rfl (li_of a1) ?_
          refine b_la rfl (jgt_4_0 (w := w) (fz := fz) hS (jgt_7_8 (w := w) mv0)).1 (Nat.le_of_ble_eq_true rfl) iv1 (fun q => ?_)
          replace h := h q
          refine b_ls rfl (jgt_7_7 (w := w) (fz := fz) hS mv0).1 (Nat.le_of_ble_eq_true rfl) iv1 (fun q M6 e => ?_)
          replace h := h q M6 e
          have r6 := r5.wl (jgt_7_7 (w := w) (fz := fz) hS mv0).1.1 (jgt_7_7 (w := w) (fz := fz) hS mv0).2 e
          refine l1 (n := 1) rfl rfl rfl (la_of a0) ?_
          refine l_gr rfl (jgo_7 (w := w) hS mv0) rfl (fun _ => rfl) (jgf_7_4 (w := w) r6.2 mv0) ?_
          refine l1 (n := 1) rfl rfl rfl (li_of a1) ?_
          refine l1 (n := 1) rfl rfl rfl (la_of a0) ?_
          refine l_gr rfl (jgo_7 (w := w) hS mv0) rfl (fun _ => rfl) (jgf_7_8 (w := w) r6.2 mv0) ?_
          refine l_gr rfl (jgo_4 (w := w) hS (jgt_7_8 (w := w) mv0)) rfl (fun _ => rfl) (jgf_4_1 (w := w) r6.2 (jgt_7_8 (w := w) mv0)) ?_
          refine l1 (n := 1) rfl rfl rfl (li_of a1) ?_
          refine b_ia rfl (jgt_4_1 (w := w) (fz := fz) hS (jgt_7_8 (w := w) mv0)).1 (Nat.le_of_ble_eq_true rfl) iv1 (fun q => ?_)
          replace h := h q
          refine b_is rfl (jgt_7_4 (w := w) (fz := fz) hS mv0).1 (Nat.le_of_ble_eq_true rfl) iv1 (fun q M7 e => ?_)
          replace h := h q M7 e
          have r7 := r6.wi (jgt_7_4 (w := w) (fz := fz) hS mv0).1.1 (jgt_7_4 (w := w) (fz := fz) hS mv0).2 e
          refine l1 (n := 1) rfl rfl rfl (la_of a0) ?_
          refine l1 (n := 1) rfl rfl rfl (la_of a0) ?_
          refine l_gr rfl (jgo_7 (w := w) hS mv0) rfl (fun _ => rfl) (jgf_7_7 (w := w) r7.2 mv0) ?_
          refine l1 (n := 1) rfl rfl rfl (li_of a1) ?_
          refine b_la rfl (jgt_7_7 (w := w) (fz := fz) hS mv0).1 (Nat.le_of_ble_eq_true rfl) iv1 (fun q => ?_)
          replace h := h q
          refine l_pl rfl (jgo_7 (w := w) (fz := fz) hS mv0) rfl (fun _ _ => rfl) (fun M8 e => ?_)
          replace h := h M8 e
          have r8 := r7.wl (jgo_7 (w := w) (fz := fz) hS mv0).1 (jgl_7 (w := w) mv0) e
          refine l1 (n := 1) rfl rfl rfl rfl ?_
          exact l_rb rfl rfl (Or.inr rfl) r8 h
        · replace h := h.2 c
          refine l1 (n := 1) rfl rfl rfl rfl ?_
          exact l_rb rfl rfl (Or.inl rfl) r4 h
      · replace h := h.2 c
        exact Z_R_find_26 hS r3 mv0 iv1 a0 a1 h
def em_R_find (x0 : Nat) (x1 : Int) (M : rf_M) (K : Int → rf_M → Prop) : Prop := e_R_find x0 x1 M K
theorem Z_R_find_m {w fz : Bool} {S : gS} {B : rf_M} {M : rf_M} {n0 : Nat} {x0 : Nat} {x1 : Int} {K : Int → rf_M → Prop} (hS : rl S) (hR : fl 22 (gwH w) B M) (mx0 : x0 ∈ gwL7 w) (ix1 : inr x1) (h : em_R_find x0 x1 M K) : lx (cx0 fz) n0 67 0 (lv_args 0 [.ref x0, zv x1]) [] (M, S) (vl_i 22 (gwH w) B S K) :=
  Z_R_find hS hR mx0 ix1 rfl rfl h
def e_A_workR_158 (v0 : Nat) (v1 : Nat) (v3 : Nat) (v4 : Int) (M : rf_M) (b8 : Nat → Nat → Nat → Int → rf_M → Prop) (K : Int → rf_M → Prop) : Prop := inr (v4 + 1) ∧ (b8 v0 v1 v3 (v4 + 1) M)
theorem Z_A_workR_158 {w fz : Bool} {S : gS} {B : rf_M} {M : rf_M} {ls : rf_L} {n0 : Nat} {v0 : Nat} {v1 : Nat} {v3 : Nat} {v4 : Int} {b8 : Nat → Nat → Nat → Int → rf_M → Prop} {K : Int → rf_M → Prop} (hS : rl S) (hR : fl 22 (gwH w) B M) (mv0 : v0 ∈ gwL5 w) (mv1 : v1 ∈ k1) (mv3 : v3 ∈ gwL7 w) (iv4 : inr v4) (a0 : rf_ld ls 0 = some (.ref v0)) (a1 : rf_ld ls 1 = some (.ref v1)) (a3 : rf_ld ls 3 = some (.ref v3)) (a4 : rf_ld ls 4 = some (zv v4)) (hb8 : ∀ n', n' < n0 → ∀ (v0 : Nat) (v1 : Nat) (v3 : Nat) (v4 : Int) (M : rf_M) (ls : rf_L), fl 22 (gwH w) B M → v0 ∈ gwL5 w → v1 ∈ k1 → v3 ∈ gwL7 w → inr v4 → rf_ld ls 0 = some (.ref v0) → rf_ld ls 1 = some (.ref v1) → rf_ld ls 3 = some (.ref v3) → rf_ld ls 4 = some (zv v4) → b8 v0 v1 v3 v4 M → lx (cx0 fz) n' 65 8 ls [] (M, S) (vl_i 22 (gwH w) B S K)) (h : e_A_workR_158 v0 v1 v3 v4 M b8 K) : lx (cx0 fz) n0 65 158 ls [] (M, S) (vl_i 22 (gwH w) B S K) := by
  unfold e_A_workR_158 at h
  rcases Nat.eq_zero_or_pos n0 with e0 | hp
  · rw [e0]; exact lx_zero
  refine l_ii rfl a4 (Nat.le_of_ble_eq_true rfl) (fun ls y1 ho => ?_)
  have y2 := ho 0 _ (by decide) (fun q => by cases q.2) a0
  have y3 := ho 1 _ (by decide) (fun q => by cases q.2) a1
  have y4 := ho 3 _ (by decide) (fun q => by cases q.2) a3
  refine l3 rfl rfl rfl ?_
  obtain ⟨i1, h⟩ := h
  exact hb8 _ (by omega) _ _ _ _ _ _ hR mv0 mv1 mv3 i1 y2 y3 y4 y1 h
def e_A_workR_143 (M : rf_M) (K : Int → rf_M → Prop) : Prop := K 2 M
theorem Z_A_workR_143 {w fz : Bool} {S : gS} {B : rf_M} {M : rf_M} {ls : rf_L} {n0 : Nat} {K : Int → rf_M → Prop} (hS : rl S) (hR : fl 22 (gwH w) B M) (h : e_A_workR_143 M K) : lx (cx0 fz) n0 65 143 ls [] (M, S) (vl_i 22 (gwH w) B S K) := by
  unfold e_A_workR_143 at h
  refine l1 (n := 1) rfl rfl rfl rfl ?_
  exact l_ri rfl rfl ⟨by decide, by decide⟩ hR h
def e_A_workR_145 (v0 : Nat) (v1 : Nat) (v3 : Nat) (v4 : Int) (v5 : Int) (v6 : Int64) (v8 : Int64) (M : rf_M) (b8 : Nat → Nat → Nat → Int → rf_M → Prop) (K : Int → rf_M → Prop) : Prop := em_A_join v5 v8 v6 M (fun (z1 : Int64) (M1 : rf_M) => em_A_push v0 z1 M1 (fun (M2 : rf_M) => e_A_workR_158 v0 v1 v3 v4 M2 b8 K))
theorem Z_A_workR_145 {w fz : Bool} {S : gS} {B : rf_M} {M : rf_M} {ls : rf_L} {n0 : Nat} {v0 : Nat} {v1 : Nat} {v3 : Nat} {v4 : Int} {v5 : Int} {v6 : Int64} {v8 : Int64} {b8 : Nat → Nat → Nat → Int → rf_M → Prop} {K : Int → rf_M → Prop} (hS : rl S) (hR : fl 22 (gwH w) B M) (mv0 : v0 ∈ gwL5 w) (mv1 : v1 ∈ k1) (mv3 : v3 ∈ gwL7 w) (iv4 : inr v4) (iv5 : inr v5) (a0 : rf_ld ls 0 = some (.ref v0)) (a1 : rf_ld ls 1 = some (.ref v1)) (a3 : rf_ld ls 3 = some (.ref v3)) (a4 : rf_ld ls 4 = some (zv v4)) (a5 : rf_ld ls 5 = some (zv v5)) (a6 : rf_ld ls 6 = some (.long v6)) (a8 : rf_ld ls 8 = some (.long v8)) (hb8 : ∀ n', n' < n0 → ∀ (v0 : Nat) (v1 : Nat) (v3 : Nat) (v4 : Int) (M : rf_M) (ls : rf_L), fl 22 (gwH w) B M → v0 ∈ gwL5 w → v1 ∈ k1 → v3 ∈ gwL7 w → inr v4 → rf_ld ls 0 = some (.ref v0) → rf_ld ls 1 = some (.ref v1) → rf_ld ls 3 = some (.ref v3) → rf_ld ls 4 = some (zv v4) → b8 v0 v1 v3 v4 M → lx (cx0 fz) n' 65 8 ls [] (M, S) (vl_i 22 (gwH w) B S K)) (h : e_A_workR_145 v0 v1 v3 v4 v5 v6 v8 M b8 K) : lx (cx0 fz) n0 65 145 ls [] (M, S) (vl_i 22 (gwH w) B S K) := by
  unfold e_A_workR_145 at h
  rcases Nat.eq_zero_or_pos n0 with e0 | hp
  · rw [e0]; exact lx_zero
  refine l1 (n := 1) rfl rfl rfl (la_of a0) ?_
  refine l1 (n := 2) rfl rfl rfl (li_of a5) ?_
  refine l1 (n := 2) rfl rfl rfl (ll_of a8) ?_
  refine l1 (n := 2) rfl rfl rfl (ll_of a6) ?_
  refine b_st (as := [zv v5, .long v8, .long v6]) (rest := [.ref v0]) rfl (by decide) rfl (Nat.le_of_ble_eq_true rfl) (fun hq => ?_)
  refine lx_mono (Z_A_join_m hS hR iv5 h) ?_
  rintro _ _ ⟨z1, M1, rfl, rfl, r1, h⟩
  refine b_iv (c := v0) (as := [.long z1]) (rest := []) rfl (by decide) (jgo_5 (w := w) hS mv0) rfl rfl (Nat.le_of_ble_eq_true rfl) (fun hq => ?_)
  refine lx_mono (Z_A_push_m hS r1 mv0 h) ?_
  rintro _ _ ⟨M2, rfl, rfl, r2, h⟩
  exact Z_A_workR_158 hS r2 mv0 mv1 mv3 iv4 a0 a1 a3 a4 (fun n' hn' => hb8 n' (by omega)) h
def e_A_workR_164 (M : rf_M) (K : Int → rf_M → Prop) : Prop := K 0 M
theorem Z_A_workR_164 {w fz : Bool} {S : gS} {B : rf_M} {M : rf_M} {ls : rf_L} {n0 : Nat} {K : Int → rf_M → Prop} (hS : rl S) (hR : fl 22 (gwH w) B M) (h : e_A_workR_164 M K) : lx (cx0 fz) n0 65 164 ls [] (M, S) (vl_i 22 (gwH w) B S K) := by
  unfold e_A_workR_164 at h
  refine l1 (n := 1) rfl rfl rfl rfl ?_
  exact l_ri rfl rfl ⟨by decide, by decide⟩ hR h
def e_A_workR_8b (v0 : Nat) (v1 : Nat) (v3 : Nat) (v4 : Int) (M : rf_M) (b8 : Nat → Nat → Nat → Int → rf_M → Prop) (K : Int → rf_M → Prop) : Prop := (v4 < 0 → (e_A_workR_164 M K)) ∧ (¬ (v4 < 0) → (((gi M v1 3) ≤ v4 → (e_A_workR_164 M K)) ∧ (¬ ((gi M v1 3) ≤ v4) → ((0 ≤ v4 ∧ v4 < 160 → (((gi M (v1 + 10) (v4).toNat) = 0 → (K 0 M)) ∧ (¬ (gi M (v1 + 10) (v4).toNat) = 0 → (((gi M (v1 + 10) (v4).toNat) = 1 → ((0 ≤ v4 ∧ v4 < 160 → (em_A_push v0 (Int32.ofInt (gi M (v1 + 11) (v4).toNat)).toInt64 M (fun (M7 : rf_M) => e_A_workR_158 v0 v1 v3 v4 M7 b8 K))))) ∧ (¬ (gi M (v1 + 10) (v4).toNat) = 1 → (((gi M (v1 + 10) (v4).toNat) = 2 → ((0 ≤ v4 ∧ v4 < 160 → (em_R_find v3 (gi M (v1 + 11) (v4).toNat) M (fun (z5 : Int) (M5 : rf_M) => (z5 = 0 → (K 1 M5)) ∧ (¬ z5 = 0 → (em_A_push v0 (gl M5 v3 10) M5 (fun (M6 : rf_M) => e_A_workR_158 v0 v1 v3 v4 M6 b8 K)))))))) ∧ (¬ (gi M (v1 + 10) (v4).toNat) = 2 → (((gi M (v1 + 10) (v4).toNat) = 3 → (em_A_pop v0 M (fun (z3 : Int64) (M3 : rf_M) => em_A_push v0 (-z3) M3 (fun (M4 : rf_M) => e_A_workR_158 v0 v1 v3 v4 M4 b8 K)))) ∧ (¬ (gi M (v1 + 10) (v4).toNat) = 3 → (em_A_pop v0 M (fun (z1 : Int64) (M1 : rf_M) => em_A_pop v0 M1 (fun (z2 : Int64) (M2 : rf_M) => ((lg_cmp z1 (Int64.ofNat 0)).toInt = 0 → (((gi M (v1 + 10) (v4).toNat) = 47 → (e_A_workR_143 M2 K)) ∧ (¬ ((gi M (v1 + 10) (v4).toNat) = 47) → (((gi M (v1 + 10) (v4).toNat) = 37 → (e_A_workR_143 M2 K)) ∧ (¬ (gi M (v1 + 10) (v4).toNat) = 37 → (e_A_workR_145 v0 v1 v3 v4 (gi M (v1 + 10) (v4).toNat) z1 z2 M2 b8 K)))))) ∧ (¬ (lg_cmp z1 (Int64.ofNat 0)).toInt = 0 → (e_A_workR_145 v0 v1 v3 v4 (gi M (v1 + 10) (v4).toNat) z1 z2 M2 b8 K))))))))))))))))))
theorem Z_A_workR_8b {w fz : Bool} {S : gS} {B : rf_M} {M : rf_M} {ls : rf_L} {n0 : Nat} {v0 : Nat} {v1 : Nat} {v3 : Nat} {v4 : Int} {b8 : Nat → Nat → Nat → Int → rf_M → Prop} {K : Int → rf_M → Prop} (hS : rl S) (hR : fl 22 (gwH w) B M) (mv0 : v0 ∈ gwL5 w) (mv1 : v1 ∈ k1) (mv3 : v3 ∈ gwL7 w) (iv4 : inr v4) (a0 : rf_ld ls 0 = some (.ref v0)) (a1 : rf_ld ls 1 = some (.ref v1)) (a3 : rf_ld ls 3 = some (.ref v3)) (a4 : rf_ld ls 4 = some (zv v4)) (hb8 : ∀ n', n' < n0 → ∀ (v0 : Nat) (v1 : Nat) (v3 : Nat) (v4 : Int) (M : rf_M) (ls : rf_L), fl 22 (gwH w) B M → v0 ∈ gwL5 w → v1 ∈ k1 → v3 ∈ gwL7 w → inr v4 → rf_ld ls 0 = some (.ref v0) → rf_ld ls 1 = some (.ref v1) → rf_ld ls 3 = some (.ref v3) → rf_ld ls 4 = some (zv v4) → b8 v0 v1 v3 v4 M → lx (cx0 fz) n' 65 8 ls [] (M, S) (vl_i 22 (gwH w) B S K)) (h : e_A_workR_8b v0 v1 v3 v4 M b8 K) : lx (cx0 fz) n0 65 8 ls [] (M, S) (vl_i 22 (gwH w) B S K) := by
  unfold e_A_workR_8b at h
  rcases Nat.eq_zero_or_pos n0 with e0 | hp
  · rw [e0]; exact lx_zero
  refine l1 (n := 2) rfl rfl rfl (li_of a4) ?_
  refine l_if rfl iv4 (fun c => ?_) (fun c => ?_)
  · replace h := h.1 c
    exact Z_A_workR_164 hS hR  h
  · replace h := h.2 c
    refine l1 (n := 2) rfl rfl rfl (li_of a4) ?_
    refine l1 (n := 1) rfl rfl rfl (la_of a1) ?_
    refine l_gi rfl (ko_1 hS mv1) rfl (fun _ => rfl) ?_
    refine l_ic rfl iv4 (inr_gi _ _ _) (fun c => ?_) (fun c => ?_)
    · replace h := h.1 c
      exact Z_A_workR_164 hS hR  h
    · replace h := h.2 c
      refine l1 (n := 1) rfl rfl rfl (la_of a1) ?_
      refine l_gr rfl (ko_1 hS mv1) rfl (fun _ => rfl) (kf_1_14 hR.2 mv1) ?_
      refine l1 (n := 2) rfl rfl rfl (li_of a4) ?_
      refine b_ia rfl (jgt_1_14 (w := w) (fz := fz) hS mv1).1 (Nat.le_of_ble_eq_true rfl) iv4 (fun q => ?_)
      replace h := h q
      refine l_s1 (n := 2) rfl rfl rfl rfl (fun ls y1 ho => ?_)
      have y2 := ho 0 _ (by decide) (fun q => by cases q.2) a0
      have y3 := ho 1 _ (by decide) (fun q => by cases q.2) a1
      have y4 := ho 3 _ (by decide) (fun q => by cases q.2) a3
      have y5 := ho 4 _ (by decide) (fun q => by cases q.2) a4
      refine l1 (n := 2) rfl rfl rfl (li_of y1) ?_
      refine l_if rfl (inr_gi _ _ _) (fun c => ?_) (fun c => ?_)
      · replace h := h.2 c
        refine l1 (n := 2) rfl rfl rfl (li_of y1) ?_
        refine l1 (n := 1) rfl rfl rfl rfl ?_
        refine l_ic rfl (inr_gi _ _ _) ⟨by decide, by decide⟩ (fun c => ?_) (fun c => ?_)
        · replace h := h.2 c
          refine l1 (n := 2) rfl rfl rfl (li_of y1) ?_
          refine l1 (n := 1) rfl rfl rfl rfl ?_
          refine l_ic rfl (inr_gi _ _ _) ⟨by decide, by decide⟩ (fun c => ?_) (fun c => ?_)
          · replace h := h.2 c
            refine l1 (n := 2) rfl rfl rfl (li_of y1) ?_
            refine l1 (n := 1) rfl rfl rfl rfl ?_
            refine l_ic rfl (inr_gi _ _ _) ⟨by decide, by decide⟩ (fun c => ?_) (fun c => ?_)
            · replace h := h.2 c
              refine l1 (n := 1) rfl rfl rfl (la_of y2) ?_
              refine b_iv (c := v0) (as := []) (rest := []) rfl (by decide) (jgo_5 (w := w) hS mv0) rfl rfl (Nat.le_of_ble_eq_true rfl) (fun hq => ?_)
              refine lx_mono (Z_A_pop_m hS hR mv0 h) ?_
              rintro _ _ ⟨z1, M1, rfl, rfl, r1, h⟩
              refine l_s2 (n := 2) rfl rfl rfl rfl (fun ls y6 ho => ?_)
              have y7 := ho 0 _ (by decide) (by decide) (fun q => by cases q.2) y2
              have y8 := ho 1 _ (by decide) (by decide) (fun q => by cases q.2) y3
              have y9 := ho 3 _ (by decide) (by decide) (fun q => by cases q.2) y4
              have y10 := ho 4 _ (by decide) (by decide) (fun q => by cases q.2) y5
              have y11 := ho 5 _ (by decide) (by decide) (fun q => by cases q.2) y1
              refine l1 (n := 1) rfl rfl rfl (la_of y7) ?_
              refine b_iv (c := v0) (as := []) (rest := []) rfl (by decide) (jgo_5 (w := w) hS mv0) rfl rfl (Nat.le_of_ble_eq_true rfl) (fun hq => ?_)
              refine lx_mono (Z_A_pop_m hS r1 mv0 h) ?_
              rintro _ _ ⟨z2, M2, rfl, rfl, r2, h⟩
              refine l_s2 (n := 2) rfl rfl rfl rfl (fun ls y12 ho => ?_)
              have y13 := ho 0 _ (by decide) (by decide) (fun q => by cases q.2) y7
              have y14 := ho 1 _ (by decide) (by decide) (fun q => by cases q.2) y8
              have y15 := ho 3 _ (by decide) (by decide) (fun q => by cases q.2) y9
              have y16 := ho 4 _ (by decide) (by decide) (fun q => by cases q.2) y10
              have y17 := ho 5 _ (by decide) (by decide) (fun q => by cases q.2) y11
              have y18 := ho 6 _ (by decide) (by decide) (fun q => absurd q.1 (by decide)) y6
              refine l1 (n := 2) rfl rfl rfl (ll_of y18) ?_
              refine l1 (n := 1) rfl rfl rfl rfl ?_
              refine l_op (T := (lg_cmp z1 (Int64.ofNat 0))) rfl rfl rfl ?_
              refine l_if rfl (inr_ti _) (fun c => ?_) (fun c => ?_)
              · replace h := h.2 c
                exact Z_A_workR_145 hS r2 mv0 mv1 mv3 iv4 (inr_gi _ _ _) y13 y14 y15 y16 y17 y18 y12 (fun n' hn' => hb8 n' (by omega)) h
              · replace h := h.1 (Classical.not_not.mp c)
                refine l1 (n := 2) rfl rfl rfl (li_of y17) ?_
                refine l_bi rfl (by decide) ?_
                refine l_ic rfl (inr_gi _ _ _) ⟨by decide, by decide⟩ (fun c => ?_) (fun c => ?_)
                · replace h := h.1 c
                  exact Z_A_workR_143 hS r2  h
                · replace h := h.2 c
                  refine l1 (n := 2) rfl rfl rfl (li_of y17) ?_
                  refine l_bi rfl (by decide) ?_
                  refine l_ic rfl (inr_gi _ _ _) ⟨by decide, by decide⟩ (fun c => ?_) (fun c => ?_)
                  · replace h := h.2 c
                    exact Z_A_workR_145 hS r2 mv0 mv1 mv3 iv4 (inr_gi _ _ _) y13 y14 y15 y16 y17 y18 y12 (fun n' hn' => hb8 n' (by omega)) h
                  · replace h := h.1 (Classical.not_not.mp c)
                    exact Z_A_workR_143 hS r2  h
            · replace h := h.1 (Classical.not_not.mp c)
              refine l1 (n := 1) rfl rfl rfl (la_of y2) ?_
              refine l1 (n := 1) rfl rfl rfl (la_of y2) ?_
              refine b_iv (c := v0) (as := []) (rest := [.ref v0]) rfl (by decide) (jgo_5 (w := w) hS mv0) rfl rfl (Nat.le_of_ble_eq_true rfl) (fun hq => ?_)
              refine lx_mono (Z_A_pop_m hS hR mv0 h) ?_
              rintro _ _ ⟨z3, M3, rfl, rfl, r3, h⟩
              refine l0 rfl rfl rfl ?_
              refine b_iv (c := v0) (as := [.long (-z3)]) (rest := []) rfl (by decide) (jgo_5 (w := w) hS mv0) rfl rfl (Nat.le_of_ble_eq_true rfl) (fun hq => ?_)
              refine lx_mono (Z_A_push_m hS r3 mv0 h) ?_
              rintro _ _ ⟨M4, rfl, rfl, r4, h⟩
              refine l3 rfl rfl rfl ?_
              exact Z_A_workR_158 hS r4 mv0 mv1 mv3 iv4 y2 y3 y4 y5 (fun n' hn' => hb8 n' (by omega)) h
          · replace h := h.1 (Classical.not_not.mp c)
            refine l1 (n := 1) rfl rfl rfl (la_of y4) ?_
            refine l1 (n := 1) rfl rfl rfl (la_of y3) ?_
            refine l_gr rfl (ko_1 hS mv1) rfl (fun _ => rfl) (kf_1_15 hR.2 mv1) ?_
            refine l1 (n := 2) rfl rfl rfl (li_of y5) ?_
            refine b_ia rfl (jgt_1_15 (w := w) (fz := fz) hS mv1).1 (Nat.le_of_ble_eq_true rfl) iv4 (fun q => ?_)
            replace h := h q
            refine b_iv (c := v3) (as := [zv (gi M (v1 + 11) (v4).toNat)]) (rest := []) rfl (by decide) (jgo_7 (w := w) hS mv3) rfl rfl (Nat.le_of_ble_eq_true rfl) (fun hq => ?_)
            refine lx_mono (Z_R_find_m hS hR mv3 (inr_gi _ _ _) h) ?_
            rintro _ _ ⟨z5, M5, rfl, rfl, r5, iz5, h⟩
            refine l_if rfl iz5 (fun c => ?_) (fun c => ?_)
            · replace h := h.2 c
              refine l1 (n := 1) rfl rfl rfl (la_of y2) ?_
              refine l1 (n := 1) rfl rfl rfl (la_of y4) ?_
              refine l_gl rfl (jgo_7 (w := w) hS mv3) rfl (fun _ => rfl) ?_
              refine b_iv (c := v0) (as := [.long (gl M5 v3 10)]) (rest := []) rfl (by decide) (jgo_5 (w := w) hS mv0) rfl rfl (Nat.le_of_ble_eq_true rfl) (fun hq => ?_)
              refine lx_mono (Z_A_push_m hS r5 mv0 h) ?_
              rintro _ _ ⟨M6, rfl, rfl, r6, h⟩
              refine l3 rfl rfl rfl ?_
              exact Z_A_workR_158 hS r6 mv0 mv1 mv3 iv4 y2 y3 y4 y5 (fun n' hn' => hb8 n' (by omega)) h
            · replace h := h.1 (Classical.not_not.mp c)
              refine l1 (n := 1) rfl rfl rfl rfl ?_
              exact l_ri rfl rfl ⟨by decide, by decide⟩ r5 h
        · replace h := h.1 (Classical.not_not.mp c)
          refine l1 (n := 1) rfl rfl rfl (la_of y2) ?_
          refine l1 (n := 1) rfl rfl rfl (la_of y3) ?_
          refine l_gr rfl (ko_1 hS mv1) rfl (fun _ => rfl) (kf_1_15 hR.2 mv1) ?_
          refine l1 (n := 2) rfl rfl rfl (li_of y5) ?_
          refine b_ia rfl (jgt_1_15 (w := w) (fz := fz) hS mv1).1 (Nat.le_of_ble_eq_true rfl) iv4 (fun q => ?_)
          replace h := h q
          refine l0 rfl rfl rfl ?_
          refine b_iv (c := v0) (as := [.long (Int32.ofInt (gi M (v1 + 11) (v4).toNat)).toInt64]) (rest := []) rfl (by decide) (jgo_5 (w := w) hS mv0) rfl rfl (Nat.le_of_ble_eq_true rfl) (fun hq => ?_)
          refine lx_mono (Z_A_push_m hS hR mv0 h) ?_
          rintro _ _ ⟨M7, rfl, rfl, r7, h⟩
          refine l3 rfl rfl rfl ?_
          exact Z_A_workR_158 hS r7 mv0 mv1 mv3 iv4 y2 y3 y4 y5 (fun n' hn' => hb8 n' (by omega)) h
      · replace h := h.1 (Classical.not_not.mp c)
        refine l1 (n := 1) rfl rfl rfl rfl ?_
        exact l_ri rfl rfl ⟨by decide, by decide⟩ hR h
def e_A_workR_8 (v0 : Nat) (v1 : Nat) (v3 : Nat) (v4 : Int) (M : rf_M) (K : Int → rf_M → Prop) : Prop := ∃ Inv : Nat → Nat → Nat → Int → rf_M → Prop, Inv v0 v1 v3 v4 M ∧ ∀ (v0 : Nat) (v1 : Nat) (v3 : Nat) (v4 : Int) (M : rf_M), inr v4 → Inv v0 v1 v3 v4 M → e_A_workR_8b v0 v1 v3 v4 M Inv K
theorem Z_A_workR_8 {w fz : Bool} {S : gS} {B : rf_M} {M : rf_M} {ls : rf_L} {n0 : Nat} {v0 : Nat} {v1 : Nat} {v3 : Nat} {v4 : Int} {K : Int → rf_M → Prop} (hS : rl S) (hR : fl 22 (gwH w) B M) (mv0 : v0 ∈ gwL5 w) (mv1 : v1 ∈ k1) (mv3 : v3 ∈ gwL7 w) (iv4 : inr v4) (a0 : rf_ld ls 0 = some (.ref v0)) (a1 : rf_ld ls 1 = some (.ref v1)) (a3 : rf_ld ls 3 = some (.ref v3)) (a4 : rf_ld ls 4 = some (zv v4)) (h : e_A_workR_8 v0 v1 v3 v4 M K) : lx (cx0 fz) n0 65 8 ls [] (M, S) (vl_i 22 (gwH w) B S K) := by
  obtain ⟨Inv, hm, hb⟩ := h
  induction n0 using Nat.strongRecOn generalizing ls M v0 v1 v3 v4 with
  | _ n0 ih =>
    refine Z_A_workR_8b hS hR mv0 mv1 mv3 iv4 a0 a1 a3 a4 (fun n' hn' v0' v1' v3' v4' M' ls' hR' f0 f1 f2 f3 f4 f5 f6 f7 q2 => ih n' hn' hR' f0 f1 f2 f3 f4 f5 f6 f7 q2) (hb v0 v1 v3 v4 M iv4 hm)
def e_A_workR (v0 : Nat) (v1 : Nat) (v2 : Int) (v3 : Nat) (M : rf_M) (K : Int → rf_M → Prop) : Prop := ∀ M1 : rf_M, M1 = wi M v0 1 0 → (e_A_workR_8 v0 v1 v3 v2 M1 K)
theorem Z_A_workR {w fz : Bool} {S : gS} {B : rf_M} {M : rf_M} {ls : rf_L} {n0 : Nat} {v0 : Nat} {v1 : Nat} {v2 : Int} {v3 : Nat} {K : Int → rf_M → Prop} (hS : rl S) (hR : fl 22 (gwH w) B M) (mv0 : v0 ∈ gwL5 w) (mv1 : v1 ∈ k1) (iv2 : inr v2) (mv3 : v3 ∈ gwL7 w) (a0 : rf_ld ls 0 = some (.ref v0)) (a1 : rf_ld ls 1 = some (.ref v1)) (a2 : rf_ld ls 2 = some (zv v2)) (a3 : rf_ld ls 3 = some (.ref v3)) (h : e_A_workR v0 v1 v2 v3 M K) : lx (cx0 fz) n0 65 0 ls [] (M, S) (vl_i 22 (gwH w) B S K) := by
  unfold e_A_workR at h
  refine l1 (n := 1) rfl rfl rfl (la_of a0) ?_
  refine l1 (n := 1) rfl rfl rfl rfl ?_
  refine l_pi rfl (jgo_5 (w := w) (fz := fz) hS mv0) rfl (fun _ _ => rfl) (fun M1 e => ?_)
  replace h := h M1 e
  have r1 := hR.wi (jgo_5 (w := w) (fz := fz) hS mv0).1 (jgl_5 (w := w) mv0) e
  refine l1 (n := 1) rfl rfl rfl (li_of a2) ?_
  refine l_s1 (n := 2) rfl rfl rfl rfl (fun ls y1 ho => ?_)
  have y2 := ho 0 _ (by decide) (fun q => by cases q.2) a0
  have y3 := ho 1 _ (by decide) (fun q => by cases q.2) a1
  have y4 := ho 3 _ (by decide) (fun q => by cases q.2) a3
  exact Z_A_workR_8 hS r1 mv0 mv1 mv3 iv2 y2 y3 y4 y1 h
def em_A_workR (x0 : Nat) (x1 : Nat) (x2 : Int) (x3 : Nat) (M : rf_M) (K : Int → rf_M → Prop) : Prop := e_A_workR x0 x1 x2 x3 M K
theorem Z_A_workR_m {w fz : Bool} {S : gS} {B : rf_M} {M : rf_M} {n0 : Nat} {x0 : Nat} {x1 : Nat} {x2 : Int} {x3 : Nat} {K : Int → rf_M → Prop} (hS : rl S) (hR : fl 22 (gwH w) B M) (mx0 : x0 ∈ gwL5 w) (mx1 : x1 ∈ k1) (ix2 : inr x2) (mx3 : x3 ∈ gwL7 w) (h : em_A_workR x0 x1 x2 x3 M K) : lx (cx0 fz) n0 65 0 (lv_args 0 [.ref x0, .ref x1, zv x2, .ref x3]) [] (M, S) (vl_i 22 (gwH w) B S K) :=
  Z_A_workR hS hR mx0 mx1 ix2 mx3 rfl rfl rfl rfl h
def e_D_assign_51 (M : rf_M) (K : rf_M → Prop) : Prop := K M
theorem Z_D_assign_51 {w fz : Bool} {S : gS} {B : rf_M} {M : rf_M} {ls : rf_L} {n0 : Nat} {K : rf_M → Prop} (hS : rl S) (hR : fl 22 (gwH w) B M) (h : e_D_assign_51 M K) : lx (cx0 fz) n0 100 51 ls [] (M, S) (vl_v 22 (gwH w) B S K) := by
  unfold e_D_assign_51 at h
  exact l_rv rfl rfl hR h
def e_D_assign (v0 : Nat) (v1 : Int) (v2 : Int64) (M : rf_M) (K : rf_M → Prop) : Prop := em_M_isCell v1 M (fun (z1 : Int) (M1 : rf_M) => (z1 = 0 → ((v1 < 16 → (e_D_assign_51 M1 K)) ∧ (¬ (v1 < 16) → ((26 ≤ v1 → (e_D_assign_51 M1 K)) ∧ (¬ (26 ≤ v1) → (inr (v1 - 16) ∧ ((0 ≤ (v1 - 16) ∧ (v1 - 16) < 10 → (∀ M2 : rf_M, M2 = wl M1 (v0 + 2) (v1 - 16).toNat v2 → (e_D_assign_51 M2 K)))))))))) ∧ (¬ (z1 = 0) → ((0 ≤ v1 ∧ v1 < 16 → (∀ M3 : rf_M, M3 = wl M1 (v0 + 1) (v1).toNat v2 → (∀ M4 : rf_M, M4 = wi M3 v0 0 (Int32.ofInt (gi M3 v0 0) ||| Int32.ofInt (Int32.ofInt 1 <<< (Int32.ofInt v1 &&& 31)).toInt).toInt → (e_D_assign_51 M4 K)))))))
theorem Z_D_assign {w fz : Bool} {S : gS} {B : rf_M} {M : rf_M} {ls : rf_L} {n0 : Nat} {v0 : Nat} {v1 : Int} {v2 : Int64} {K : rf_M → Prop} (hS : rl S) (hR : fl 22 (gwH w) B M) (mv0 : v0 ∈ gwL8 w) (iv1 : inr v1) (a0 : rf_ld ls 0 = some (.ref v0)) (a1 : rf_ld ls 1 = some (zv v1)) (a2 : rf_ld ls 2 = some (.long v2)) (h : e_D_assign v0 v1 v2 M K) : lx (cx0 fz) n0 100 0 ls [] (M, S) (vl_v 22 (gwH w) B S K) := by
  unfold e_D_assign at h
  refine l1 (n := 1) rfl rfl rfl (li_of a1) ?_
  refine b_st (as := [zv v1]) (rest := []) rfl (by decide) rfl (Nat.le_of_ble_eq_true rfl) (fun hq => ?_)
  refine lx_mono (Z_M_isCell_m hS hR iv1 h) ?_
  rintro _ _ ⟨z1, M1, rfl, rfl, r1, iz1, h⟩
  refine l_if rfl iz1 (fun c => ?_) (fun c => ?_)
  · replace h := h.1 c
    refine l1 (n := 1) rfl rfl rfl (li_of a1) ?_
    refine l_bi rfl (by decide) ?_
    refine l_ic rfl iv1 ⟨by decide, by decide⟩ (fun c => ?_) (fun c => ?_)
    · replace h := h.1 c
      exact Z_D_assign_51 hS r1  h
    · replace h := h.2 c
      refine l1 (n := 1) rfl rfl rfl (li_of a1) ?_
      refine l_bi rfl (by decide) ?_
      refine l_ic rfl iv1 ⟨by decide, by decide⟩ (fun c => ?_) (fun c => ?_)
      · replace h := h.1 c
        exact Z_D_assign_51 hS r1  h
      · replace h := h.2 c
        refine l1 (n := 1) rfl rfl rfl (la_of a0) ?_
        refine l_gr rfl (jgo_8 (w := w) hS mv0) rfl (fun _ => rfl) (jgf_8_2 (w := w) r1.2 mv0) ?_
        refine l1 (n := 1) rfl rfl rfl (li_of a1) ?_
        refine l_bi rfl (by decide) ?_
        refine l_sub rfl ?_
        refine l1 (n := 1) rfl rfl rfl (ll_of a2) ?_
        obtain ⟨i1, h⟩ := h
        refine b_ls rfl (jgt_8_2 (w := w) (fz := fz) hS mv0).1 (Nat.le_of_ble_eq_true rfl) i1 (fun q M2 e => ?_)
        replace h := h q M2 e
        have r2 := r1.wl (jgt_8_2 (w := w) (fz := fz) hS mv0).1.1 (jgt_8_2 (w := w) (fz := fz) hS mv0).2 e
        exact Z_D_assign_51 hS r2  h
  · replace h := h.2 c
    refine l1 (n := 1) rfl rfl rfl (la_of a0) ?_
    refine l_gr rfl (jgo_8 (w := w) hS mv0) rfl (fun _ => rfl) (jgf_8_1 (w := w) r1.2 mv0) ?_
    refine l1 (n := 1) rfl rfl rfl (li_of a1) ?_
    refine l1 (n := 1) rfl rfl rfl (ll_of a2) ?_
    refine b_ls rfl (jgt_8_1 (w := w) (fz := fz) hS mv0).1 (Nat.le_of_ble_eq_true rfl) iv1 (fun q M3 e => ?_)
    replace h := h q M3 e
    have r3 := r1.wl (jgt_8_1 (w := w) (fz := fz) hS mv0).1.1 (jgt_8_1 (w := w) (fz := fz) hS mv0).2 e
    refine l1 (n := 1) rfl rfl rfl (la_of a0) ?_
    refine l0 rfl rfl rfl ?_
    refine l_gi rfl (jgo_8 (w := w) hS mv0) rfl (fun _ => rfl) ?_
    refine l1 (n := 1) rfl rfl rfl rfl ?_
    refine l1 (n := 1) rfl rfl rfl (li_of a1) ?_
    refine l_op (T := (Int32.ofInt 1 <<< (Int32.ofInt v1 &&& 31))) rfl rfl rfl ?_
    refine l_op (T := (Int32.ofInt (gi M3 v0 0) ||| Int32.ofInt (Int32.ofInt 1 <<< (Int32.ofInt v1 &&& 31)).toInt)) rfl rfl rfl ?_
    refine l_pi rfl (jgo_8 (w := w) (fz := fz) hS mv0) rfl (fun _ _ => rfl) (fun M4 e => ?_)
    replace h := h M4 e
    have r4 := r3.wi (jgo_8 (w := w) (fz := fz) hS mv0).1 (jgl_8 (w := w) mv0) e
    refine l3 rfl rfl rfl ?_
    exact Z_D_assign_51 hS r4  h
def em_D_assign (x0 : Nat) (x1 : Int) (x2 : Int64) (M : rf_M) (K : rf_M → Prop) : Prop := e_D_assign x0 x1 x2 M K
theorem Z_D_assign_m {w fz : Bool} {S : gS} {B : rf_M} {M : rf_M} {n0 : Nat} {x0 : Nat} {x1 : Int} {x2 : Int64} {K : rf_M → Prop} (hS : rl S) (hR : fl 22 (gwH w) B M) (mx0 : x0 ∈ gwL8 w) (ix1 : inr x1) (h : em_D_assign x0 x1 x2 M K) : lx (cx0 fz) n0 100 0 (lv_args 0 [.ref x0, zv x1, .long x2]) [] (M, S) (vl_v 22 (gwH w) B S K) :=
  Z_D_assign hS hR mx0 ix1 rfl rfl rfl h
def e_R_toss (v0 : Nat) (v1 : Int64) (M : rf_M) (K : Int → rf_M → Prop) : Prop := isP M v0 0 ∧ (em_P_around (gr M v0 0) (gi M v0 6) 17 M (fun (z1 : Int) (M1 : rf_M) => (z1 = (-1) → (∀ M6 : rf_M, M6 = wl M1 v0 3 v1 → (K 2 M6))) ∧ (¬ z1 = (-1) → (isP M1 v0 0 ∧ ((0 ≤ z1 ∧ z1 < 40 → (em_D_takeBack (v0 + 2) (gi M1 ((gr M1 v0 0) + 6) (z1).toNat) M1 (fun (M2 : rf_M) => isP M2 v0 0 ∧ ((0 ≤ z1 ∧ z1 < 40 → (em_D_assign (v0 + 2) (gi M2 ((gr M2 v0 0) + 2) (z1).toNat) v1 M2 (fun (M3 : rf_M) => isP M3 v0 0 ∧ (isP M3 v0 0 ∧ ((0 ≤ z1 ∧ z1 < 40 → (em_P_into (gr M3 v0 0) z1 (gi M3 ((gr M3 v0 0) + 9) (z1).toNat) M3 (fun (z4 : Int) (M4 : rf_M) => ∀ M5 : rf_M, M5 = wi M4 v0 6 z4 → (K 0 M5))))))))))))))))))
theorem Z_R_toss {w fz : Bool} {S : gS} {B : rf_M} {M : rf_M} {ls : rf_L} {n0 : Nat} {v0 : Nat} {v1 : Int64} {K : Int → rf_M → Prop} (hS : rl S) (hR : fl 22 (gwH w) B M) (mv0 : v0 ∈ gwL7 w) (a0 : rf_ld ls 0 = some (.ref v0)) (a1 : rf_ld ls 1 = some (.long v1)) (h : e_R_toss v0 v1 M K) : lx (cx0 fz) n0 99 0 ls [] (M, S) (vl_i 22 (gwH w) B S K) := by
  unfold e_R_toss at h
  refine l1 (n := 1) rfl rfl rfl (la_of a0) ?_
  obtain ⟨q1, h⟩ := h
  refine l_gr rfl (jgo_7 (w := w) hS mv0) rfl (fun _ => rfl) q1.1 ?_
  refine l1 (n := 1) rfl rfl rfl (la_of a0) ?_
  refine l_gi rfl (jgo_7 (w := w) hS mv0) rfl (fun _ => rfl) ?_
  refine l_bi rfl (by decide) ?_
  refine b_iv (c := (gr M v0 0)) (as := [zv (gi M v0 6), zv 17]) (rest := []) rfl (by decide) (ko_1 hS q1.2) rfl rfl (Nat.le_of_ble_eq_true rfl) (fun hq => ?_)
  refine lx_mono (Z_P_around_m hS hR q1.2 (inr_gi _ _ _) ⟨by decide, by decide⟩ h) ?_
  rintro _ _ ⟨z1, M1, rfl, rfl, r1, iz1, h⟩
  refine l_s1 (n := 1) rfl rfl rfl rfl (fun ls y1 ho => ?_)
  have y2 := ho 0 _ (by decide) (fun q => by cases q.2) a0
  have y3 := ho 1 _ (by decide) (fun q => absurd q.1 (by decide)) a1
  refine l1 (n := 1) rfl rfl rfl (li_of y1) ?_
  refine l1 (n := 1) rfl rfl rfl rfl ?_
  refine l_ic rfl iz1 ⟨by decide, by decide⟩ (fun c => ?_) (fun c => ?_)
  · replace h := h.2 c
    refine l1 (n := 1) rfl rfl rfl (la_of y2) ?_
    refine l_gr rfl (jgo_7 (w := w) hS mv0) rfl (fun _ => rfl) (jgf_7_5 (w := w) r1.2 mv0) ?_
    refine l1 (n := 1) rfl rfl rfl (la_of y2) ?_
    obtain ⟨q2, h⟩ := h
    refine l_gr rfl (jgo_7 (w := w) hS mv0) rfl (fun _ => rfl) q2.1 ?_
    refine l_gr rfl (ko_1 hS q2.2) rfl (fun _ => rfl) (kf_1_10 r1.2 q2.2) ?_
    refine l1 (n := 1) rfl rfl rfl (li_of y1) ?_
    refine b_ia rfl (jgt_1_10 (w := w) (fz := fz) hS q2.2).1 (Nat.le_of_ble_eq_true rfl) iz1 (fun q => ?_)
    replace h := h q
    refine b_iv (c := (v0 + 2)) (as := [zv (gi M1 ((gr M1 v0 0) + 6) (z1).toNat)]) (rest := []) rfl (by decide) (jgo_8 (w := w) hS (jgt_7_5 (w := w) mv0)) rfl rfl (Nat.le_of_ble_eq_true rfl) (fun hq => ?_)
    refine lx_mono (Z_D_takeBack_m hS r1 (jgt_7_5 (w := w) mv0) (inr_gi _ _ _) h) ?_
    rintro _ _ ⟨M2, rfl, rfl, r2, h⟩
    refine l1 (n := 1) rfl rfl rfl (la_of y2) ?_
    refine l_gr rfl (jgo_7 (w := w) hS mv0) rfl (fun _ => rfl) (jgf_7_5 (w := w) r2.2 mv0) ?_
    refine l1 (n := 1) rfl rfl rfl (la_of y2) ?_
    obtain ⟨q3, h⟩ := h
    refine l_gr rfl (jgo_7 (w := w) hS mv0) rfl (fun _ => rfl) q3.1 ?_
    refine l_gr rfl (ko_1 hS q3.2) rfl (fun _ => rfl) (kf_1_6 r2.2 q3.2) ?_
    refine l1 (n := 1) rfl rfl rfl (li_of y1) ?_
    refine b_ia rfl (jgt_1_6 (w := w) (fz := fz) hS q3.2).1 (Nat.le_of_ble_eq_true rfl) iz1 (fun q => ?_)
    replace h := h q
    refine l1 (n := 1) rfl rfl rfl (ll_of y3) ?_
    refine b_iv (c := (v0 + 2)) (as := [zv (gi M2 ((gr M2 v0 0) + 2) (z1).toNat), .long v1]) (rest := []) rfl (by decide) (jgo_8 (w := w) hS (jgt_7_5 (w := w) mv0)) rfl rfl (Nat.le_of_ble_eq_true rfl) (fun hq => ?_)
    refine lx_mono (Z_D_assign_m hS r2 (jgt_7_5 (w := w) mv0) (inr_gi _ _ _) h) ?_
    rintro _ _ ⟨M3, rfl, rfl, r3, h⟩
    refine l1 (n := 1) rfl rfl rfl (la_of y2) ?_
    refine l1 (n := 1) rfl rfl rfl (la_of y2) ?_
    obtain ⟨q4, h⟩ := h
    refine l_gr rfl (jgo_7 (w := w) hS mv0) rfl (fun _ => rfl) q4.1 ?_
    refine l1 (n := 1) rfl rfl rfl (li_of y1) ?_
    refine l1 (n := 1) rfl rfl rfl (la_of y2) ?_
    obtain ⟨q5, h⟩ := h
    refine l_gr rfl (jgo_7 (w := w) hS mv0) rfl (fun _ => rfl) q5.1 ?_
    refine l_gr rfl (ko_1 hS q5.2) rfl (fun _ => rfl) (kf_1_13 r3.2 q5.2) ?_
    refine l1 (n := 1) rfl rfl rfl (li_of y1) ?_
    refine b_ia rfl (jgt_1_13 (w := w) (fz := fz) hS q5.2).1 (Nat.le_of_ble_eq_true rfl) iz1 (fun q => ?_)
    replace h := h q
    refine b_iv (c := (gr M3 v0 0)) (as := [zv z1, zv (gi M3 ((gr M3 v0 0) + 9) (z1).toNat)]) (rest := [.ref v0]) rfl (by decide) (ko_1 hS q4.2) rfl rfl (Nat.le_of_ble_eq_true rfl) (fun hq => ?_)
    refine lx_mono (Z_P_into_m hS r3 q4.2 iz1 (inr_gi _ _ _) h) ?_
    rintro _ _ ⟨z4, M4, rfl, rfl, r4, iz4, h⟩
    refine l_pi rfl (jgo_7 (w := w) (fz := fz) hS mv0) rfl (fun _ _ => rfl) (fun M5 e => ?_)
    replace h := h M5 e
    have r5 := r4.wi (jgo_7 (w := w) (fz := fz) hS mv0).1 (jgl_7 (w := w) mv0) e
    refine l1 (n := 1) rfl rfl rfl rfl ?_
    exact l_ri rfl rfl ⟨by decide, by decide⟩ r5 h
  · replace h := h.1 (Classical.not_not.mp c)
    refine l1 (n := 1) rfl rfl rfl (la_of y2) ?_
    refine l1 (n := 1) rfl rfl rfl (ll_of y3) ?_
    refine l_pl rfl (jgo_7 (w := w) (fz := fz) hS mv0) rfl (fun _ _ => rfl) (fun M6 e => ?_)
    replace h := h M6 e
    have r6 := r1.wl (jgo_7 (w := w) (fz := fz) hS mv0).1 (jgl_7 (w := w) mv0) e
    refine l1 (n := 1) rfl rfl rfl rfl ?_
    exact l_ri rfl rfl ⟨by decide, by decide⟩ r6 h
def em_R_toss (x0 : Nat) (x1 : Int64) (M : rf_M) (K : Int → rf_M → Prop) : Prop := e_R_toss x0 x1 M K
theorem Z_R_toss_m {w fz : Bool} {S : gS} {B : rf_M} {M : rf_M} {n0 : Nat} {x0 : Nat} {x1 : Int64} {K : Int → rf_M → Prop} (hS : rl S) (hR : fl 22 (gwH w) B M) (mx0 : x0 ∈ gwL7 w) (h : em_R_toss x0 x1 M K) : lx (cx0 fz) n0 99 0 (lv_args 0 [.ref x0, .long x1]) [] (M, S) (vl_i 22 (gwH w) B S K) :=
  Z_R_toss hS hR mx0 rfl rfl h
def e_R_walkExp_200 (s0 : Nat) (s1 : Int) (M : rf_M) (K : Int → rf_M → Prop) : Prop := ∀ M1 : rf_M, M1 = wi M s0 6 s1 → (K 0 M1)
theorem Z_R_walkExp_200 {w fz : Bool} {S : gS} {B : rf_M} {M : rf_M} {ls : rf_L} {n0 : Nat} {s0 : Nat} {s1 : Int} {K : Int → rf_M → Prop} (hS : rl S) (hR : fl 22 (gwH w) B M) (ms0 : s0 ∈ gwL7 w) (is1 : inr s1) (h : e_R_walkExp_200 s0 s1 M K) : lx (cx0 fz) n0 98 200 ls [zv s1, .ref s0] (M, S) (vl_i 22 (gwH w) B S K) := by
  unfold e_R_walkExp_200 at h
  refine l_pi rfl (jgo_7 (w := w) (fz := fz) hS ms0) rfl (fun _ _ => rfl) (fun M1 e => ?_)
  replace h := h M1 e
  have r1 := hR.wi (jgo_7 (w := w) (fz := fz) hS ms0).1 (jgl_7 (w := w) ms0) e
  refine l1 (n := 1) rfl rfl rfl rfl ?_
  exact l_ri rfl rfl ⟨by decide, by decide⟩ r1 h
def e_R_walkExp_148 (s0 : Nat) (s1 : Nat) (s2 : Int) (s3 : Int) (M : rf_M) (K : Int → rf_M → Prop) : Prop := em_P_into s1 s2 s3 M (fun (z1 : Int) (M1 : rf_M) => ∀ M2 : rf_M, M2 = wi M1 s0 6 z1 → (K 0 M2))
theorem Z_R_walkExp_148 {w fz : Bool} {S : gS} {B : rf_M} {M : rf_M} {ls : rf_L} {n0 : Nat} {s0 : Nat} {s1 : Nat} {s2 : Int} {s3 : Int} {K : Int → rf_M → Prop} (hS : rl S) (hR : fl 22 (gwH w) B M) (ms0 : s0 ∈ gwL7 w) (ms1 : s1 ∈ k1) (is2 : inr s2) (is3 : inr s3) (h : e_R_walkExp_148 s0 s1 s2 s3 M K) : lx (cx0 fz) n0 98 148 ls [zv s3, zv s2, .ref s1, .ref s0] (M, S) (vl_i 22 (gwH w) B S K) := by
  unfold e_R_walkExp_148 at h
  refine b_iv (c := s1) (as := [zv s2, zv s3]) (rest := [.ref s0]) rfl (by decide) (ko_1 hS ms1) rfl rfl (Nat.le_of_ble_eq_true rfl) (fun hq => ?_)
  refine lx_mono (Z_P_into_m hS hR ms1 is2 is3 h) ?_
  rintro _ _ ⟨z1, M1, rfl, rfl, r1, iz1, h⟩
  refine l_pi rfl (jgo_7 (w := w) (fz := fz) hS ms0) rfl (fun _ _ => rfl) (fun M2 e => ?_)
  replace h := h M2 e
  have r2 := r1.wi (jgo_7 (w := w) (fz := fz) hS ms0).1 (jgl_7 (w := w) ms0) e
  refine l1 (n := 1) rfl rfl rfl rfl ?_
  exact l_ri rfl rfl ⟨by decide, by decide⟩ r2 h
def e_R_walkExp (v0 : Nat) (M : rf_M) (K : Int → rf_M → Prop) : Prop := isP M v0 0 ∧ (isP M v0 0 ∧ ((0 ≤ (gi M v0 6) ∧ (gi M v0 6) < 40 → (em_A_workR (v0 + 11) (gr M v0 0) (gi M ((gr M v0 0) + 3) (gi M v0 6).toNat) v0 M (fun (z1 : Int) (M1 : rf_M) => (z1 = 1 → (K 3 M1)) ∧ (¬ z1 = 1 → ((z1 = 2 → (em_R_toss v0 (Int64.ofNat 18446744073709551615) M1 (fun (z9 : Int) (M9 : rf_M) => K z9 M9))) ∧ (¬ z1 = 2 → (em_A_result (v0 + 11) M1 (fun (z2 : Int64) (M2 : rf_M) => isP M2 v0 0 ∧ ((0 ≤ (gi M2 v0 6) ∧ (gi M2 v0 6) < 40 → (((gi M2 ((gr M2 v0 0) + 1) (gi M2 v0 6).toNat) = 10 → (isP M2 v0 0 ∧ (((lg_cmp z2 (Int64.ofNat 0)).toInt = 0 → (isP M2 v0 0 ∧ ((0 ≤ (gi M2 v0 6) ∧ (gi M2 v0 6) < 40 → (e_R_walkExp_148 v0 (gr M2 v0 0) (gi M2 v0 6) (gi M2 ((gr M2 v0 0) + 9) (gi M2 v0 6).toNat) M2 K))))) ∧ (¬ ((lg_cmp z2 (Int64.ofNat 0)).toInt = 0) → (isP M2 v0 0 ∧ ((0 ≤ (gi M2 v0 6) ∧ (gi M2 v0 6) < 40 → (e_R_walkExp_148 v0 (gr M2 v0 0) (gi M2 v0 6) (gi M2 ((gr M2 v0 0) + 8) (gi M2 v0 6).toNat) M2 K)))))))) ∧ ((gi M2 ((gr M2 v0 0) + 1) (gi M2 v0 6).toNat) = 12 → (((lg_cmp z2 (Int64.ofNat 0)).toInt = 0 → (isP M2 v0 0 ∧ (em_P_behind (gr M2 v0 0) (gi M2 v0 6) M2 (fun (z3 : Int) (M3 : rf_M) => e_R_walkExp_200 v0 z3 M3 K)))) ∧ (¬ ((lg_cmp z2 (Int64.ofNat 0)).toInt = 0) → (isP M2 v0 0 ∧ (isP M2 v0 0 ∧ ((0 ≤ (gi M2 v0 6) ∧ (gi M2 v0 6) < 40 → (em_P_into (gr M2 v0 0) (gi M2 v0 6) (gi M2 ((gr M2 v0 0) + 8) (gi M2 v0 6).toNat) M2 (fun (z4 : Int) (M4 : rf_M) => e_R_walkExp_200 v0 z4 M4 K))))))))) ∧ ((gi M2 ((gr M2 v0 0) + 1) (gi M2 v0 6).toNat) = 14 → (em_R_toss v0 z2 M2 (fun (z5 : Int) (M5 : rf_M) => K z5 M5))) ∧ (¬ (gi M2 ((gr M2 v0 0) + 1) (gi M2 v0 6).toNat) = 10 ∧ ¬ (gi M2 ((gr M2 v0 0) + 1) (gi M2 v0 6).toNat) = 12 ∧ ¬ (gi M2 ((gr M2 v0 0) + 1) (gi M2 v0 6).toNat) = 14 → (isP M2 v0 0 ∧ ((0 ≤ (gi M2 v0 6) ∧ (gi M2 v0 6) < 40 → (em_D_assign (v0 + 2) (gi M2 ((gr M2 v0 0) + 2) (gi M2 v0 6).toNat) z2 M2 (fun (M6 : rf_M) => isP M6 v0 0 ∧ (em_P_behind (gr M6 v0 0) (gi M6 v0 6) M6 (fun (z7 : Int) (M7 : rf_M) => ∀ M8 : rf_M, M8 = wi M7 v0 6 z7 → (K 0 M8))))))))))))))))))))))
theorem Z_R_walkExp {w fz : Bool} {S : gS} {B : rf_M} {M : rf_M} {ls : rf_L} {n0 : Nat} {v0 : Nat} {K : Int → rf_M → Prop} (hS : rl S) (hR : fl 22 (gwH w) B M) (mv0 : v0 ∈ gwL7 w) (a0 : rf_ld ls 0 = some (.ref v0)) (h : e_R_walkExp v0 M K) : lx (cx0 fz) n0 98 0 ls [] (M, S) (vl_i 22 (gwH w) B S K) := by
  unfold e_R_walkExp at h
  refine l1 (n := 1) rfl rfl rfl (la_of a0) ?_
  refine l_gr rfl (jgo_7 (w := w) hS mv0) rfl (fun _ => rfl) (jgf_7_9 (w := w) hR.2 mv0) ?_
  refine l1 (n := 1) rfl rfl rfl (la_of a0) ?_
  obtain ⟨q1, h⟩ := h
  refine l_gr rfl (jgo_7 (w := w) hS mv0) rfl (fun _ => rfl) q1.1 ?_
  refine l1 (n := 1) rfl rfl rfl (la_of a0) ?_
  obtain ⟨q2, h⟩ := h
  refine l_gr rfl (jgo_7 (w := w) hS mv0) rfl (fun _ => rfl) q2.1 ?_
  refine l_gr rfl (ko_1 hS q2.2) rfl (fun _ => rfl) (kf_1_7 hR.2 q2.2) ?_
  refine l1 (n := 1) rfl rfl rfl (la_of a0) ?_
  refine l_gi rfl (jgo_7 (w := w) hS mv0) rfl (fun _ => rfl) ?_
  refine b_ia rfl (jgt_1_7 (w := w) (fz := fz) hS q2.2).1 (Nat.le_of_ble_eq_true rfl) (inr_gi _ _ _) (fun q => ?_)
  replace h := h q
  refine l1 (n := 1) rfl rfl rfl (la_of a0) ?_
  refine b_iv (c := (v0 + 11)) (as := [.ref (gr M v0 0), zv (gi M ((gr M v0 0) + 3) (gi M v0 6).toNat), .ref v0]) (rest := []) rfl (by decide) (jgo_5 (w := w) hS (jgt_7_9 (w := w) mv0)) rfl rfl (Nat.le_of_ble_eq_true rfl) (fun hq => ?_)
  refine lx_mono (Z_A_workR_m hS hR (jgt_7_9 (w := w) mv0) q1.2 (inr_gi _ _ _) mv0 h) ?_
  rintro _ _ ⟨z1, M1, rfl, rfl, r1, iz1, h⟩
  refine l_s1 (n := 1) rfl rfl rfl rfl (fun ls y1 ho => ?_)
  have y2 := ho 0 _ (by decide) (fun q => by cases q.2) a0
  refine l1 (n := 1) rfl rfl rfl (li_of y1) ?_
  refine l1 (n := 1) rfl rfl rfl rfl ?_
  refine l_ic rfl iz1 ⟨by decide, by decide⟩ (fun c => ?_) (fun c => ?_)
  · replace h := h.2 c
    refine l1 (n := 1) rfl rfl rfl (li_of y1) ?_
    refine l1 (n := 1) rfl rfl rfl rfl ?_
    refine l_ic rfl iz1 ⟨by decide, by decide⟩ (fun c => ?_) (fun c => ?_)
    · replace h := h.2 c
      refine l1 (n := 1) rfl rfl rfl (la_of y2) ?_
      refine l_gr rfl (jgo_7 (w := w) hS mv0) rfl (fun _ => rfl) (jgf_7_9 (w := w) r1.2 mv0) ?_
      refine b_iv (c := (v0 + 11)) (as := []) (rest := []) rfl (by decide) (jgo_5 (w := w) hS (jgt_7_9 (w := w) mv0)) rfl rfl (Nat.le_of_ble_eq_true rfl) (fun hq => ?_)
      refine lx_mono (Z_A_result_m hS r1 (jgt_7_9 (w := w) mv0) h) ?_
      rintro _ _ ⟨z2, M2, rfl, rfl, r2, h⟩
      refine l_s2 (n := 1) rfl rfl rfl rfl (fun ls y3 ho => ?_)
      have y4 := ho 0 _ (by decide) (by decide) (fun q => by cases q.2) y2
      refine l1 (n := 1) rfl rfl rfl (la_of y4) ?_
      obtain ⟨q3, h⟩ := h
      refine l_gr rfl (jgo_7 (w := w) hS mv0) rfl (fun _ => rfl) q3.1 ?_
      refine l_gr rfl (ko_1 hS q3.2) rfl (fun _ => rfl) (kf_1_5 r2.2 q3.2) ?_
      refine l1 (n := 1) rfl rfl rfl (la_of y4) ?_
      refine l_gi rfl (jgo_7 (w := w) hS mv0) rfl (fun _ => rfl) ?_
      refine b_ia rfl (jgt_1_5 (w := w) (fz := fz) hS q3.2).1 (Nat.le_of_ble_eq_true rfl) (inr_gi _ _ _) (fun q => ?_)
      replace h := h q
      have ia : inr (gi M2 ((gr M2 v0 0) + 1) (gi M2 v0 6).toNat) := (inr_gi _ _ _)
      obtain ⟨h1, h⟩ := h
      by_cases e10 : (gi M2 ((gr M2 v0 0) + 1) (gi M2 v0 6).toNat) = 10
      · replace h := h1 e10
        refine l_sw (pc' := 106) e10 rfl rfl rfl ?_
        refine l1 (n := 1) rfl rfl rfl (la_of y4) ?_
        refine l1 (n := 1) rfl rfl rfl (la_of y4) ?_
        obtain ⟨q4, h⟩ := h
        refine l_gr rfl (jgo_7 (w := w) hS mv0) rfl (fun _ => rfl) q4.1 ?_
        refine l1 (n := 1) rfl rfl rfl (la_of y4) ?_
        refine l_gi rfl (jgo_7 (w := w) hS mv0) rfl (fun _ => rfl) ?_
        refine l1 (n := 1) rfl rfl rfl (ll_of y3) ?_
        refine l1 (n := 1) rfl rfl rfl rfl ?_
        refine l_op (T := (lg_cmp z2 (Int64.ofNat 0))) rfl rfl rfl ?_
        refine l_if rfl (inr_ti _) (fun c => ?_) (fun c => ?_)
        · replace h := h.1 c
          refine l1 (n := 1) rfl rfl rfl (la_of y4) ?_
          obtain ⟨q5, h⟩ := h
          refine l_gr rfl (jgo_7 (w := w) hS mv0) rfl (fun _ => rfl) q5.1 ?_
          refine l_gr rfl (ko_1 hS q5.2) rfl (fun _ => rfl) (kf_1_13 r2.2 q5.2) ?_
          refine l1 (n := 1) rfl rfl rfl (la_of y4) ?_
          refine l_gi rfl (jgo_7 (w := w) hS mv0) rfl (fun _ => rfl) ?_
          refine b_ia rfl (jgt_1_13 (w := w) (fz := fz) hS q5.2).1 (Nat.le_of_ble_eq_true rfl) (inr_gi _ _ _) (fun q => ?_)
          replace h := h q
          exact Z_R_walkExp_148 hS r2 mv0 q4.2 (inr_gi _ _ _) (inr_gi _ _ _) h
        · replace h := h.2 c
          refine l1 (n := 1) rfl rfl rfl (la_of y4) ?_
          obtain ⟨q6, h⟩ := h
          refine l_gr rfl (jgo_7 (w := w) hS mv0) rfl (fun _ => rfl) q6.1 ?_
          refine l_gr rfl (ko_1 hS q6.2) rfl (fun _ => rfl) (kf_1_12 r2.2 q6.2) ?_
          refine l1 (n := 1) rfl rfl rfl (la_of y4) ?_
          refine l_gi rfl (jgo_7 (w := w) hS mv0) rfl (fun _ => rfl) ?_
          refine b_ia rfl (jgt_1_12 (w := w) (fz := fz) hS q6.2).1 (Nat.le_of_ble_eq_true rfl) (inr_gi _ _ _) (fun q => ?_)
          replace h := h q
          refine l3 rfl rfl rfl ?_
          exact Z_R_walkExp_148 hS r2 mv0 q4.2 (inr_gi _ _ _) (inr_gi _ _ _) h
      obtain ⟨h1, h⟩ := h
      by_cases e12 : (gi M2 ((gr M2 v0 0) + 1) (gi M2 v0 6).toNat) = 12
      · replace h := h1 e12
        refine l_sw (pc' := 156) e12 rfl rfl rfl ?_
        refine l1 (n := 1) rfl rfl rfl (la_of y4) ?_
        refine l1 (n := 1) rfl rfl rfl (ll_of y3) ?_
        refine l1 (n := 1) rfl rfl rfl rfl ?_
        refine l_op (T := (lg_cmp z2 (Int64.ofNat 0))) rfl rfl rfl ?_
        refine l_if rfl (inr_ti _) (fun c => ?_) (fun c => ?_)
        · replace h := h.1 c
          refine l1 (n := 1) rfl rfl rfl (la_of y4) ?_
          obtain ⟨q7, h⟩ := h
          refine l_gr rfl (jgo_7 (w := w) hS mv0) rfl (fun _ => rfl) q7.1 ?_
          refine l1 (n := 1) rfl rfl rfl (la_of y4) ?_
          refine l_gi rfl (jgo_7 (w := w) hS mv0) rfl (fun _ => rfl) ?_
          refine b_iv (c := (gr M2 v0 0)) (as := [zv (gi M2 v0 6)]) (rest := [.ref v0]) rfl (by decide) (ko_1 hS q7.2) rfl rfl (Nat.le_of_ble_eq_true rfl) (fun hq => ?_)
          refine lx_mono (Z_P_behind_m hS r2 q7.2 (inr_gi _ _ _) h) ?_
          rintro _ _ ⟨z3, M3, rfl, rfl, r3, iz3, h⟩
          exact Z_R_walkExp_200 hS r3 mv0 iz3 h
        · replace h := h.2 c
          refine l1 (n := 1) rfl rfl rfl (la_of y4) ?_
          obtain ⟨q8, h⟩ := h
          refine l_gr rfl (jgo_7 (w := w) hS mv0) rfl (fun _ => rfl) q8.1 ?_
          refine l1 (n := 1) rfl rfl rfl (la_of y4) ?_
          refine l_gi rfl (jgo_7 (w := w) hS mv0) rfl (fun _ => rfl) ?_
          refine l1 (n := 1) rfl rfl rfl (la_of y4) ?_
          obtain ⟨q9, h⟩ := h
          refine l_gr rfl (jgo_7 (w := w) hS mv0) rfl (fun _ => rfl) q9.1 ?_
          refine l_gr rfl (ko_1 hS q9.2) rfl (fun _ => rfl) (kf_1_12 r2.2 q9.2) ?_
          refine l1 (n := 1) rfl rfl rfl (la_of y4) ?_
          refine l_gi rfl (jgo_7 (w := w) hS mv0) rfl (fun _ => rfl) ?_
          refine b_ia rfl (jgt_1_12 (w := w) (fz := fz) hS q9.2).1 (Nat.le_of_ble_eq_true rfl) (inr_gi _ _ _) (fun q => ?_)
          replace h := h q
          refine b_iv (c := (gr M2 v0 0)) (as := [zv (gi M2 v0 6), zv (gi M2 ((gr M2 v0 0) + 8) (gi M2 v0 6).toNat)]) (rest := [.ref v0]) rfl (by decide) (ko_1 hS q8.2) rfl rfl (Nat.le_of_ble_eq_true rfl) (fun hq => ?_)
          refine lx_mono (Z_P_into_m hS r2 q8.2 (inr_gi _ _ _) (inr_gi _ _ _) h) ?_
          rintro _ _ ⟨z4, M4, rfl, rfl, r4, iz4, h⟩
          refine l3 rfl rfl rfl ?_
          exact Z_R_walkExp_200 hS r4 mv0 iz4 h
      obtain ⟨h1, h⟩ := h
      by_cases e14 : (gi M2 ((gr M2 v0 0) + 1) (gi M2 v0 6).toNat) = 14
      · replace h := h1 e14
        refine l_sw (pc' := 100) e14 rfl rfl rfl ?_
        refine l1 (n := 1) rfl rfl rfl (la_of y4) ?_
        refine l1 (n := 1) rfl rfl rfl (ll_of y3) ?_
        refine b_iv (c := v0) (as := [.long z2]) (rest := []) rfl (by decide) (jgo_7 (w := w) hS mv0) rfl rfl (Nat.le_of_ble_eq_true rfl) (fun hq => ?_)
        refine lx_mono (Z_R_toss_m hS r2 mv0 h) ?_
        rintro _ _ ⟨z5, M5, rfl, rfl, r5, iz5, h⟩
        exact l_ri rfl rfl iz5 r5 h
      replace h := h ⟨e10, e12, e14⟩
      by_cases e11 : (gi M2 ((gr M2 v0 0) + 1) (gi M2 v0 6).toNat) = 11
      · refine l_sw (pc' := 205) e11 rfl rfl rfl ?_
        refine l1 (n := 1) rfl rfl rfl (la_of y4) ?_
        refine l_gr rfl (jgo_7 (w := w) hS mv0) rfl (fun _ => rfl) (jgf_7_5 (w := w) r2.2 mv0) ?_
        refine l1 (n := 1) rfl rfl rfl (la_of y4) ?_
        obtain ⟨q10, h⟩ := h
        refine l_gr rfl (jgo_7 (w := w) hS mv0) rfl (fun _ => rfl) q10.1 ?_
        refine l_gr rfl (ko_1 hS q10.2) rfl (fun _ => rfl) (kf_1_6 r2.2 q10.2) ?_
        refine l1 (n := 1) rfl rfl rfl (la_of y4) ?_
        refine l_gi rfl (jgo_7 (w := w) hS mv0) rfl (fun _ => rfl) ?_
        refine b_ia rfl (jgt_1_6 (w := w) (fz := fz) hS q10.2).1 (Nat.le_of_ble_eq_true rfl) (inr_gi _ _ _) (fun q => ?_)
        replace h := h q
        refine l1 (n := 1) rfl rfl rfl (ll_of y3) ?_
        refine b_iv (c := (v0 + 2)) (as := [zv (gi M2 ((gr M2 v0 0) + 2) (gi M2 v0 6).toNat), .long z2]) (rest := []) rfl (by decide) (jgo_8 (w := w) hS (jgt_7_5 (w := w) mv0)) rfl rfl (Nat.le_of_ble_eq_true rfl) (fun hq => ?_)
        refine lx_mono (Z_D_assign_m hS r2 (jgt_7_5 (w := w) mv0) (inr_gi _ _ _) h) ?_
        rintro _ _ ⟨M6, rfl, rfl, r6, h⟩
        refine l1 (n := 1) rfl rfl rfl (la_of y4) ?_
        refine l1 (n := 1) rfl rfl rfl (la_of y4) ?_
        obtain ⟨q11, h⟩ := h
        refine l_gr rfl (jgo_7 (w := w) hS mv0) rfl (fun _ => rfl) q11.1 ?_
        refine l1 (n := 1) rfl rfl rfl (la_of y4) ?_
        refine l_gi rfl (jgo_7 (w := w) hS mv0) rfl (fun _ => rfl) ?_
        refine b_iv (c := (gr M6 v0 0)) (as := [zv (gi M6 v0 6)]) (rest := [.ref v0]) rfl (by decide) (ko_1 hS q11.2) rfl rfl (Nat.le_of_ble_eq_true rfl) (fun hq => ?_)
        refine lx_mono (Z_P_behind_m hS r6 q11.2 (inr_gi _ _ _) h) ?_
        rintro _ _ ⟨z7, M7, rfl, rfl, r7, iz7, h⟩
        refine l_pi rfl (jgo_7 (w := w) (fz := fz) hS mv0) rfl (fun _ _ => rfl) (fun M8 e => ?_)
        replace h := h M8 e
        have r8 := r7.wi (jgo_7 (w := w) (fz := fz) hS mv0).1 (jgl_7 (w := w) mv0) e
        refine l1 (n := 1) rfl rfl rfl rfl ?_
        exact l_ri rfl rfl ⟨by decide, by decide⟩ r8 h
      by_cases e13 : (gi M2 ((gr M2 v0 0) + 1) (gi M2 v0 6).toNat) = 13
      · refine l_sw (pc' := 205) e13 rfl rfl rfl ?_
        refine l1 (n := 1) rfl rfl rfl (la_of y4) ?_
        refine l_gr rfl (jgo_7 (w := w) hS mv0) rfl (fun _ => rfl) (jgf_7_5 (w := w) r2.2 mv0) ?_
        refine l1 (n := 1) rfl rfl rfl (la_of y4) ?_
        obtain ⟨q10, h⟩ := h
        refine l_gr rfl (jgo_7 (w := w) hS mv0) rfl (fun _ => rfl) q10.1 ?_
        refine l_gr rfl (ko_1 hS q10.2) rfl (fun _ => rfl) (kf_1_6 r2.2 q10.2) ?_
        refine l1 (n := 1) rfl rfl rfl (la_of y4) ?_
        refine l_gi rfl (jgo_7 (w := w) hS mv0) rfl (fun _ => rfl) ?_
        refine b_ia rfl (jgt_1_6 (w := w) (fz := fz) hS q10.2).1 (Nat.le_of_ble_eq_true rfl) (inr_gi _ _ _) (fun q => ?_)
        replace h := h q
        refine l1 (n := 1) rfl rfl rfl (ll_of y3) ?_
        refine b_iv (c := (v0 + 2)) (as := [zv (gi M2 ((gr M2 v0 0) + 2) (gi M2 v0 6).toNat), .long z2]) (rest := []) rfl (by decide) (jgo_8 (w := w) hS (jgt_7_5 (w := w) mv0)) rfl rfl (Nat.le_of_ble_eq_true rfl) (fun hq => ?_)
        refine lx_mono (Z_D_assign_m hS r2 (jgt_7_5 (w := w) mv0) (inr_gi _ _ _) h) ?_
        rintro _ _ ⟨M6, rfl, rfl, r6, h⟩
        refine l1 (n := 1) rfl rfl rfl (la_of y4) ?_
        refine l1 (n := 1) rfl rfl rfl (la_of y4) ?_
        obtain ⟨q11, h⟩ := h
        refine l_gr rfl (jgo_7 (w := w) hS mv0) rfl (fun _ => rfl) q11.1 ?_
        refine l1 (n := 1) rfl rfl rfl (la_of y4) ?_
        refine l_gi rfl (jgo_7 (w := w) hS mv0) rfl (fun _ => rfl) ?_
        refine b_iv (c := (gr M6 v0 0)) (as := [zv (gi M6 v0 6)]) (rest := [.ref v0]) rfl (by decide) (ko_1 hS q11.2) rfl rfl (Nat.le_of_ble_eq_true rfl) (fun hq => ?_)
        refine lx_mono (Z_P_behind_m hS r6 q11.2 (inr_gi _ _ _) h) ?_
        rintro _ _ ⟨z7, M7, rfl, rfl, r7, iz7, h⟩
        refine l_pi rfl (jgo_7 (w := w) (fz := fz) hS mv0) rfl (fun _ _ => rfl) (fun M8 e => ?_)
        replace h := h M8 e
        have r8 := r7.wi (jgo_7 (w := w) (fz := fz) hS mv0).1 (jgl_7 (w := w) mv0) e
        refine l1 (n := 1) rfl rfl rfl rfl ?_
        exact l_ri rfl rfl ⟨by decide, by decide⟩ r8 h
      refine l_swt (a := (gi M2 ((gr M2 v0 0) + 1) (gi M2 v0 6).toNat)) rfl ia (swo_10_14 e10 e11 e12 e13 e14) ?_
      show lx _ _ _ 205 _ _ _ _
      refine l1 (n := 1) rfl rfl rfl (la_of y4) ?_
      refine l_gr rfl (jgo_7 (w := w) hS mv0) rfl (fun _ => rfl) (jgf_7_5 (w := w) r2.2 mv0) ?_
      refine l1 (n := 1) rfl rfl rfl (la_of y4) ?_
      obtain ⟨q10, h⟩ := h
      refine l_gr rfl (jgo_7 (w := w) hS mv0) rfl (fun _ => rfl) q10.1 ?_
      refine l_gr rfl (ko_1 hS q10.2) rfl (fun _ => rfl) (kf_1_6 r2.2 q10.2) ?_
      refine l1 (n := 1) rfl rfl rfl (la_of y4) ?_
      refine l_gi rfl (jgo_7 (w := w) hS mv0) rfl (fun _ => rfl) ?_
      refine b_ia rfl (jgt_1_6 (w := w) (fz := fz) hS q10.2).1 (Nat.le_of_ble_eq_true rfl) (inr_gi _ _ _) (fun q => ?_)
      replace h := h q
      refine l1 (n := 1) rfl rfl rfl (ll_of y3) ?_
      refine b_iv (c := (v0 + 2)) (as := [zv (gi M2 ((gr M2 v0 0) + 2) (gi M2 v0 6).toNat), .long z2]) (rest := []) rfl (by decide) (jgo_8 (w := w) hS (jgt_7_5 (w := w) mv0)) rfl rfl (Nat.le_of_ble_eq_true rfl) (fun hq => ?_)
      refine lx_mono (Z_D_assign_m hS r2 (jgt_7_5 (w := w) mv0) (inr_gi _ _ _) h) ?_
      rintro _ _ ⟨M6, rfl, rfl, r6, h⟩
      refine l1 (n := 1) rfl rfl rfl (la_of y4) ?_
      refine l1 (n := 1) rfl rfl rfl (la_of y4) ?_
      obtain ⟨q11, h⟩ := h
      refine l_gr rfl (jgo_7 (w := w) hS mv0) rfl (fun _ => rfl) q11.1 ?_
      refine l1 (n := 1) rfl rfl rfl (la_of y4) ?_
      refine l_gi rfl (jgo_7 (w := w) hS mv0) rfl (fun _ => rfl) ?_
      refine b_iv (c := (gr M6 v0 0)) (as := [zv (gi M6 v0 6)]) (rest := [.ref v0]) rfl (by decide) (ko_1 hS q11.2) rfl rfl (Nat.le_of_ble_eq_true rfl) (fun hq => ?_)
      refine lx_mono (Z_P_behind_m hS r6 q11.2 (inr_gi _ _ _) h) ?_
      rintro _ _ ⟨z7, M7, rfl, rfl, r7, iz7, h⟩
      refine l_pi rfl (jgo_7 (w := w) (fz := fz) hS mv0) rfl (fun _ _ => rfl) (fun M8 e => ?_)
      replace h := h M8 e
      have r8 := r7.wi (jgo_7 (w := w) (fz := fz) hS mv0).1 (jgl_7 (w := w) mv0) e
      refine l1 (n := 1) rfl rfl rfl rfl ?_
      exact l_ri rfl rfl ⟨by decide, by decide⟩ r8 h
    · replace h := h.1 (Classical.not_not.mp c)
      refine l1 (n := 1) rfl rfl rfl (la_of y2) ?_
      refine l7 (n := 3) rfl rfl rfl rfl ?_
      refine b_iv (c := v0) (as := [.long (Int64.ofNat 18446744073709551615)]) (rest := []) rfl (by decide) (jgo_7 (w := w) hS mv0) rfl rfl (Nat.le_of_ble_eq_true rfl) (fun hq => ?_)
      refine lx_mono (Z_R_toss_m hS r1 mv0 h) ?_
      rintro _ _ ⟨z9, M9, rfl, rfl, r9, iz9, h⟩
      exact l_ri rfl rfl iz9 r9 h
  · replace h := h.1 (Classical.not_not.mp c)
    refine l1 (n := 1) rfl rfl rfl rfl ?_
    exact l_ri rfl rfl ⟨by decide, by decide⟩ r1 h
def em_R_walkExp (x0 : Nat) (M : rf_M) (K : Int → rf_M → Prop) : Prop := e_R_walkExp x0 M K
theorem Z_R_walkExp_m {w fz : Bool} {S : gS} {B : rf_M} {M : rf_M} {n0 : Nat} {x0 : Nat} {K : Int → rf_M → Prop} (hS : rl S) (hR : fl 22 (gwH w) B M) (mx0 : x0 ∈ gwL7 w) (h : em_R_walkExp x0 M K) : lx (cx0 fz) n0 98 0 (lv_args 0 [.ref x0]) [] (M, S) (vl_i 22 (gwH w) B S K) :=
  Z_R_walkExp hS hR mx0 rfl h
def e_R_step_197 (v1 : Int) (M : rf_M) (K : Int → rf_M → Prop) : Prop := K v1 M
theorem Z_R_step_197 {w fz : Bool} {S : gS} {B : rf_M} {M : rf_M} {ls : rf_L} {n0 : Nat} {v1 : Int} {K : Int → rf_M → Prop} (hS : rl S) (hR : fl 22 (gwH w) B M) (iv1 : inr v1) (a1 : rf_ld ls 1 = some (zv v1)) (h : e_R_step_197 v1 M K) : lx (cx0 fz) n0 90 197 ls [] (M, S) (vl_i 22 (gwH w) B S K) := by
  unfold e_R_step_197 at h
  refine l1 (n := 1) rfl rfl rfl (li_of a1) ?_
  exact l_ri rfl rfl iv1 hR h
def e_R_step_183 (v0 : Nat) (v1 : Int) (M : rf_M) (K : Int → rf_M → Prop) : Prop := (v1 = 0 → (∀ M1 : rf_M, M1 = wi M v0 1 ((gi M v0 1) + 1) → (e_R_step_197 v1 M1 K))) ∧ (¬ v1 = 0 → (e_R_step_197 v1 M K))
theorem Z_R_step_183 {w fz : Bool} {S : gS} {B : rf_M} {M : rf_M} {ls : rf_L} {n0 : Nat} {v0 : Nat} {v1 : Int} {K : Int → rf_M → Prop} (hS : rl S) (hR : fl 22 (gwH w) B M) (mv0 : v0 ∈ gwL7 w) (iv1 : inr v1) (a0 : rf_ld ls 0 = some (.ref v0)) (a1 : rf_ld ls 1 = some (zv v1)) (h : e_R_step_183 v0 v1 M K) : lx (cx0 fz) n0 90 183 ls [] (M, S) (vl_i 22 (gwH w) B S K) := by
  unfold e_R_step_183 at h
  refine l1 (n := 1) rfl rfl rfl (li_of a1) ?_
  refine l_if rfl iv1 (fun c => ?_) (fun c => ?_)
  · replace h := h.2 c
    exact Z_R_step_197 hS hR iv1 a1 h
  · replace h := h.1 (Classical.not_not.mp c)
    refine l1 (n := 1) rfl rfl rfl (la_of a0) ?_
    refine l0 rfl rfl rfl ?_
    refine l_gi rfl (jgo_7 (w := w) hS mv0) rfl (fun _ => rfl) ?_
    refine l1 (n := 1) rfl rfl rfl rfl ?_
    refine l_add rfl ?_
    refine l_pi rfl (jgo_7 (w := w) (fz := fz) hS mv0) rfl (fun _ _ => rfl) (fun M1 e => ?_)
    replace h := h M1 e
    have r1 := hR.wi (jgo_7 (w := w) (fz := fz) hS mv0).1 (jgl_7 (w := w) mv0) e
    exact Z_R_step_197 hS r1 iv1 a1 h
def e_R_step (v0 : Nat) (M : rf_M) (K : Int → rf_M → Prop) : Prop := ((gi M v0 1) < 300 → (isP M v0 0 ∧ (em_P_has (gr M v0 0) (gi M v0 6) M (fun (z1 : Int) (M1 : rf_M) => (z1 = 0 → (K 1 M1)) ∧ (¬ z1 = 0 → (isP M1 v0 0 ∧ ((0 ≤ (gi M1 v0 6) ∧ (gi M1 v0 6) < 40 → (((gi M1 ((gr M1 v0 0) + 1) (gi M1 v0 6).toNat) = 13 → (em_R_retry v0 M1 (fun (z2 : Int) (M2 : rf_M) => e_R_step_183 v0 z2 M2 K))) ∧ ((gi M1 ((gr M1 v0 0) + 1) (gi M1 v0 6).toNat) = 15 → (isP M1 v0 0 ∧ ((0 ≤ (gi M1 v0 6) ∧ (gi M1 v0 6) < 40 → (em_D_mark (v0 + 2) (gi M1 ((gr M1 v0 0) + 6) (gi M1 v0 6).toNat) M1 (fun (M3 : rf_M) => isP M3 v0 0 ∧ (isP M3 v0 0 ∧ ((0 ≤ (gi M3 v0 6) ∧ (gi M3 v0 6) < 40 → (em_P_into (gr M3 v0 0) (gi M3 v0 6) (gi M3 ((gr M3 v0 0) + 8) (gi M3 v0 6).toNat) M3 (fun (z4 : Int) (M4 : rf_M) => ∀ M5 : rf_M, M5 = wi M4 v0 6 z4 → (e_R_step_183 v0 0 M5 K)))))))))))) ∧ ((gi M1 ((gr M1 v0 0) + 1) (gi M1 v0 6).toNat) = 17 → (isP M1 v0 0 ∧ ((0 ≤ (gi M1 v0 6) ∧ (gi M1 v0 6) < 40 → (em_D_mark (v0 + 2) (gi M1 ((gr M1 v0 0) + 6) (gi M1 v0 6).toNat) M1 (fun (M6 : rf_M) => isP M6 v0 0 ∧ (isP M6 v0 0 ∧ ((0 ≤ (gi M6 v0 6) ∧ (gi M6 v0 6) < 40 → (em_P_into (gr M6 v0 0) (gi M6 v0 6) (gi M6 ((gr M6 v0 0) + 8) (gi M6 v0 6).toNat) M6 (fun (z7 : Int) (M7 : rf_M) => ∀ M8 : rf_M, M8 = wi M7 v0 6 z7 → (e_R_step_183 v0 0 M8 K)))))))))))) ∧ ((gi M1 ((gr M1 v0 0) + 1) (gi M1 v0 6).toNat) = 19 → (em_D_addRule (v0 + 2) (gi M1 v0 6) M1 (fun (M9 : rf_M) => isP M9 v0 0 ∧ (em_P_behind (gr M9 v0 0) (gi M9 v0 6) M9 (fun (z10 : Int) (M10 : rf_M) => ∀ M11 : rf_M, M11 = wi M10 v0 6 z10 → (e_R_step_183 v0 0 M11 K)))))) ∧ (¬ (gi M1 ((gr M1 v0 0) + 1) (gi M1 v0 6).toNat) = 13 ∧ ¬ (gi M1 ((gr M1 v0 0) + 1) (gi M1 v0 6).toNat) = 15 ∧ ¬ (gi M1 ((gr M1 v0 0) + 1) (gi M1 v0 6).toNat) = 17 ∧ ¬ (gi M1 ((gr M1 v0 0) + 1) (gi M1 v0 6).toNat) = 19 → (em_R_walkExp v0 M1 (fun (z12 : Int) (M12 : rf_M) => e_R_step_183 v0 z12 M12 K)))))))))))) ∧ (¬ ((gi M v0 1) < 300) → (∀ M13 : rf_M, M13 = wl M v0 3 (Int64.ofNat 18446744073709551613) → (K 2 M13)))
theorem Z_R_step {w fz : Bool} {S : gS} {B : rf_M} {M : rf_M} {ls : rf_L} {n0 : Nat} {v0 : Nat} {K : Int → rf_M → Prop} (hS : rl S) (hR : fl 22 (gwH w) B M) (mv0 : v0 ∈ gwL7 w) (a0 : rf_ld ls 0 = some (.ref v0)) (h : e_R_step v0 M K) : lx (cx0 fz) n0 90 0 ls [] (M, S) (vl_i 22 (gwH w) B S K) := by
  unfold e_R_step at h
  refine l1 (n := 1) rfl rfl rfl (la_of a0) ?_
  refine l_gi rfl (jgo_7 (w := w) hS mv0) rfl (fun _ => rfl) ?_
  refine l_si rfl (by decide) ?_
  refine l_ic rfl (inr_gi _ _ _) ⟨by decide, by decide⟩ (fun c => ?_) (fun c => ?_)
  · replace h := h.1 c
    refine l1 (n := 1) rfl rfl rfl (la_of a0) ?_
    obtain ⟨q1, h⟩ := h
    refine l_gr rfl (jgo_7 (w := w) hS mv0) rfl (fun _ => rfl) q1.1 ?_
    refine l1 (n := 1) rfl rfl rfl (la_of a0) ?_
    refine l_gi rfl (jgo_7 (w := w) hS mv0) rfl (fun _ => rfl) ?_
    refine b_iv (c := (gr M v0 0)) (as := [zv (gi M v0 6)]) (rest := []) rfl (by decide) (ko_1 hS q1.2) rfl rfl (Nat.le_of_ble_eq_true rfl) (fun hq => ?_)
    refine lx_mono (Z_P_has_m hS hR q1.2 (inr_gi _ _ _) h) ?_
    rintro _ _ ⟨z1, M1, rfl, rfl, r1, iz1, h⟩
    refine l_if rfl iz1 (fun c => ?_) (fun c => ?_)
    · replace h := h.2 c
      refine l1 (n := 1) rfl rfl rfl rfl ?_
      refine l_s1 (n := 1) rfl rfl rfl rfl (fun ls y1 ho => ?_)
      have y2 := ho 0 _ (by decide) (fun q => by cases q.2) a0
      refine l1 (n := 1) rfl rfl rfl (la_of y2) ?_
      obtain ⟨q2, h⟩ := h
      refine l_gr rfl (jgo_7 (w := w) hS mv0) rfl (fun _ => rfl) q2.1 ?_
      refine l_gr rfl (ko_1 hS q2.2) rfl (fun _ => rfl) (kf_1_5 r1.2 q2.2) ?_
      refine l1 (n := 1) rfl rfl rfl (la_of y2) ?_
      refine l_gi rfl (jgo_7 (w := w) hS mv0) rfl (fun _ => rfl) ?_
      refine b_ia rfl (jgt_1_5 (w := w) (fz := fz) hS q2.2).1 (Nat.le_of_ble_eq_true rfl) (inr_gi _ _ _) (fun q => ?_)
      replace h := h q
      have ia : inr (gi M1 ((gr M1 v0 0) + 1) (gi M1 v0 6).toNat) := (inr_gi _ _ _)
      obtain ⟨h1, h⟩ := h
      by_cases e13 : (gi M1 ((gr M1 v0 0) + 1) (gi M1 v0 6).toNat) = 13
      · replace h := h1 e13
        refine l_sw (pc' := 170) e13 rfl rfl rfl ?_
        refine l1 (n := 1) rfl rfl rfl (la_of y2) ?_
        refine b_iv (c := v0) (as := []) (rest := []) rfl (by decide) (jgo_7 (w := w) hS mv0) rfl rfl (Nat.le_of_ble_eq_true rfl) (fun hq => ?_)
        refine lx_mono (Z_R_retry_m hS r1 mv0 h) ?_
        rintro _ _ ⟨z2, M2, rfl, rfl, r2, iz2, h⟩
        refine l_s1 (n := 1) rfl rfl rfl rfl (fun ls y3 ho => ?_)
        have y4 := ho 0 _ (by decide) (fun q => by cases q.2) y2
        refine l3 rfl rfl rfl ?_
        exact Z_R_step_183 hS r2 mv0 iz2 y4 y3 h
      obtain ⟨h1, h⟩ := h
      by_cases e15 : (gi M1 ((gr M1 v0 0) + 1) (gi M1 v0 6).toNat) = 15
      · replace h := h1 e15
        refine l_sw (pc' := 92) e15 rfl rfl rfl ?_
        refine l1 (n := 1) rfl rfl rfl (la_of y2) ?_
        refine l_gr rfl (jgo_7 (w := w) hS mv0) rfl (fun _ => rfl) (jgf_7_5 (w := w) r1.2 mv0) ?_
        refine l1 (n := 1) rfl rfl rfl (la_of y2) ?_
        obtain ⟨q3, h⟩ := h
        refine l_gr rfl (jgo_7 (w := w) hS mv0) rfl (fun _ => rfl) q3.1 ?_
        refine l_gr rfl (ko_1 hS q3.2) rfl (fun _ => rfl) (kf_1_10 r1.2 q3.2) ?_
        refine l1 (n := 1) rfl rfl rfl (la_of y2) ?_
        refine l_gi rfl (jgo_7 (w := w) hS mv0) rfl (fun _ => rfl) ?_
        refine b_ia rfl (jgt_1_10 (w := w) (fz := fz) hS q3.2).1 (Nat.le_of_ble_eq_true rfl) (inr_gi _ _ _) (fun q => ?_)
        replace h := h q
        refine b_iv (c := (v0 + 2)) (as := [zv (gi M1 ((gr M1 v0 0) + 6) (gi M1 v0 6).toNat)]) (rest := []) rfl (by decide) (jgo_8 (w := w) hS (jgt_7_5 (w := w) mv0)) rfl rfl (Nat.le_of_ble_eq_true rfl) (fun hq => ?_)
        refine lx_mono (Z_D_mark_m hS r1 (jgt_7_5 (w := w) mv0) (inr_gi _ _ _) h) ?_
        rintro _ _ ⟨M3, rfl, rfl, r3, h⟩
        refine l1 (n := 1) rfl rfl rfl (la_of y2) ?_
        refine l1 (n := 1) rfl rfl rfl (la_of y2) ?_
        obtain ⟨q4, h⟩ := h
        refine l_gr rfl (jgo_7 (w := w) hS mv0) rfl (fun _ => rfl) q4.1 ?_
        refine l1 (n := 1) rfl rfl rfl (la_of y2) ?_
        refine l_gi rfl (jgo_7 (w := w) hS mv0) rfl (fun _ => rfl) ?_
        refine l1 (n := 1) rfl rfl rfl (la_of y2) ?_
        obtain ⟨q5, h⟩ := h
        refine l_gr rfl (jgo_7 (w := w) hS mv0) rfl (fun _ => rfl) q5.1 ?_
        refine l_gr rfl (ko_1 hS q5.2) rfl (fun _ => rfl) (kf_1_12 r3.2 q5.2) ?_
        refine l1 (n := 1) rfl rfl rfl (la_of y2) ?_
        refine l_gi rfl (jgo_7 (w := w) hS mv0) rfl (fun _ => rfl) ?_
        refine b_ia rfl (jgt_1_12 (w := w) (fz := fz) hS q5.2).1 (Nat.le_of_ble_eq_true rfl) (inr_gi _ _ _) (fun q => ?_)
        replace h := h q
        refine b_iv (c := (gr M3 v0 0)) (as := [zv (gi M3 v0 6), zv (gi M3 ((gr M3 v0 0) + 8) (gi M3 v0 6).toNat)]) (rest := [.ref v0]) rfl (by decide) (ko_1 hS q4.2) rfl rfl (Nat.le_of_ble_eq_true rfl) (fun hq => ?_)
        refine lx_mono (Z_P_into_m hS r3 q4.2 (inr_gi _ _ _) (inr_gi _ _ _) h) ?_
        rintro _ _ ⟨z4, M4, rfl, rfl, r4, iz4, h⟩
        refine l_pi rfl (jgo_7 (w := w) (fz := fz) hS mv0) rfl (fun _ _ => rfl) (fun M5 e => ?_)
        replace h := h M5 e
        have r5 := r4.wi (jgo_7 (w := w) (fz := fz) hS mv0).1 (jgl_7 (w := w) mv0) e
        refine l3 rfl rfl rfl ?_
        exact Z_R_step_183 hS r5 mv0 ⟨by decide, by decide⟩ y2 y1 h
      obtain ⟨h1, h⟩ := h
      by_cases e17 : (gi M1 ((gr M1 v0 0) + 1) (gi M1 v0 6).toNat) = 17
      · replace h := h1 e17
        refine l_sw (pc' := 92) e17 rfl rfl rfl ?_
        refine l1 (n := 1) rfl rfl rfl (la_of y2) ?_
        refine l_gr rfl (jgo_7 (w := w) hS mv0) rfl (fun _ => rfl) (jgf_7_5 (w := w) r1.2 mv0) ?_
        refine l1 (n := 1) rfl rfl rfl (la_of y2) ?_
        obtain ⟨q6, h⟩ := h
        refine l_gr rfl (jgo_7 (w := w) hS mv0) rfl (fun _ => rfl) q6.1 ?_
        refine l_gr rfl (ko_1 hS q6.2) rfl (fun _ => rfl) (kf_1_10 r1.2 q6.2) ?_
        refine l1 (n := 1) rfl rfl rfl (la_of y2) ?_
        refine l_gi rfl (jgo_7 (w := w) hS mv0) rfl (fun _ => rfl) ?_
        refine b_ia rfl (jgt_1_10 (w := w) (fz := fz) hS q6.2).1 (Nat.le_of_ble_eq_true rfl) (inr_gi _ _ _) (fun q => ?_)
        replace h := h q
        refine b_iv (c := (v0 + 2)) (as := [zv (gi M1 ((gr M1 v0 0) + 6) (gi M1 v0 6).toNat)]) (rest := []) rfl (by decide) (jgo_8 (w := w) hS (jgt_7_5 (w := w) mv0)) rfl rfl (Nat.le_of_ble_eq_true rfl) (fun hq => ?_)
        refine lx_mono (Z_D_mark_m hS r1 (jgt_7_5 (w := w) mv0) (inr_gi _ _ _) h) ?_
        rintro _ _ ⟨M6, rfl, rfl, r6, h⟩
        refine l1 (n := 1) rfl rfl rfl (la_of y2) ?_
        refine l1 (n := 1) rfl rfl rfl (la_of y2) ?_
        obtain ⟨q7, h⟩ := h
        refine l_gr rfl (jgo_7 (w := w) hS mv0) rfl (fun _ => rfl) q7.1 ?_
        refine l1 (n := 1) rfl rfl rfl (la_of y2) ?_
        refine l_gi rfl (jgo_7 (w := w) hS mv0) rfl (fun _ => rfl) ?_
        refine l1 (n := 1) rfl rfl rfl (la_of y2) ?_
        obtain ⟨q8, h⟩ := h
        refine l_gr rfl (jgo_7 (w := w) hS mv0) rfl (fun _ => rfl) q8.1 ?_
        refine l_gr rfl (ko_1 hS q8.2) rfl (fun _ => rfl) (kf_1_12 r6.2 q8.2) ?_
        refine l1 (n := 1) rfl rfl rfl (la_of y2) ?_
        refine l_gi rfl (jgo_7 (w := w) hS mv0) rfl (fun _ => rfl) ?_
        refine b_ia rfl (jgt_1_12 (w := w) (fz := fz) hS q8.2).1 (Nat.le_of_ble_eq_true rfl) (inr_gi _ _ _) (fun q => ?_)
        replace h := h q
        refine b_iv (c := (gr M6 v0 0)) (as := [zv (gi M6 v0 6), zv (gi M6 ((gr M6 v0 0) + 8) (gi M6 v0 6).toNat)]) (rest := [.ref v0]) rfl (by decide) (ko_1 hS q7.2) rfl rfl (Nat.le_of_ble_eq_true rfl) (fun hq => ?_)
        refine lx_mono (Z_P_into_m hS r6 q7.2 (inr_gi _ _ _) (inr_gi _ _ _) h) ?_
        rintro _ _ ⟨z7, M7, rfl, rfl, r7, iz7, h⟩
        refine l_pi rfl (jgo_7 (w := w) (fz := fz) hS mv0) rfl (fun _ _ => rfl) (fun M8 e => ?_)
        replace h := h M8 e
        have r8 := r7.wi (jgo_7 (w := w) (fz := fz) hS mv0).1 (jgl_7 (w := w) mv0) e
        refine l3 rfl rfl rfl ?_
        exact Z_R_step_183 hS r8 mv0 ⟨by decide, by decide⟩ y2 y1 h
      obtain ⟨h1, h⟩ := h
      by_cases e19 : (gi M1 ((gr M1 v0 0) + 1) (gi M1 v0 6).toNat) = 19
      · replace h := h1 e19
        refine l_sw (pc' := 141) e19 rfl rfl rfl ?_
        refine l1 (n := 1) rfl rfl rfl (la_of y2) ?_
        refine l_gr rfl (jgo_7 (w := w) hS mv0) rfl (fun _ => rfl) (jgf_7_5 (w := w) r1.2 mv0) ?_
        refine l1 (n := 1) rfl rfl rfl (la_of y2) ?_
        refine l_gi rfl (jgo_7 (w := w) hS mv0) rfl (fun _ => rfl) ?_
        refine b_iv (c := (v0 + 2)) (as := [zv (gi M1 v0 6)]) (rest := []) rfl (by decide) (jgo_8 (w := w) hS (jgt_7_5 (w := w) mv0)) rfl rfl (Nat.le_of_ble_eq_true rfl) (fun hq => ?_)
        refine lx_mono (Z_D_addRule_m hS r1 (jgt_7_5 (w := w) mv0) (inr_gi _ _ _) h) ?_
        rintro _ _ ⟨M9, rfl, rfl, r9, h⟩
        refine l1 (n := 1) rfl rfl rfl (la_of y2) ?_
        refine l1 (n := 1) rfl rfl rfl (la_of y2) ?_
        obtain ⟨q9, h⟩ := h
        refine l_gr rfl (jgo_7 (w := w) hS mv0) rfl (fun _ => rfl) q9.1 ?_
        refine l1 (n := 1) rfl rfl rfl (la_of y2) ?_
        refine l_gi rfl (jgo_7 (w := w) hS mv0) rfl (fun _ => rfl) ?_
        refine b_iv (c := (gr M9 v0 0)) (as := [zv (gi M9 v0 6)]) (rest := [.ref v0]) rfl (by decide) (ko_1 hS q9.2) rfl rfl (Nat.le_of_ble_eq_true rfl) (fun hq => ?_)
        refine lx_mono (Z_P_behind_m hS r9 q9.2 (inr_gi _ _ _) h) ?_
        rintro _ _ ⟨z10, M10, rfl, rfl, r10, iz10, h⟩
        refine l_pi rfl (jgo_7 (w := w) (fz := fz) hS mv0) rfl (fun _ _ => rfl) (fun M11 e => ?_)
        replace h := h M11 e
        have r11 := r10.wi (jgo_7 (w := w) (fz := fz) hS mv0).1 (jgl_7 (w := w) mv0) e
        refine l3 rfl rfl rfl ?_
        exact Z_R_step_183 hS r11 mv0 ⟨by decide, by decide⟩ y2 y1 h
      replace h := h ⟨e13, e15, e17, e19⟩
      by_cases e14 : (gi M1 ((gr M1 v0 0) + 1) (gi M1 v0 6).toNat) = 14
      · refine l_sw (pc' := 178) e14 rfl rfl rfl ?_
        refine l1 (n := 1) rfl rfl rfl (la_of y2) ?_
        refine b_iv (c := v0) (as := []) (rest := []) rfl (by decide) (jgo_7 (w := w) hS mv0) rfl rfl (Nat.le_of_ble_eq_true rfl) (fun hq => ?_)
        refine lx_mono (Z_R_walkExp_m hS r1 mv0 h) ?_
        rintro _ _ ⟨z12, M12, rfl, rfl, r12, iz12, h⟩
        refine l_s1 (n := 1) rfl rfl rfl rfl (fun ls y5 ho => ?_)
        have y6 := ho 0 _ (by decide) (fun q => by cases q.2) y2
        exact Z_R_step_183 hS r12 mv0 iz12 y6 y5 h
      by_cases e16 : (gi M1 ((gr M1 v0 0) + 1) (gi M1 v0 6).toNat) = 16
      · refine l_sw (pc' := 178) e16 rfl rfl rfl ?_
        refine l1 (n := 1) rfl rfl rfl (la_of y2) ?_
        refine b_iv (c := v0) (as := []) (rest := []) rfl (by decide) (jgo_7 (w := w) hS mv0) rfl rfl (Nat.le_of_ble_eq_true rfl) (fun hq => ?_)
        refine lx_mono (Z_R_walkExp_m hS r1 mv0 h) ?_
        rintro _ _ ⟨z12, M12, rfl, rfl, r12, iz12, h⟩
        refine l_s1 (n := 1) rfl rfl rfl rfl (fun ls y5 ho => ?_)
        have y6 := ho 0 _ (by decide) (fun q => by cases q.2) y2
        exact Z_R_step_183 hS r12 mv0 iz12 y6 y5 h
      by_cases e18 : (gi M1 ((gr M1 v0 0) + 1) (gi M1 v0 6).toNat) = 18
      · refine l_sw (pc' := 178) e18 rfl rfl rfl ?_
        refine l1 (n := 1) rfl rfl rfl (la_of y2) ?_
        refine b_iv (c := v0) (as := []) (rest := []) rfl (by decide) (jgo_7 (w := w) hS mv0) rfl rfl (Nat.le_of_ble_eq_true rfl) (fun hq => ?_)
        refine lx_mono (Z_R_walkExp_m hS r1 mv0 h) ?_
        rintro _ _ ⟨z12, M12, rfl, rfl, r12, iz12, h⟩
        refine l_s1 (n := 1) rfl rfl rfl rfl (fun ls y5 ho => ?_)
        have y6 := ho 0 _ (by decide) (fun q => by cases q.2) y2
        exact Z_R_step_183 hS r12 mv0 iz12 y6 y5 h
      refine l_swt (a := (gi M1 ((gr M1 v0 0) + 1) (gi M1 v0 6).toNat)) rfl ia (swo_13_19 e13 e14 e15 e16 e17 e18 e19) ?_
      show lx _ _ _ 178 _ _ _ _
      refine l1 (n := 1) rfl rfl rfl (la_of y2) ?_
      refine b_iv (c := v0) (as := []) (rest := []) rfl (by decide) (jgo_7 (w := w) hS mv0) rfl rfl (Nat.le_of_ble_eq_true rfl) (fun hq => ?_)
      refine lx_mono (Z_R_walkExp_m hS r1 mv0 h) ?_
      rintro _ _ ⟨z12, M12, rfl, rfl, r12, iz12, h⟩
      refine l_s1 (n := 1) rfl rfl rfl rfl (fun ls y5 ho => ?_)
      have y6 := ho 0 _ (by decide) (fun q => by cases q.2) y2
      exact Z_R_step_183 hS r12 mv0 iz12 y6 y5 h
    · replace h := h.1 (Classical.not_not.mp c)
      refine l1 (n := 1) rfl rfl rfl rfl ?_
      exact l_ri rfl rfl ⟨by decide, by decide⟩ r1 h
  · replace h := h.2 c
    refine l1 (n := 1) rfl rfl rfl (la_of a0) ?_
    refine l7 (n := 3) rfl rfl rfl rfl ?_
    refine l_pl rfl (jgo_7 (w := w) (fz := fz) hS mv0) rfl (fun _ _ => rfl) (fun M13 e => ?_)
    replace h := h M13 e
    have r13 := hR.wl (jgo_7 (w := w) (fz := fz) hS mv0).1 (jgl_7 (w := w) mv0) e
    refine l1 (n := 1) rfl rfl rfl rfl ?_
    exact l_ri rfl rfl ⟨by decide, by decide⟩ r13 h
def em_R_step (x0 : Nat) (M : rf_M) (K : Int → rf_M → Prop) : Prop := e_R_step x0 M K
theorem Z_R_step_m {w fz : Bool} {S : gS} {B : rf_M} {M : rf_M} {n0 : Nat} {x0 : Nat} {K : Int → rf_M → Prop} (hS : rl S) (hR : fl 22 (gwH w) B M) (mx0 : x0 ∈ gwL7 w) (h : em_R_step x0 M K) : lx (cx0 fz) n0 90 0 (lv_args 0 [.ref x0]) [] (M, S) (vl_i 22 (gwH w) B S K) :=
  Z_R_step hS hR mx0 rfl h
theorem E_R_step_m {fz : Bool} {S : gS} {B : rf_M} {M : rf_M} {n0 : Nat} {x0 : Nat} {K : Int → rf_M → Prop} (hS : rl S) (hR : fl 22 353 B M) (mx0 : x0 ∈ k7) (h : em_R_step x0 M K) : lx (cx0 fz) n0 90 0 (lv_args 0 [.ref x0]) [] (M, S) (vl_i 22 353 B S K) :=
  Z_R_step_m (w := true) hS hR mx0 h
def e_C_cut_29 (s0 : Nat) (s1 : Int) (M : rf_M) (K : rf_M → Prop) : Prop := (s1 = 0 ∨ s1 = 1) ∧ (∀ M1 : rf_M, M1 = wi M s0 2 s1 → (K M1))
theorem Z_C_cut_29 {w fz : Bool} {S : gS} {B : rf_M} {M : rf_M} {ls : rf_L} {n0 : Nat} {s0 : Nat} {s1 : Int} {K : rf_M → Prop} (hS : rl S) (hR : fl 22 (gwH w) B M) (ms0 : s0 ∈ gwL6 w) (is1 : inr s1) (h : e_C_cut_29 s0 s1 M K) : lx (cx0 fz) n0 101 29 ls [zv s1, .ref s0] (M, S) (vl_v 22 (gwH w) B S K) := by
  unfold e_C_cut_29 at h
  obtain ⟨q, h⟩ := h
  refine l_pb rfl (jgo_6 (w := w) (fz := fz) hS ms0) rfl rfl q (fun M1 e => ?_)
  replace h := h M1 e
  have r1 := hR.wi (jgo_6 (w := w) (fz := fz) hS ms0).1 (jgl_6 (w := w) ms0) e
  exact l_rv rfl rfl r1 h
def e_C_cut (v0 : Nat) (M : rf_M) (K : rf_M → Prop) : Prop := ∀ M1 : rf_M, M1 = wi M v0 0 1 → (∀ M2 : rf_M, M2 = wi M1 v0 1 ((gi M1 v0 1) + 1) → (((gi M2 v0 1) < 4 → (e_C_cut_29 v0 0 M2 K)) ∧ (¬ ((gi M2 v0 1) < 4) → (e_C_cut_29 v0 1 M2 K))))
theorem Z_C_cut {w fz : Bool} {S : gS} {B : rf_M} {M : rf_M} {ls : rf_L} {n0 : Nat} {v0 : Nat} {K : rf_M → Prop} (hS : rl S) (hR : fl 22 (gwH w) B M) (mv0 : v0 ∈ gwL6 w) (a0 : rf_ld ls 0 = some (.ref v0)) (h : e_C_cut v0 M K) : lx (cx0 fz) n0 101 0 ls [] (M, S) (vl_v 22 (gwH w) B S K) := by
  unfold e_C_cut at h
  refine l1 (n := 1) rfl rfl rfl (la_of a0) ?_
  refine l1 (n := 1) rfl rfl rfl rfl ?_
  refine l_pi rfl (jgo_6 (w := w) (fz := fz) hS mv0) rfl (fun _ _ => rfl) (fun M1 e => ?_)
  replace h := h M1 e
  have r1 := hR.wi (jgo_6 (w := w) (fz := fz) hS mv0).1 (jgl_6 (w := w) mv0) e
  refine l1 (n := 1) rfl rfl rfl (la_of a0) ?_
  refine l0 rfl rfl rfl ?_
  refine l_gi rfl (jgo_6 (w := w) hS mv0) rfl (fun _ => rfl) ?_
  refine l1 (n := 1) rfl rfl rfl rfl ?_
  refine l_add rfl ?_
  refine l_pi rfl (jgo_6 (w := w) (fz := fz) hS mv0) rfl (fun _ _ => rfl) (fun M2 e => ?_)
  replace h := h M2 e
  have r2 := r1.wi (jgo_6 (w := w) (fz := fz) hS mv0).1 (jgl_6 (w := w) mv0) e
  refine l1 (n := 1) rfl rfl rfl (la_of a0) ?_
  refine l1 (n := 1) rfl rfl rfl (la_of a0) ?_
  refine l_gi rfl (jgo_6 (w := w) hS mv0) rfl (fun _ => rfl) ?_
  refine l1 (n := 1) rfl rfl rfl rfl ?_
  refine l_ic rfl (inr_gi _ _ _) ⟨by decide, by decide⟩ (fun c => ?_) (fun c => ?_)
  · replace h := h.1 c
    refine l1 (n := 1) rfl rfl rfl rfl ?_
    exact Z_C_cut_29 hS r2 mv0 ⟨by decide, by decide⟩ h
  · replace h := h.2 c
    refine l1 (n := 1) rfl rfl rfl rfl ?_
    refine l3 rfl rfl rfl ?_
    exact Z_C_cut_29 hS r2 mv0 ⟨by decide, by decide⟩ h
def em_C_cut (x0 : Nat) (M : rf_M) (K : rf_M → Prop) : Prop := e_C_cut x0 M K
theorem Z_C_cut_m {w fz : Bool} {S : gS} {B : rf_M} {M : rf_M} {n0 : Nat} {x0 : Nat} {K : rf_M → Prop} (hS : rl S) (hR : fl 22 (gwH w) B M) (mx0 : x0 ∈ gwL6 w) (h : em_C_cut x0 M K) : lx (cx0 fz) n0 101 0 (lv_args 0 [.ref x0]) [] (M, S) (vl_v 22 (gwH w) B S K) :=
  Z_C_cut hS hR mx0 rfl h
def e_C_rest (v0 : Nat) (M : rf_M) (K : rf_M → Prop) : Prop := ∀ M1 : rf_M, M1 = wi M v0 0 3 → (∀ M2 : rf_M, M2 = wi M1 v0 2 0 → (∀ M3 : rf_M, M3 = wi M2 v0 6 (gi M2 (v0 + 3) 2) → (((0 ≤ (0 : Int) ∧ 0 ≤ (0 : Int) ∧ 0 ≤ (16 : Int)) ∧ (0 : Int) + (16 : Int) ≤ 16 ∧ (0 : Int) + (16 : Int) ≤ 16 → (∀ M4 : rf_M, M4 = cpi M3 (v0 + 4) 0 (v0 + 2) 0 16 → (K M4))))))
theorem Z_C_rest {w fz : Bool} {S : gS} {B : rf_M} {M : rf_M} {ls : rf_L} {n0 : Nat} {v0 : Nat} {K : rf_M → Prop} (hS : rl S) (hR : fl 22 (gwH w) B M) (mv0 : v0 ∈ gwL6 w) (a0 : rf_ld ls 0 = some (.ref v0)) (h : e_C_rest v0 M K) : lx (cx0 fz) n0 102 0 ls [] (M, S) (vl_v 22 (gwH w) B S K) := by
  unfold e_C_rest at h
  refine l1 (n := 1) rfl rfl rfl (la_of a0) ?_
  refine l1 (n := 1) rfl rfl rfl rfl ?_
  refine l_pi rfl (jgo_6 (w := w) (fz := fz) hS mv0) rfl (fun _ _ => rfl) (fun M1 e => ?_)
  replace h := h M1 e
  have r1 := hR.wi (jgo_6 (w := w) (fz := fz) hS mv0).1 (jgl_6 (w := w) mv0) e
  refine l1 (n := 1) rfl rfl rfl (la_of a0) ?_
  refine l1 (n := 1) rfl rfl rfl rfl ?_
  refine l_pb rfl (jgo_6 (w := w) (fz := fz) hS mv0) rfl rfl (Or.inl rfl) (fun M2 e => ?_)
  replace h := h M2 e
  have r2 := r1.wi (jgo_6 (w := w) (fz := fz) hS mv0).1 (jgl_6 (w := w) mv0) e
  refine l1 (n := 1) rfl rfl rfl (la_of a0) ?_
  refine l1 (n := 1) rfl rfl rfl (la_of a0) ?_
  refine l_gr rfl (jgo_6 (w := w) hS mv0) rfl (fun _ => rfl) (jgf_6_4 (w := w) r2.2 mv0) ?_
  refine l_gi rfl (jgo_7 (w := w) hS (jgt_6_4 (w := w) mv0)) rfl (fun _ => rfl) ?_
  refine l_pi rfl (jgo_6 (w := w) (fz := fz) hS mv0) rfl (fun _ _ => rfl) (fun M3 e => ?_)
  replace h := h M3 e
  have r3 := r2.wi (jgo_6 (w := w) (fz := fz) hS mv0).1 (jgl_6 (w := w) mv0) e
  refine l1 (n := 1) rfl rfl rfl (la_of a0) ?_
  refine l_gr rfl (jgo_6 (w := w) hS mv0) rfl (fun _ => rfl) (jgf_6_4 (w := w) r3.2 mv0) ?_
  refine l_gr rfl (jgo_7 (w := w) hS (jgt_6_4 (w := w) mv0)) rfl (fun _ => rfl) (jgf_7_4 (w := w) r3.2 (jgt_6_4 (w := w) mv0)) ?_
  refine l1 (n := 1) rfl rfl rfl rfl ?_
  refine l1 (n := 1) rfl rfl rfl (la_of a0) ?_
  refine l_gr rfl (jgo_6 (w := w) hS mv0) rfl (fun _ => rfl) (jgf_6_7 (w := w) r3.2 mv0) ?_
  refine l1 (n := 1) rfl rfl rfl rfl ?_
  refine l_bi rfl (by decide) ?_
  refine b_cpi rfl rfl (jgt_7_4 (w := w) (fz := fz) hS (jgt_6_4 (w := w) mv0)).1 (jgt_6_7 (w := w) (fz := fz) hS mv0).1 ⟨by decide, by decide⟩ ⟨by decide, by decide⟩ ⟨by decide, by decide⟩ (fun q M4 e => ?_)
  replace h := h q M4 e
  have r4 := r3.cpi (jgt_6_7 (w := w) (fz := fz) hS mv0).1.1 (jgt_6_7 (w := w) (fz := fz) hS mv0).2 e
  exact l_rv rfl rfl r4 h
def em_C_rest (x0 : Nat) (M : rf_M) (K : rf_M → Prop) : Prop := e_C_rest x0 M K
theorem Z_C_rest_m {w fz : Bool} {S : gS} {B : rf_M} {M : rf_M} {n0 : Nat} {x0 : Nat} {K : rf_M → Prop} (hS : rl S) (hR : fl 22 (gwH w) B M) (mx0 : x0 ∈ gwL6 w) (h : em_C_rest x0 M K) : lx (cx0 fz) n0 102 0 (lv_args 0 [.ref x0]) [] (M, S) (vl_v 22 (gwH w) B S K) :=
  Z_C_rest hS hR mx0 rfl h
def e_M_isHeld_16b (v2 : Int) (M : rf_M) (b16 : Int → rf_M → Prop) (K : Int → rf_M → Prop) : Prop := (8 ≤ v2 → (K 0 M)) ∧ (¬ (8 ≤ v2) → ((0 ≤ v2 ∧ v2 < 8 → (((gi M (clA v2) 2) = 0 → (inr (v2 + 1) ∧ (b16 (v2 + 1) M))) ∧ (¬ ((gi M (clA v2) 2) = 0) → (K 1 M))))))
theorem Z_M_isHeld_16b {w fz : Bool} {S : gS} {B : rf_M} {M : rf_M} {ls : rf_L} {n0 : Nat} {v2 : Int} {b16 : Int → rf_M → Prop} {K : Int → rf_M → Prop} (hS : rl S) (hR : fl 22 (gwH w) B M) (iv2 : inr v2) (a0 : rf_ld ls 0 = some (.ref 22)) (a2 : rf_ld ls 2 = some (zv v2)) (hb16 : ∀ n', n' < n0 → ∀ (v2 : Int) (M : rf_M) (ls : rf_L), fl 22 (gwH w) B M → inr v2 → rf_ld ls 0 = some (.ref 22) → rf_ld ls 2 = some (zv v2) → b16 v2 M → lx (cx0 fz) n' 103 16 ls [] (M, S) (vl_i 22 (gwH w) B S K)) (h : e_M_isHeld_16b v2 M b16 K) : lx (cx0 fz) n0 103 16 ls [] (M, S) (vl_i 22 (gwH w) B S K) := by
  unfold e_M_isHeld_16b at h
  rcases Nat.eq_zero_or_pos n0 with e0 | hp
  · rw [e0]; exact lx_zero
  refine l1 (n := 1) rfl rfl rfl (li_of a2) ?_
  refine l_bi rfl (by decide) ?_
  refine l_ic rfl iv2 ⟨by decide, by decide⟩ (fun c => ?_) (fun c => ?_)
  · replace h := h.1 c
    refine l1 (n := 1) rfl rfl rfl rfl ?_
    exact l_rb rfl rfl (Or.inl rfl) hR h
  · replace h := h.2 c
    refine l1 (n := 1) rfl rfl rfl (la_of a0) ?_
    refine l_gr rfl (ko_0 hS (List.Mem.head _)) rfl (fun _ => rfl) (kf_0_7 hR.2 (List.Mem.head _)) ?_
    refine l1 (n := 1) rfl rfl rfl (li_of a2) ?_
    refine b_aa rfl (jgc_195 (w := w) (fz := fz) hS).1 (Nat.le_of_ble_eq_true rfl) iv2 (fun q1 => ⟨clA_ref hR.2 q1, ?_⟩)
    replace h := h q1
    refine l_gi rfl (jgo_6 (w := w) hS (clA_memg q1)) rfl (fun _ => rfl) ?_
    refine l_if rfl (inr_gi _ _ _) (fun c => ?_) (fun c => ?_)
    · replace h := h.1 c
      refine l_ii rfl a2 (Nat.le_of_ble_eq_true rfl) (fun ls y1 ho => ?_)
      have y2 := ho 0 _ (by decide) (fun q => by cases q.2) a0
      refine l3 rfl rfl rfl ?_
      obtain ⟨i1, h⟩ := h
      exact hb16 _ (by omega) _ _ _ hR i1 y2 y1 h
    · replace h := h.2 c
      refine l1 (n := 1) rfl rfl rfl rfl ?_
      exact l_rb rfl rfl (Or.inr rfl) hR h
def e_M_isHeld_16 (v2 : Int) (M : rf_M) (K : Int → rf_M → Prop) : Prop := ∃ Inv : Int → rf_M → Prop, Inv v2 M ∧ ∀ (v2 : Int) (M : rf_M), inr v2 → Inv v2 M → e_M_isHeld_16b v2 M Inv K
theorem Z_M_isHeld_16 {w fz : Bool} {S : gS} {B : rf_M} {M : rf_M} {ls : rf_L} {n0 : Nat} {v2 : Int} {K : Int → rf_M → Prop} (hS : rl S) (hR : fl 22 (gwH w) B M) (iv2 : inr v2) (a0 : rf_ld ls 0 = some (.ref 22)) (a2 : rf_ld ls 2 = some (zv v2)) (h : e_M_isHeld_16 v2 M K) : lx (cx0 fz) n0 103 16 ls [] (M, S) (vl_i 22 (gwH w) B S K) := by
  obtain ⟨Inv, hm, hb⟩ := h
  induction n0 using Nat.strongRecOn generalizing ls M v2 with
  | _ n0 ih =>
    refine Z_M_isHeld_16b hS hR iv2 a0 a2 (fun n' hn' v2' M' ls' hR' f0 f1 f2 q2 => ih n' hn' hR' f0 f1 f2 q2) (hb v2 M iv2 hm)
def e_M_isHeld (v1 : Int) (M : rf_M) (K : Int → rf_M → Prop) : Prop := (0 ≤ v1 ∧ v1 < 8 → (((gi M (clA v1) 2) = 0 → (e_M_isHeld_16 0 M K)) ∧ (¬ ((gi M (clA v1) 2) = 0) → (K 0 M))))
theorem Z_M_isHeld {w fz : Bool} {S : gS} {B : rf_M} {M : rf_M} {ls : rf_L} {n0 : Nat} {v1 : Int} {K : Int → rf_M → Prop} (hS : rl S) (hR : fl 22 (gwH w) B M) (iv1 : inr v1) (a0 : rf_ld ls 0 = some (.ref 22)) (a1 : rf_ld ls 1 = some (zv v1)) (h : e_M_isHeld v1 M K) : lx (cx0 fz) n0 103 0 ls [] (M, S) (vl_i 22 (gwH w) B S K) := by
  unfold e_M_isHeld at h
  refine l1 (n := 1) rfl rfl rfl (la_of a0) ?_
  refine l_gr rfl (ko_0 hS (List.Mem.head _)) rfl (fun _ => rfl) (kf_0_7 hR.2 (List.Mem.head _)) ?_
  refine l1 (n := 1) rfl rfl rfl (li_of a1) ?_
  refine b_aa rfl (jgc_195 (w := w) (fz := fz) hS).1 (Nat.le_of_ble_eq_true rfl) iv1 (fun q1 => ⟨clA_ref hR.2 q1, ?_⟩)
  replace h := h q1
  refine l_gi rfl (jgo_6 (w := w) hS (clA_memg q1)) rfl (fun _ => rfl) ?_
  refine l_if rfl (inr_gi _ _ _) (fun c => ?_) (fun c => ?_)
  · replace h := h.1 c
    refine l1 (n := 1) rfl rfl rfl rfl ?_
    refine l_s1 (n := 1) rfl rfl rfl rfl (fun ls y1 ho => ?_)
    have y2 := ho 0 _ (by decide) (fun q => by cases q.2) a0
    exact Z_M_isHeld_16 hS hR ⟨by decide, by decide⟩ y2 y1 h
  · replace h := h.2 c
    refine l1 (n := 1) rfl rfl rfl rfl ?_
    exact l_rb rfl rfl (Or.inl rfl) hR h
def em_M_isHeld (x1 : Int) (M : rf_M) (K : Int → rf_M → Prop) : Prop := e_M_isHeld x1 M K
theorem Z_M_isHeld_m {w fz : Bool} {S : gS} {B : rf_M} {M : rf_M} {n0 : Nat} {x1 : Int} {K : Int → rf_M → Prop} (hS : rl S) (hR : fl 22 (gwH w) B M) (ix1 : inr x1) (h : em_M_isHeld x1 M K) : lx (cx0 fz) n0 103 0 (lv_args 0 [.ref 22, zv x1]) [] (M, S) (vl_i 22 (gwH w) B S K) :=
  Z_M_isHeld hS hR ix1 rfl rfl h
def e_S_takes_43 (v0 : Nat) (v1 : Nat) (v2 : Nat) (v3 : Int) (M : rf_M) (b17 : Nat → Nat → Nat → Int → rf_M → Prop) (K : Int → rf_M → Prop) : Prop := inr (v3 + 1) ∧ (b17 v0 v1 v2 (v3 + 1) M)
theorem Z_S_takes_43 {w fz : Bool} {S : gS} {B : rf_M} {M : rf_M} {ls : rf_L} {n0 : Nat} {v0 : Nat} {v1 : Nat} {v2 : Nat} {v3 : Int} {b17 : Nat → Nat → Nat → Int → rf_M → Prop} {K : Int → rf_M → Prop} (hS : rl S) (hR : fl 22 (gwH w) B M) (mv0 : v0 ∈ gwL4 w) (mv1 : v1 ∈ k1) (mv2 : v2 ∈ gwL8 w) (iv3 : inr v3) (a0 : rf_ld ls 0 = some (.ref v0)) (a1 : rf_ld ls 1 = some (.ref v1)) (a2 : rf_ld ls 2 = some (.ref v2)) (a3 : rf_ld ls 3 = some (zv v3)) (hb17 : ∀ n', n' < n0 → ∀ (v0 : Nat) (v1 : Nat) (v2 : Nat) (v3 : Int) (M : rf_M) (ls : rf_L), fl 22 (gwH w) B M → v0 ∈ gwL4 w → v1 ∈ k1 → v2 ∈ gwL8 w → inr v3 → rf_ld ls 0 = some (.ref v0) → rf_ld ls 1 = some (.ref v1) → rf_ld ls 2 = some (.ref v2) → rf_ld ls 3 = some (zv v3) → b17 v0 v1 v2 v3 M → lx (cx0 fz) n' 105 17 ls [] (M, S) (vl_i 22 (gwH w) B S K)) (h : e_S_takes_43 v0 v1 v2 v3 M b17 K) : lx (cx0 fz) n0 105 43 ls [] (M, S) (vl_i 22 (gwH w) B S K) := by
  unfold e_S_takes_43 at h
  rcases Nat.eq_zero_or_pos n0 with e0 | hp
  · rw [e0]; exact lx_zero
  refine l_ii rfl a3 (Nat.le_of_ble_eq_true rfl) (fun ls y1 ho => ?_)
  have y2 := ho 0 _ (by decide) (fun q => by cases q.2) a0
  have y3 := ho 1 _ (by decide) (fun q => by cases q.2) a1
  have y4 := ho 2 _ (by decide) (fun q => by cases q.2) a2
  refine l3 rfl rfl rfl ?_
  obtain ⟨i1, h⟩ := h
  exact hb17 _ (by omega) _ _ _ _ _ _ hR mv0 mv1 mv2 i1 y2 y3 y4 y1 h
def e_S_takes_70 (M : rf_M) (K : Int → rf_M → Prop) : Prop := K 0 M
theorem Z_S_takes_70 {w fz : Bool} {S : gS} {B : rf_M} {M : rf_M} {ls : rf_L} {n0 : Nat} {K : Int → rf_M → Prop} (hS : rl S) (hR : fl 22 (gwH w) B M) (h : e_S_takes_70 M K) : lx (cx0 fz) n0 105 70 ls [] (M, S) (vl_i 22 (gwH w) B S K) := by
  unfold e_S_takes_70 at h
  refine l1 (n := 1) rfl rfl rfl rfl ?_
  exact l_rb rfl rfl (Or.inl rfl) hR h
def e_S_takes_131 (v0 : Nat) (v1 : Nat) (v2 : Nat) (v3 : Int) (M : rf_M) (b106 : Nat → Nat → Nat → Int → rf_M → Prop) (K : Int → rf_M → Prop) : Prop := inr (v3 + 1) ∧ (b106 v0 v1 v2 (v3 + 1) M)
theorem Z_S_takes_131 {w fz : Bool} {S : gS} {B : rf_M} {M : rf_M} {ls : rf_L} {n0 : Nat} {v0 : Nat} {v1 : Nat} {v2 : Nat} {v3 : Int} {b106 : Nat → Nat → Nat → Int → rf_M → Prop} {K : Int → rf_M → Prop} (hS : rl S) (hR : fl 22 (gwH w) B M) (mv0 : v0 ∈ gwL4 w) (mv1 : v1 ∈ k1) (mv2 : v2 ∈ gwL8 w) (iv3 : inr v3) (a0 : rf_ld ls 0 = some (.ref v0)) (a1 : rf_ld ls 1 = some (.ref v1)) (a2 : rf_ld ls 2 = some (.ref v2)) (a3 : rf_ld ls 3 = some (zv v3)) (hb106 : ∀ n', n' < n0 → ∀ (v0 : Nat) (v1 : Nat) (v2 : Nat) (v3 : Int) (M : rf_M) (ls : rf_L), fl 22 (gwH w) B M → v0 ∈ gwL4 w → v1 ∈ k1 → v2 ∈ gwL8 w → inr v3 → rf_ld ls 0 = some (.ref v0) → rf_ld ls 1 = some (.ref v1) → rf_ld ls 2 = some (.ref v2) → rf_ld ls 3 = some (zv v3) → b106 v0 v1 v2 v3 M → lx (cx0 fz) n' 105 106 ls [] (M, S) (vl_i 22 (gwH w) B S K)) (h : e_S_takes_131 v0 v1 v2 v3 M b106 K) : lx (cx0 fz) n0 105 131 ls [] (M, S) (vl_i 22 (gwH w) B S K) := by
  unfold e_S_takes_131 at h
  rcases Nat.eq_zero_or_pos n0 with e0 | hp
  · rw [e0]; exact lx_zero
  refine l_ii rfl a3 (Nat.le_of_ble_eq_true rfl) (fun ls y1 ho => ?_)
  have y2 := ho 0 _ (by decide) (fun q => by cases q.2) a0
  have y3 := ho 1 _ (by decide) (fun q => by cases q.2) a1
  have y4 := ho 2 _ (by decide) (fun q => by cases q.2) a2
  refine l3 rfl rfl rfl ?_
  obtain ⟨i1, h⟩ := h
  exact hb106 _ (by omega) _ _ _ _ _ _ hR mv0 mv1 mv2 i1 y2 y3 y4 y1 h
def e_S_takes_197 (M : rf_M) (K : Int → rf_M → Prop) : Prop := K 1 M
theorem Z_S_takes_197 {w fz : Bool} {S : gS} {B : rf_M} {M : rf_M} {ls : rf_L} {n0 : Nat} {K : Int → rf_M → Prop} (hS : rl S) (hR : fl 22 (gwH w) B M) (h : e_S_takes_197 M K) : lx (cx0 fz) n0 105 197 ls [] (M, S) (vl_i 22 (gwH w) B S K) := by
  unfold e_S_takes_197 at h
  refine l1 (n := 1) rfl rfl rfl rfl ?_
  exact l_rb rfl rfl (Or.inr rfl) hR h
def e_S_takes_139b (v0 : Nat) (v1 : Nat) (v2 : Nat) (v3 : Int) (M : rf_M) (b139 : Nat → Nat → Nat → Int → rf_M → Prop) (K : Int → rf_M → Prop) : Prop := ((gi M v2 3) ≤ v3 → (e_S_takes_197 M K)) ∧ (¬ ((gi M v2 3) ≤ v3) → ((32 ≤ (gi M v0 2) → (e_S_takes_197 M K)) ∧ (¬ (32 ≤ (gi M v0 2)) → ((0 ≤ (gi M v0 2) ∧ (gi M v0 2) < 32 → (∀ M1 : rf_M, M1 = wq M (v0 + 3) (gi M v0 2).toNat v1 → ((0 ≤ v3 ∧ v3 < 300 → ((0 ≤ (gi M1 v0 2) ∧ (gi M1 v0 2) < 32 → (∀ M2 : rf_M, M2 = wi M1 (v0 + 4) (gi M1 v0 2).toNat (gi M1 (v2 + 3) (v3).toNat) → (∀ M3 : rf_M, M3 = wi M2 v0 2 ((gi M2 v0 2) + 1) → (inr (v3 + 1) ∧ (b139 v0 v1 v2 (v3 + 1) M3))))))))))))))
theorem Z_S_takes_139b {w fz : Bool} {S : gS} {B : rf_M} {M : rf_M} {ls : rf_L} {n0 : Nat} {v0 : Nat} {v1 : Nat} {v2 : Nat} {v3 : Int} {b139 : Nat → Nat → Nat → Int → rf_M → Prop} {K : Int → rf_M → Prop} (hS : rl S) (hR : fl 22 (gwH w) B M) (mv0 : v0 ∈ gwL4 w) (mv1 : v1 ∈ k1) (mv2 : v2 ∈ gwL8 w) (iv3 : inr v3) (a0 : rf_ld ls 0 = some (.ref v0)) (a1 : rf_ld ls 1 = some (.ref v1)) (a2 : rf_ld ls 2 = some (.ref v2)) (a3 : rf_ld ls 3 = some (zv v3)) (hb139 : ∀ n', n' < n0 → ∀ (v0 : Nat) (v1 : Nat) (v2 : Nat) (v3 : Int) (M : rf_M) (ls : rf_L), fl 22 (gwH w) B M → v0 ∈ gwL4 w → v1 ∈ k1 → v2 ∈ gwL8 w → inr v3 → rf_ld ls 0 = some (.ref v0) → rf_ld ls 1 = some (.ref v1) → rf_ld ls 2 = some (.ref v2) → rf_ld ls 3 = some (zv v3) → b139 v0 v1 v2 v3 M → lx (cx0 fz) n' 105 139 ls [] (M, S) (vl_i 22 (gwH w) B S K)) (h : e_S_takes_139b v0 v1 v2 v3 M b139 K) : lx (cx0 fz) n0 105 139 ls [] (M, S) (vl_i 22 (gwH w) B S K) := by
  unfold e_S_takes_139b at h
  rcases Nat.eq_zero_or_pos n0 with e0 | hp
  · rw [e0]; exact lx_zero
  refine l1 (n := 1) rfl rfl rfl (li_of a3) ?_
  refine l1 (n := 1) rfl rfl rfl (la_of a2) ?_
  refine l_gi rfl (jgo_8 (w := w) hS mv2) rfl (fun _ => rfl) ?_
  refine l_ic rfl iv3 (inr_gi _ _ _) (fun c => ?_) (fun c => ?_)
  · replace h := h.1 c
    exact Z_S_takes_197 hS hR  h
  · replace h := h.2 c
    refine l1 (n := 1) rfl rfl rfl (la_of a0) ?_
    refine l_gi rfl (jgo_4 (w := w) hS mv0) rfl (fun _ => rfl) ?_
    refine l_bi rfl (by decide) ?_
    refine l_ic rfl (inr_gi _ _ _) ⟨by decide, by decide⟩ (fun c => ?_) (fun c => ?_)
    · replace h := h.1 c
      exact Z_S_takes_197 hS hR  h
    · replace h := h.2 c
      refine l1 (n := 1) rfl rfl rfl (la_of a0) ?_
      refine l_gr rfl (jgo_4 (w := w) hS mv0) rfl (fun _ => rfl) (jgf_4_3 (w := w) hR.2 mv0) ?_
      refine l1 (n := 1) rfl rfl rfl (la_of a0) ?_
      refine l_gi rfl (jgo_4 (w := w) hS mv0) rfl (fun _ => rfl) ?_
      refine l1 (n := 1) rfl rfl rfl (la_of a1) ?_
      refine b_as rfl (jgt_4_3 (w := w) (fz := fz) hS mv0).1 (ko_1 hS mv1) rfl (Nat.le_of_ble_eq_true rfl) (inr_gi _ _ _) (fun q M1 e => ?_)
      replace h := h q M1 e
      have r1 := hR.wqSg mv0 e
      refine l1 (n := 1) rfl rfl rfl (la_of a0) ?_
      refine l_gr rfl (jgo_4 (w := w) hS mv0) rfl (fun _ => rfl) (jgf_4_4 (w := w) r1.2 mv0) ?_
      refine l1 (n := 1) rfl rfl rfl (la_of a0) ?_
      refine l_gi rfl (jgo_4 (w := w) hS mv0) rfl (fun _ => rfl) ?_
      refine l1 (n := 1) rfl rfl rfl (la_of a2) ?_
      refine l_gr rfl (jgo_8 (w := w) hS mv2) rfl (fun _ => rfl) (jgf_8_4 (w := w) r1.2 mv2) ?_
      refine l1 (n := 1) rfl rfl rfl (li_of a3) ?_
      refine b_ia rfl (jgt_8_4 (w := w) (fz := fz) hS mv2).1 (Nat.le_of_ble_eq_true rfl) iv3 (fun q => ?_)
      replace h := h q
      refine b_is rfl (jgt_4_4 (w := w) (fz := fz) hS mv0).1 (Nat.le_of_ble_eq_true rfl) (inr_gi _ _ _) (fun q M2 e => ?_)
      replace h := h q M2 e
      have r2 := r1.wi (jgt_4_4 (w := w) (fz := fz) hS mv0).1.1 (jgt_4_4 (w := w) (fz := fz) hS mv0).2 e
      refine l1 (n := 1) rfl rfl rfl (la_of a0) ?_
      refine l0 rfl rfl rfl ?_
      refine l_gi rfl (jgo_4 (w := w) hS mv0) rfl (fun _ => rfl) ?_
      refine l1 (n := 1) rfl rfl rfl rfl ?_
      refine l_add rfl ?_
      refine l_pi rfl (jgo_4 (w := w) (fz := fz) hS mv0) rfl (fun _ _ => rfl) (fun M3 e => ?_)
      replace h := h M3 e
      have r3 := r2.wi (jgo_4 (w := w) (fz := fz) hS mv0).1 (jgl_4 (w := w) mv0) e
      refine l_ii rfl a3 (Nat.le_of_ble_eq_true rfl) (fun ls y1 ho => ?_)
      have y2 := ho 0 _ (by decide) (fun q => by cases q.2) a0
      have y3 := ho 1 _ (by decide) (fun q => by cases q.2) a1
      have y4 := ho 2 _ (by decide) (fun q => by cases q.2) a2
      refine l3 rfl rfl rfl ?_
      obtain ⟨i1, h⟩ := h
      exact hb139 _ (by omega) _ _ _ _ _ _ r3 mv0 mv1 mv2 i1 y2 y3 y4 y1 h
def e_S_takes_139 (v0 : Nat) (v1 : Nat) (v2 : Nat) (v3 : Int) (M : rf_M) (K : Int → rf_M → Prop) : Prop := ∃ Inv : Nat → Nat → Nat → Int → rf_M → Prop, Inv v0 v1 v2 v3 M ∧ ∀ (v0 : Nat) (v1 : Nat) (v2 : Nat) (v3 : Int) (M : rf_M), inr v3 → Inv v0 v1 v2 v3 M → e_S_takes_139b v0 v1 v2 v3 M Inv K
theorem Z_S_takes_139 {w fz : Bool} {S : gS} {B : rf_M} {M : rf_M} {ls : rf_L} {n0 : Nat} {v0 : Nat} {v1 : Nat} {v2 : Nat} {v3 : Int} {K : Int → rf_M → Prop} (hS : rl S) (hR : fl 22 (gwH w) B M) (mv0 : v0 ∈ gwL4 w) (mv1 : v1 ∈ k1) (mv2 : v2 ∈ gwL8 w) (iv3 : inr v3) (a0 : rf_ld ls 0 = some (.ref v0)) (a1 : rf_ld ls 1 = some (.ref v1)) (a2 : rf_ld ls 2 = some (.ref v2)) (a3 : rf_ld ls 3 = some (zv v3)) (h : e_S_takes_139 v0 v1 v2 v3 M K) : lx (cx0 fz) n0 105 139 ls [] (M, S) (vl_i 22 (gwH w) B S K) := by
  obtain ⟨Inv, hm, hb⟩ := h
  induction n0 using Nat.strongRecOn generalizing ls M v0 v1 v2 v3 with
  | _ n0 ih =>
    refine Z_S_takes_139b hS hR mv0 mv1 mv2 iv3 a0 a1 a2 a3 (fun n' hn' v0' v1' v2' v3' M' ls' hR' f0 f1 f2 f3 f4 f5 f6 f7 q2 => ih n' hn' hR' f0 f1 f2 f3 f4 f5 f6 f7 q2) (hb v0 v1 v2 v3 M iv3 hm)
def e_S_takes_106b (v0 : Nat) (v1 : Nat) (v2 : Nat) (v3 : Int) (M : rf_M) (b106 : Nat → Nat → Nat → Int → rf_M → Prop) (K : Int → rf_M → Prop) : Prop := (16 ≤ v3 → (e_S_takes_139 v0 v1 v2 0 M K)) ∧ (¬ (16 ≤ v3) → (em_D_hasWritten v2 v3 M (fun (z1 : Int) (M1 : rf_M) => (z1 = 0 → (e_S_takes_131 v0 v1 v2 v3 M1 b106 K)) ∧ (¬ (z1 = 0) → ((0 ≤ v3 ∧ v3 < 16 → (em_S_write v0 v3 (gl M1 (v2 + 1) (v3).toNat) M1 (fun (M2 : rf_M) => e_S_takes_131 v0 v1 v2 v3 M2 b106 K))))))))
theorem Z_S_takes_106b {w fz : Bool} {S : gS} {B : rf_M} {M : rf_M} {ls : rf_L} {n0 : Nat} {v0 : Nat} {v1 : Nat} {v2 : Nat} {v3 : Int} {b106 : Nat → Nat → Nat → Int → rf_M → Prop} {K : Int → rf_M → Prop} (hS : rl S) (hR : fl 22 (gwH w) B M) (mv0 : v0 ∈ gwL4 w) (mv1 : v1 ∈ k1) (mv2 : v2 ∈ gwL8 w) (iv3 : inr v3) (a0 : rf_ld ls 0 = some (.ref v0)) (a1 : rf_ld ls 1 = some (.ref v1)) (a2 : rf_ld ls 2 = some (.ref v2)) (a3 : rf_ld ls 3 = some (zv v3)) (hb106 : ∀ n', n' < n0 → ∀ (v0 : Nat) (v1 : Nat) (v2 : Nat) (v3 : Int) (M : rf_M) (ls : rf_L), fl 22 (gwH w) B M → v0 ∈ gwL4 w → v1 ∈ k1 → v2 ∈ gwL8 w → inr v3 → rf_ld ls 0 = some (.ref v0) → rf_ld ls 1 = some (.ref v1) → rf_ld ls 2 = some (.ref v2) → rf_ld ls 3 = some (zv v3) → b106 v0 v1 v2 v3 M → lx (cx0 fz) n' 105 106 ls [] (M, S) (vl_i 22 (gwH w) B S K)) (h : e_S_takes_106b v0 v1 v2 v3 M b106 K) : lx (cx0 fz) n0 105 106 ls [] (M, S) (vl_i 22 (gwH w) B S K) := by
  unfold e_S_takes_106b at h
  rcases Nat.eq_zero_or_pos n0 with e0 | hp
  · rw [e0]; exact lx_zero
  refine l1 (n := 1) rfl rfl rfl (li_of a3) ?_
  refine l_bi rfl (by decide) ?_
  refine l_ic rfl iv3 ⟨by decide, by decide⟩ (fun c => ?_) (fun c => ?_)
  · replace h := h.1 c
    refine l1 (n := 1) rfl rfl rfl rfl ?_
    refine l_s1 (n := 1) rfl rfl rfl rfl (fun ls y1 ho => ?_)
    have y2 := ho 0 _ (by decide) (fun q => by cases q.2) a0
    have y3 := ho 1 _ (by decide) (fun q => by cases q.2) a1
    have y4 := ho 2 _ (by decide) (fun q => by cases q.2) a2
    exact Z_S_takes_139 hS hR mv0 mv1 mv2 ⟨by decide, by decide⟩ y2 y3 y4 y1 h
  · replace h := h.2 c
    refine l1 (n := 1) rfl rfl rfl (la_of a2) ?_
    refine l1 (n := 1) rfl rfl rfl (li_of a3) ?_
    refine b_iv (c := v2) (as := [zv v3]) (rest := []) rfl (by decide) (jgo_8 (w := w) hS mv2) rfl rfl (Nat.le_of_ble_eq_true rfl) (fun hq => ?_)
    refine lx_mono (Z_D_hasWritten_m hS hR mv2 iv3 h) ?_
    rintro _ _ ⟨z1, M1, rfl, rfl, r1, iz1, h⟩
    refine l_if rfl iz1 (fun c => ?_) (fun c => ?_)
    · replace h := h.1 c
      exact Z_S_takes_131 hS r1 mv0 mv1 mv2 iv3 a0 a1 a2 a3 (fun n' hn' => hb106 n' (by omega)) h
    · replace h := h.2 c
      refine l1 (n := 1) rfl rfl rfl (la_of a0) ?_
      refine l1 (n := 1) rfl rfl rfl (li_of a3) ?_
      refine l1 (n := 1) rfl rfl rfl (la_of a2) ?_
      refine l_gr rfl (jgo_8 (w := w) hS mv2) rfl (fun _ => rfl) (jgf_8_1 (w := w) r1.2 mv2) ?_
      refine l1 (n := 1) rfl rfl rfl (li_of a3) ?_
      refine b_la rfl (jgt_8_1 (w := w) (fz := fz) hS mv2).1 (Nat.le_of_ble_eq_true rfl) iv3 (fun q => ?_)
      replace h := h q
      refine b_iv (c := v0) (as := [zv v3, .long (gl M1 (v2 + 1) (v3).toNat)]) (rest := []) rfl (by decide) (jgo_4 (w := w) hS mv0) rfl rfl (Nat.le_of_ble_eq_true rfl) (fun hq => ?_)
      refine lx_mono (Z_S_write_m hS r1 mv0 iv3 h) ?_
      rintro _ _ ⟨M2, rfl, rfl, r2, h⟩
      exact Z_S_takes_131 hS r2 mv0 mv1 mv2 iv3 a0 a1 a2 a3 (fun n' hn' => hb106 n' (by omega)) h
def e_S_takes_106 (v0 : Nat) (v1 : Nat) (v2 : Nat) (v3 : Int) (M : rf_M) (K : Int → rf_M → Prop) : Prop := ∃ Inv : Nat → Nat → Nat → Int → rf_M → Prop, Inv v0 v1 v2 v3 M ∧ ∀ (v0 : Nat) (v1 : Nat) (v2 : Nat) (v3 : Int) (M : rf_M), inr v3 → Inv v0 v1 v2 v3 M → e_S_takes_106b v0 v1 v2 v3 M Inv K
theorem Z_S_takes_106 {w fz : Bool} {S : gS} {B : rf_M} {M : rf_M} {ls : rf_L} {n0 : Nat} {v0 : Nat} {v1 : Nat} {v2 : Nat} {v3 : Int} {K : Int → rf_M → Prop} (hS : rl S) (hR : fl 22 (gwH w) B M) (mv0 : v0 ∈ gwL4 w) (mv1 : v1 ∈ k1) (mv2 : v2 ∈ gwL8 w) (iv3 : inr v3) (a0 : rf_ld ls 0 = some (.ref v0)) (a1 : rf_ld ls 1 = some (.ref v1)) (a2 : rf_ld ls 2 = some (.ref v2)) (a3 : rf_ld ls 3 = some (zv v3)) (h : e_S_takes_106 v0 v1 v2 v3 M K) : lx (cx0 fz) n0 105 106 ls [] (M, S) (vl_i 22 (gwH w) B S K) := by
  obtain ⟨Inv, hm, hb⟩ := h
  induction n0 using Nat.strongRecOn generalizing ls M v0 v1 v2 v3 with
  | _ n0 ih =>
    refine Z_S_takes_106b hS hR mv0 mv1 mv2 iv3 a0 a1 a2 a3 (fun n' hn' v0' v1' v2' v3' M' ls' hR' f0 f1 f2 f3 f4 f5 f6 f7 q2 => ih n' hn' hR' f0 f1 f2 f3 f4 f5 f6 f7 q2) (hb v0 v1 v2 v3 M iv3 hm)
def e_S_takes_74b (v0 : Nat) (v1 : Nat) (v2 : Nat) (v3 : Int) (M : rf_M) (b74 : Nat → Nat → Nat → Int → rf_M → Prop) (K : Int → rf_M → Prop) : Prop := ((gi M v2 3) ≤ v3 → (e_S_takes_106 v0 v1 v2 0 M K)) ∧ (¬ ((gi M v2 3) ≤ v3) → ((0 ≤ v3 ∧ v3 < 300 → (em_S_holdsAhead v0 v1 (gi M (v2 + 3) (v3).toNat) M (fun (z1 : Int) (M1 : rf_M) => (z1 = 0 → (K 0 M1)) ∧ (¬ z1 = 0 → (inr (v3 + 1) ∧ (b74 v0 v1 v2 (v3 + 1) M1))))))))
theorem Z_S_takes_74b {w fz : Bool} {S : gS} {B : rf_M} {M : rf_M} {ls : rf_L} {n0 : Nat} {v0 : Nat} {v1 : Nat} {v2 : Nat} {v3 : Int} {b74 : Nat → Nat → Nat → Int → rf_M → Prop} {K : Int → rf_M → Prop} (hS : rl S) (hR : fl 22 (gwH w) B M) (mv0 : v0 ∈ gwL4 w) (mv1 : v1 ∈ k1) (mv2 : v2 ∈ gwL8 w) (iv3 : inr v3) (a0 : rf_ld ls 0 = some (.ref v0)) (a1 : rf_ld ls 1 = some (.ref v1)) (a2 : rf_ld ls 2 = some (.ref v2)) (a3 : rf_ld ls 3 = some (zv v3)) (hb74 : ∀ n', n' < n0 → ∀ (v0 : Nat) (v1 : Nat) (v2 : Nat) (v3 : Int) (M : rf_M) (ls : rf_L), fl 22 (gwH w) B M → v0 ∈ gwL4 w → v1 ∈ k1 → v2 ∈ gwL8 w → inr v3 → rf_ld ls 0 = some (.ref v0) → rf_ld ls 1 = some (.ref v1) → rf_ld ls 2 = some (.ref v2) → rf_ld ls 3 = some (zv v3) → b74 v0 v1 v2 v3 M → lx (cx0 fz) n' 105 74 ls [] (M, S) (vl_i 22 (gwH w) B S K)) (h : e_S_takes_74b v0 v1 v2 v3 M b74 K) : lx (cx0 fz) n0 105 74 ls [] (M, S) (vl_i 22 (gwH w) B S K) := by
  unfold e_S_takes_74b at h
  rcases Nat.eq_zero_or_pos n0 with e0 | hp
  · rw [e0]; exact lx_zero
  refine l1 (n := 1) rfl rfl rfl (li_of a3) ?_
  refine l1 (n := 1) rfl rfl rfl (la_of a2) ?_
  refine l_gi rfl (jgo_8 (w := w) hS mv2) rfl (fun _ => rfl) ?_
  refine l_ic rfl iv3 (inr_gi _ _ _) (fun c => ?_) (fun c => ?_)
  · replace h := h.1 c
    refine l1 (n := 1) rfl rfl rfl rfl ?_
    refine l_s1 (n := 1) rfl rfl rfl rfl (fun ls y1 ho => ?_)
    have y2 := ho 0 _ (by decide) (fun q => by cases q.2) a0
    have y3 := ho 1 _ (by decide) (fun q => by cases q.2) a1
    have y4 := ho 2 _ (by decide) (fun q => by cases q.2) a2
    exact Z_S_takes_106 hS hR mv0 mv1 mv2 ⟨by decide, by decide⟩ y2 y3 y4 y1 h
  · replace h := h.2 c
    refine l1 (n := 1) rfl rfl rfl (la_of a0) ?_
    refine l1 (n := 1) rfl rfl rfl (la_of a1) ?_
    refine l1 (n := 1) rfl rfl rfl (la_of a2) ?_
    refine l_gr rfl (jgo_8 (w := w) hS mv2) rfl (fun _ => rfl) (jgf_8_4 (w := w) hR.2 mv2) ?_
    refine l1 (n := 1) rfl rfl rfl (li_of a3) ?_
    refine b_ia rfl (jgt_8_4 (w := w) (fz := fz) hS mv2).1 (Nat.le_of_ble_eq_true rfl) iv3 (fun q => ?_)
    replace h := h q
    refine b_iv (c := v0) (as := [.ref v1, zv (gi M (v2 + 3) (v3).toNat)]) (rest := []) rfl (by decide) (jgo_4 (w := w) hS mv0) rfl rfl (Nat.le_of_ble_eq_true rfl) (fun hq => ?_)
    refine lx_mono (Z_S_holdsAhead_m hS hR mv0 mv1 (inr_gi _ _ _) h) ?_
    rintro _ _ ⟨z1, M1, rfl, rfl, r1, iz1, h⟩
    refine l_if rfl iz1 (fun c => ?_) (fun c => ?_)
    · replace h := h.2 c
      refine l_ii rfl a3 (Nat.le_of_ble_eq_true rfl) (fun ls y5 ho => ?_)
      have y6 := ho 0 _ (by decide) (fun q => by cases q.2) a0
      have y7 := ho 1 _ (by decide) (fun q => by cases q.2) a1
      have y8 := ho 2 _ (by decide) (fun q => by cases q.2) a2
      refine l3 rfl rfl rfl ?_
      obtain ⟨i1, h⟩ := h
      exact hb74 _ (by omega) _ _ _ _ _ _ r1 mv0 mv1 mv2 i1 y6 y7 y8 y5 h
    · replace h := h.1 (Classical.not_not.mp c)
      refine l1 (n := 1) rfl rfl rfl rfl ?_
      exact l_rb rfl rfl (Or.inl rfl) r1 h
def e_S_takes_74 (v0 : Nat) (v1 : Nat) (v2 : Nat) (v3 : Int) (M : rf_M) (K : Int → rf_M → Prop) : Prop := ∃ Inv : Nat → Nat → Nat → Int → rf_M → Prop, Inv v0 v1 v2 v3 M ∧ ∀ (v0 : Nat) (v1 : Nat) (v2 : Nat) (v3 : Int) (M : rf_M), inr v3 → Inv v0 v1 v2 v3 M → e_S_takes_74b v0 v1 v2 v3 M Inv K
theorem Z_S_takes_74 {w fz : Bool} {S : gS} {B : rf_M} {M : rf_M} {ls : rf_L} {n0 : Nat} {v0 : Nat} {v1 : Nat} {v2 : Nat} {v3 : Int} {K : Int → rf_M → Prop} (hS : rl S) (hR : fl 22 (gwH w) B M) (mv0 : v0 ∈ gwL4 w) (mv1 : v1 ∈ k1) (mv2 : v2 ∈ gwL8 w) (iv3 : inr v3) (a0 : rf_ld ls 0 = some (.ref v0)) (a1 : rf_ld ls 1 = some (.ref v1)) (a2 : rf_ld ls 2 = some (.ref v2)) (a3 : rf_ld ls 3 = some (zv v3)) (h : e_S_takes_74 v0 v1 v2 v3 M K) : lx (cx0 fz) n0 105 74 ls [] (M, S) (vl_i 22 (gwH w) B S K) := by
  obtain ⟨Inv, hm, hb⟩ := h
  induction n0 using Nat.strongRecOn generalizing ls M v0 v1 v2 v3 with
  | _ n0 ih =>
    refine Z_S_takes_74b hS hR mv0 mv1 mv2 iv3 a0 a1 a2 a3 (fun n' hn' v0' v1' v2' v3' M' ls' hR' f0 f1 f2 f3 f4 f5 f6 f7 q2 => ih n' hn' hR' f0 f1 f2 f3 f4 f5 f6 f7 q2) (hb v0 v1 v2 v3 M iv3 hm)
def e_S_takes_17b (v0 : Nat) (v1 : Nat) (v2 : Nat) (v3 : Int) (M : rf_M) (b17 : Nat → Nat → Nat → Int → rf_M → Prop) (K : Int → rf_M → Prop) : Prop := (16 ≤ v3 → (inr ((gi M v0 2) + (gi M v2 3)) ∧ ((32 < ((gi M v0 2) + (gi M v2 3)) → (e_S_takes_70 M K)) ∧ (¬ (32 < ((gi M v0 2) + (gi M v2 3))) → (em_S_holdAhead v0 M (fun (z1 : Int) (M1 : rf_M) => (z1 = 0 → (e_S_takes_70 M1 K)) ∧ (¬ z1 = 0 → (e_S_takes_74 v0 v1 v2 0 M1 K)))))))) ∧ (¬ (16 ≤ v3) → (em_D_hasWritten v2 v3 M (fun (z2 : Int) (M2 : rf_M) => (z2 = 0 → (e_S_takes_43 v0 v1 v2 v3 M2 b17 K)) ∧ (¬ (z2 = 0) → ((0 ≤ v3 ∧ v3 < 16 → ((0 ≤ v3 ∧ v3 < 16 → (∀ M3 : rf_M, M3 = wl M2 (v0 + 5) (v3).toNat (gl M2 (v2 + 1) (v3).toNat) → (e_S_takes_43 v0 v1 v2 v3 M3 b17 K))))))))))
theorem Z_S_takes_17b {w fz : Bool} {S : gS} {B : rf_M} {M : rf_M} {ls : rf_L} {n0 : Nat} {v0 : Nat} {v1 : Nat} {v2 : Nat} {v3 : Int} {b17 : Nat → Nat → Nat → Int → rf_M → Prop} {K : Int → rf_M → Prop} (hS : rl S) (hR : fl 22 (gwH w) B M) (mv0 : v0 ∈ gwL4 w) (mv1 : v1 ∈ k1) (mv2 : v2 ∈ gwL8 w) (iv3 : inr v3) (a0 : rf_ld ls 0 = some (.ref v0)) (a1 : rf_ld ls 1 = some (.ref v1)) (a2 : rf_ld ls 2 = some (.ref v2)) (a3 : rf_ld ls 3 = some (zv v3)) (hb17 : ∀ n', n' < n0 → ∀ (v0 : Nat) (v1 : Nat) (v2 : Nat) (v3 : Int) (M : rf_M) (ls : rf_L), fl 22 (gwH w) B M → v0 ∈ gwL4 w → v1 ∈ k1 → v2 ∈ gwL8 w → inr v3 → rf_ld ls 0 = some (.ref v0) → rf_ld ls 1 = some (.ref v1) → rf_ld ls 2 = some (.ref v2) → rf_ld ls 3 = some (zv v3) → b17 v0 v1 v2 v3 M → lx (cx0 fz) n' 105 17 ls [] (M, S) (vl_i 22 (gwH w) B S K)) (h : e_S_takes_17b v0 v1 v2 v3 M b17 K) : lx (cx0 fz) n0 105 17 ls [] (M, S) (vl_i 22 (gwH w) B S K) := by
  unfold e_S_takes_17b at h
  rcases Nat.eq_zero_or_pos n0 with e0 | hp
  · rw [e0]; exact lx_zero
  refine l1 (n := 1) rfl rfl rfl (li_of a3) ?_
  refine l_bi rfl (by decide) ?_
  refine l_ic rfl iv3 ⟨by decide, by decide⟩ (fun c => ?_) (fun c => ?_)
  · replace h := h.1 c
    refine l1 (n := 1) rfl rfl rfl (la_of a0) ?_
    refine l_gi rfl (jgo_4 (w := w) hS mv0) rfl (fun _ => rfl) ?_
    refine l1 (n := 1) rfl rfl rfl (la_of a2) ?_
    refine l_gi rfl (jgo_8 (w := w) hS mv2) rfl (fun _ => rfl) ?_
    refine l_add rfl ?_
    refine l_bi rfl (by decide) ?_
    obtain ⟨i1, h⟩ := h
    refine l_ic rfl i1 ⟨by decide, by decide⟩ (fun c => ?_) (fun c => ?_)
    · replace h := h.1 c
      exact Z_S_takes_70 hS hR  h
    · replace h := h.2 c
      refine l1 (n := 1) rfl rfl rfl (la_of a0) ?_
      refine b_iv (c := v0) (as := []) (rest := []) rfl (by decide) (jgo_4 (w := w) hS mv0) rfl rfl (Nat.le_of_ble_eq_true rfl) (fun hq => ?_)
      refine lx_mono (Z_S_holdAhead_m hS hR mv0 h) ?_
      rintro _ _ ⟨z1, M1, rfl, rfl, r1, iz1, h⟩
      refine l_if rfl iz1 (fun c => ?_) (fun c => ?_)
      · replace h := h.2 c
        refine l1 (n := 1) rfl rfl rfl rfl ?_
        refine l_s1 (n := 1) rfl rfl rfl rfl (fun ls y1 ho => ?_)
        have y2 := ho 0 _ (by decide) (fun q => by cases q.2) a0
        have y3 := ho 1 _ (by decide) (fun q => by cases q.2) a1
        have y4 := ho 2 _ (by decide) (fun q => by cases q.2) a2
        exact Z_S_takes_74 hS r1 mv0 mv1 mv2 ⟨by decide, by decide⟩ y2 y3 y4 y1 h
      · replace h := h.1 (Classical.not_not.mp c)
        exact Z_S_takes_70 hS r1  h
  · replace h := h.2 c
    refine l1 (n := 1) rfl rfl rfl (la_of a2) ?_
    refine l1 (n := 1) rfl rfl rfl (li_of a3) ?_
    refine b_iv (c := v2) (as := [zv v3]) (rest := []) rfl (by decide) (jgo_8 (w := w) hS mv2) rfl rfl (Nat.le_of_ble_eq_true rfl) (fun hq => ?_)
    refine lx_mono (Z_D_hasWritten_m hS hR mv2 iv3 h) ?_
    rintro _ _ ⟨z2, M2, rfl, rfl, r2, iz2, h⟩
    refine l_if rfl iz2 (fun c => ?_) (fun c => ?_)
    · replace h := h.1 c
      exact Z_S_takes_43 hS r2 mv0 mv1 mv2 iv3 a0 a1 a2 a3 (fun n' hn' => hb17 n' (by omega)) h
    · replace h := h.2 c
      refine l1 (n := 1) rfl rfl rfl (la_of a0) ?_
      refine l_gr rfl (jgo_4 (w := w) hS mv0) rfl (fun _ => rfl) (jgf_4_5 (w := w) r2.2 mv0) ?_
      refine l1 (n := 1) rfl rfl rfl (li_of a3) ?_
      refine l1 (n := 1) rfl rfl rfl (la_of a2) ?_
      refine l_gr rfl (jgo_8 (w := w) hS mv2) rfl (fun _ => rfl) (jgf_8_1 (w := w) r2.2 mv2) ?_
      refine l1 (n := 1) rfl rfl rfl (li_of a3) ?_
      refine b_la rfl (jgt_8_1 (w := w) (fz := fz) hS mv2).1 (Nat.le_of_ble_eq_true rfl) iv3 (fun q => ?_)
      replace h := h q
      refine b_ls rfl (jgt_4_5 (w := w) (fz := fz) hS mv0).1 (Nat.le_of_ble_eq_true rfl) iv3 (fun q M3 e => ?_)
      replace h := h q M3 e
      have r3 := r2.wl (jgt_4_5 (w := w) (fz := fz) hS mv0).1.1 (jgt_4_5 (w := w) (fz := fz) hS mv0).2 e
      exact Z_S_takes_43 hS r3 mv0 mv1 mv2 iv3 a0 a1 a2 a3 (fun n' hn' => hb17 n' (by omega)) h
def e_S_takes_17 (v0 : Nat) (v1 : Nat) (v2 : Nat) (v3 : Int) (M : rf_M) (K : Int → rf_M → Prop) : Prop := ∃ Inv : Nat → Nat → Nat → Int → rf_M → Prop, Inv v0 v1 v2 v3 M ∧ ∀ (v0 : Nat) (v1 : Nat) (v2 : Nat) (v3 : Int) (M : rf_M), inr v3 → Inv v0 v1 v2 v3 M → e_S_takes_17b v0 v1 v2 v3 M Inv K
theorem Z_S_takes_17 {w fz : Bool} {S : gS} {B : rf_M} {M : rf_M} {ls : rf_L} {n0 : Nat} {v0 : Nat} {v1 : Nat} {v2 : Nat} {v3 : Int} {K : Int → rf_M → Prop} (hS : rl S) (hR : fl 22 (gwH w) B M) (mv0 : v0 ∈ gwL4 w) (mv1 : v1 ∈ k1) (mv2 : v2 ∈ gwL8 w) (iv3 : inr v3) (a0 : rf_ld ls 0 = some (.ref v0)) (a1 : rf_ld ls 1 = some (.ref v1)) (a2 : rf_ld ls 2 = some (.ref v2)) (a3 : rf_ld ls 3 = some (zv v3)) (h : e_S_takes_17 v0 v1 v2 v3 M K) : lx (cx0 fz) n0 105 17 ls [] (M, S) (vl_i 22 (gwH w) B S K) := by
  obtain ⟨Inv, hm, hb⟩ := h
  induction n0 using Nat.strongRecOn generalizing ls M v0 v1 v2 v3 with
  | _ n0 ih =>
    refine Z_S_takes_17b hS hR mv0 mv1 mv2 iv3 a0 a1 a2 a3 (fun n' hn' v0' v1' v2' v3' M' ls' hR' f0 f1 f2 f3 f4 f5 f6 f7 q2 => ih n' hn' hR' f0 f1 f2 f3 f4 f5 f6 f7 q2) (hb v0 v1 v2 v3 M iv3 hm)
def e_S_takes (v0 : Nat) (v1 : Nat) (v2 : Nat) (M : rf_M) (K : Int → rf_M → Prop) : Prop := ((0 ≤ (0 : Int) ∧ 0 ≤ (0 : Int) ∧ 0 ≤ (16 : Int)) ∧ (0 : Int) + (16 : Int) ≤ 16 ∧ (0 : Int) + (16 : Int) ≤ 16 → (∀ M1 : rf_M, M1 = cpl M (v0 + 1) 0 (v0 + 5) 0 16 → (e_S_takes_17 v0 v1 v2 0 M1 K)))
theorem Z_S_takes {w fz : Bool} {S : gS} {B : rf_M} {M : rf_M} {ls : rf_L} {n0 : Nat} {v0 : Nat} {v1 : Nat} {v2 : Nat} {K : Int → rf_M → Prop} (hS : rl S) (hR : fl 22 (gwH w) B M) (mv0 : v0 ∈ gwL4 w) (mv1 : v1 ∈ k1) (mv2 : v2 ∈ gwL8 w) (a0 : rf_ld ls 0 = some (.ref v0)) (a1 : rf_ld ls 1 = some (.ref v1)) (a2 : rf_ld ls 2 = some (.ref v2)) (h : e_S_takes v0 v1 v2 M K) : lx (cx0 fz) n0 105 0 ls [] (M, S) (vl_i 22 (gwH w) B S K) := by
  unfold e_S_takes at h
  refine l1 (n := 1) rfl rfl rfl (la_of a0) ?_
  refine l_gr rfl (jgo_4 (w := w) hS mv0) rfl (fun _ => rfl) (jgf_4_0 (w := w) hR.2 mv0) ?_
  refine l1 (n := 1) rfl rfl rfl rfl ?_
  refine l1 (n := 1) rfl rfl rfl (la_of a0) ?_
  refine l_gr rfl (jgo_4 (w := w) hS mv0) rfl (fun _ => rfl) (jgf_4_5 (w := w) hR.2 mv0) ?_
  refine l1 (n := 1) rfl rfl rfl rfl ?_
  refine l_bi rfl (by decide) ?_
  refine b_cpl rfl rfl (jgt_4_0 (w := w) (fz := fz) hS mv0).1 (jgt_4_5 (w := w) (fz := fz) hS mv0).1 ⟨by decide, by decide⟩ ⟨by decide, by decide⟩ ⟨by decide, by decide⟩ (fun q M1 e => ?_)
  replace h := h q M1 e
  have r1 := hR.cpl (jgt_4_5 (w := w) (fz := fz) hS mv0).1.1 (jgt_4_5 (w := w) (fz := fz) hS mv0).2 e
  refine l1 (n := 1) rfl rfl rfl rfl ?_
  refine l_s1 (n := 1) rfl rfl rfl rfl (fun ls y1 ho => ?_)
  have y2 := ho 0 _ (by decide) (fun q => by cases q.2) a0
  have y3 := ho 1 _ (by decide) (fun q => by cases q.2) a1
  have y4 := ho 2 _ (by decide) (fun q => by cases q.2) a2
  exact Z_S_takes_17 hS r1 mv0 mv1 mv2 ⟨by decide, by decide⟩ y2 y3 y4 y1 h
def em_S_takes (x0 : Nat) (x1 : Nat) (x2 : Nat) (M : rf_M) (K : Int → rf_M → Prop) : Prop := e_S_takes x0 x1 x2 M K
theorem Z_S_takes_m {w fz : Bool} {S : gS} {B : rf_M} {M : rf_M} {n0 : Nat} {x0 : Nat} {x1 : Nat} {x2 : Nat} {K : Int → rf_M → Prop} (hS : rl S) (hR : fl 22 (gwH w) B M) (mx0 : x0 ∈ gwL4 w) (mx1 : x1 ∈ k1) (mx2 : x2 ∈ gwL8 w) (h : em_S_takes x0 x1 x2 M K) : lx (cx0 fz) n0 105 0 (lv_args 0 [.ref x0, .ref x1, .ref x2]) [] (M, S) (vl_i 22 (gwH w) B S K) :=
  Z_S_takes hS hR mx0 mx1 mx2 rfl rfl rfl h
theorem E_S_takes_m {fz : Bool} {S : gS} {B : rf_M} {M : rf_M} {n0 : Nat} {x0 : Nat} {x1 : Nat} {x2 : Nat} {K : Int → rf_M → Prop} (hS : rl S) (hR : fl 22 353 B M) (mx0 : x0 ∈ k4) (mx1 : x1 ∈ k1) (mx2 : x2 ∈ k8) (h : em_S_takes x0 x1 x2 M K) : lx (cx0 fz) n0 105 0 (lv_args 0 [.ref x0, .ref x1, .ref x2]) [] (M, S) (vl_i 22 353 B S K) :=
  Z_S_takes_m (w := true) hS hR mx0 mx1 mx2 h
def e_C_forgetCuts (v0 : Nat) (M : rf_M) (K : rf_M → Prop) : Prop := ∀ M1 : rf_M, M1 = wi M v0 1 0 → (∀ M2 : rf_M, M2 = wi M1 v0 2 0 → (K M2))
theorem Z_C_forgetCuts {w fz : Bool} {S : gS} {B : rf_M} {M : rf_M} {ls : rf_L} {n0 : Nat} {v0 : Nat} {K : rf_M → Prop} (hS : rl S) (hR : fl 22 (gwH w) B M) (mv0 : v0 ∈ gwL6 w) (a0 : rf_ld ls 0 = some (.ref v0)) (h : e_C_forgetCuts v0 M K) : lx (cx0 fz) n0 107 0 ls [] (M, S) (vl_v 22 (gwH w) B S K) := by
  unfold e_C_forgetCuts at h
  refine l1 (n := 1) rfl rfl rfl (la_of a0) ?_
  refine l1 (n := 1) rfl rfl rfl rfl ?_
  refine l_pi rfl (jgo_6 (w := w) (fz := fz) hS mv0) rfl (fun _ _ => rfl) (fun M1 e => ?_)
  replace h := h M1 e
  have r1 := hR.wi (jgo_6 (w := w) (fz := fz) hS mv0).1 (jgl_6 (w := w) mv0) e
  refine l1 (n := 1) rfl rfl rfl (la_of a0) ?_
  refine l1 (n := 1) rfl rfl rfl rfl ?_
  refine l_pb rfl (jgo_6 (w := w) (fz := fz) hS mv0) rfl rfl (Or.inl rfl) (fun M2 e => ?_)
  replace h := h M2 e
  have r2 := r1.wi (jgo_6 (w := w) (fz := fz) hS mv0).1 (jgl_6 (w := w) mv0) e
  exact l_rv rfl rfl r2 h
def em_C_forgetCuts (x0 : Nat) (M : rf_M) (K : rf_M → Prop) : Prop := e_C_forgetCuts x0 M K
theorem Z_C_forgetCuts_m {w fz : Bool} {S : gS} {B : rf_M} {M : rf_M} {n0 : Nat} {x0 : Nat} {K : rf_M → Prop} (hS : rl S) (hR : fl 22 (gwH w) B M) (mx0 : x0 ∈ gwL6 w) (h : em_C_forgetCuts x0 M K) : lx (cx0 fz) n0 107 0 (lv_args 0 [.ref x0]) [] (M, S) (vl_v 22 (gwH w) B S K) :=
  Z_C_forgetCuts hS hR mx0 rfl h
theorem E_C_forgetCuts_m {fz : Bool} {S : gS} {B : rf_M} {M : rf_M} {n0 : Nat} {x0 : Nat} {K : rf_M → Prop} (hS : rl S) (hR : fl 22 353 B M) (mx0 : x0 ∈ k6) (h : em_C_forgetCuts x0 M K) : lx (cx0 fz) n0 107 0 (lv_args 0 [.ref x0]) [] (M, S) (vl_v 22 353 B S K) :=
  Z_C_forgetCuts_m (w := true) hS hR mx0 h
def e_C_finish_47 (v0 : Nat) (s0 : Nat) (s1 : Int) (M : rf_M) (K : rf_M → Prop) : Prop := ∀ M1 : rf_M, M1 = wi M s0 0 s1 → (em_C_forgetCuts v0 M1 (fun (M2 : rf_M) => K M2))
theorem Z_C_finish_47 {w fz : Bool} {S : gS} {B : rf_M} {M : rf_M} {ls : rf_L} {n0 : Nat} {v0 : Nat} {s0 : Nat} {s1 : Int} {K : rf_M → Prop} (hS : rl S) (hR : fl 22 (gwH w) B M) (mv0 : v0 ∈ gwL6 w) (ms0 : s0 ∈ gwL6 w) (is1 : inr s1) (a0 : rf_ld ls 0 = some (.ref v0)) (h : e_C_finish_47 v0 s0 s1 M K) : lx (cx0 fz) n0 106 47 ls [zv s1, .ref s0] (M, S) (vl_v 22 (gwH w) B S K) := by
  unfold e_C_finish_47 at h
  refine l_pi rfl (jgo_6 (w := w) (fz := fz) hS ms0) rfl (fun _ _ => rfl) (fun M1 e => ?_)
  replace h := h M1 e
  have r1 := hR.wi (jgo_6 (w := w) (fz := fz) hS ms0).1 (jgl_6 (w := w) ms0) e
  refine l1 (n := 1) rfl rfl rfl (la_of a0) ?_
  refine b_iv (c := v0) (as := []) (rest := []) rfl (by decide) (jgo_6 (w := w) hS mv0) rfl rfl (Nat.le_of_ble_eq_true rfl) (fun hq => ?_)
  refine lx_mono (Z_C_forgetCuts_m hS r1 mv0 h) ?_
  rintro _ _ ⟨M2, rfl, rfl, r2, h⟩
  exact l_rv rfl rfl r2 h
def e_C_finish_34 (v0 : Nat) (M : rf_M) (K : rf_M → Prop) : Prop := ((gi M v0 5) ≤ 0 → (e_C_finish_47 v0 v0 0 M K)) ∧ (¬ ((gi M v0 5) ≤ 0) → (e_C_finish_47 v0 v0 1 M K))
theorem Z_C_finish_34 {w fz : Bool} {S : gS} {B : rf_M} {M : rf_M} {ls : rf_L} {n0 : Nat} {v0 : Nat} {K : rf_M → Prop} (hS : rl S) (hR : fl 22 (gwH w) B M) (mv0 : v0 ∈ gwL6 w) (a0 : rf_ld ls 0 = some (.ref v0)) (h : e_C_finish_34 v0 M K) : lx (cx0 fz) n0 106 34 ls [] (M, S) (vl_v 22 (gwH w) B S K) := by
  unfold e_C_finish_34 at h
  refine l1 (n := 1) rfl rfl rfl (la_of a0) ?_
  refine l1 (n := 1) rfl rfl rfl (la_of a0) ?_
  refine l_gi rfl (jgo_6 (w := w) hS mv0) rfl (fun _ => rfl) ?_
  refine l_if rfl (inr_gi _ _ _) (fun c => ?_) (fun c => ?_)
  · replace h := h.1 c
    refine l1 (n := 1) rfl rfl rfl rfl ?_
    exact Z_C_finish_47 hS hR mv0 mv0 ⟨by decide, by decide⟩ a0 h
  · replace h := h.2 c
    refine l1 (n := 1) rfl rfl rfl rfl ?_
    refine l3 rfl rfl rfl ?_
    exact Z_C_finish_47 hS hR mv0 mv0 ⟨by decide, by decide⟩ a0 h
def e_C_finish (v0 : Nat) (M : rf_M) (K : rf_M → Prop) : Prop := ((gi M v0 5) ≤ 0 → (e_C_finish_34 v0 M K)) ∧ (¬ ((gi M v0 5) ≤ 0) → (∀ M1 : rf_M, M1 = wi M v0 5 ((gi M v0 5) - 1) → (((0 ≤ (1 : Int) ∧ 0 ≤ (0 : Int) ∧ 0 ≤ (gi M1 v0 5)) ∧ (1 : Int) + (gi M1 v0 5) ≤ 16 ∧ (0 : Int) + (gi M1 v0 5) ≤ 16 → (∀ M2 : rf_M, M2 = cpi M1 (v0 + 1) 1 (v0 + 1) 0 (gi M1 v0 5).toNat → (e_C_finish_34 v0 M2 K))))))
theorem Z_C_finish {w fz : Bool} {S : gS} {B : rf_M} {M : rf_M} {ls : rf_L} {n0 : Nat} {v0 : Nat} {K : rf_M → Prop} (hS : rl S) (hR : fl 22 (gwH w) B M) (mv0 : v0 ∈ gwL6 w) (a0 : rf_ld ls 0 = some (.ref v0)) (h : e_C_finish v0 M K) : lx (cx0 fz) n0 106 0 ls [] (M, S) (vl_v 22 (gwH w) B S K) := by
  unfold e_C_finish at h
  refine l1 (n := 1) rfl rfl rfl (la_of a0) ?_
  refine l_gi rfl (jgo_6 (w := w) hS mv0) rfl (fun _ => rfl) ?_
  refine l_if rfl (inr_gi _ _ _) (fun c => ?_) (fun c => ?_)
  · replace h := h.1 c
    exact Z_C_finish_34 hS hR mv0 a0 h
  · replace h := h.2 c
    refine l1 (n := 1) rfl rfl rfl (la_of a0) ?_
    refine l0 rfl rfl rfl ?_
    refine l_gi rfl (jgo_6 (w := w) hS mv0) rfl (fun _ => rfl) ?_
    refine l1 (n := 1) rfl rfl rfl rfl ?_
    refine l_sub rfl ?_
    refine l_pi rfl (jgo_6 (w := w) (fz := fz) hS mv0) rfl (fun _ _ => rfl) (fun M1 e => ?_)
    replace h := h M1 e
    have r1 := hR.wi (jgo_6 (w := w) (fz := fz) hS mv0).1 (jgl_6 (w := w) mv0) e
    refine l1 (n := 1) rfl rfl rfl (la_of a0) ?_
    refine l_gr rfl (jgo_6 (w := w) hS mv0) rfl (fun _ => rfl) (jgf_6_3 (w := w) r1.2 mv0) ?_
    refine l1 (n := 1) rfl rfl rfl rfl ?_
    refine l1 (n := 1) rfl rfl rfl (la_of a0) ?_
    refine l_gr rfl (jgo_6 (w := w) hS mv0) rfl (fun _ => rfl) (jgf_6_3 (w := w) r1.2 mv0) ?_
    refine l1 (n := 1) rfl rfl rfl rfl ?_
    refine l1 (n := 1) rfl rfl rfl (la_of a0) ?_
    refine l_gi rfl (jgo_6 (w := w) hS mv0) rfl (fun _ => rfl) ?_
    refine b_cpi rfl rfl (jgt_6_3 (w := w) (fz := fz) hS mv0).1 (jgt_6_3 (w := w) (fz := fz) hS mv0).1 ⟨by decide, by decide⟩ ⟨by decide, by decide⟩ (inr_gi _ _ _) (fun q M2 e => ?_)
    replace h := h q M2 e
    have r2 := r1.cpi (jgt_6_3 (w := w) (fz := fz) hS mv0).1.1 (jgt_6_3 (w := w) (fz := fz) hS mv0).2 e
    exact Z_C_finish_34 hS r2 mv0 a0 h
def em_C_finish (x0 : Nat) (M : rf_M) (K : rf_M → Prop) : Prop := e_C_finish x0 M K
theorem Z_C_finish_m {w fz : Bool} {S : gS} {B : rf_M} {M : rf_M} {n0 : Nat} {x0 : Nat} {K : rf_M → Prop} (hS : rl S) (hR : fl 22 (gwH w) B M) (mx0 : x0 ∈ gwL6 w) (h : em_C_finish x0 M K) : lx (cx0 fz) n0 106 0 (lv_args 0 [.ref x0]) [] (M, S) (vl_v 22 (gwH w) B S K) :=
  Z_C_finish hS hR mx0 rfl h
def e_M_closeRun_125 (s0 : Int) (M : rf_M) (K : Int → rf_M → Prop) : Prop := K s0 M
theorem Z_M_closeRun_125 {w fz : Bool} {S : gS} {B : rf_M} {M : rf_M} {ls : rf_L} {n0 : Nat} {s0 : Int} {K : Int → rf_M → Prop} (hS : rl S) (hR : fl 22 (gwH w) B M) (is0 : inr s0) (h : e_M_closeRun_125 s0 M K) : lx (cx0 fz) n0 104 125 ls [zv s0] (M, S) (vl_i 22 (gwH w) B S K) := by
  unfold e_M_closeRun_125 at h
  exact l_ri rfl rfl is0 hR h
def e_M_closeRun_77 (v1 : Int) (v3 : Nat) (v4 : Nat) (v5 : Int) (s0 : Int) (M : rf_M) (K : Int → rf_M → Prop) : Prop := (0 ≤ (0 : Int) ∧ (0 : Int) < 16 → (inr ((gi M v4 1) + 1) ∧ (em_J_note s0 v1 (gi M (v3 + 1) 0) ((gi M v4 1) + 1) (gi M v3 1) (gl M v4 3) M (fun (M1 : rf_M) => em_C_finish v3 M1 (fun (M2 : rf_M) => (v5 = 0 → (e_M_closeRun_125 2 M2 K)) ∧ (¬ (v5 = 0) → (e_M_closeRun_125 1 M2 K)))))))
theorem Z_M_closeRun_77 {w fz : Bool} {S : gS} {B : rf_M} {M : rf_M} {ls : rf_L} {n0 : Nat} {v1 : Int} {v3 : Nat} {v4 : Nat} {v5 : Int} {s0 : Int} {K : Int → rf_M → Prop} (hS : rl S) (hR : fl 22 (gwH w) B M) (iv1 : inr v1) (mv3 : v3 ∈ gwL6 w) (mv4 : v4 ∈ gwL7 w) (iv5 : inr v5) (is0 : inr s0) (a0 : rf_ld ls 0 = some (.ref 22)) (a1 : rf_ld ls 1 = some (zv v1)) (a3 : rf_ld ls 3 = some (.ref v3)) (a4 : rf_ld ls 4 = some (.ref v4)) (a5 : rf_ld ls 5 = some (zv v5)) (h : e_M_closeRun_77 v1 v3 v4 v5 s0 M K) : lx (cx0 fz) n0 104 77 ls [zv s0] (M, S) (vl_i 22 (gwH w) B S K) := by
  unfold e_M_closeRun_77 at h
  refine l_s1 (n := 2) rfl rfl rfl rfl (fun ls y1 ho => ?_)
  have y2 := ho 0 _ (by decide) (fun q => by cases q.2) a0
  have y3 := ho 1 _ (by decide) (fun q => by cases q.2) a1
  have y4 := ho 3 _ (by decide) (fun q => by cases q.2) a3
  have y5 := ho 4 _ (by decide) (fun q => by cases q.2) a4
  have y6 := ho 5 _ (by decide) (fun q => by cases q.2) a5
  refine l1 (n := 1) rfl rfl rfl (la_of y2) ?_
  refine l_gr rfl (ko_0 hS (List.Mem.head _)) rfl (fun _ => rfl) (kf_0_8 hR.2 (List.Mem.head _)) ?_
  refine l1 (n := 2) rfl rfl rfl (li_of y1) ?_
  refine l1 (n := 1) rfl rfl rfl (li_of y3) ?_
  refine l1 (n := 1) rfl rfl rfl (la_of y4) ?_
  refine l_gr rfl (jgo_6 (w := w) hS mv3) rfl (fun _ => rfl) (jgf_6_3 (w := w) hR.2 mv3) ?_
  refine l1 (n := 1) rfl rfl rfl rfl ?_
  refine b_ia rfl (jgt_6_3 (w := w) (fz := fz) hS mv3).1 (Nat.le_of_ble_eq_true rfl) ⟨by decide, by decide⟩ (fun q => ?_)
  replace h := h q
  refine l1 (n := 2) rfl rfl rfl (la_of y5) ?_
  refine l_gi rfl (jgo_7 (w := w) hS mv4) rfl (fun _ => rfl) ?_
  refine l1 (n := 1) rfl rfl rfl rfl ?_
  refine l_add rfl ?_
  refine l1 (n := 1) rfl rfl rfl (la_of y4) ?_
  refine l_gi rfl (jgo_6 (w := w) hS mv3) rfl (fun _ => rfl) ?_
  refine l1 (n := 2) rfl rfl rfl (la_of y5) ?_
  refine l_gl rfl (jgo_7 (w := w) hS mv4) rfl (fun _ => rfl) ?_
  obtain ⟨i1, h⟩ := h
  refine b_iv (c := 324) (as := [zv s0, zv v1, zv (gi M (v3 + 1) 0), zv ((gi M v4 1) + 1), zv (gi M v3 1), .long (gl M v4 3)]) (rest := []) rfl (by decide) (ko_9 hS (List.Mem.head _)) rfl rfl (Nat.le_of_ble_eq_true rfl) (fun hq => ?_)
  refine lx_mono (Z_J_note_m hS hR is0 iv1 (inr_gi _ _ _) i1 (inr_gi _ _ _) h) ?_
  rintro _ _ ⟨M1, rfl, rfl, r1, h⟩
  refine l1 (n := 1) rfl rfl rfl (la_of y4) ?_
  refine b_iv (c := v3) (as := []) (rest := []) rfl (by decide) (jgo_6 (w := w) hS mv3) rfl rfl (Nat.le_of_ble_eq_true rfl) (fun hq => ?_)
  refine lx_mono (Z_C_finish_m hS r1 mv3 h) ?_
  rintro _ _ ⟨M2, rfl, rfl, r2, h⟩
  refine l1 (n := 2) rfl rfl rfl (li_of y6) ?_
  refine l_if rfl iv5 (fun c => ?_) (fun c => ?_)
  · replace h := h.1 c
    refine l1 (n := 1) rfl rfl rfl rfl ?_
    exact Z_M_closeRun_125 hS r2 ⟨by decide, by decide⟩ h
  · replace h := h.2 c
    refine l1 (n := 1) rfl rfl rfl rfl ?_
    refine l3 rfl rfl rfl ?_
    exact Z_M_closeRun_125 hS r2 ⟨by decide, by decide⟩ h
def e_M_closeRun_67 (v1 : Int) (v3 : Nat) (v4 : Nat) (v5 : Int) (M : rf_M) (K : Int → rf_M → Prop) : Prop := (v5 = 0 → (e_M_closeRun_77 v1 v3 v4 v5 2 M K)) ∧ (¬ (v5 = 0) → (e_M_closeRun_77 v1 v3 v4 v5 1 M K))
theorem Z_M_closeRun_67 {w fz : Bool} {S : gS} {B : rf_M} {M : rf_M} {ls : rf_L} {n0 : Nat} {v1 : Int} {v3 : Nat} {v4 : Nat} {v5 : Int} {K : Int → rf_M → Prop} (hS : rl S) (hR : fl 22 (gwH w) B M) (iv1 : inr v1) (mv3 : v3 ∈ gwL6 w) (mv4 : v4 ∈ gwL7 w) (iv5 : inr v5) (a0 : rf_ld ls 0 = some (.ref 22)) (a1 : rf_ld ls 1 = some (zv v1)) (a3 : rf_ld ls 3 = some (.ref v3)) (a4 : rf_ld ls 4 = some (.ref v4)) (a5 : rf_ld ls 5 = some (zv v5)) (h : e_M_closeRun_67 v1 v3 v4 v5 M K) : lx (cx0 fz) n0 104 67 ls [] (M, S) (vl_i 22 (gwH w) B S K) := by
  unfold e_M_closeRun_67 at h
  refine l1 (n := 2) rfl rfl rfl (li_of a5) ?_
  refine l_if rfl iv5 (fun c => ?_) (fun c => ?_)
  · replace h := h.1 c
    refine l1 (n := 1) rfl rfl rfl rfl ?_
    exact Z_M_closeRun_77 hS hR iv1 mv3 mv4 iv5 ⟨by decide, by decide⟩ a0 a1 a3 a4 a5 h
  · replace h := h.2 c
    refine l1 (n := 1) rfl rfl rfl rfl ?_
    refine l3 rfl rfl rfl ?_
    exact Z_M_closeRun_77 hS hR iv1 mv3 mv4 iv5 ⟨by decide, by decide⟩ a0 a1 a3 a4 a5 h
def e_M_closeRun_64 (v1 : Int) (v3 : Nat) (v4 : Nat) (v5 : Int) (s0 : Nat) (s1 : Int64) (M : rf_M) (K : Int → rf_M → Prop) : Prop := ∀ M1 : rf_M, M1 = wl M s0 3 s1 → (e_M_closeRun_67 v1 v3 v4 v5 M1 K)
theorem Z_M_closeRun_64 {w fz : Bool} {S : gS} {B : rf_M} {M : rf_M} {ls : rf_L} {n0 : Nat} {v1 : Int} {v3 : Nat} {v4 : Nat} {v5 : Int} {s0 : Nat} {s1 : Int64} {K : Int → rf_M → Prop} (hS : rl S) (hR : fl 22 (gwH w) B M) (iv1 : inr v1) (mv3 : v3 ∈ gwL6 w) (mv4 : v4 ∈ gwL7 w) (iv5 : inr v5) (ms0 : s0 ∈ gwL7 w) (a0 : rf_ld ls 0 = some (.ref 22)) (a1 : rf_ld ls 1 = some (zv v1)) (a3 : rf_ld ls 3 = some (.ref v3)) (a4 : rf_ld ls 4 = some (.ref v4)) (a5 : rf_ld ls 5 = some (zv v5)) (h : e_M_closeRun_64 v1 v3 v4 v5 s0 s1 M K) : lx (cx0 fz) n0 104 64 ls [.long s1, .ref s0] (M, S) (vl_i 22 (gwH w) B S K) := by
  unfold e_M_closeRun_64 at h
  refine l_pl rfl (jgo_7 (w := w) (fz := fz) hS ms0) rfl (fun _ _ => rfl) (fun M1 e => ?_)
  replace h := h M1 e
  have r1 := hR.wl (jgo_7 (w := w) (fz := fz) hS ms0).1 (jgl_7 (w := w) ms0) e
  exact Z_M_closeRun_67 hS r1 iv1 mv3 mv4 iv5 a0 a1 a3 a4 a5 h
def e_M_closeRun_43 (v1 : Int) (v2 : Int) (v3 : Nat) (v4 : Nat) (s0 : Int) (M : rf_M) (K : Int → rf_M → Prop) : Prop := (v2 = 1 → ((s0 = 0 → (e_M_closeRun_64 v1 v3 v4 s0 v4 (Int64.ofNat 18446744073709551614) M K)) ∧ (¬ (s0 = 0) → (e_M_closeRun_64 v1 v3 v4 s0 v4 (Int64.ofNat 0) M K)))) ∧ (¬ v2 = 1 → (e_M_closeRun_67 v1 v3 v4 s0 M K))
theorem Z_M_closeRun_43 {w fz : Bool} {S : gS} {B : rf_M} {M : rf_M} {ls : rf_L} {n0 : Nat} {v1 : Int} {v2 : Int} {v3 : Nat} {v4 : Nat} {s0 : Int} {K : Int → rf_M → Prop} (hS : rl S) (hR : fl 22 (gwH w) B M) (iv1 : inr v1) (iv2 : inr v2) (mv3 : v3 ∈ gwL6 w) (mv4 : v4 ∈ gwL7 w) (is0 : inr s0) (a0 : rf_ld ls 0 = some (.ref 22)) (a1 : rf_ld ls 1 = some (zv v1)) (a2 : rf_ld ls 2 = some (zv v2)) (a3 : rf_ld ls 3 = some (.ref v3)) (a4 : rf_ld ls 4 = some (.ref v4)) (h : e_M_closeRun_43 v1 v2 v3 v4 s0 M K) : lx (cx0 fz) n0 104 43 ls [zv s0] (M, S) (vl_i 22 (gwH w) B S K) := by
  unfold e_M_closeRun_43 at h
  refine l_s1 (n := 2) rfl rfl rfl rfl (fun ls y1 ho => ?_)
  have y2 := ho 0 _ (by decide) (fun q => by cases q.2) a0
  have y3 := ho 1 _ (by decide) (fun q => by cases q.2) a1
  have y4 := ho 2 _ (by decide) (fun q => by cases q.2) a2
  have y5 := ho 3 _ (by decide) (fun q => by cases q.2) a3
  have y6 := ho 4 _ (by decide) (fun q => by cases q.2) a4
  refine l1 (n := 1) rfl rfl rfl (li_of y4) ?_
  refine l1 (n := 1) rfl rfl rfl rfl ?_
  refine l_ic rfl iv2 ⟨by decide, by decide⟩ (fun c => ?_) (fun c => ?_)
  · replace h := h.2 c
    exact Z_M_closeRun_67 hS hR iv1 mv3 mv4 is0 y2 y3 y5 y6 y1 h
  · replace h := h.1 (Classical.not_not.mp c)
    refine l1 (n := 2) rfl rfl rfl (la_of y6) ?_
    refine l1 (n := 2) rfl rfl rfl (li_of y1) ?_
    refine l_if rfl is0 (fun c => ?_) (fun c => ?_)
    · replace h := h.1 c
      refine l7 (n := 3) rfl rfl rfl rfl ?_
      exact Z_M_closeRun_64 hS hR iv1 mv3 mv4 is0 mv4 y2 y3 y5 y6 y1 h
    · replace h := h.2 c
      refine l1 (n := 1) rfl rfl rfl rfl ?_
      refine l3 rfl rfl rfl ?_
      exact Z_M_closeRun_64 hS hR iv1 mv3 mv4 is0 mv4 y2 y3 y5 y6 y1 h
def e_M_closeRun_42 (v1 : Int) (v2 : Int) (v3 : Nat) (v4 : Nat) (M : rf_M) (K : Int → rf_M → Prop) : Prop := e_M_closeRun_43 v1 v2 v3 v4 0 M K
theorem Z_M_closeRun_42 {w fz : Bool} {S : gS} {B : rf_M} {M : rf_M} {ls : rf_L} {n0 : Nat} {v1 : Int} {v2 : Int} {v3 : Nat} {v4 : Nat} {K : Int → rf_M → Prop} (hS : rl S) (hR : fl 22 (gwH w) B M) (iv1 : inr v1) (iv2 : inr v2) (mv3 : v3 ∈ gwL6 w) (mv4 : v4 ∈ gwL7 w) (a0 : rf_ld ls 0 = some (.ref 22)) (a1 : rf_ld ls 1 = some (zv v1)) (a2 : rf_ld ls 2 = some (zv v2)) (a3 : rf_ld ls 3 = some (.ref v3)) (a4 : rf_ld ls 4 = some (.ref v4)) (h : e_M_closeRun_42 v1 v2 v3 v4 M K) : lx (cx0 fz) n0 104 42 ls [] (M, S) (vl_i 22 (gwH w) B S K) := by
  unfold e_M_closeRun_42 at h
  refine l1 (n := 1) rfl rfl rfl rfl ?_
  exact Z_M_closeRun_43 hS hR iv1 iv2 mv3 mv4 ⟨by decide, by decide⟩ a0 a1 a2 a3 a4 h
def e_M_closeRun (v1 : Int) (v2 : Int) (M : rf_M) (K : Int → rf_M → Prop) : Prop := (0 ≤ v1 ∧ v1 < 8 → ((v2 = 1 → (isP M ((clA v1) + 3) 0 ∧ (em_S_takes 187 (gr M ((clA v1) + 3) 0) ((clA v1) + 5) M (fun (z1 : Int) (M1 : rf_M) => (z1 = 0 → (e_M_closeRun_42 v1 v2 (clA v1) ((clA v1) + 3) M1 K)) ∧ (¬ (z1 = 0) → (e_M_closeRun_43 v1 v2 (clA v1) ((clA v1) + 3) 1 M1 K)))))) ∧ (¬ v2 = 1 → (e_M_closeRun_42 v1 v2 (clA v1) ((clA v1) + 3) M K))))
theorem Z_M_closeRun {w fz : Bool} {S : gS} {B : rf_M} {M : rf_M} {ls : rf_L} {n0 : Nat} {v1 : Int} {v2 : Int} {K : Int → rf_M → Prop} (hS : rl S) (hR : fl 22 (gwH w) B M) (iv1 : inr v1) (iv2 : inr v2) (a0 : rf_ld ls 0 = some (.ref 22)) (a1 : rf_ld ls 1 = some (zv v1)) (a2 : rf_ld ls 2 = some (zv v2)) (h : e_M_closeRun v1 v2 M K) : lx (cx0 fz) n0 104 0 ls [] (M, S) (vl_i 22 (gwH w) B S K) := by
  unfold e_M_closeRun at h
  refine l1 (n := 1) rfl rfl rfl (la_of a0) ?_
  refine l_gr rfl (ko_0 hS (List.Mem.head _)) rfl (fun _ => rfl) (kf_0_7 hR.2 (List.Mem.head _)) ?_
  refine l1 (n := 1) rfl rfl rfl (li_of a1) ?_
  refine b_aa rfl (jgc_195 (w := w) (fz := fz) hS).1 (Nat.le_of_ble_eq_true rfl) iv1 (fun q1 => ⟨clA_ref hR.2 q1, ?_⟩)
  replace h := h q1
  refine l_s1 (n := 1) rfl rfl rfl rfl (fun ls y1 ho => ?_)
  have y2 := ho 0 _ (by decide) (fun q => by cases q.2) a0
  have y3 := ho 1 _ (by decide) (fun q => by cases q.2) a1
  have y4 := ho 2 _ (by decide) (fun q => by cases q.2) a2
  refine l1 (n := 1) rfl rfl rfl (la_of y1) ?_
  refine l_gr rfl (jgo_6 (w := w) hS (clA_memg q1)) rfl (fun _ => rfl) (jgf_6_4 (w := w) hR.2 (clA_memg q1)) ?_
  refine l_s1 (n := 2) rfl rfl rfl rfl (fun ls y5 ho => ?_)
  have y6 := ho 0 _ (by decide) (fun q => by cases q.2) y2
  have y7 := ho 1 _ (by decide) (fun q => by cases q.2) y3
  have y8 := ho 2 _ (by decide) (fun q => by cases q.2) y4
  have y9 := ho 3 _ (by decide) (fun q => by cases q.2) y1
  refine l1 (n := 1) rfl rfl rfl (li_of y8) ?_
  refine l1 (n := 1) rfl rfl rfl rfl ?_
  refine l_ic rfl iv2 ⟨by decide, by decide⟩ (fun c => ?_) (fun c => ?_)
  · replace h := h.2 c
    exact Z_M_closeRun_42 hS hR iv1 iv2 (clA_memg q1) (jgt_6_4 (w := w) (clA_memg q1)) y6 y7 y8 y9 y5 h
  · replace h := h.1 (Classical.not_not.mp c)
    refine l1 (n := 1) rfl rfl rfl (la_of y6) ?_
    refine l_gr rfl (ko_0 hS (List.Mem.head _)) rfl (fun _ => rfl) (kf_0_6 hR.2 (List.Mem.head _)) ?_
    refine l1 (n := 2) rfl rfl rfl (la_of y5) ?_
    obtain ⟨q2, h⟩ := h
    refine l_gr rfl (jgo_7 (w := w) hS (jgt_6_4 (w := w) (clA_memg q1))) rfl (fun _ => rfl) q2.1 ?_
    refine l1 (n := 2) rfl rfl rfl (la_of y5) ?_
    refine l_gr rfl (jgo_7 (w := w) hS (jgt_6_4 (w := w) (clA_memg q1))) rfl (fun _ => rfl) (jgf_7_5 (w := w) hR.2 (jgt_6_4 (w := w) (clA_memg q1))) ?_
    refine b_iv (c := 187) (as := [.ref (gr M ((clA v1) + 3) 0), .ref ((clA v1) + 5)]) (rest := []) rfl (by decide) (jgo_4 (w := w) hS (List.Mem.head _)) rfl rfl (Nat.le_of_ble_eq_true rfl) (fun hq => ?_)
    refine lx_mono (Z_S_takes_m hS hR (List.Mem.head _) q2.2 (jgt_7_5 (w := w) (jgt_6_4 (w := w) (clA_memg q1))) h) ?_
    rintro _ _ ⟨z1, M1, rfl, rfl, r1, iz1, h⟩
    refine l_if rfl iz1 (fun c => ?_) (fun c => ?_)
    · replace h := h.1 c
      exact Z_M_closeRun_42 hS r1 iv1 iv2 (clA_memg q1) (jgt_6_4 (w := w) (clA_memg q1)) y6 y7 y8 y9 y5 h
    · replace h := h.2 c
      refine l1 (n := 1) rfl rfl rfl rfl ?_
      refine l3 rfl rfl rfl ?_
      exact Z_M_closeRun_43 hS r1 iv1 iv2 (clA_memg q1) (jgt_6_4 (w := w) (clA_memg q1)) ⟨by decide, by decide⟩ y6 y7 y8 y9 y5 h
def em_M_closeRun (x1 : Int) (x2 : Int) (M : rf_M) (K : Int → rf_M → Prop) : Prop := e_M_closeRun x1 x2 M K
theorem Z_M_closeRun_m {w fz : Bool} {S : gS} {B : rf_M} {M : rf_M} {n0 : Nat} {x1 : Int} {x2 : Int} {K : Int → rf_M → Prop} (hS : rl S) (hR : fl 22 (gwH w) B M) (ix1 : inr x1) (ix2 : inr x2) (h : em_M_closeRun x1 x2 M K) : lx (cx0 fz) n0 104 0 (lv_args 0 [.ref 22, zv x1, zv x2]) [] (M, S) (vl_i 22 (gwH w) B S K) :=
  Z_M_closeRun hS hR ix1 ix2 rfl rfl rfl h
def e_M_takeTurn_111 (v2 : Nat) (M : rf_M) (K : Int → rf_M → Prop) : Prop := em_C_cut v2 M (fun (M1 : rf_M) => K 3 M1)
theorem Z_M_takeTurn_111 {w fz : Bool} {S : gS} {B : rf_M} {M : rf_M} {ls : rf_L} {n0 : Nat} {v2 : Nat} {K : Int → rf_M → Prop} (hS : rl S) (hR : fl 22 (gwH w) B M) (mv2 : v2 ∈ gwL6 w) (a2 : rf_ld ls 2 = some (.ref v2)) (h : e_M_takeTurn_111 v2 M K) : lx (cx0 fz) n0 85 111 ls [] (M, S) (vl_i 22 (gwH w) B S K) := by
  unfold e_M_takeTurn_111 at h
  refine l1 (n := 1) rfl rfl rfl (la_of a2) ?_
  refine b_iv (c := v2) (as := []) (rest := []) rfl (by decide) (jgo_6 (w := w) hS mv2) rfl rfl (Nat.le_of_ble_eq_true rfl) (fun hq => ?_)
  refine lx_mono (Z_C_cut_m hS hR mv2 h) ?_
  rintro _ _ ⟨M1, rfl, rfl, r1, h⟩
  refine l1 (n := 1) rfl rfl rfl rfl ?_
  exact l_ri rfl rfl ⟨by decide, by decide⟩ r1 h
def e_M_takeTurn_176 (s0 : Int) (M : rf_M) (K : Int → rf_M → Prop) : Prop := K s0 M
theorem Z_M_takeTurn_176 {w fz : Bool} {S : gS} {B : rf_M} {M : rf_M} {ls : rf_L} {n0 : Nat} {s0 : Int} {K : Int → rf_M → Prop} (hS : rl S) (hR : fl 22 (gwH w) B M) (is0 : inr s0) (h : e_M_takeTurn_176 s0 M K) : lx (cx0 fz) n0 85 176 ls [zv s0] (M, S) (vl_i 22 (gwH w) B S K) := by
  unfold e_M_takeTurn_176 at h
  exact l_ri rfl rfl is0 hR h
def e_M_takeTurn_151 (v2 : Nat) (v3 : Int) (v4 : Int) (v6 : Int) (M : rf_M) (K : Int → rf_M → Prop) : Prop := ∀ M1 : rf_M, M1 = wi M (v2 + 3) 2 v4 → (∀ M2 : rf_M, M2 = wi M1 v2 0 v3 → ((v6 = 0 → (e_M_takeTurn_176 (-1) M2 K)) ∧ (¬ (v6 = 0) → (e_M_takeTurn_176 6 M2 K))))
theorem Z_M_takeTurn_151 {w fz : Bool} {S : gS} {B : rf_M} {M : rf_M} {ls : rf_L} {n0 : Nat} {v2 : Nat} {v3 : Int} {v4 : Int} {v6 : Int} {K : Int → rf_M → Prop} (hS : rl S) (hR : fl 22 (gwH w) B M) (mv2 : v2 ∈ gwL6 w) (iv3 : inr v3) (iv4 : inr v4) (iv6 : inr v6) (a2 : rf_ld ls 2 = some (.ref v2)) (a3 : rf_ld ls 3 = some (zv v3)) (a4 : rf_ld ls 4 = some (zv v4)) (a6 : rf_ld ls 6 = some (zv v6)) (h : e_M_takeTurn_151 v2 v3 v4 v6 M K) : lx (cx0 fz) n0 85 151 ls [] (M, S) (vl_i 22 (gwH w) B S K) := by
  unfold e_M_takeTurn_151 at h
  refine l1 (n := 1) rfl rfl rfl (la_of a2) ?_
  refine l_gr rfl (jgo_6 (w := w) hS mv2) rfl (fun _ => rfl) (jgf_6_4 (w := w) hR.2 mv2) ?_
  refine l1 (n := 2) rfl rfl rfl (li_of a4) ?_
  refine l_pi rfl (jgo_7 (w := w) (fz := fz) hS (jgt_6_4 (w := w) mv2)) rfl (fun _ _ => rfl) (fun M1 e => ?_)
  replace h := h M1 e
  have r1 := hR.wi (jgo_7 (w := w) (fz := fz) hS (jgt_6_4 (w := w) mv2)).1 (jgl_7 (w := w) (jgt_6_4 (w := w) mv2)) e
  refine l1 (n := 1) rfl rfl rfl (la_of a2) ?_
  refine l1 (n := 1) rfl rfl rfl (li_of a3) ?_
  refine l_pi rfl (jgo_6 (w := w) (fz := fz) hS mv2) rfl (fun _ _ => rfl) (fun M2 e => ?_)
  replace h := h M2 e
  have r2 := r1.wi (jgo_6 (w := w) (fz := fz) hS mv2).1 (jgl_6 (w := w) mv2) e
  refine l1 (n := 2) rfl rfl rfl (li_of a6) ?_
  refine l_if rfl iv6 (fun c => ?_) (fun c => ?_)
  · replace h := h.1 c
    refine l1 (n := 1) rfl rfl rfl rfl ?_
    exact Z_M_takeTurn_176 hS r2 ⟨by decide, by decide⟩ h
  · replace h := h.2 c
    refine l_bi rfl (by decide) ?_
    refine l3 rfl rfl rfl ?_
    exact Z_M_takeTurn_176 hS r2 ⟨by decide, by decide⟩ h
def e_M_takeTurn_70 (v1 : Int) (v2 : Nat) (v3 : Int) (M : rf_M) (K : Int → rf_M → Prop) : Prop := em_R_step (v2 + 3) M (fun (z1 : Int) (M1 : rf_M) => (z1 = 0 → (K 0 M1)) ∧ (¬ z1 = 0 → ((z1 = 3 → (e_M_takeTurn_111 v2 M1 K)) ∧ (¬ (z1 = 3) → (em_R_isStale (v2 + 3) M1 (fun (z2 : Int) (M2 : rf_M) => (z2 = 0 → ((z1 = 4 → (em_C_rest v2 M2 (fun (M6 : rf_M) => K 4 M6))) ∧ (¬ z1 = 4 → (em_M_isHeld v1 M2 (fun (z3 : Int) (M3 : rf_M) => (z3 = 0 → (em_J_isFull  M3 (fun (z4 : Int) (M4 : rf_M) => (z4 = 0 → (em_M_closeRun v1 z1 M4 (fun (z5 : Int) (M5 : rf_M) => K z5 M5))) ∧ (¬ (z4 = 0) → (e_M_takeTurn_151 v2 v3 (gi M (v2 + 3) 2) z3 M4 K))))) ∧ (¬ z3 = 0 → (e_M_takeTurn_151 v2 v3 (gi M (v2 + 3) 2) z3 M3 K))))))) ∧ (¬ (z2 = 0) → (e_M_takeTurn_111 v2 M2 K))))))))
theorem Z_M_takeTurn_70 {w fz : Bool} {S : gS} {B : rf_M} {M : rf_M} {ls : rf_L} {n0 : Nat} {v1 : Int} {v2 : Nat} {v3 : Int} {K : Int → rf_M → Prop} (hS : rl S) (hR : fl 22 (gwH w) B M) (iv1 : inr v1) (mv2 : v2 ∈ gwL6 w) (iv3 : inr v3) (a0 : rf_ld ls 0 = some (.ref 22)) (a1 : rf_ld ls 1 = some (zv v1)) (a2 : rf_ld ls 2 = some (.ref v2)) (a3 : rf_ld ls 3 = some (zv v3)) (h : e_M_takeTurn_70 v1 v2 v3 M K) : lx (cx0 fz) n0 85 70 ls [] (M, S) (vl_i 22 (gwH w) B S K) := by
  unfold e_M_takeTurn_70 at h
  refine l1 (n := 1) rfl rfl rfl (la_of a2) ?_
  refine l_gr rfl (jgo_6 (w := w) hS mv2) rfl (fun _ => rfl) (jgf_6_4 (w := w) hR.2 mv2) ?_
  refine l_gi rfl (jgo_7 (w := w) hS (jgt_6_4 (w := w) mv2)) rfl (fun _ => rfl) ?_
  refine l_s1 (n := 2) rfl rfl rfl rfl (fun ls y1 ho => ?_)
  have y2 := ho 0 _ (by decide) (fun q => by cases q.2) a0
  have y3 := ho 1 _ (by decide) (fun q => by cases q.2) a1
  have y4 := ho 2 _ (by decide) (fun q => by cases q.2) a2
  have y5 := ho 3 _ (by decide) (fun q => by cases q.2) a3
  refine l1 (n := 1) rfl rfl rfl (la_of y4) ?_
  refine l_gr rfl (jgo_6 (w := w) hS mv2) rfl (fun _ => rfl) (jgf_6_4 (w := w) hR.2 mv2) ?_
  refine b_iv (c := (v2 + 3)) (as := []) (rest := []) rfl (by decide) (jgo_7 (w := w) hS (jgt_6_4 (w := w) mv2)) rfl rfl (Nat.le_of_ble_eq_true rfl) (fun hq => ?_)
  refine lx_mono (Z_R_step_m hS hR (jgt_6_4 (w := w) mv2) h) ?_
  rintro _ _ ⟨z1, M1, rfl, rfl, r1, iz1, h⟩
  refine l_s1 (n := 2) rfl rfl rfl rfl (fun ls y6 ho => ?_)
  have y7 := ho 0 _ (by decide) (fun q => by cases q.2) y2
  have y8 := ho 1 _ (by decide) (fun q => by cases q.2) y3
  have y9 := ho 2 _ (by decide) (fun q => by cases q.2) y4
  have y10 := ho 3 _ (by decide) (fun q => by cases q.2) y5
  have y11 := ho 4 _ (by decide) (fun q => by cases q.2) y1
  refine l1 (n := 2) rfl rfl rfl (li_of y6) ?_
  refine l_if rfl iz1 (fun c => ?_) (fun c => ?_)
  · replace h := h.2 c
    refine l1 (n := 2) rfl rfl rfl (li_of y6) ?_
    refine l1 (n := 1) rfl rfl rfl rfl ?_
    refine l_ic rfl iz1 ⟨by decide, by decide⟩ (fun c => ?_) (fun c => ?_)
    · replace h := h.1 c
      exact Z_M_takeTurn_111 hS r1 mv2 y9 h
    · replace h := h.2 c
      refine l1 (n := 1) rfl rfl rfl (la_of y9) ?_
      refine l_gr rfl (jgo_6 (w := w) hS mv2) rfl (fun _ => rfl) (jgf_6_4 (w := w) r1.2 mv2) ?_
      refine b_iv (c := (v2 + 3)) (as := []) (rest := []) rfl (by decide) (jgo_7 (w := w) hS (jgt_6_4 (w := w) mv2)) rfl rfl (Nat.le_of_ble_eq_true rfl) (fun hq => ?_)
      refine lx_mono (Z_R_isStale_m hS r1 (jgt_6_4 (w := w) mv2) h) ?_
      rintro _ _ ⟨z2, M2, rfl, rfl, r2, iz2, h⟩
      refine l_if rfl iz2 (fun c => ?_) (fun c => ?_)
      · replace h := h.1 c
        refine l1 (n := 2) rfl rfl rfl (li_of y6) ?_
        refine l1 (n := 1) rfl rfl rfl rfl ?_
        refine l_ic rfl iz1 ⟨by decide, by decide⟩ (fun c => ?_) (fun c => ?_)
        · replace h := h.2 c
          refine l1 (n := 1) rfl rfl rfl (la_of y7) ?_
          refine l1 (n := 1) rfl rfl rfl (li_of y8) ?_
          refine b_iv (c := 22) (as := [zv v1]) (rest := []) rfl (by decide) (ko_0 hS (List.Mem.head _)) rfl rfl (Nat.le_of_ble_eq_true rfl) (fun hq => ?_)
          refine lx_mono (Z_M_isHeld_m hS r2 iv1 h) ?_
          rintro _ _ ⟨z3, M3, rfl, rfl, r3, iz3, h⟩
          refine l_s1 (n := 2) rfl rfl rfl rfl (fun ls y12 ho => ?_)
          have y13 := ho 0 _ (by decide) (fun q => by cases q.2) y7
          have y14 := ho 1 _ (by decide) (fun q => by cases q.2) y8
          have y15 := ho 2 _ (by decide) (fun q => by cases q.2) y9
          have y16 := ho 3 _ (by decide) (fun q => by cases q.2) y10
          have y17 := ho 4 _ (by decide) (fun q => by cases q.2) y11
          have y18 := ho 5 _ (by decide) (fun q => by cases q.2) y6
          refine l1 (n := 2) rfl rfl rfl (li_of y12) ?_
          refine l_if rfl iz3 (fun c => ?_) (fun c => ?_)
          · replace h := h.2 c
            exact Z_M_takeTurn_151 hS r3 mv2 iv3 (inr_gi _ _ _) iz3 y15 y16 y17 y12 h
          · replace h := h.1 (Classical.not_not.mp c)
            refine l1 (n := 1) rfl rfl rfl (la_of y13) ?_
            refine l_gr rfl (ko_0 hS (List.Mem.head _)) rfl (fun _ => rfl) (kf_0_8 r3.2 (List.Mem.head _)) ?_
            refine b_iv (c := 324) (as := []) (rest := []) rfl (by decide) (ko_9 hS (List.Mem.head _)) rfl rfl (Nat.le_of_ble_eq_true rfl) (fun hq => ?_)
            refine lx_mono (Z_J_isFull_m hS r3 h) ?_
            rintro _ _ ⟨z4, M4, rfl, rfl, r4, iz4, h⟩
            refine l_if rfl iz4 (fun c => ?_) (fun c => ?_)
            · replace h := h.1 c
              refine l1 (n := 1) rfl rfl rfl (la_of y13) ?_
              refine l1 (n := 1) rfl rfl rfl (li_of y14) ?_
              refine l1 (n := 2) rfl rfl rfl (li_of y18) ?_
              refine b_iv (c := 22) (as := [zv v1, zv z1]) (rest := []) rfl (by decide) (ko_0 hS (List.Mem.head _)) rfl rfl (Nat.le_of_ble_eq_true rfl) (fun hq => ?_)
              refine lx_mono (Z_M_closeRun_m hS r4 iv1 iz1 h) ?_
              rintro _ _ ⟨z5, M5, rfl, rfl, r5, iz5, h⟩
              exact l_ri rfl rfl iz5 r5 h
            · replace h := h.2 c
              exact Z_M_takeTurn_151 hS r4 mv2 iv3 (inr_gi _ _ _) iz3 y15 y16 y17 y12 h
        · replace h := h.1 (Classical.not_not.mp c)
          refine l1 (n := 1) rfl rfl rfl (la_of y9) ?_
          refine b_iv (c := v2) (as := []) (rest := []) rfl (by decide) (jgo_6 (w := w) hS mv2) rfl rfl (Nat.le_of_ble_eq_true rfl) (fun hq => ?_)
          refine lx_mono (Z_C_rest_m hS r2 mv2 h) ?_
          rintro _ _ ⟨M6, rfl, rfl, r6, h⟩
          refine l1 (n := 1) rfl rfl rfl rfl ?_
          exact l_ri rfl rfl ⟨by decide, by decide⟩ r6 h
      · replace h := h.2 c
        exact Z_M_takeTurn_111 hS r2 mv2 y9 h
  · replace h := h.1 (Classical.not_not.mp c)
    refine l1 (n := 1) rfl rfl rfl rfl ?_
    exact l_ri rfl rfl ⟨by decide, by decide⟩ r1 h
def e_M_takeTurn_37 (v1 : Int) (v2 : Nat) (M : rf_M) (K : Int → rf_M → Prop) : Prop := ((gi M v2 0) = 2 → (e_M_takeTurn_70 v1 v2 (gi M v2 0) M K)) ∧ (¬ ((gi M v2 0) = 2) → ((0 ≤ (0 : Int) ∧ (0 : Int) < 16 → ((0 ≤ (gi M (v2 + 1) 0) ∧ (gi M (v2 + 1) 0) < 12 → (em_R_begin (v2 + 3) (pgA (gi M (v2 + 1) 0)) M (fun (M1 : rf_M) => ∀ M2 : rf_M, M2 = wi M1 v2 0 2 → (e_M_takeTurn_70 v1 v2 (gi M v2 0) M2 K))))))))
theorem Z_M_takeTurn_37 {w fz : Bool} {S : gS} {B : rf_M} {M : rf_M} {ls : rf_L} {n0 : Nat} {v1 : Int} {v2 : Nat} {K : Int → rf_M → Prop} (hS : rl S) (hR : fl 22 (gwH w) B M) (iv1 : inr v1) (mv2 : v2 ∈ gwL6 w) (a0 : rf_ld ls 0 = some (.ref 22)) (a1 : rf_ld ls 1 = some (zv v1)) (a2 : rf_ld ls 2 = some (.ref v2)) (h : e_M_takeTurn_37 v1 v2 M K) : lx (cx0 fz) n0 85 37 ls [] (M, S) (vl_i 22 (gwH w) B S K) := by
  unfold e_M_takeTurn_37 at h
  refine l1 (n := 1) rfl rfl rfl (la_of a2) ?_
  refine l_gi rfl (jgo_6 (w := w) hS mv2) rfl (fun _ => rfl) ?_
  refine l_s1 (n := 1) rfl rfl rfl rfl (fun ls y1 ho => ?_)
  have y2 := ho 0 _ (by decide) (fun q => by cases q.2) a0
  have y3 := ho 1 _ (by decide) (fun q => by cases q.2) a1
  have y4 := ho 2 _ (by decide) (fun q => by cases q.2) a2
  refine l1 (n := 1) rfl rfl rfl (li_of y1) ?_
  refine l1 (n := 1) rfl rfl rfl rfl ?_
  refine l_ic rfl (inr_gi _ _ _) ⟨by decide, by decide⟩ (fun c => ?_) (fun c => ?_)
  · replace h := h.1 c
    exact Z_M_takeTurn_70 hS hR iv1 mv2 (inr_gi _ _ _) y2 y3 y4 y1 h
  · replace h := h.2 c
    refine l1 (n := 1) rfl rfl rfl (la_of y4) ?_
    refine l_gr rfl (jgo_6 (w := w) hS mv2) rfl (fun _ => rfl) (jgf_6_4 (w := w) hR.2 mv2) ?_
    refine l1 (n := 1) rfl rfl rfl (la_of y2) ?_
    refine l_gr rfl (ko_0 hS (List.Mem.head _)) rfl (fun _ => rfl) (kf_0_2 hR.2 (List.Mem.head _)) ?_
    refine l1 (n := 1) rfl rfl rfl (la_of y4) ?_
    refine l_gr rfl (jgo_6 (w := w) hS mv2) rfl (fun _ => rfl) (jgf_6_3 (w := w) hR.2 mv2) ?_
    refine l1 (n := 1) rfl rfl rfl rfl ?_
    refine b_ia rfl (jgt_6_3 (w := w) (fz := fz) hS mv2).1 (Nat.le_of_ble_eq_true rfl) ⟨by decide, by decide⟩ (fun q => ?_)
    replace h := h q
    refine b_aa rfl (jgc_24 (w := w) (fz := fz) hS).1 (Nat.le_of_ble_eq_true rfl) (inr_gi _ _ _) (fun q1 => ⟨pgA_ref hR.2 q1, ?_⟩)
    replace h := h q1
    refine b_iv (c := (v2 + 3)) (as := [.ref (pgA (gi M (v2 + 1) 0))]) (rest := []) rfl (by decide) (jgo_7 (w := w) hS (jgt_6_4 (w := w) mv2)) rfl rfl (Nat.le_of_ble_eq_true rfl) (fun hq => ?_)
    refine lx_mono (Z_R_begin_m hS hR (jgt_6_4 (w := w) mv2) (pgA_mem q1) h) ?_
    rintro _ _ ⟨M1, rfl, rfl, r1, h⟩
    refine l1 (n := 1) rfl rfl rfl (la_of y4) ?_
    refine l1 (n := 1) rfl rfl rfl rfl ?_
    refine l_pi rfl (jgo_6 (w := w) (fz := fz) hS mv2) rfl (fun _ _ => rfl) (fun M2 e => ?_)
    replace h := h M2 e
    have r2 := r1.wi (jgo_6 (w := w) (fz := fz) hS mv2).1 (jgl_6 (w := w) mv2) e
    exact Z_M_takeTurn_70 hS r2 iv1 mv2 (inr_gi _ _ _) y2 y3 y4 y1 h
def e_M_takeTurn (v1 : Int) (M : rf_M) (K : Int → rf_M → Prop) : Prop := (0 ≤ v1 ∧ v1 < 8 → (((gi M (clA v1) 0) = 0 → (K 5 M)) ∧ (¬ (gi M (clA v1) 0) = 0 → (((gi M (clA v1) 0) = 3 → (em_C_isWoken (clA v1) 187 M (fun (z1 : Int) (M1 : rf_M) => (z1 = 0 → (K 4 M1)) ∧ (¬ z1 = 0 → (e_M_takeTurn_37 v1 (clA v1) M1 K))))) ∧ (¬ (gi M (clA v1) 0) = 3 → (e_M_takeTurn_37 v1 (clA v1) M K))))))
theorem Z_M_takeTurn {w fz : Bool} {S : gS} {B : rf_M} {M : rf_M} {ls : rf_L} {n0 : Nat} {v1 : Int} {K : Int → rf_M → Prop} (hS : rl S) (hR : fl 22 (gwH w) B M) (iv1 : inr v1) (a0 : rf_ld ls 0 = some (.ref 22)) (a1 : rf_ld ls 1 = some (zv v1)) (h : e_M_takeTurn v1 M K) : lx (cx0 fz) n0 85 0 ls [] (M, S) (vl_i 22 (gwH w) B S K) := by
  unfold e_M_takeTurn at h
  refine l1 (n := 1) rfl rfl rfl (la_of a0) ?_
  refine l_gr rfl (ko_0 hS (List.Mem.head _)) rfl (fun _ => rfl) (kf_0_7 hR.2 (List.Mem.head _)) ?_
  refine l1 (n := 1) rfl rfl rfl (li_of a1) ?_
  refine b_aa rfl (jgc_195 (w := w) (fz := fz) hS).1 (Nat.le_of_ble_eq_true rfl) iv1 (fun q1 => ⟨clA_ref hR.2 q1, ?_⟩)
  replace h := h q1
  refine l_s1 (n := 1) rfl rfl rfl rfl (fun ls y1 ho => ?_)
  have y2 := ho 0 _ (by decide) (fun q => by cases q.2) a0
  have y3 := ho 1 _ (by decide) (fun q => by cases q.2) a1
  refine l1 (n := 1) rfl rfl rfl (la_of y1) ?_
  refine l_gi rfl (jgo_6 (w := w) hS (clA_memg q1)) rfl (fun _ => rfl) ?_
  refine l_if rfl (inr_gi _ _ _) (fun c => ?_) (fun c => ?_)
  · replace h := h.2 c
    refine l1 (n := 1) rfl rfl rfl (la_of y1) ?_
    refine l_gi rfl (jgo_6 (w := w) hS (clA_memg q1)) rfl (fun _ => rfl) ?_
    refine l1 (n := 1) rfl rfl rfl rfl ?_
    refine l_ic rfl (inr_gi _ _ _) ⟨by decide, by decide⟩ (fun c => ?_) (fun c => ?_)
    · replace h := h.2 c
      exact Z_M_takeTurn_37 hS hR iv1 (clA_memg q1) y2 y3 y1 h
    · replace h := h.1 (Classical.not_not.mp c)
      refine l1 (n := 1) rfl rfl rfl (la_of y1) ?_
      refine l1 (n := 1) rfl rfl rfl (la_of y2) ?_
      refine l_gr rfl (ko_0 hS (List.Mem.head _)) rfl (fun _ => rfl) (kf_0_6 hR.2 (List.Mem.head _)) ?_
      refine b_iv (c := (clA v1)) (as := [.ref 187]) (rest := []) rfl (by decide) (jgo_6 (w := w) hS (clA_memg q1)) rfl rfl (Nat.le_of_ble_eq_true rfl) (fun hq => ?_)
      refine lx_mono (Z_C_isWoken_m hS hR (clA_memg q1) (List.Mem.head _) h) ?_
      rintro _ _ ⟨z1, M1, rfl, rfl, r1, iz1, h⟩
      refine l_if rfl iz1 (fun c => ?_) (fun c => ?_)
      · replace h := h.2 c
        exact Z_M_takeTurn_37 hS r1 iv1 (clA_memg q1) y2 y3 y1 h
      · replace h := h.1 (Classical.not_not.mp c)
        refine l1 (n := 1) rfl rfl rfl rfl ?_
        exact l_ri rfl rfl ⟨by decide, by decide⟩ r1 h
  · replace h := h.1 (Classical.not_not.mp c)
    refine l1 (n := 1) rfl rfl rfl rfl ?_
    exact l_ri rfl rfl ⟨by decide, by decide⟩ hR h
def em_M_takeTurn (x1 : Int) (M : rf_M) (K : Int → rf_M → Prop) : Prop := e_M_takeTurn x1 M K
theorem Z_M_takeTurn_m {w fz : Bool} {S : gS} {B : rf_M} {M : rf_M} {n0 : Nat} {x1 : Int} {K : Int → rf_M → Prop} (hS : rl S) (hR : fl 22 (gwH w) B M) (ix1 : inr x1) (h : em_M_takeTurn x1 M K) : lx (cx0 fz) n0 85 0 (lv_args 0 [.ref 22, zv x1]) [] (M, S) (vl_i 22 (gwH w) B S K) :=
  Z_M_takeTurn hS hR ix1 rfl rfl h
def e_M_turn_17 (s0 : Int) (M : rf_M) (K : Int → rf_M → Prop) : Prop := K s0 M
theorem Z_M_turn_17 {w fz : Bool} {S : gS} {B : rf_M} {M : rf_M} {ls : rf_L} {n0 : Nat} {s0 : Int} {K : Int → rf_M → Prop} (hS : rl S) (hR : fl 22 (gwH w) B M) (is0 : inr s0) (h : e_M_turn_17 s0 M K) : lx (cx0 fz) n0 84 17 ls [zv s0] (M, S) (vl_i 22 (gwH w) B S K) := by
  unfold e_M_turn_17 at h
  exact l_ri rfl rfl is0 hR h
def e_M_turn (v1 : Int) (M : rf_M) (K : Int → rf_M → Prop) : Prop := em_M_isClient v1 M (fun (z1 : Int) (M1 : rf_M) => (z1 = 0 → (e_M_turn_17 (-1) M1 K)) ∧ (¬ (z1 = 0) → (em_M_takeTurn v1 M1 (fun (z2 : Int) (M2 : rf_M) => e_M_turn_17 z2 M2 K))))
theorem Z_M_turn {w fz : Bool} {S : gS} {B : rf_M} {M : rf_M} {ls : rf_L} {n0 : Nat} {v1 : Int} {K : Int → rf_M → Prop} (hS : rl S) (hR : fl 22 (gwH w) B M) (iv1 : inr v1) (a0 : rf_ld ls 0 = some (.ref 22)) (a1 : rf_ld ls 1 = some (zv v1)) (h : e_M_turn v1 M K) : lx (cx0 fz) n0 84 0 ls [] (M, S) (vl_i 22 (gwH w) B S K) := by
  unfold e_M_turn at h
  refine l1 (n := 1) rfl rfl rfl (la_of a0) ?_
  refine l1 (n := 1) rfl rfl rfl (li_of a1) ?_
  refine b_iv (c := 22) (as := [zv v1]) (rest := []) rfl (by decide) (ko_0 hS (List.Mem.head _)) rfl rfl (Nat.le_of_ble_eq_true rfl) (fun hq => ?_)
  refine lx_mono (Z_M_isClient_m hS hR iv1 h) ?_
  rintro _ _ ⟨z1, M1, rfl, rfl, r1, iz1, h⟩
  refine l_if rfl iz1 (fun c => ?_) (fun c => ?_)
  · replace h := h.1 c
    refine l1 (n := 1) rfl rfl rfl rfl ?_
    exact Z_M_turn_17 hS r1 ⟨by decide, by decide⟩ h
  · replace h := h.2 c
    refine l1 (n := 1) rfl rfl rfl (la_of a0) ?_
    refine l1 (n := 1) rfl rfl rfl (li_of a1) ?_
    refine b_iv (c := 22) (as := [zv v1]) (rest := []) rfl (by decide) (ko_0 hS (List.Mem.head _)) rfl rfl (Nat.le_of_ble_eq_true rfl) (fun hq => ?_)
    refine lx_mono (Z_M_takeTurn_m hS r1 iv1 h) ?_
    rintro _ _ ⟨z2, M2, rfl, rfl, r2, iz2, h⟩
    refine l3 rfl rfl rfl ?_
    exact Z_M_turn_17 hS r2 iz2 h
def em_M_turn (x1 : Int) (M : rf_M) (K : Int → rf_M → Prop) : Prop := e_M_turn x1 M K
theorem Z_M_turn_m {w fz : Bool} {S : gS} {B : rf_M} {M : rf_M} {n0 : Nat} {x1 : Int} {K : Int → rf_M → Prop} (hS : rl S) (hR : fl 22 (gwH w) B M) (ix1 : inr x1) (h : em_M_turn x1 M K) : lx (cx0 fz) n0 84 0 (lv_args 0 [.ref 22, zv x1]) [] (M, S) (vl_i 22 (gwH w) B S K) :=
  Z_M_turn hS hR ix1 rfl rfl h
def e_M_play_11 (M : rf_M) (K : Int → rf_M → Prop) : Prop := K (-1) M
theorem Z_M_play_11 {w fz : Bool} {S : gS} {B : rf_M} {M : rf_M} {ls : rf_L} {n0 : Nat} {K : Int → rf_M → Prop} (hS : rl S) (hR : fl 22 (gwH w) B M) (h : e_M_play_11 M K) : lx (cx0 fz) n0 108 11 ls [] (M, S) (vl_i 22 (gwH w) B S K) := by
  unfold e_M_play_11 at h
  refine l1 (n := 1) rfl rfl rfl rfl ?_
  exact l_ri rfl rfl ⟨by decide, by decide⟩ hR h
def e_M_play_57 (v3 : Int) (v4 : Int64) (v6 : Int) (v7 : Int) (M : rf_M) (b22 : Int → Int64 → Int → Int → rf_M → Prop) (K : Int → rf_M → Prop) : Prop := inr (v7 + 1) ∧ (b22 v3 v4 v6 (v7 + 1) M)
theorem Z_M_play_57 {w fz : Bool} {S : gS} {B : rf_M} {M : rf_M} {ls : rf_L} {n0 : Nat} {v3 : Int} {v4 : Int64} {v6 : Int} {v7 : Int} {b22 : Int → Int64 → Int → Int → rf_M → Prop} {K : Int → rf_M → Prop} (hS : rl S) (hR : fl 22 (gwH w) B M) (iv3 : inr v3) (iv6 : inr v6) (iv7 : inr v7) (a0 : rf_ld ls 0 = some (.ref 22)) (a3 : rf_ld ls 3 = some (zv v3)) (a4 : rf_ld ls 4 = some (.long v4)) (a6 : rf_ld ls 6 = some (zv v6)) (a7 : rf_ld ls 7 = some (zv v7)) (hb22 : ∀ n', n' < n0 → ∀ (v3 : Int) (v4 : Int64) (v6 : Int) (v7 : Int) (M : rf_M) (ls : rf_L), fl 22 (gwH w) B M → inr v3 → inr v6 → inr v7 → rf_ld ls 0 = some (.ref 22) → rf_ld ls 3 = some (zv v3) → rf_ld ls 4 = some (.long v4) → rf_ld ls 6 = some (zv v6) → rf_ld ls 7 = some (zv v7) → b22 v3 v4 v6 v7 M → lx (cx0 fz) n' 108 22 ls [] (M, S) (vl_i 22 (gwH w) B S K)) (h : e_M_play_57 v3 v4 v6 v7 M b22 K) : lx (cx0 fz) n0 108 57 ls [] (M, S) (vl_i 22 (gwH w) B S K) := by
  unfold e_M_play_57 at h
  rcases Nat.eq_zero_or_pos n0 with e0 | hp
  · rw [e0]; exact lx_zero
  refine l_ii rfl a7 (Nat.le_of_ble_eq_true rfl) (fun ls y1 ho => ?_)
  have y2 := ho 0 _ (by decide) (fun q => by cases q.2) a0
  have y3 := ho 3 _ (by decide) (fun q => by cases q.2) a3
  have y4 := ho 4 _ (by decide) (fun q => absurd q.1 (by decide)) a4
  have y5 := ho 6 _ (by decide) (fun q => by cases q.2) a6
  refine l3 rfl rfl rfl ?_
  obtain ⟨i1, h⟩ := h
  exact hb22 _ (by omega) _ _ _ _ _ _ hR iv3 iv6 i1 y2 y3 y4 y5 y1 h
def e_M_play_22b (v3 : Int) (v4 : Int64) (v6 : Int) (v7 : Int) (M : rf_M) (b22 : Int → Int64 → Int → Int → rf_M → Prop) (K : Int → rf_M → Prop) : Prop := (v3 ≤ v7 → (K v6 M)) ∧ (¬ (v3 ≤ v7) → (em_M_takeTurn (((((Int64.ofNat 6364136223846793005) * v4) + (Int64.ofNat 1442695040888963407)).toUInt64 >>> ((Int32.ofInt 61).toInt64.toUInt64 &&& Int64.toUInt64 63)).toInt64).toInt32.toInt M (fun (z1 : Int) (M1 : rf_M) => (z1 = 1 → (inr (v6 + 1) ∧ (e_M_play_57 v3 (((Int64.ofNat 6364136223846793005) * v4) + (Int64.ofNat 1442695040888963407)) (v6 + 1) v7 M1 b22 K))) ∧ (¬ z1 = 1 → (e_M_play_57 v3 (((Int64.ofNat 6364136223846793005) * v4) + (Int64.ofNat 1442695040888963407)) v6 v7 M1 b22 K)))))
theorem Z_M_play_22b {w fz : Bool} {S : gS} {B : rf_M} {M : rf_M} {ls : rf_L} {n0 : Nat} {v3 : Int} {v4 : Int64} {v6 : Int} {v7 : Int} {b22 : Int → Int64 → Int → Int → rf_M → Prop} {K : Int → rf_M → Prop} (hS : rl S) (hR : fl 22 (gwH w) B M) (iv3 : inr v3) (iv6 : inr v6) (iv7 : inr v7) (a0 : rf_ld ls 0 = some (.ref 22)) (a3 : rf_ld ls 3 = some (zv v3)) (a4 : rf_ld ls 4 = some (.long v4)) (a6 : rf_ld ls 6 = some (zv v6)) (a7 : rf_ld ls 7 = some (zv v7)) (hb22 : ∀ n', n' < n0 → ∀ (v3 : Int) (v4 : Int64) (v6 : Int) (v7 : Int) (M : rf_M) (ls : rf_L), fl 22 (gwH w) B M → inr v3 → inr v6 → inr v7 → rf_ld ls 0 = some (.ref 22) → rf_ld ls 3 = some (zv v3) → rf_ld ls 4 = some (.long v4) → rf_ld ls 6 = some (zv v6) → rf_ld ls 7 = some (zv v7) → b22 v3 v4 v6 v7 M → lx (cx0 fz) n' 108 22 ls [] (M, S) (vl_i 22 (gwH w) B S K)) (h : e_M_play_22b v3 v4 v6 v7 M b22 K) : lx (cx0 fz) n0 108 22 ls [] (M, S) (vl_i 22 (gwH w) B S K) := by
  unfold e_M_play_22b at h
  rcases Nat.eq_zero_or_pos n0 with e0 | hp
  · rw [e0]; exact lx_zero
  refine l1 (n := 2) rfl rfl rfl (li_of a7) ?_
  refine l1 (n := 1) rfl rfl rfl (li_of a3) ?_
  refine l_ic rfl iv7 iv3 (fun c => ?_) (fun c => ?_)
  · replace h := h.1 c
    refine l1 (n := 2) rfl rfl rfl (li_of a6) ?_
    exact l_ri rfl rfl iv6 hR h
  · replace h := h.2 c
    refine l7 (n := 3) rfl rfl rfl rfl ?_
    refine l1 (n := 2) rfl rfl rfl (ll_of a4) ?_
    refine l0 rfl rfl rfl ?_
    refine l7 (n := 3) rfl rfl rfl rfl ?_
    refine l0 rfl rfl rfl ?_
    refine l_s2 (n := 2) rfl rfl rfl rfl (fun ls y1 ho => ?_)
    have y2 := ho 0 _ (by decide) (by decide) (fun q => by cases q.2) a0
    have y3 := ho 3 _ (by decide) (by decide) (fun q => by cases q.2) a3
    have y4 := ho 6 _ (by decide) (by decide) (fun q => by cases q.2) a6
    have y5 := ho 7 _ (by decide) (by decide) (fun q => by cases q.2) a7
    refine l1 (n := 1) rfl rfl rfl (la_of y2) ?_
    refine l1 (n := 2) rfl rfl rfl (ll_of y1) ?_
    refine l_bi rfl (by decide) ?_
    refine l0 rfl rfl rfl ?_
    refine l_op (T := (((((Int64.ofNat 6364136223846793005) * v4) + (Int64.ofNat 1442695040888963407)).toUInt64 >>> ((Int32.ofInt 61).toInt64.toUInt64 &&& Int64.toUInt64 63)).toInt64).toInt32) rfl rfl rfl ?_
    refine b_iv (c := 22) (as := [zv (((((Int64.ofNat 6364136223846793005) * v4) + (Int64.ofNat 1442695040888963407)).toUInt64 >>> ((Int32.ofInt 61).toInt64.toUInt64 &&& Int64.toUInt64 63)).toInt64).toInt32.toInt]) (rest := []) rfl (by decide) (ko_0 hS (List.Mem.head _)) rfl rfl (Nat.le_of_ble_eq_true rfl) (fun hq => ?_)
    refine lx_mono (Z_M_takeTurn_m hS hR (inr_ti _) h) ?_
    rintro _ _ ⟨z1, M1, rfl, rfl, r1, iz1, h⟩
    refine l1 (n := 1) rfl rfl rfl rfl ?_
    refine l_ic rfl iz1 ⟨by decide, by decide⟩ (fun c => ?_) (fun c => ?_)
    · replace h := h.2 c
      exact Z_M_play_57 hS r1 iv3 iv6 iv7 y2 y3 y1 y4 y5 (fun n' hn' => hb22 n' (by omega)) h
    · replace h := h.1 (Classical.not_not.mp c)
      refine l_ii rfl y4 (Nat.le_of_ble_eq_true rfl) (fun ls y6 ho => ?_)
      have y7 := ho 0 _ (by decide) (fun q => by cases q.2) y2
      have y8 := ho 3 _ (by decide) (fun q => by cases q.2) y3
      have y9 := ho 4 _ (by decide) (fun q => absurd q.1 (by decide)) y1
      have y10 := ho 7 _ (by decide) (fun q => by cases q.2) y5
      obtain ⟨i1, h⟩ := h
      exact Z_M_play_57 hS r1 iv3 i1 iv7 y7 y8 y9 y6 y10 (fun n' hn' => hb22 n' (by omega)) h
def e_M_play_22 (v3 : Int) (v4 : Int64) (v6 : Int) (v7 : Int) (M : rf_M) (K : Int → rf_M → Prop) : Prop := ∃ Inv : Int → Int64 → Int → Int → rf_M → Prop, Inv v3 v4 v6 v7 M ∧ ∀ (v3 : Int) (v4 : Int64) (v6 : Int) (v7 : Int) (M : rf_M), inr v3 → inr v6 → inr v7 → Inv v3 v4 v6 v7 M → e_M_play_22b v3 v4 v6 v7 M Inv K
theorem Z_M_play_22 {w fz : Bool} {S : gS} {B : rf_M} {M : rf_M} {ls : rf_L} {n0 : Nat} {v3 : Int} {v4 : Int64} {v6 : Int} {v7 : Int} {K : Int → rf_M → Prop} (hS : rl S) (hR : fl 22 (gwH w) B M) (iv3 : inr v3) (iv6 : inr v6) (iv7 : inr v7) (a0 : rf_ld ls 0 = some (.ref 22)) (a3 : rf_ld ls 3 = some (zv v3)) (a4 : rf_ld ls 4 = some (.long v4)) (a6 : rf_ld ls 6 = some (zv v6)) (a7 : rf_ld ls 7 = some (zv v7)) (h : e_M_play_22 v3 v4 v6 v7 M K) : lx (cx0 fz) n0 108 22 ls [] (M, S) (vl_i 22 (gwH w) B S K) := by
  obtain ⟨Inv, hm, hb⟩ := h
  induction n0 using Nat.strongRecOn generalizing ls M v3 v4 v6 v7 with
  | _ n0 ih =>
    refine Z_M_play_22b hS hR iv3 iv6 iv7 a0 a3 a4 a6 a7 (fun n' hn' v3' v4' v6' v7' M' ls' hR' f0 f1 f2 f3 f4 f5 f6 f7 q2 => ih n' hn' hR' f0 f1 f2 f3 f4 f5 f6 f7 q2) (hb v3 v4 v6 v7 M iv3 iv6 iv7 hm)
def e_M_play (v1 : Int64) (v3 : Int) (M : rf_M) (K : Int → rf_M → Prop) : Prop := (v3 < 0 → (e_M_play_11 M K)) ∧ (¬ (v3 < 0) → ((v3 ≤ 2000 → (e_M_play_22 v3 v1 0 0 M K)) ∧ (¬ (v3 ≤ 2000) → (e_M_play_11 M K))))
theorem Z_M_play {w fz : Bool} {S : gS} {B : rf_M} {M : rf_M} {ls : rf_L} {n0 : Nat} {v1 : Int64} {v3 : Int} {K : Int → rf_M → Prop} (hS : rl S) (hR : fl 22 (gwH w) B M) (iv3 : inr v3) (a0 : rf_ld ls 0 = some (.ref 22)) (a1 : rf_ld ls 1 = some (.long v1)) (a3 : rf_ld ls 3 = some (zv v3)) (h : e_M_play v1 v3 M K) : lx (cx0 fz) n0 108 0 ls [] (M, S) (vl_i 22 (gwH w) B S K) := by
  unfold e_M_play at h
  refine l1 (n := 1) rfl rfl rfl (li_of a3) ?_
  refine l_if rfl iv3 (fun c => ?_) (fun c => ?_)
  · replace h := h.1 c
    exact Z_M_play_11 hS hR  h
  · replace h := h.2 c
    refine l1 (n := 1) rfl rfl rfl (li_of a3) ?_
    refine l_si rfl (by decide) ?_
    refine l_ic rfl iv3 ⟨by decide, by decide⟩ (fun c => ?_) (fun c => ?_)
    · replace h := h.1 c
      refine l1 (n := 1) rfl rfl rfl (ll_of a1) ?_
      refine l_s2 (n := 2) rfl rfl rfl rfl (fun ls y1 ho => ?_)
      have y2 := ho 0 _ (by decide) (by decide) (fun q => by cases q.2) a0
      have y3 := ho 3 _ (by decide) (by decide) (fun q => by cases q.2) a3
      refine l1 (n := 1) rfl rfl rfl rfl ?_
      refine l_s1 (n := 2) rfl rfl rfl rfl (fun ls y4 ho => ?_)
      have y5 := ho 0 _ (by decide) (fun q => by cases q.2) y2
      have y6 := ho 3 _ (by decide) (fun q => by cases q.2) y3
      have y7 := ho 4 _ (by decide) (fun q => absurd q.1 (by decide)) y1
      refine l1 (n := 1) rfl rfl rfl rfl ?_
      refine l_s1 (n := 2) rfl rfl rfl rfl (fun ls y8 ho => ?_)
      have y9 := ho 0 _ (by decide) (fun q => by cases q.2) y5
      have y10 := ho 3 _ (by decide) (fun q => by cases q.2) y6
      have y11 := ho 4 _ (by decide) (fun q => absurd q.1 (by decide)) y7
      have y12 := ho 6 _ (by decide) (fun q => by cases q.2) y4
      exact Z_M_play_22 hS hR iv3 ⟨by decide, by decide⟩ ⟨by decide, by decide⟩ y9 y10 y11 y12 y8 h
    · replace h := h.2 c
      exact Z_M_play_11 hS hR  h
def em_M_play (x1 : Int64) (x2 : Int) (M : rf_M) (K : Int → rf_M → Prop) : Prop := e_M_play x1 x2 M K
theorem Z_M_play_m {w fz : Bool} {S : gS} {B : rf_M} {M : rf_M} {n0 : Nat} {x1 : Int64} {x2 : Int} {K : Int → rf_M → Prop} (hS : rl S) (hR : fl 22 (gwH w) B M) (ix2 : inr x2) (h : em_M_play x1 x2 M K) : lx (cx0 fz) n0 108 0 (lv_args 0 [.ref 22, .long x1, zv x2]) [] (M, S) (vl_i 22 (gwH w) B S K) :=
  Z_M_play hS hR ix2 rfl rfl rfl h
def e_M_sees_18 (M : rf_M) (K : Int64 → rf_M → Prop) : Prop := K (Int64.ofNat 0) M
theorem Z_M_sees_18 {w fz : Bool} {S : gS} {B : rf_M} {M : rf_M} {ls : rf_L} {n0 : Nat} {K : Int64 → rf_M → Prop} (hS : rl S) (hR : fl 22 (gwH w) B M) (h : e_M_sees_18 M K) : lx (cx0 fz) n0 111 18 ls [] (M, S) (vl_l 22 (gwH w) B S K) := by
  unfold e_M_sees_18 at h
  refine l1 (n := 1) rfl rfl rfl rfl ?_
  exact l_rl rfl rfl hR h
def e_M_sees_67 (s0 : Int64) (M : rf_M) (K : Int64 → rf_M → Prop) : Prop := K s0 M
theorem Z_M_sees_67 {w fz : Bool} {S : gS} {B : rf_M} {M : rf_M} {ls : rf_L} {n0 : Nat} {s0 : Int64} {K : Int64 → rf_M → Prop} (hS : rl S) (hR : fl 22 (gwH w) B M) (h : e_M_sees_67 s0 M K) : lx (cx0 fz) n0 111 67 ls [.long s0] (M, S) (vl_l 22 (gwH w) B S K) := by
  unfold e_M_sees_67 at h
  exact l_rl rfl rfl hR h
def e_M_sees (v1 : Int) (v2 : Int) (M : rf_M) (K : Int64 → rf_M → Prop) : Prop := em_M_isClient v1 M (fun (z1 : Int) (M1 : rf_M) => (z1 = 0 → (e_M_sees_18 M1 K)) ∧ (¬ (z1 = 0) → ((v2 < 0 → (e_M_sees_18 M1 K)) ∧ (¬ (v2 < 0) → ((v2 < 26 → ((0 ≤ v1 ∧ v1 < 8 → (((gi M1 (clA v1) 0) = 2 → ((0 ≤ v1 ∧ v1 < 8 → (em_R_shows ((clA v1) + 3) v2 M1 (fun (z3 : Int64) (M3 : rf_M) => K z3 M3))))) ∧ (¬ (gi M1 (clA v1) 0) = 2 → (em_M_isCell v2 M1 (fun (z2 : Int) (M2 : rf_M) => (z2 = 0 → (e_M_sees_67 (Int64.ofNat 0) M2 K)) ∧ (¬ (z2 = 0) → ((0 ≤ v2 ∧ v2 < 16 → (e_M_sees_67 (gl M2 188 (v2).toNat) M2 K))))))))))) ∧ (¬ (v2 < 26) → (e_M_sees_18 M1 K)))))))
theorem Z_M_sees {w fz : Bool} {S : gS} {B : rf_M} {M : rf_M} {ls : rf_L} {n0 : Nat} {v1 : Int} {v2 : Int} {K : Int64 → rf_M → Prop} (hS : rl S) (hR : fl 22 (gwH w) B M) (iv1 : inr v1) (iv2 : inr v2) (a0 : rf_ld ls 0 = some (.ref 22)) (a1 : rf_ld ls 1 = some (zv v1)) (a2 : rf_ld ls 2 = some (zv v2)) (h : e_M_sees v1 v2 M K) : lx (cx0 fz) n0 111 0 ls [] (M, S) (vl_l 22 (gwH w) B S K) := by
  unfold e_M_sees at h
  refine l1 (n := 1) rfl rfl rfl (la_of a0) ?_
  refine l1 (n := 1) rfl rfl rfl (li_of a1) ?_
  refine b_iv (c := 22) (as := [zv v1]) (rest := []) rfl (by decide) (ko_0 hS (List.Mem.head _)) rfl rfl (Nat.le_of_ble_eq_true rfl) (fun hq => ?_)
  refine lx_mono (Z_M_isClient_m hS hR iv1 h) ?_
  rintro _ _ ⟨z1, M1, rfl, rfl, r1, iz1, h⟩
  refine l_if rfl iz1 (fun c => ?_) (fun c => ?_)
  · replace h := h.1 c
    exact Z_M_sees_18 hS r1  h
  · replace h := h.2 c
    refine l1 (n := 1) rfl rfl rfl (li_of a2) ?_
    refine l_if rfl iv2 (fun c => ?_) (fun c => ?_)
    · replace h := h.1 c
      exact Z_M_sees_18 hS r1  h
    · replace h := h.2 c
      refine l1 (n := 1) rfl rfl rfl (li_of a2) ?_
      refine l_bi rfl (by decide) ?_
      refine l_ic rfl iv2 ⟨by decide, by decide⟩ (fun c => ?_) (fun c => ?_)
      · replace h := h.1 c
        refine l1 (n := 1) rfl rfl rfl (la_of a0) ?_
        refine l_gr rfl (ko_0 hS (List.Mem.head _)) rfl (fun _ => rfl) (kf_0_7 r1.2 (List.Mem.head _)) ?_
        refine l1 (n := 1) rfl rfl rfl (li_of a1) ?_
        refine b_aa rfl (jgc_195 (w := w) (fz := fz) hS).1 (Nat.le_of_ble_eq_true rfl) iv1 (fun q1 => ⟨clA_ref r1.2 q1, ?_⟩)
        replace h := h q1
        refine l_gi rfl (jgo_6 (w := w) hS (clA_memg q1)) rfl (fun _ => rfl) ?_
        refine l1 (n := 1) rfl rfl rfl rfl ?_
        refine l_ic rfl (inr_gi _ _ _) ⟨by decide, by decide⟩ (fun c => ?_) (fun c => ?_)
        · replace h := h.2 c
          refine l1 (n := 1) rfl rfl rfl (li_of a2) ?_
          refine b_st (as := [zv v2]) (rest := []) rfl (by decide) rfl (Nat.le_of_ble_eq_true rfl) (fun hq => ?_)
          refine lx_mono (Z_M_isCell_m hS r1 iv2 h) ?_
          rintro _ _ ⟨z2, M2, rfl, rfl, r2, iz2, h⟩
          refine l_if rfl iz2 (fun c => ?_) (fun c => ?_)
          · replace h := h.1 c
            refine l1 (n := 1) rfl rfl rfl rfl ?_
            exact Z_M_sees_67 hS r2  h
          · replace h := h.2 c
            refine l1 (n := 1) rfl rfl rfl (la_of a0) ?_
            refine l_gr rfl (ko_0 hS (List.Mem.head _)) rfl (fun _ => rfl) (kf_0_6 r2.2 (List.Mem.head _)) ?_
            refine l_gr rfl (jgo_4 (w := w) hS (List.Mem.head _)) rfl (fun _ => rfl) (jgf_4_0 (w := w) r2.2 (List.Mem.head _)) ?_
            refine l1 (n := 1) rfl rfl rfl (li_of a2) ?_
            refine b_la rfl (jgc_188 (w := w) (fz := fz) hS).1 (Nat.le_of_ble_eq_true rfl) iv2 (fun q => ?_)
            replace h := h q
            refine l3 rfl rfl rfl ?_
            exact Z_M_sees_67 hS r2  h
        · replace h := h.1 (Classical.not_not.mp c)
          refine l1 (n := 1) rfl rfl rfl (la_of a0) ?_
          refine l_gr rfl (ko_0 hS (List.Mem.head _)) rfl (fun _ => rfl) (kf_0_7 r1.2 (List.Mem.head _)) ?_
          refine l1 (n := 1) rfl rfl rfl (li_of a1) ?_
          refine b_aa rfl (jgc_195 (w := w) (fz := fz) hS).1 (Nat.le_of_ble_eq_true rfl) iv1 (fun q2 => ⟨clA_ref r1.2 q2, ?_⟩)
          replace h := h q2
          refine l_gr rfl (jgo_6 (w := w) hS (clA_memg q2)) rfl (fun _ => rfl) (jgf_6_4 (w := w) r1.2 (clA_memg q2)) ?_
          refine l1 (n := 1) rfl rfl rfl (li_of a2) ?_
          refine b_iv (c := ((clA v1) + 3)) (as := [zv v2]) (rest := []) rfl (by decide) (jgo_7 (w := w) hS (jgt_6_4 (w := w) (clA_memg q2))) rfl rfl (Nat.le_of_ble_eq_true rfl) (fun hq => ?_)
          refine lx_mono (Z_R_shows_m hS r1 (jgt_6_4 (w := w) (clA_memg q2)) iv2 h) ?_
          rintro _ _ ⟨z3, M3, rfl, rfl, r3, h⟩
          exact l_rl rfl rfl r3 h
      · replace h := h.2 c
        exact Z_M_sees_18 hS r1  h
def em_M_sees (x1 : Int) (x2 : Int) (M : rf_M) (K : Int64 → rf_M → Prop) : Prop := e_M_sees x1 x2 M K
theorem Z_M_sees_m {w fz : Bool} {S : gS} {B : rf_M} {M : rf_M} {n0 : Nat} {x1 : Int} {x2 : Int} {K : Int64 → rf_M → Prop} (hS : rl S) (hR : fl 22 (gwH w) B M) (ix1 : inr x1) (ix2 : inr x2) (h : em_M_sees x1 x2 M K) : lx (cx0 fz) n0 111 0 (lv_args 0 [.ref 22, zv x1, zv x2]) [] (M, S) (vl_l 22 (gwH w) B S K) :=
  Z_M_sees hS hR ix1 ix2 rfl rfl rfl h
def e_M_rules (M : rf_M) (K : Int → rf_M → Prop) : Prop := K (gi M 187 2) M
theorem Z_M_rules {w fz : Bool} {S : gS} {B : rf_M} {M : rf_M} {ls : rf_L} {n0 : Nat} {K : Int → rf_M → Prop} (hS : rl S) (hR : fl 22 (gwH w) B M) (a0 : rf_ld ls 0 = some (.ref 22)) (h : e_M_rules M K) : lx (cx0 fz) n0 112 0 ls [] (M, S) (vl_i 22 (gwH w) B S K) := by
  unfold e_M_rules at h
  refine l1 (n := 1) rfl rfl rfl (la_of a0) ?_
  refine l_gr rfl (ko_0 hS (List.Mem.head _)) rfl (fun _ => rfl) (kf_0_6 hR.2 (List.Mem.head _)) ?_
  refine l_gi rfl (jgo_4 (w := w) hS (List.Mem.head _)) rfl (fun _ => rfl) ?_
  exact l_ri rfl rfl (inr_gi _ _ _) hR h
def em_M_rules (M : rf_M) (K : Int → rf_M → Prop) : Prop := e_M_rules  M K
theorem Z_M_rules_m {w fz : Bool} {S : gS} {B : rf_M} {M : rf_M} {n0 : Nat} {K : Int → rf_M → Prop} (hS : rl S) (hR : fl 22 (gwH w) B M) (h : em_M_rules  M K) : lx (cx0 fz) n0 112 0 (lv_args 0 [.ref 22]) [] (M, S) (vl_i 22 (gwH w) B S K) :=
  Z_M_rules hS hR rfl h
def e_M_rows (M : rf_M) (K : Int → rf_M → Prop) : Prop := K (gi M 324 0) M
theorem Z_M_rows {w fz : Bool} {S : gS} {B : rf_M} {M : rf_M} {ls : rf_L} {n0 : Nat} {K : Int → rf_M → Prop} (hS : rl S) (hR : fl 22 (gwH w) B M) (a0 : rf_ld ls 0 = some (.ref 22)) (h : e_M_rows M K) : lx (cx0 fz) n0 113 0 ls [] (M, S) (vl_i 22 (gwH w) B S K) := by
  unfold e_M_rows at h
  refine l1 (n := 1) rfl rfl rfl (la_of a0) ?_
  refine l_gr rfl (ko_0 hS (List.Mem.head _)) rfl (fun _ => rfl) (kf_0_8 hR.2 (List.Mem.head _)) ?_
  refine l_gi rfl (ko_9 hS (List.Mem.head _)) rfl (fun _ => rfl) ?_
  exact l_ri rfl rfl (inr_gi _ _ _) hR h
def em_M_rows (M : rf_M) (K : Int → rf_M → Prop) : Prop := e_M_rows  M K
theorem Z_M_rows_m {w fz : Bool} {S : gS} {B : rf_M} {M : rf_M} {n0 : Nat} {K : Int → rf_M → Prop} (hS : rl S) (hR : fl 22 (gwH w) B M) (h : em_M_rows  M K) : lx (cx0 fz) n0 113 0 (lv_args 0 [.ref 22]) [] (M, S) (vl_i 22 (gwH w) B S K) :=
  Z_M_rows hS hR rfl h
def e_J_has_24 (s0 : Int) (M : rf_M) (K : Int → rf_M → Prop) : Prop := (s0 = 0 ∨ s0 = 1) ∧ K s0 M
theorem Z_J_has_24 {w fz : Bool} {S : gS} {B : rf_M} {M : rf_M} {ls : rf_L} {n0 : Nat} {s0 : Int} {K : Int → rf_M → Prop} (hS : rl S) (hR : fl 22 (gwH w) B M) (is0 : inr s0) (h : e_J_has_24 s0 M K) : lx (cx0 fz) n0 116 24 ls [zv s0] (M, S) (vl_i 22 (gwH w) B S K) := by
  unfold e_J_has_24 at h
  exact l_rb rfl rfl h.1 hR h.2
def e_J_has_23 (M : rf_M) (K : Int → rf_M → Prop) : Prop := e_J_has_24 0 M K
theorem Z_J_has_23 {w fz : Bool} {S : gS} {B : rf_M} {M : rf_M} {ls : rf_L} {n0 : Nat} {K : Int → rf_M → Prop} (hS : rl S) (hR : fl 22 (gwH w) B M) (h : e_J_has_23 M K) : lx (cx0 fz) n0 116 23 ls [] (M, S) (vl_i 22 (gwH w) B S K) := by
  unfold e_J_has_23 at h
  refine l1 (n := 1) rfl rfl rfl rfl ?_
  exact Z_J_has_24 hS hR ⟨by decide, by decide⟩ h
def e_J_has (v1 : Int) (M : rf_M) (K : Int → rf_M → Prop) : Prop := (v1 < 0 → (e_J_has_23 M K)) ∧ (¬ (v1 < 0) → (((gi M 324 0) ≤ v1 → (e_J_has_23 M K)) ∧ (¬ ((gi M 324 0) ≤ v1) → ((300 ≤ v1 → (e_J_has_23 M K)) ∧ (¬ (300 ≤ v1) → (e_J_has_24 1 M K))))))
theorem Z_J_has {w fz : Bool} {S : gS} {B : rf_M} {M : rf_M} {ls : rf_L} {n0 : Nat} {v1 : Int} {K : Int → rf_M → Prop} (hS : rl S) (hR : fl 22 (gwH w) B M) (iv1 : inr v1) (a0 : rf_ld ls 0 = some (.ref 324)) (a1 : rf_ld ls 1 = some (zv v1)) (h : e_J_has v1 M K) : lx (cx0 fz) n0 116 0 ls [] (M, S) (vl_i 22 (gwH w) B S K) := by
  unfold e_J_has at h
  refine l1 (n := 1) rfl rfl rfl (li_of a1) ?_
  refine l_if rfl iv1 (fun c => ?_) (fun c => ?_)
  · replace h := h.1 c
    exact Z_J_has_23 hS hR  h
  · replace h := h.2 c
    refine l1 (n := 1) rfl rfl rfl (li_of a1) ?_
    refine l1 (n := 1) rfl rfl rfl (la_of a0) ?_
    refine l_gi rfl (ko_9 hS (List.Mem.head _)) rfl (fun _ => rfl) ?_
    refine l_ic rfl iv1 (inr_gi _ _ _) (fun c => ?_) (fun c => ?_)
    · replace h := h.1 c
      exact Z_J_has_23 hS hR  h
    · replace h := h.2 c
      refine l1 (n := 1) rfl rfl rfl (li_of a1) ?_
      refine l_si rfl (by decide) ?_
      refine l_ic rfl iv1 ⟨by decide, by decide⟩ (fun c => ?_) (fun c => ?_)
      · replace h := h.1 c
        exact Z_J_has_23 hS hR  h
      · replace h := h.2 c
        refine l1 (n := 1) rfl rfl rfl rfl ?_
        refine l3 rfl rfl rfl ?_
        exact Z_J_has_24 hS hR ⟨by decide, by decide⟩ h
def em_J_has (x1 : Int) (M : rf_M) (K : Int → rf_M → Prop) : Prop := e_J_has x1 M K
theorem Z_J_has_m {w fz : Bool} {S : gS} {B : rf_M} {M : rf_M} {n0 : Nat} {x1 : Int} {K : Int → rf_M → Prop} (hS : rl S) (hR : fl 22 (gwH w) B M) (ix1 : inr x1) (h : em_J_has x1 M K) : lx (cx0 fz) n0 116 0 (lv_args 0 [.ref 324, zv x1]) [] (M, S) (vl_i 22 (gwH w) B S K) :=
  Z_J_has hS hR ix1 rfl rfl h
theorem E_J_has_m {fz : Bool} {S : gS} {B : rf_M} {M : rf_M} {n0 : Nat} {x1 : Int} {K : Int → rf_M → Prop} (hS : rl S) (hR : fl 22 353 B M) (ix1 : inr x1) (h : em_J_has x1 M K) : lx (cx0 fz) n0 116 0 (lv_args 0 [.ref 324, zv x1]) [] (M, S) (vl_i 22 353 B S K) :=
  Z_J_has_m (w := true) hS hR ix1 h
def e_J_tell (v1 : Int) (v2 : Int) (M : rf_M) (K : Int → rf_M → Prop) : Prop := em_J_has v1 M (fun (z1 : Int) (M1 : rf_M) => (z1 = 0 → (K (-1) M1)) ∧ (¬ z1 = 0 → ((v2 = 0 → ((0 ≤ v1 ∧ v1 < 300 → (K (gi M1 325 (v1).toNat) M1)))) ∧ (v2 = 1 → ((0 ≤ v1 ∧ v1 < 300 → (K (gi M1 326 (v1).toNat) M1)))) ∧ (v2 = 2 → ((0 ≤ v1 ∧ v1 < 300 → (K (gi M1 327 (v1).toNat) M1)))) ∧ (v2 = 3 → ((0 ≤ v1 ∧ v1 < 300 → (K (gi M1 328 (v1).toNat) M1)))) ∧ (v2 = 4 → ((0 ≤ v1 ∧ v1 < 300 → (K (gi M1 329 (v1).toNat) M1)))) ∧ (¬ v2 = 0 ∧ ¬ v2 = 1 ∧ ¬ v2 = 2 ∧ ¬ v2 = 3 ∧ ¬ v2 = 4 → (K (-1) M1)))))
theorem Z_J_tell {w fz : Bool} {S : gS} {B : rf_M} {M : rf_M} {ls : rf_L} {n0 : Nat} {v1 : Int} {v2 : Int} {K : Int → rf_M → Prop} (hS : rl S) (hR : fl 22 (gwH w) B M) (iv1 : inr v1) (iv2 : inr v2) (a0 : rf_ld ls 0 = some (.ref 324)) (a1 : rf_ld ls 1 = some (zv v1)) (a2 : rf_ld ls 2 = some (zv v2)) (h : e_J_tell v1 v2 M K) : lx (cx0 fz) n0 115 0 ls [] (M, S) (vl_i 22 (gwH w) B S K) := by
  unfold e_J_tell at h
  refine l1 (n := 1) rfl rfl rfl (la_of a0) ?_
  refine l1 (n := 1) rfl rfl rfl (li_of a1) ?_
  refine b_iv (c := 324) (as := [zv v1]) (rest := []) rfl (by decide) (ko_9 hS (List.Mem.head _)) rfl rfl (Nat.le_of_ble_eq_true rfl) (fun hq => ?_)
  refine lx_mono (Z_J_has_m hS hR iv1 h) ?_
  rintro _ _ ⟨z1, M1, rfl, rfl, r1, iz1, h⟩
  refine l_if rfl iz1 (fun c => ?_) (fun c => ?_)
  · replace h := h.2 c
    refine l1 (n := 1) rfl rfl rfl (li_of a2) ?_
    have ia : inr v2 := iv2
    obtain ⟨h1, h⟩ := h
    by_cases e0 : v2 = 0
    · replace h := h1 e0
      refine l_sw (pc' := 44) e0 rfl rfl rfl ?_
      refine l1 (n := 1) rfl rfl rfl (la_of a0) ?_
      refine l_gr rfl (ko_9 hS (List.Mem.head _)) rfl (fun _ => rfl) (kf_9_1 r1.2 (List.Mem.head _)) ?_
      refine l1 (n := 1) rfl rfl rfl (li_of a1) ?_
      refine b_ia rfl (jgc_325 (w := w) (fz := fz) hS).1 (Nat.le_of_ble_eq_true rfl) iv1 (fun q => ?_)
      replace h := h q
      exact l_ri rfl rfl (inr_gi _ _ _) r1 h
    obtain ⟨h1, h⟩ := h
    by_cases e1 : v2 = 1
    · replace h := h1 e1
      refine l_sw (pc' := 51) e1 rfl rfl rfl ?_
      refine l1 (n := 1) rfl rfl rfl (la_of a0) ?_
      refine l_gr rfl (ko_9 hS (List.Mem.head _)) rfl (fun _ => rfl) (kf_9_2 r1.2 (List.Mem.head _)) ?_
      refine l1 (n := 1) rfl rfl rfl (li_of a1) ?_
      refine b_ia rfl (jgc_326 (w := w) (fz := fz) hS).1 (Nat.le_of_ble_eq_true rfl) iv1 (fun q => ?_)
      replace h := h q
      exact l_ri rfl rfl (inr_gi _ _ _) r1 h
    obtain ⟨h1, h⟩ := h
    by_cases e2 : v2 = 2
    · replace h := h1 e2
      refine l_sw (pc' := 58) e2 rfl rfl rfl ?_
      refine l1 (n := 1) rfl rfl rfl (la_of a0) ?_
      refine l_gr rfl (ko_9 hS (List.Mem.head _)) rfl (fun _ => rfl) (kf_9_3 r1.2 (List.Mem.head _)) ?_
      refine l1 (n := 1) rfl rfl rfl (li_of a1) ?_
      refine b_ia rfl (jgc_327 (w := w) (fz := fz) hS).1 (Nat.le_of_ble_eq_true rfl) iv1 (fun q => ?_)
      replace h := h q
      exact l_ri rfl rfl (inr_gi _ _ _) r1 h
    obtain ⟨h1, h⟩ := h
    by_cases e3 : v2 = 3
    · replace h := h1 e3
      refine l_sw (pc' := 65) e3 rfl rfl rfl ?_
      refine l1 (n := 1) rfl rfl rfl (la_of a0) ?_
      refine l_gr rfl (ko_9 hS (List.Mem.head _)) rfl (fun _ => rfl) (kf_9_4 r1.2 (List.Mem.head _)) ?_
      refine l1 (n := 1) rfl rfl rfl (li_of a1) ?_
      refine b_ia rfl (jgc_328 (w := w) (fz := fz) hS).1 (Nat.le_of_ble_eq_true rfl) iv1 (fun q => ?_)
      replace h := h q
      exact l_ri rfl rfl (inr_gi _ _ _) r1 h
    obtain ⟨h1, h⟩ := h
    by_cases e4 : v2 = 4
    · replace h := h1 e4
      refine l_sw (pc' := 72) e4 rfl rfl rfl ?_
      refine l1 (n := 1) rfl rfl rfl (la_of a0) ?_
      refine l_gr rfl (ko_9 hS (List.Mem.head _)) rfl (fun _ => rfl) (kf_9_5 r1.2 (List.Mem.head _)) ?_
      refine l1 (n := 1) rfl rfl rfl (li_of a1) ?_
      refine b_ia rfl (jgc_329 (w := w) (fz := fz) hS).1 (Nat.le_of_ble_eq_true rfl) iv1 (fun q => ?_)
      replace h := h q
      exact l_ri rfl rfl (inr_gi _ _ _) r1 h
    replace h := h ⟨e0, e1, e2, e3, e4⟩
    refine l_swt (a := v2) rfl ia (swo_0_4 e0 e1 e2 e3 e4) ?_
    show lx _ _ _ 79 _ _ _ _
    refine l1 (n := 1) rfl rfl rfl rfl ?_
    exact l_ri rfl rfl ⟨by decide, by decide⟩ r1 h
  · replace h := h.1 (Classical.not_not.mp c)
    refine l1 (n := 1) rfl rfl rfl rfl ?_
    exact l_ri rfl rfl ⟨by decide, by decide⟩ r1 h
def em_J_tell (x1 : Int) (x2 : Int) (M : rf_M) (K : Int → rf_M → Prop) : Prop := e_J_tell x1 x2 M K
theorem Z_J_tell_m {w fz : Bool} {S : gS} {B : rf_M} {M : rf_M} {n0 : Nat} {x1 : Int} {x2 : Int} {K : Int → rf_M → Prop} (hS : rl S) (hR : fl 22 (gwH w) B M) (ix1 : inr x1) (ix2 : inr x2) (h : em_J_tell x1 x2 M K) : lx (cx0 fz) n0 115 0 (lv_args 0 [.ref 324, zv x1, zv x2]) [] (M, S) (vl_i 22 (gwH w) B S K) :=
  Z_J_tell hS hR ix1 ix2 rfl rfl rfl h
def e_M_row (v1 : Int) (v2 : Int) (M : rf_M) (K : Int → rf_M → Prop) : Prop := em_J_tell v1 v2 M (fun (z1 : Int) (M1 : rf_M) => K z1 M1)
theorem Z_M_row {w fz : Bool} {S : gS} {B : rf_M} {M : rf_M} {ls : rf_L} {n0 : Nat} {v1 : Int} {v2 : Int} {K : Int → rf_M → Prop} (hS : rl S) (hR : fl 22 (gwH w) B M) (iv1 : inr v1) (iv2 : inr v2) (a0 : rf_ld ls 0 = some (.ref 22)) (a1 : rf_ld ls 1 = some (zv v1)) (a2 : rf_ld ls 2 = some (zv v2)) (h : e_M_row v1 v2 M K) : lx (cx0 fz) n0 114 0 ls [] (M, S) (vl_i 22 (gwH w) B S K) := by
  unfold e_M_row at h
  refine l1 (n := 1) rfl rfl rfl (la_of a0) ?_
  refine l_gr rfl (ko_0 hS (List.Mem.head _)) rfl (fun _ => rfl) (kf_0_8 hR.2 (List.Mem.head _)) ?_
  refine l1 (n := 1) rfl rfl rfl (li_of a1) ?_
  refine l1 (n := 1) rfl rfl rfl (li_of a2) ?_
  refine b_iv (c := 324) (as := [zv v1, zv v2]) (rest := []) rfl (by decide) (ko_9 hS (List.Mem.head _)) rfl rfl (Nat.le_of_ble_eq_true rfl) (fun hq => ?_)
  refine lx_mono (Z_J_tell_m hS hR iv1 iv2 h) ?_
  rintro _ _ ⟨z1, M1, rfl, rfl, r1, iz1, h⟩
  exact l_ri rfl rfl iz1 r1 h
def em_M_row (x1 : Int) (x2 : Int) (M : rf_M) (K : Int → rf_M → Prop) : Prop := e_M_row x1 x2 M K
theorem Z_M_row_m {w fz : Bool} {S : gS} {B : rf_M} {M : rf_M} {n0 : Nat} {x1 : Int} {x2 : Int} {K : Int → rf_M → Prop} (hS : rl S) (hR : fl 22 (gwH w) B M) (ix1 : inr x1) (ix2 : inr x2) (h : em_M_row x1 x2 M K) : lx (cx0 fz) n0 114 0 (lv_args 0 [.ref 22, zv x1, zv x2]) [] (M, S) (vl_i 22 (gwH w) B S K) :=
  Z_M_row hS hR ix1 ix2 rfl rfl rfl h
def e_M_value_24 (s0 : Int64) (M : rf_M) (K : Int64 → rf_M → Prop) : Prop := K s0 M
theorem Z_M_value_24 {w fz : Bool} {S : gS} {B : rf_M} {M : rf_M} {ls : rf_L} {n0 : Nat} {s0 : Int64} {K : Int64 → rf_M → Prop} (hS : rl S) (hR : fl 22 (gwH w) B M) (h : e_M_value_24 s0 M K) : lx (cx0 fz) n0 117 24 ls [.long s0] (M, S) (vl_l 22 (gwH w) B S K) := by
  unfold e_M_value_24 at h
  exact l_rl rfl rfl hR h
def e_M_value (v1 : Int) (M : rf_M) (K : Int64 → rf_M → Prop) : Prop := em_J_has v1 M (fun (z1 : Int) (M1 : rf_M) => (z1 = 0 → (e_M_value_24 (Int64.ofNat 0) M1 K)) ∧ (¬ (z1 = 0) → ((0 ≤ v1 ∧ v1 < 300 → (e_M_value_24 (gl M1 330 (v1).toNat) M1 K)))))
theorem Z_M_value {w fz : Bool} {S : gS} {B : rf_M} {M : rf_M} {ls : rf_L} {n0 : Nat} {v1 : Int} {K : Int64 → rf_M → Prop} (hS : rl S) (hR : fl 22 (gwH w) B M) (iv1 : inr v1) (a0 : rf_ld ls 0 = some (.ref 22)) (a1 : rf_ld ls 1 = some (zv v1)) (h : e_M_value v1 M K) : lx (cx0 fz) n0 117 0 ls [] (M, S) (vl_l 22 (gwH w) B S K) := by
  unfold e_M_value at h
  refine l1 (n := 1) rfl rfl rfl (la_of a0) ?_
  refine l_gr rfl (ko_0 hS (List.Mem.head _)) rfl (fun _ => rfl) (kf_0_8 hR.2 (List.Mem.head _)) ?_
  refine l1 (n := 1) rfl rfl rfl (li_of a1) ?_
  refine b_iv (c := 324) (as := [zv v1]) (rest := []) rfl (by decide) (ko_9 hS (List.Mem.head _)) rfl rfl (Nat.le_of_ble_eq_true rfl) (fun hq => ?_)
  refine lx_mono (Z_J_has_m hS hR iv1 h) ?_
  rintro _ _ ⟨z1, M1, rfl, rfl, r1, iz1, h⟩
  refine l_if rfl iz1 (fun c => ?_) (fun c => ?_)
  · replace h := h.1 c
    refine l1 (n := 1) rfl rfl rfl rfl ?_
    exact Z_M_value_24 hS r1  h
  · replace h := h.2 c
    refine l1 (n := 1) rfl rfl rfl (la_of a0) ?_
    refine l_gr rfl (ko_0 hS (List.Mem.head _)) rfl (fun _ => rfl) (kf_0_8 r1.2 (List.Mem.head _)) ?_
    refine l_gr rfl (ko_9 hS (List.Mem.head _)) rfl (fun _ => rfl) (kf_9_6 r1.2 (List.Mem.head _)) ?_
    refine l1 (n := 1) rfl rfl rfl (li_of a1) ?_
    refine b_la rfl (jgc_330 (w := w) (fz := fz) hS).1 (Nat.le_of_ble_eq_true rfl) iv1 (fun q => ?_)
    replace h := h q
    refine l3 rfl rfl rfl ?_
    exact Z_M_value_24 hS r1  h
def em_M_value (x1 : Int) (M : rf_M) (K : Int64 → rf_M → Prop) : Prop := e_M_value x1 M K
theorem Z_M_value_m {w fz : Bool} {S : gS} {B : rf_M} {M : rf_M} {n0 : Nat} {x1 : Int} {K : Int64 → rf_M → Prop} (hS : rl S) (hR : fl 22 (gwH w) B M) (ix1 : inr x1) (h : em_M_value x1 M K) : lx (cx0 fz) n0 117 0 (lv_args 0 [.ref 22, zv x1]) [] (M, S) (vl_l 22 (gwH w) B S K) :=
  Z_M_value hS hR ix1 rfl rfl h
def e_Y_isTold_20 (s0 : Int) (M : rf_M) (K : Int → rf_M → Prop) : Prop := (s0 = 0 ∨ s0 = 1) ∧ K s0 M
theorem E_Y_isTold_20 {fz : Bool} {S : gS} {B : rf_M} {M : rf_M} {ls : rf_L} {n0 : Nat} {s0 : Int} {K : Int → rf_M → Prop} (hS : rl S) (hR : fl 22 353 B M) (is0 : inr s0) (h : e_Y_isTold_20 s0 M K) : lx (cx0 fz) n0 120 20 ls [zv s0] (M, S) (vl_i 22 353 B S K) := by
  unfold e_Y_isTold_20 at h
  exact l_rb rfl rfl h.1 hR h.2
def e_Y_isTold_78 (s0 : Int) (M : rf_M) (K : Int → rf_M → Prop) : Prop := (s0 = 0 ∨ s0 = 1) ∧ K s0 M
theorem E_Y_isTold_78 {fz : Bool} {S : gS} {B : rf_M} {M : rf_M} {ls : rf_L} {n0 : Nat} {s0 : Int} {K : Int → rf_M → Prop} (hS : rl S) (hR : fl 22 353 B M) (is0 : inr s0) (h : e_Y_isTold_78 s0 M K) : lx (cx0 fz) n0 120 78 ls [zv s0] (M, S) (vl_i 22 353 B S K) := by
  unfold e_Y_isTold_78 at h
  exact l_rb rfl rfl h.1 hR h.2
def e_Y_isTold_73 (M : rf_M) (K : Int → rf_M → Prop) : Prop := e_Y_isTold_78 1 M K
theorem E_Y_isTold_73 {fz : Bool} {S : gS} {B : rf_M} {M : rf_M} {ls : rf_L} {n0 : Nat} {K : Int → rf_M → Prop} (hS : rl S) (hR : fl 22 353 B M) (h : e_Y_isTold_73 M K) : lx (cx0 fz) n0 120 73 ls [] (M, S) (vl_i 22 353 B S K) := by
  unfold e_Y_isTold_73 at h
  refine l1 (n := 1) rfl rfl rfl rfl ?_
  refine l3 rfl rfl rfl ?_
  exact E_Y_isTold_78 hS hR ⟨by decide, by decide⟩ h
def e_Y_isTold_77 (M : rf_M) (K : Int → rf_M → Prop) : Prop := e_Y_isTold_78 0 M K
theorem E_Y_isTold_77 {fz : Bool} {S : gS} {B : rf_M} {M : rf_M} {ls : rf_L} {n0 : Nat} {K : Int → rf_M → Prop} (hS : rl S) (hR : fl 22 353 B M) (h : e_Y_isTold_77 M K) : lx (cx0 fz) n0 120 77 ls [] (M, S) (vl_i 22 353 B S K) := by
  unfold e_Y_isTold_77 at h
  refine l1 (n := 1) rfl rfl rfl rfl ?_
  exact E_Y_isTold_78 hS hR ⟨by decide, by decide⟩ h
def e_Y_isTold_51 (v2 : Int) (v3 : Int) (M : rf_M) (K : Int → rf_M → Prop) : Prop := (v3 = 2 → ((0 ≤ v2 ∧ v2 < 300 → (((lg_cmp (gl M 330 (v2).toNat) (gl M 340 3)).toInt = 0 → (e_Y_isTold_73 M K)) ∧ (¬ (lg_cmp (gl M 330 (v2).toNat) (gl M 340 3)).toInt = 0 → (e_Y_isTold_77 M K)))))) ∧ (¬ v3 = 2 → (e_Y_isTold_77 M K))
theorem E_Y_isTold_51 {fz : Bool} {S : gS} {B : rf_M} {M : rf_M} {ls : rf_L} {n0 : Nat} {v2 : Int} {v3 : Int} {K : Int → rf_M → Prop} (hS : rl S) (hR : fl 22 353 B M) (iv2 : inr v2) (iv3 : inr v3) (a0 : rf_ld ls 0 = some (.ref 331)) (a1 : rf_ld ls 1 = some (.ref 324)) (a2 : rf_ld ls 2 = some (zv v2)) (a3 : rf_ld ls 3 = some (zv v3)) (h : e_Y_isTold_51 v2 v3 M K) : lx (cx0 fz) n0 120 51 ls [] (M, S) (vl_i 22 353 B S K) := by
  unfold e_Y_isTold_51 at h
  refine l1 (n := 1) rfl rfl rfl (li_of a3) ?_
  refine l1 (n := 1) rfl rfl rfl rfl ?_
  refine l_ic rfl iv3 ⟨by decide, by decide⟩ (fun c => ?_) (fun c => ?_)
  · replace h := h.2 c
    exact E_Y_isTold_77 hS hR  h
  · replace h := h.1 (Classical.not_not.mp c)
    refine l1 (n := 1) rfl rfl rfl (la_of a1) ?_
    refine l_gr rfl (ko_9 hS (List.Mem.head _)) rfl (fun _ => rfl) (kf_9_6 hR.2 (List.Mem.head _)) ?_
    refine l1 (n := 1) rfl rfl rfl (li_of a2) ?_
    refine b_la rfl (kc_330 (fz := fz) hS).1 (Nat.le_of_ble_eq_true rfl) iv2 (fun q => ?_)
    replace h := h q
    refine l1 (n := 1) rfl rfl rfl (la_of a0) ?_
    refine l_gr rfl (ko_10 hS (List.Mem.head _)) rfl (fun _ => rfl) (kf_10_4 hR.2 (List.Mem.head _)) ?_
    refine l_gl rfl (ko_7 hS (by decide)) rfl (fun _ => rfl) ?_
    refine l_op (T := (lg_cmp (gl M 330 (v2).toNat) (gl M 340 3))) rfl rfl rfl ?_
    refine l_if rfl (inr_ti _) (fun c => ?_) (fun c => ?_)
    · replace h := h.2 c
      exact E_Y_isTold_77 hS hR  h
    · replace h := h.1 (Classical.not_not.mp c)
      exact E_Y_isTold_73 hS hR  h
def e_Y_isTold (v2 : Int) (v3 : Int) (v4 : Int) (M : rf_M) (K : Int → rf_M → Prop) : Prop := (v4 = 0 → ((0 ≤ v2 ∧ v2 < 300 → (((gi M 325 (v2).toNat) = 2 → ((v3 = 1 → ((0 ≤ v2 ∧ v2 < 300 → (((lg_cmp (gl M 330 (v2).toNat) (Int64.ofNat 18446744073709551614)).toInt = 0 → (e_Y_isTold_73 M K)) ∧ (¬ ((lg_cmp (gl M 330 (v2).toNat) (Int64.ofNat 18446744073709551614)).toInt = 0) → (e_Y_isTold_51 v2 v3 M K)))))) ∧ (¬ v3 = 1 → (e_Y_isTold_51 v2 v3 M K)))) ∧ (¬ ((gi M 325 (v2).toNat) = 2) → (K 0 M)))))) ∧ (¬ (v4 = 0) → ((0 ≤ v2 ∧ v2 < 300 → (((gi M 325 (v2).toNat) = 1 → (e_Y_isTold_20 1 M K)) ∧ (¬ (gi M 325 (v2).toNat) = 1 → (e_Y_isTold_20 0 M K))))))
theorem E_Y_isTold {fz : Bool} {S : gS} {B : rf_M} {M : rf_M} {ls : rf_L} {n0 : Nat} {v2 : Int} {v3 : Int} {v4 : Int} {K : Int → rf_M → Prop} (hS : rl S) (hR : fl 22 353 B M) (iv2 : inr v2) (iv3 : inr v3) (iv4 : inr v4) (a0 : rf_ld ls 0 = some (.ref 331)) (a1 : rf_ld ls 1 = some (.ref 324)) (a2 : rf_ld ls 2 = some (zv v2)) (a3 : rf_ld ls 3 = some (zv v3)) (a4 : rf_ld ls 4 = some (zv v4)) (h : e_Y_isTold v2 v3 v4 M K) : lx (cx0 fz) n0 120 0 ls [] (M, S) (vl_i 22 353 B S K) := by
  unfold e_Y_isTold at h
  refine l1 (n := 2) rfl rfl rfl (li_of a4) ?_
  refine l_if rfl iv4 (fun c => ?_) (fun c => ?_)
  · replace h := h.1 c
    refine l1 (n := 1) rfl rfl rfl (la_of a1) ?_
    refine l_gr rfl (ko_9 hS (List.Mem.head _)) rfl (fun _ => rfl) (kf_9_1 hR.2 (List.Mem.head _)) ?_
    refine l1 (n := 1) rfl rfl rfl (li_of a2) ?_
    refine b_ia rfl (kc_325 (fz := fz) hS).1 (Nat.le_of_ble_eq_true rfl) iv2 (fun q => ?_)
    replace h := h q
    refine l1 (n := 1) rfl rfl rfl rfl ?_
    refine l_ic rfl (inr_gi _ _ _) ⟨by decide, by decide⟩ (fun c => ?_) (fun c => ?_)
    · replace h := h.1 c
      refine l1 (n := 1) rfl rfl rfl (li_of a3) ?_
      refine l1 (n := 1) rfl rfl rfl rfl ?_
      refine l_ic rfl iv3 ⟨by decide, by decide⟩ (fun c => ?_) (fun c => ?_)
      · replace h := h.2 c
        exact E_Y_isTold_51 hS hR iv2 iv3 a0 a1 a2 a3 h
      · replace h := h.1 (Classical.not_not.mp c)
        refine l1 (n := 1) rfl rfl rfl (la_of a1) ?_
        refine l_gr rfl (ko_9 hS (List.Mem.head _)) rfl (fun _ => rfl) (kf_9_6 hR.2 (List.Mem.head _)) ?_
        refine l1 (n := 1) rfl rfl rfl (li_of a2) ?_
        refine b_la rfl (kc_330 (fz := fz) hS).1 (Nat.le_of_ble_eq_true rfl) iv2 (fun q => ?_)
        replace h := h q
        refine l7 (n := 3) rfl rfl rfl rfl ?_
        refine l_op (T := (lg_cmp (gl M 330 (v2).toNat) (Int64.ofNat 18446744073709551614))) rfl rfl rfl ?_
        refine l_if rfl (inr_ti _) (fun c => ?_) (fun c => ?_)
        · replace h := h.1 c
          exact E_Y_isTold_73 hS hR  h
        · replace h := h.2 c
          exact E_Y_isTold_51 hS hR iv2 iv3 a0 a1 a2 a3 h
    · replace h := h.2 c
      refine l1 (n := 1) rfl rfl rfl rfl ?_
      exact l_rb rfl rfl (Or.inl rfl) hR h
  · replace h := h.2 c
    refine l1 (n := 1) rfl rfl rfl (la_of a1) ?_
    refine l_gr rfl (ko_9 hS (List.Mem.head _)) rfl (fun _ => rfl) (kf_9_1 hR.2 (List.Mem.head _)) ?_
    refine l1 (n := 1) rfl rfl rfl (li_of a2) ?_
    refine b_ia rfl (kc_325 (fz := fz) hS).1 (Nat.le_of_ble_eq_true rfl) iv2 (fun q => ?_)
    replace h := h q
    refine l1 (n := 1) rfl rfl rfl rfl ?_
    refine l_ic rfl (inr_gi _ _ _) ⟨by decide, by decide⟩ (fun c => ?_) (fun c => ?_)
    · replace h := h.2 c
      refine l1 (n := 1) rfl rfl rfl rfl ?_
      exact E_Y_isTold_20 hS hR ⟨by decide, by decide⟩ h
    · replace h := h.1 (Classical.not_not.mp c)
      refine l1 (n := 1) rfl rfl rfl rfl ?_
      refine l3 rfl rfl rfl ?_
      exact E_Y_isTold_20 hS hR ⟨by decide, by decide⟩ h
def em_Y_isTold (x2 : Int) (x3 : Int) (x4 : Int) (M : rf_M) (K : Int → rf_M → Prop) : Prop := e_Y_isTold x2 x3 x4 M K
theorem E_Y_isTold_m {fz : Bool} {S : gS} {B : rf_M} {M : rf_M} {n0 : Nat} {x2 : Int} {x3 : Int} {x4 : Int} {K : Int → rf_M → Prop} (hS : rl S) (hR : fl 22 353 B M) (ix2 : inr x2) (ix3 : inr x3) (ix4 : inr x4) (h : em_Y_isTold x2 x3 x4 M K) : lx (cx0 fz) n0 120 0 (lv_args 0 [.ref 331, .ref 324, zv x2, zv x3, zv x4]) [] (M, S) (vl_i 22 353 B S K) :=
  E_Y_isTold hS hR ix2 ix3 ix4 rfl rfl rfl rfl rfl h
def e_Y_redo_62 (v2 : Int) (v3 : Int) (s1 : Int) (M : rf_M) (K : rf_M → Prop) : Prop := (s1 = 0 ∨ s1 = 1) ∧ (∀ M1 : rf_M, M1 = wi M 331 2 s1 → ((0 ≤ v2 ∧ v2 < 300 → (em_S_write 332 v3 (gl M1 330 (v2).toNat) M1 (fun (M2 : rf_M) => K M2)))))
theorem E_Y_redo_62 {fz : Bool} {S : gS} {B : rf_M} {M : rf_M} {ls : rf_L} {n0 : Nat} {v2 : Int} {v3 : Int} {s1 : Int} {K : rf_M → Prop} (hS : rl S) (hR : fl 22 353 B M) (iv2 : inr v2) (iv3 : inr v3) (is1 : inr s1) (a0 : rf_ld ls 0 = some (.ref 331)) (a1 : rf_ld ls 1 = some (.ref 324)) (a2 : rf_ld ls 2 = some (zv v2)) (a3 : rf_ld ls 3 = some (zv v3)) (h : e_Y_redo_62 v2 v3 s1 M K) : lx (cx0 fz) n0 119 62 ls [zv s1, .ref 331] (M, S) (vl_v 22 353 B S K) := by
  unfold e_Y_redo_62 at h
  obtain ⟨q, h⟩ := h
  refine l_pb rfl (ko_10 (fz := fz) hS (List.Mem.head _)) rfl rfl q (fun M1 e => ?_)
  replace h := h M1 e
  have r1 := hR.wi (ko_10 (fz := fz) hS (List.Mem.head _)).1 (kl_10 (List.Mem.head _)) e
  refine l1 (n := 1) rfl rfl rfl (la_of a0) ?_
  refine l_gr rfl (ko_10 hS (List.Mem.head _)) rfl (fun _ => rfl) (kf_10_0 r1.2 (List.Mem.head _)) ?_
  refine l1 (n := 1) rfl rfl rfl (li_of a3) ?_
  refine l1 (n := 1) rfl rfl rfl (la_of a1) ?_
  refine l_gr rfl (ko_9 hS (List.Mem.head _)) rfl (fun _ => rfl) (kf_9_6 r1.2 (List.Mem.head _)) ?_
  refine l1 (n := 1) rfl rfl rfl (li_of a2) ?_
  refine b_la rfl (kc_330 (fz := fz) hS).1 (Nat.le_of_ble_eq_true rfl) iv2 (fun q => ?_)
  replace h := h q
  refine b_iv (c := 332) (as := [zv v3, .long (gl M1 330 (v2).toNat)]) (rest := []) rfl (by decide) (ko_4 hS (by decide)) rfl rfl (Nat.le_of_ble_eq_true rfl) (fun hq => ?_)
  refine lx_mono (E_S_write_m hS r1 (by decide) iv3 h) ?_
  rintro _ _ ⟨M2, rfl, rfl, r2, h⟩
  exact l_rv rfl rfl r2 h
def e_Y_redo_61 (v2 : Int) (v3 : Int) (M : rf_M) (K : rf_M → Prop) : Prop := e_Y_redo_62 v2 v3 0 M K
theorem E_Y_redo_61 {fz : Bool} {S : gS} {B : rf_M} {M : rf_M} {ls : rf_L} {n0 : Nat} {v2 : Int} {v3 : Int} {K : rf_M → Prop} (hS : rl S) (hR : fl 22 353 B M) (iv2 : inr v2) (iv3 : inr v3) (a0 : rf_ld ls 0 = some (.ref 331)) (a1 : rf_ld ls 1 = some (.ref 324)) (a2 : rf_ld ls 2 = some (zv v2)) (a3 : rf_ld ls 3 = some (zv v3)) (h : e_Y_redo_61 v2 v3 M K) : lx (cx0 fz) n0 119 61 ls [.ref 331] (M, S) (vl_v 22 353 B S K) := by
  unfold e_Y_redo_61 at h
  refine l1 (n := 1) rfl rfl rfl rfl ?_
  exact E_Y_redo_62 hS hR iv2 iv3 ⟨by decide, by decide⟩ a0 a1 a2 a3 h
def e_Y_redo_93 (M : rf_M) (K : rf_M → Prop) : Prop := ∀ M1 : rf_M, M1 = wi M 331 2 0 → (K M1)
theorem E_Y_redo_93 {fz : Bool} {S : gS} {B : rf_M} {M : rf_M} {ls : rf_L} {n0 : Nat} {K : rf_M → Prop} (hS : rl S) (hR : fl 22 353 B M) (a0 : rf_ld ls 0 = some (.ref 331)) (h : e_Y_redo_93 M K) : lx (cx0 fz) n0 119 93 ls [] (M, S) (vl_v 22 353 B S K) := by
  unfold e_Y_redo_93 at h
  refine l1 (n := 1) rfl rfl rfl (la_of a0) ?_
  refine l1 (n := 1) rfl rfl rfl rfl ?_
  refine l_pb rfl (ko_10 (fz := fz) hS (List.Mem.head _)) rfl rfl (Or.inl rfl) (fun M1 e => ?_)
  replace h := h M1 e
  have r1 := hR.wi (ko_10 (fz := fz) hS (List.Mem.head _)).1 (kl_10 (List.Mem.head _)) e
  exact l_rv rfl rfl r1 h
def e_Y_redo_227 (s1 : Int) (M : rf_M) (K : rf_M → Prop) : Prop := (s1 = 0 ∨ s1 = 1) ∧ (∀ M1 : rf_M, M1 = wi M 331 2 s1 → (K M1))
theorem E_Y_redo_227 {fz : Bool} {S : gS} {B : rf_M} {M : rf_M} {ls : rf_L} {n0 : Nat} {s1 : Int} {K : rf_M → Prop} (hS : rl S) (hR : fl 22 353 B M) (is1 : inr s1) (h : e_Y_redo_227 s1 M K) : lx (cx0 fz) n0 119 227 ls [zv s1, .ref 331] (M, S) (vl_v 22 353 B S K) := by
  unfold e_Y_redo_227 at h
  obtain ⟨q, h⟩ := h
  refine l_pb rfl (ko_10 (fz := fz) hS (List.Mem.head _)) rfl rfl q (fun M1 e => ?_)
  replace h := h M1 e
  have r1 := hR.wi (ko_10 (fz := fz) hS (List.Mem.head _)).1 (kl_10 (List.Mem.head _)) e
  exact l_rv rfl rfl r1 h
def e_Y_redo_226 (M : rf_M) (K : rf_M → Prop) : Prop := e_Y_redo_227 0 M K
theorem E_Y_redo_226 {fz : Bool} {S : gS} {B : rf_M} {M : rf_M} {ls : rf_L} {n0 : Nat} {K : rf_M → Prop} (hS : rl S) (hR : fl 22 353 B M) (h : e_Y_redo_226 M K) : lx (cx0 fz) n0 119 226 ls [.ref 331] (M, S) (vl_v 22 353 B S K) := by
  unfold e_Y_redo_226 at h
  refine l1 (n := 1) rfl rfl rfl rfl ?_
  exact E_Y_redo_227 hS hR ⟨by decide, by decide⟩ h
def e_Y_redo_181 (v2 : Int) (v4 : Int) (s0 : Int) (M : rf_M) (K : rf_M → Prop) : Prop := ((gi M 331 2) = 0 → (e_Y_redo_226 M K)) ∧ (¬ ((gi M 331 2) = 0) → ((0 ≤ v2 ∧ v2 < 300 → (inr ((gi M 340 1) + 1) ∧ ((((gi M 340 1) + 1) = (gi M 328 (v2).toNat) → (em_Y_isTold v2 v4 s0 M (fun (z1 : Int) (M1 : rf_M) => (z1 = 0 → (e_Y_redo_226 M1 K)) ∧ (¬ (z1 = 0) → (e_Y_redo_227 1 M1 K))))) ∧ (¬ ((gi M 340 1) + 1) = (gi M 328 (v2).toNat) → (e_Y_redo_226 M K)))))))
theorem E_Y_redo_181 {fz : Bool} {S : gS} {B : rf_M} {M : rf_M} {ls : rf_L} {n0 : Nat} {v2 : Int} {v4 : Int} {s0 : Int} {K : rf_M → Prop} (hS : rl S) (hR : fl 22 353 B M) (iv2 : inr v2) (iv4 : inr v4) (is0 : inr s0) (a0 : rf_ld ls 0 = some (.ref 331)) (a1 : rf_ld ls 1 = some (.ref 324)) (a2 : rf_ld ls 2 = some (zv v2)) (a4 : rf_ld ls 4 = some (zv v4)) (h : e_Y_redo_181 v2 v4 s0 M K) : lx (cx0 fz) n0 119 181 ls [zv s0] (M, S) (vl_v 22 353 B S K) := by
  unfold e_Y_redo_181 at h
  refine l_s1 (n := 2) rfl rfl rfl rfl (fun ls y1 ho => ?_)
  have y2 := ho 0 _ (by decide) (fun q => by cases q.2) a0
  have y3 := ho 1 _ (by decide) (fun q => by cases q.2) a1
  have y4 := ho 2 _ (by decide) (fun q => by cases q.2) a2
  have y5 := ho 4 _ (by decide) (fun q => by cases q.2) a4
  refine l1 (n := 1) rfl rfl rfl (la_of y2) ?_
  refine l1 (n := 1) rfl rfl rfl (la_of y2) ?_
  refine l_gi rfl (ko_10 hS (List.Mem.head _)) rfl (fun _ => rfl) ?_
  refine l_if rfl (inr_gi _ _ _) (fun c => ?_) (fun c => ?_)
  · replace h := h.1 c
    exact E_Y_redo_226 hS hR  h
  · replace h := h.2 c
    refine l1 (n := 1) rfl rfl rfl (la_of y2) ?_
    refine l_gr rfl (ko_10 hS (List.Mem.head _)) rfl (fun _ => rfl) (kf_10_4 hR.2 (List.Mem.head _)) ?_
    refine l_gi rfl (ko_7 hS (by decide)) rfl (fun _ => rfl) ?_
    refine l1 (n := 1) rfl rfl rfl rfl ?_
    refine l_add rfl ?_
    refine l1 (n := 1) rfl rfl rfl (la_of y3) ?_
    refine l_gr rfl (ko_9 hS (List.Mem.head _)) rfl (fun _ => rfl) (kf_9_4 hR.2 (List.Mem.head _)) ?_
    refine l1 (n := 1) rfl rfl rfl (li_of y4) ?_
    refine b_ia rfl (kc_328 (fz := fz) hS).1 (Nat.le_of_ble_eq_true rfl) iv2 (fun q => ?_)
    replace h := h q
    obtain ⟨i1, h⟩ := h
    refine l_ic rfl i1 (inr_gi _ _ _) (fun c => ?_) (fun c => ?_)
    · replace h := h.2 c
      exact E_Y_redo_226 hS hR  h
    · replace h := h.1 (Classical.not_not.mp c)
      refine l1 (n := 1) rfl rfl rfl (la_of y2) ?_
      refine l1 (n := 1) rfl rfl rfl (la_of y3) ?_
      refine l1 (n := 1) rfl rfl rfl (li_of y4) ?_
      refine l1 (n := 2) rfl rfl rfl (li_of y5) ?_
      refine l1 (n := 2) rfl rfl rfl (li_of y1) ?_
      refine b_iv (c := 331) (as := [.ref 324, zv v2, zv v4, zv s0]) (rest := [.ref 331]) rfl (by decide) (ko_10 hS (List.Mem.head _)) rfl rfl (Nat.le_of_ble_eq_true rfl) (fun hq => ?_)
      refine lx_mono (E_Y_isTold_m hS hR iv2 iv4 is0 h) ?_
      rintro _ _ ⟨z1, M1, rfl, rfl, r1, iz1, h⟩
      refine l_if rfl iz1 (fun c => ?_) (fun c => ?_)
      · replace h := h.1 c
        exact E_Y_redo_226 hS r1  h
      · replace h := h.2 c
        refine l1 (n := 1) rfl rfl rfl rfl ?_
        refine l3 rfl rfl rfl ?_
        exact E_Y_redo_227 hS r1 ⟨by decide, by decide⟩ h
def e_Y_redo_180 (v2 : Int) (v4 : Int) (M : rf_M) (K : rf_M → Prop) : Prop := e_Y_redo_181 v2 v4 0 M K
theorem E_Y_redo_180 {fz : Bool} {S : gS} {B : rf_M} {M : rf_M} {ls : rf_L} {n0 : Nat} {v2 : Int} {v4 : Int} {K : rf_M → Prop} (hS : rl S) (hR : fl 22 353 B M) (iv2 : inr v2) (iv4 : inr v4) (a0 : rf_ld ls 0 = some (.ref 331)) (a1 : rf_ld ls 1 = some (.ref 324)) (a2 : rf_ld ls 2 = some (zv v2)) (a4 : rf_ld ls 4 = some (zv v4)) (h : e_Y_redo_180 v2 v4 M K) : lx (cx0 fz) n0 119 180 ls [] (M, S) (vl_v 22 353 B S K) := by
  unfold e_Y_redo_180 at h
  refine l1 (n := 1) rfl rfl rfl rfl ?_
  exact E_Y_redo_181 hS hR iv2 iv4 ⟨by decide, by decide⟩ a0 a1 a2 a4 h
def e_Y_redo_146 (v2 : Int) (v4 : Int) (M : rf_M) (K : rf_M → Prop) : Prop := (v4 = 1 → (isP M 340 0 ∧ (em_S_takes 332 (gr M 340 0) 342 M (fun (z1 : Int) (M1 : rf_M) => (z1 = 0 → (e_Y_redo_180 v2 v4 M1 K)) ∧ (¬ (z1 = 0) → (e_Y_redo_181 v2 v4 1 M1 K)))))) ∧ (¬ v4 = 1 → (e_Y_redo_180 v2 v4 M K))
theorem E_Y_redo_146 {fz : Bool} {S : gS} {B : rf_M} {M : rf_M} {ls : rf_L} {n0 : Nat} {v2 : Int} {v4 : Int} {K : rf_M → Prop} (hS : rl S) (hR : fl 22 353 B M) (iv2 : inr v2) (iv4 : inr v4) (a0 : rf_ld ls 0 = some (.ref 331)) (a1 : rf_ld ls 1 = some (.ref 324)) (a2 : rf_ld ls 2 = some (zv v2)) (a4 : rf_ld ls 4 = some (zv v4)) (h : e_Y_redo_146 v2 v4 M K) : lx (cx0 fz) n0 119 146 ls [] (M, S) (vl_v 22 353 B S K) := by
  unfold e_Y_redo_146 at h
  refine l1 (n := 2) rfl rfl rfl (li_of a4) ?_
  refine l1 (n := 1) rfl rfl rfl rfl ?_
  refine l_ic rfl iv4 ⟨by decide, by decide⟩ (fun c => ?_) (fun c => ?_)
  · replace h := h.2 c
    exact E_Y_redo_180 hS hR iv2 iv4 a0 a1 a2 a4 h
  · replace h := h.1 (Classical.not_not.mp c)
    refine l1 (n := 1) rfl rfl rfl (la_of a0) ?_
    refine l_gr rfl (ko_10 hS (List.Mem.head _)) rfl (fun _ => rfl) (kf_10_0 hR.2 (List.Mem.head _)) ?_
    refine l1 (n := 1) rfl rfl rfl (la_of a0) ?_
    refine l_gr rfl (ko_10 hS (List.Mem.head _)) rfl (fun _ => rfl) (kf_10_4 hR.2 (List.Mem.head _)) ?_
    obtain ⟨q1, h⟩ := h
    refine l_gr rfl (ko_7 hS (by decide)) rfl (fun _ => rfl) q1.1 ?_
    refine l1 (n := 1) rfl rfl rfl (la_of a0) ?_
    refine l_gr rfl (ko_10 hS (List.Mem.head _)) rfl (fun _ => rfl) (kf_10_4 hR.2 (List.Mem.head _)) ?_
    refine l_gr rfl (ko_7 hS (by decide)) rfl (fun _ => rfl) (kf_7_5 hR.2 (by decide)) ?_
    refine b_iv (c := 332) (as := [.ref (gr M 340 0), .ref 342]) (rest := []) rfl (by decide) (ko_4 hS (by decide)) rfl rfl (Nat.le_of_ble_eq_true rfl) (fun hq => ?_)
    refine lx_mono (E_S_takes_m hS hR (by decide) q1.2 (by decide) h) ?_
    rintro _ _ ⟨z1, M1, rfl, rfl, r1, iz1, h⟩
    refine l_if rfl iz1 (fun c => ?_) (fun c => ?_)
    · replace h := h.1 c
      exact E_Y_redo_180 hS r1 iv2 iv4 a0 a1 a2 a4 h
    · replace h := h.2 c
      refine l1 (n := 1) rfl rfl rfl rfl ?_
      refine l3 rfl rfl rfl ?_
      exact E_Y_redo_181 hS r1 iv2 iv4 ⟨by decide, by decide⟩ a0 a1 a2 a4 h
def e_Y_redo_118b (v2 : Int) (v4 : Int) (v5 : Int) (M : rf_M) (b118 : Int → Int → Int → rf_M → Prop) (K : rf_M → Prop) : Prop := (300 < v5 → (e_Y_redo_146 v2 v4 M K)) ∧ (¬ (300 < v5) → ((v4 = 0 → (em_R_step 340 M (fun (z1 : Int) (M1 : rf_M) => inr (v5 + 1) ∧ (b118 v2 z1 (v5 + 1) M1)))) ∧ (¬ v4 = 0 → (e_Y_redo_146 v2 v4 M K))))
theorem E_Y_redo_118b {fz : Bool} {S : gS} {B : rf_M} {M : rf_M} {ls : rf_L} {n0 : Nat} {v2 : Int} {v4 : Int} {v5 : Int} {b118 : Int → Int → Int → rf_M → Prop} {K : rf_M → Prop} (hS : rl S) (hR : fl 22 353 B M) (iv2 : inr v2) (iv4 : inr v4) (iv5 : inr v5) (a0 : rf_ld ls 0 = some (.ref 331)) (a1 : rf_ld ls 1 = some (.ref 324)) (a2 : rf_ld ls 2 = some (zv v2)) (a4 : rf_ld ls 4 = some (zv v4)) (a5 : rf_ld ls 5 = some (zv v5)) (hb118 : ∀ n', n' < n0 → ∀ (v2 : Int) (v4 : Int) (v5 : Int) (M : rf_M) (ls : rf_L), fl 22 353 B M → inr v2 → inr v4 → inr v5 → rf_ld ls 0 = some (.ref 331) → rf_ld ls 1 = some (.ref 324) → rf_ld ls 2 = some (zv v2) → rf_ld ls 4 = some (zv v4) → rf_ld ls 5 = some (zv v5) → b118 v2 v4 v5 M → lx (cx0 fz) n' 119 118 ls [] (M, S) (vl_v 22 353 B S K)) (h : e_Y_redo_118b v2 v4 v5 M b118 K) : lx (cx0 fz) n0 119 118 ls [] (M, S) (vl_v 22 353 B S K) := by
  unfold e_Y_redo_118b at h
  rcases Nat.eq_zero_or_pos n0 with e0 | hp
  · rw [e0]; exact lx_zero
  refine l1 (n := 2) rfl rfl rfl (li_of a5) ?_
  refine l_si rfl (by decide) ?_
  refine l_ic rfl iv5 ⟨by decide, by decide⟩ (fun c => ?_) (fun c => ?_)
  · replace h := h.1 c
    exact E_Y_redo_146 hS hR iv2 iv4 a0 a1 a2 a4 h
  · replace h := h.2 c
    refine l1 (n := 2) rfl rfl rfl (li_of a4) ?_
    refine l_if rfl iv4 (fun c => ?_) (fun c => ?_)
    · replace h := h.2 c
      exact E_Y_redo_146 hS hR iv2 iv4 a0 a1 a2 a4 h
    · replace h := h.1 (Classical.not_not.mp c)
      refine l1 (n := 1) rfl rfl rfl (la_of a0) ?_
      refine l_gr rfl (ko_10 hS (List.Mem.head _)) rfl (fun _ => rfl) (kf_10_4 hR.2 (List.Mem.head _)) ?_
      refine b_iv (c := 340) (as := []) (rest := []) rfl (by decide) (ko_7 hS (by decide)) rfl rfl (Nat.le_of_ble_eq_true rfl) (fun hq => ?_)
      refine lx_mono (E_R_step_m hS hR (by decide) h) ?_
      rintro _ _ ⟨z1, M1, rfl, rfl, r1, iz1, h⟩
      refine l_s1 (n := 2) rfl rfl rfl rfl (fun ls y1 ho => ?_)
      have y2 := ho 0 _ (by decide) (fun q => by cases q.2) a0
      have y3 := ho 1 _ (by decide) (fun q => by cases q.2) a1
      have y4 := ho 2 _ (by decide) (fun q => by cases q.2) a2
      have y5 := ho 5 _ (by decide) (fun q => by cases q.2) a5
      refine l_ii rfl y5 (Nat.le_of_ble_eq_true rfl) (fun ls y6 ho => ?_)
      have y7 := ho 0 _ (by decide) (fun q => by cases q.2) y2
      have y8 := ho 1 _ (by decide) (fun q => by cases q.2) y3
      have y9 := ho 2 _ (by decide) (fun q => by cases q.2) y4
      have y10 := ho 4 _ (by decide) (fun q => by cases q.2) y1
      refine l3 rfl rfl rfl ?_
      obtain ⟨i1, h⟩ := h
      exact hb118 _ (by omega) _ _ _ _ _ r1 iv2 iz1 i1 y7 y8 y9 y10 y6 h
def e_Y_redo_118 (v2 : Int) (v4 : Int) (v5 : Int) (M : rf_M) (K : rf_M → Prop) : Prop := ∃ Inv : Int → Int → Int → rf_M → Prop, Inv v2 v4 v5 M ∧ ∀ (v2 : Int) (v4 : Int) (v5 : Int) (M : rf_M), inr v2 → inr v4 → inr v5 → Inv v2 v4 v5 M → e_Y_redo_118b v2 v4 v5 M Inv K
theorem E_Y_redo_118 {fz : Bool} {S : gS} {B : rf_M} {M : rf_M} {ls : rf_L} {n0 : Nat} {v2 : Int} {v4 : Int} {v5 : Int} {K : rf_M → Prop} (hS : rl S) (hR : fl 22 353 B M) (iv2 : inr v2) (iv4 : inr v4) (iv5 : inr v5) (a0 : rf_ld ls 0 = some (.ref 331)) (a1 : rf_ld ls 1 = some (.ref 324)) (a2 : rf_ld ls 2 = some (zv v2)) (a4 : rf_ld ls 4 = some (zv v4)) (a5 : rf_ld ls 5 = some (zv v5)) (h : e_Y_redo_118 v2 v4 v5 M K) : lx (cx0 fz) n0 119 118 ls [] (M, S) (vl_v 22 353 B S K) := by
  obtain ⟨Inv, hm, hb⟩ := h
  induction n0 using Nat.strongRecOn generalizing ls M v2 v4 v5 with
  | _ n0 ih =>
    refine E_Y_redo_118b hS hR iv2 iv4 iv5 a0 a1 a2 a4 a5 (fun n' hn' v2' v4' v5' M' ls' hR' f0 f1 f2 f3 f4 f5 f6 f7 q2 => ih n' hn' hR' f0 f1 f2 f3 f4 f5 f6 f7 q2) (hb v2 v4 v5 M iv2 iv4 iv5 hm)
def e_Y_redo (v2 : Int) (M : rf_M) (K : rf_M → Prop) : Prop := ∀ M1 : rf_M, M1 = wi M 331 1 (v2 + 1) → (em_J_has v2 M1 (fun (z2 : Int) (M2 : rf_M) => (z2 = 0 → (K M2)) ∧ (¬ z2 = 0 → ((0 ≤ v2 ∧ v2 < 300 → ((0 ≤ v2 ∧ v2 < 300 → (((gi M2 325 (v2).toNat) = 0 → (((gi M2 331 2) = 0 → (e_Y_redo_61 v2 (gi M2 327 (v2).toNat) M2 K)) ∧ (¬ ((gi M2 331 2) = 0) → ((0 ≤ v2 ∧ v2 < 300 → (em_S_allows 332 (gi M2 327 (v2).toNat) (gl M2 330 (v2).toNat) M2 (fun (z4 : Int) (M4 : rf_M) => (z4 = 0 → (e_Y_redo_61 v2 (gi M2 327 (v2).toNat) M4 K)) ∧ (¬ (z4 = 0) → (e_Y_redo_62 v2 (gi M2 327 (v2).toNat) 1 M4 K))))))))) ∧ (¬ (gi M2 325 (v2).toNat) = 0 → (((gi M2 327 (v2).toNat) < 0 → (e_Y_redo_93 M2 K)) ∧ (¬ ((gi M2 327 (v2).toNat) < 0) → (((gi M2 327 (v2).toNat) < 12 → ((0 ≤ (gi M2 327 (v2).toNat) ∧ (gi M2 327 (v2).toNat) < 12 → (em_R_begin 340 (pgA (gi M2 327 (v2).toNat)) M2 (fun (M3 : rf_M) => e_Y_redo_118 v2 0 0 M3 K))))) ∧ (¬ ((gi M2 327 (v2).toNat) < 12) → (e_Y_redo_93 M2 K))))))))))))))
theorem E_Y_redo {fz : Bool} {S : gS} {B : rf_M} {M : rf_M} {ls : rf_L} {n0 : Nat} {v2 : Int} {K : rf_M → Prop} (hS : rl S) (hR : fl 22 353 B M) (iv2 : inr v2) (a0 : rf_ld ls 0 = some (.ref 331)) (a1 : rf_ld ls 1 = some (.ref 324)) (a2 : rf_ld ls 2 = some (zv v2)) (h : e_Y_redo v2 M K) : lx (cx0 fz) n0 119 0 ls [] (M, S) (vl_v 22 353 B S K) := by
  unfold e_Y_redo at h
  refine l1 (n := 1) rfl rfl rfl (la_of a0) ?_
  refine l1 (n := 1) rfl rfl rfl (li_of a2) ?_
  refine l1 (n := 1) rfl rfl rfl rfl ?_
  refine l_add rfl ?_
  refine l_pi rfl (ko_10 (fz := fz) hS (List.Mem.head _)) rfl (fun _ _ => rfl) (fun M1 e => ?_)
  replace h := h M1 e
  have r1 := hR.wi (ko_10 (fz := fz) hS (List.Mem.head _)).1 (kl_10 (List.Mem.head _)) e
  refine l1 (n := 1) rfl rfl rfl (la_of a1) ?_
  refine l1 (n := 1) rfl rfl rfl (li_of a2) ?_
  refine b_iv (c := 324) (as := [zv v2]) (rest := []) rfl (by decide) (ko_9 hS (List.Mem.head _)) rfl rfl (Nat.le_of_ble_eq_true rfl) (fun hq => ?_)
  refine lx_mono (E_J_has_m hS r1 iv2 h) ?_
  rintro _ _ ⟨z2, M2, rfl, rfl, r2, iz2, h⟩
  refine l_if rfl iz2 (fun c => ?_) (fun c => ?_)
  · replace h := h.2 c
    refine l1 (n := 1) rfl rfl rfl (la_of a1) ?_
    refine l_gr rfl (ko_9 hS (List.Mem.head _)) rfl (fun _ => rfl) (kf_9_3 r2.2 (List.Mem.head _)) ?_
    refine l1 (n := 1) rfl rfl rfl (li_of a2) ?_
    refine b_ia rfl (kc_327 (fz := fz) hS).1 (Nat.le_of_ble_eq_true rfl) iv2 (fun q => ?_)
    replace h := h q
    refine l_s1 (n := 1) rfl rfl rfl rfl (fun ls y1 ho => ?_)
    have y2 := ho 0 _ (by decide) (fun q => by cases q.2) a0
    have y3 := ho 1 _ (by decide) (fun q => by cases q.2) a1
    have y4 := ho 2 _ (by decide) (fun q => by cases q.2) a2
    refine l1 (n := 1) rfl rfl rfl (la_of y3) ?_
    refine l_gr rfl (ko_9 hS (List.Mem.head _)) rfl (fun _ => rfl) (kf_9_1 r2.2 (List.Mem.head _)) ?_
    refine l1 (n := 1) rfl rfl rfl (li_of y4) ?_
    refine b_ia rfl (kc_325 (fz := fz) hS).1 (Nat.le_of_ble_eq_true rfl) iv2 (fun q => ?_)
    replace h := h q
    refine l_if rfl (inr_gi _ _ _) (fun c => ?_) (fun c => ?_)
    · replace h := h.2 c
      refine l1 (n := 1) rfl rfl rfl (li_of y1) ?_
      refine l_if rfl (inr_gi _ _ _) (fun c => ?_) (fun c => ?_)
      · replace h := h.1 c
        exact E_Y_redo_93 hS r2 y2 h
      · replace h := h.2 c
        refine l1 (n := 1) rfl rfl rfl (li_of y1) ?_
        refine l1 (n := 1) rfl rfl rfl (la_of y2) ?_
        refine l_gr rfl (ko_10 hS (List.Mem.head _)) rfl (fun _ => rfl) (kf_10_3 r2.2 (List.Mem.head _)) ?_
        refine l_al (z := 12) rfl (kc_24 (fz := fz) hS).1 rfl ?_
        refine l_ic rfl (inr_gi _ _ _) ⟨by decide, by decide⟩ (fun c => ?_) (fun c => ?_)
        · replace h := h.1 c
          refine l1 (n := 1) rfl rfl rfl (la_of y2) ?_
          refine l_gr rfl (ko_10 hS (List.Mem.head _)) rfl (fun _ => rfl) (kf_10_4 r2.2 (List.Mem.head _)) ?_
          refine l1 (n := 1) rfl rfl rfl (la_of y2) ?_
          refine l_gr rfl (ko_10 hS (List.Mem.head _)) rfl (fun _ => rfl) (kf_10_3 r2.2 (List.Mem.head _)) ?_
          refine l1 (n := 1) rfl rfl rfl (li_of y1) ?_
          refine b_aa rfl (kc_24 (fz := fz) hS).1 (Nat.le_of_ble_eq_true rfl) (inr_gi _ _ _) (fun q1 => ⟨pgA_ref r2.2 q1, ?_⟩)
          replace h := h q1
          refine b_iv (c := 340) (as := [.ref (pgA (gi M2 327 (v2).toNat))]) (rest := []) rfl (by decide) (ko_7 hS (by decide)) rfl rfl (Nat.le_of_ble_eq_true rfl) (fun hq => ?_)
          refine lx_mono (E_R_begin_m hS r2 (by decide) (pgA_mem q1) h) ?_
          rintro _ _ ⟨M3, rfl, rfl, r3, h⟩
          refine l1 (n := 1) rfl rfl rfl rfl ?_
          refine l_s1 (n := 2) rfl rfl rfl rfl (fun ls y5 ho => ?_)
          have y6 := ho 0 _ (by decide) (fun q => by cases q.2) y2
          have y7 := ho 1 _ (by decide) (fun q => by cases q.2) y3
          have y8 := ho 2 _ (by decide) (fun q => by cases q.2) y4
          refine l1 (n := 1) rfl rfl rfl rfl ?_
          refine l_s1 (n := 2) rfl rfl rfl rfl (fun ls y9 ho => ?_)
          have y10 := ho 0 _ (by decide) (fun q => by cases q.2) y6
          have y11 := ho 1 _ (by decide) (fun q => by cases q.2) y7
          have y12 := ho 2 _ (by decide) (fun q => by cases q.2) y8
          have y13 := ho 4 _ (by decide) (fun q => by cases q.2) y5
          exact E_Y_redo_118 hS r3 iv2 ⟨by decide, by decide⟩ ⟨by decide, by decide⟩ y10 y11 y12 y13 y9 h
        · replace h := h.2 c
          exact E_Y_redo_93 hS r2 y2 h
    · replace h := h.1 (Classical.not_not.mp c)
      refine l1 (n := 1) rfl rfl rfl (la_of y2) ?_
      refine l1 (n := 1) rfl rfl rfl (la_of y2) ?_
      refine l_gi rfl (ko_10 hS (List.Mem.head _)) rfl (fun _ => rfl) ?_
      refine l_if rfl (inr_gi _ _ _) (fun c => ?_) (fun c => ?_)
      · replace h := h.1 c
        exact E_Y_redo_61 hS r2 iv2 (inr_gi _ _ _) y2 y3 y4 y1 h
      · replace h := h.2 c
        refine l1 (n := 1) rfl rfl rfl (la_of y2) ?_
        refine l_gr rfl (ko_10 hS (List.Mem.head _)) rfl (fun _ => rfl) (kf_10_0 r2.2 (List.Mem.head _)) ?_
        refine l1 (n := 1) rfl rfl rfl (li_of y1) ?_
        refine l1 (n := 1) rfl rfl rfl (la_of y3) ?_
        refine l_gr rfl (ko_9 hS (List.Mem.head _)) rfl (fun _ => rfl) (kf_9_6 r2.2 (List.Mem.head _)) ?_
        refine l1 (n := 1) rfl rfl rfl (li_of y4) ?_
        refine b_la rfl (kc_330 (fz := fz) hS).1 (Nat.le_of_ble_eq_true rfl) iv2 (fun q => ?_)
        replace h := h q
        refine b_iv (c := 332) (as := [zv (gi M2 327 (v2).toNat), .long (gl M2 330 (v2).toNat)]) (rest := [.ref 331]) rfl (by decide) (ko_4 hS (by decide)) rfl rfl (Nat.le_of_ble_eq_true rfl) (fun hq => ?_)
        refine lx_mono (E_S_allows_m hS r2 (by decide) (inr_gi _ _ _) h) ?_
        rintro _ _ ⟨z4, M4, rfl, rfl, r4, iz4, h⟩
        refine l_if rfl iz4 (fun c => ?_) (fun c => ?_)
        · replace h := h.1 c
          exact E_Y_redo_61 hS r4 iv2 (inr_gi _ _ _) y2 y3 y4 y1 h
        · replace h := h.2 c
          refine l1 (n := 1) rfl rfl rfl rfl ?_
          refine l3 rfl rfl rfl ?_
          exact E_Y_redo_62 hS r4 iv2 (inr_gi _ _ _) ⟨by decide, by decide⟩ y2 y3 y4 y1 h
  · replace h := h.1 (Classical.not_not.mp c)
    exact l_rv rfl rfl r2 h
def em_Y_redo (x2 : Int) (M : rf_M) (K : rf_M → Prop) : Prop := e_Y_redo x2 M K
theorem E_Y_redo_m {fz : Bool} {S : gS} {B : rf_M} {M : rf_M} {n0 : Nat} {x2 : Int} {K : rf_M → Prop} (hS : rl S) (hR : fl 22 353 B M) (ix2 : inr x2) (h : em_Y_redo x2 M K) : lx (cx0 fz) n0 119 0 (lv_args 0 [.ref 331, .ref 324, zv x2]) [] (M, S) (vl_v 22 353 B S K) :=
  E_Y_redo hS hR ix2 rfl rfl rfl h
def e_S_isLike_52 (M : rf_M) (K : Int → rf_M → Prop) : Prop := K 0 M
theorem E_S_isLike_52 {fz : Bool} {S : gS} {B : rf_M} {M : rf_M} {ls : rf_L} {n0 : Nat} {K : Int → rf_M → Prop} (hS : rl S) (hR : fl 22 353 B M) (h : e_S_isLike_52 M K) : lx (cx0 fz) n0 121 52 ls [] (M, S) (vl_i 22 353 B S K) := by
  unfold e_S_isLike_52 at h
  refine l1 (n := 1) rfl rfl rfl rfl ?_
  exact l_rb rfl rfl (Or.inl rfl) hR h
def e_S_isLike_100 (M : rf_M) (K : Int → rf_M → Prop) : Prop := K 0 M
theorem E_S_isLike_100 {fz : Bool} {S : gS} {B : rf_M} {M : rf_M} {ls : rf_L} {n0 : Nat} {K : Int → rf_M → Prop} (hS : rl S) (hR : fl 22 353 B M) (h : e_S_isLike_100 M K) : lx (cx0 fz) n0 121 100 ls [] (M, S) (vl_i 22 353 B S K) := by
  unfold e_S_isLike_100 at h
  refine l1 (n := 1) rfl rfl rfl rfl ?_
  exact l_rb rfl rfl (Or.inl rfl) hR h
def e_S_isLike_62b (v0 : Nat) (v1 : Nat) (v2 : Int) (M : rf_M) (b62 : Nat → Nat → Int → rf_M → Prop) (K : Int → rf_M → Prop) : Prop := ((gi M v0 2) ≤ v2 → (K 1 M)) ∧ (¬ ((gi M v0 2) ≤ v2) → ((0 ≤ v2 ∧ v2 < 32 → (isP M (v0 + 3) (v2).toNat ∧ ((0 ≤ v2 ∧ v2 < 32 → (isP M (v1 + 3) (v2).toNat ∧ (((gr M (v0 + 3) (v2).toNat) = (gr M (v1 + 3) (v2).toNat) → ((0 ≤ v2 ∧ v2 < 32 → ((0 ≤ v2 ∧ v2 < 32 → (((gi M (v0 + 4) (v2).toNat) = (gi M (v1 + 4) (v2).toNat) → (inr (v2 + 1) ∧ (b62 v0 v1 (v2 + 1) M))) ∧ (¬ ((gi M (v0 + 4) (v2).toNat) = (gi M (v1 + 4) (v2).toNat)) → (e_S_isLike_100 M K)))))))) ∧ (¬ (gr M (v0 + 3) (v2).toNat) = (gr M (v1 + 3) (v2).toNat) → (e_S_isLike_100 M K))))))))))
theorem E_S_isLike_62b {fz : Bool} {S : gS} {B : rf_M} {M : rf_M} {ls : rf_L} {n0 : Nat} {v0 : Nat} {v1 : Nat} {v2 : Int} {b62 : Nat → Nat → Int → rf_M → Prop} {K : Int → rf_M → Prop} (hS : rl S) (hR : fl 22 353 B M) (mv0 : v0 ∈ k4) (mv1 : v1 ∈ k4) (iv2 : inr v2) (a0 : rf_ld ls 0 = some (.ref v0)) (a1 : rf_ld ls 1 = some (.ref v1)) (a2 : rf_ld ls 2 = some (zv v2)) (hb62 : ∀ n', n' < n0 → ∀ (v0 : Nat) (v1 : Nat) (v2 : Int) (M : rf_M) (ls : rf_L), fl 22 353 B M → v0 ∈ k4 → v1 ∈ k4 → inr v2 → rf_ld ls 0 = some (.ref v0) → rf_ld ls 1 = some (.ref v1) → rf_ld ls 2 = some (zv v2) → b62 v0 v1 v2 M → lx (cx0 fz) n' 121 62 ls [] (M, S) (vl_i 22 353 B S K)) (h : e_S_isLike_62b v0 v1 v2 M b62 K) : lx (cx0 fz) n0 121 62 ls [] (M, S) (vl_i 22 353 B S K) := by
  unfold e_S_isLike_62b at h
  rcases Nat.eq_zero_or_pos n0 with e0 | hp
  · rw [e0]; exact lx_zero
  refine l1 (n := 1) rfl rfl rfl (li_of a2) ?_
  refine l1 (n := 1) rfl rfl rfl (la_of a0) ?_
  refine l_gi rfl (ko_4 hS mv0) rfl (fun _ => rfl) ?_
  refine l_ic rfl iv2 (inr_gi _ _ _) (fun c => ?_) (fun c => ?_)
  · replace h := h.1 c
    refine l1 (n := 1) rfl rfl rfl rfl ?_
    exact l_rb rfl rfl (Or.inr rfl) hR h
  · replace h := h.2 c
    refine l1 (n := 1) rfl rfl rfl (la_of a0) ?_
    refine l_gr rfl (ko_4 hS mv0) rfl (fun _ => rfl) (kf_4_3 hR.2 mv0) ?_
    refine l1 (n := 1) rfl rfl rfl (li_of a2) ?_
    refine b_aa rfl (kt_4_3 (fz := fz) hS mv0).1 (Nat.le_of_ble_eq_true rfl) iv2 (fun q1 => ⟨(h q1).1.1, ?_⟩)
    replace h := h q1
    obtain ⟨q2, h⟩ := h
    refine l1 (n := 1) rfl rfl rfl (la_of a1) ?_
    refine l_gr rfl (ko_4 hS mv1) rfl (fun _ => rfl) (kf_4_3 hR.2 mv1) ?_
    refine l1 (n := 1) rfl rfl rfl (li_of a2) ?_
    refine b_aa rfl (kt_4_3 (fz := fz) hS mv1).1 (Nat.le_of_ble_eq_true rfl) iv2 (fun q3 => ⟨(h q3).1.1, ?_⟩)
    replace h := h q3
    obtain ⟨q4, h⟩ := h
    refine l_acn rfl (ko_1 (fz := fz) hS q2.2).1 (ko_1 (fz := fz) hS q4.2).1 (fun c => ?_) (fun c => ?_)
    · replace h := h.2 c
      exact E_S_isLike_100 hS hR  h
    · replace h := h.1 c
      refine l1 (n := 1) rfl rfl rfl (la_of a0) ?_
      refine l_gr rfl (ko_4 hS mv0) rfl (fun _ => rfl) (kf_4_4 hR.2 mv0) ?_
      refine l1 (n := 1) rfl rfl rfl (li_of a2) ?_
      refine b_ia rfl (kt_4_4 (fz := fz) hS mv0).1 (Nat.le_of_ble_eq_true rfl) iv2 (fun q => ?_)
      replace h := h q
      refine l1 (n := 1) rfl rfl rfl (la_of a1) ?_
      refine l_gr rfl (ko_4 hS mv1) rfl (fun _ => rfl) (kf_4_4 hR.2 mv1) ?_
      refine l1 (n := 1) rfl rfl rfl (li_of a2) ?_
      refine b_ia rfl (kt_4_4 (fz := fz) hS mv1).1 (Nat.le_of_ble_eq_true rfl) iv2 (fun q => ?_)
      replace h := h q
      refine l_ic rfl (inr_gi _ _ _) (inr_gi _ _ _) (fun c => ?_) (fun c => ?_)
      · replace h := h.1 c
        refine l_ii rfl a2 (Nat.le_of_ble_eq_true rfl) (fun ls y1 ho => ?_)
        have y2 := ho 0 _ (by decide) (fun q => by cases q.2) a0
        have y3 := ho 1 _ (by decide) (fun q => by cases q.2) a1
        refine l3 rfl rfl rfl ?_
        obtain ⟨i1, h⟩ := h
        exact hb62 _ (by omega) _ _ _ _ _ hR mv0 mv1 i1 y2 y3 y1 h
      · replace h := h.2 c
        exact E_S_isLike_100 hS hR  h
def e_S_isLike_62 (v0 : Nat) (v1 : Nat) (v2 : Int) (M : rf_M) (K : Int → rf_M → Prop) : Prop := ∃ Inv : Nat → Nat → Int → rf_M → Prop, Inv v0 v1 v2 M ∧ ∀ (v0 : Nat) (v1 : Nat) (v2 : Int) (M : rf_M), inr v2 → Inv v0 v1 v2 M → e_S_isLike_62b v0 v1 v2 M Inv K
theorem E_S_isLike_62 {fz : Bool} {S : gS} {B : rf_M} {M : rf_M} {ls : rf_L} {n0 : Nat} {v0 : Nat} {v1 : Nat} {v2 : Int} {K : Int → rf_M → Prop} (hS : rl S) (hR : fl 22 353 B M) (mv0 : v0 ∈ k4) (mv1 : v1 ∈ k4) (iv2 : inr v2) (a0 : rf_ld ls 0 = some (.ref v0)) (a1 : rf_ld ls 1 = some (.ref v1)) (a2 : rf_ld ls 2 = some (zv v2)) (h : e_S_isLike_62 v0 v1 v2 M K) : lx (cx0 fz) n0 121 62 ls [] (M, S) (vl_i 22 353 B S K) := by
  obtain ⟨Inv, hm, hb⟩ := h
  induction n0 using Nat.strongRecOn generalizing ls M v0 v1 v2 with
  | _ n0 ih =>
    refine E_S_isLike_62b hS hR mv0 mv1 iv2 a0 a1 a2 (fun n' hn' v0' v1' v2' M' ls' hR' f0 f1 f2 f3 f4 f5 q2 => ih n' hn' hR' f0 f1 f2 f3 f4 f5 q2) (hb v0 v1 v2 M iv2 hm)
def e_S_isLike_15b (v0 : Nat) (v1 : Nat) (v2 : Int) (M : rf_M) (b15 : Nat → Nat → Int → rf_M → Prop) (K : Int → rf_M → Prop) : Prop := (16 ≤ v2 → (e_S_isLike_62 v0 v1 0 M K)) ∧ (¬ (16 ≤ v2) → ((0 ≤ v2 ∧ v2 < 16 → ((0 ≤ v2 ∧ v2 < 16 → (((lg_cmp (gl M (v0 + 1) (v2).toNat) (gl M (v1 + 1) (v2).toNat)).toInt = 0 → ((0 ≤ v2 ∧ v2 < 16 → ((0 ≤ v2 ∧ v2 < 16 → (((gi M (v0 + 2) (v2).toNat) = (gi M (v1 + 2) (v2).toNat) → (inr (v2 + 1) ∧ (b15 v0 v1 (v2 + 1) M))) ∧ (¬ ((gi M (v0 + 2) (v2).toNat) = (gi M (v1 + 2) (v2).toNat)) → (e_S_isLike_52 M K)))))))) ∧ (¬ (lg_cmp (gl M (v0 + 1) (v2).toNat) (gl M (v1 + 1) (v2).toNat)).toInt = 0 → (e_S_isLike_52 M K))))))))
theorem E_S_isLike_15b {fz : Bool} {S : gS} {B : rf_M} {M : rf_M} {ls : rf_L} {n0 : Nat} {v0 : Nat} {v1 : Nat} {v2 : Int} {b15 : Nat → Nat → Int → rf_M → Prop} {K : Int → rf_M → Prop} (hS : rl S) (hR : fl 22 353 B M) (mv0 : v0 ∈ k4) (mv1 : v1 ∈ k4) (iv2 : inr v2) (a0 : rf_ld ls 0 = some (.ref v0)) (a1 : rf_ld ls 1 = some (.ref v1)) (a2 : rf_ld ls 2 = some (zv v2)) (hb15 : ∀ n', n' < n0 → ∀ (v0 : Nat) (v1 : Nat) (v2 : Int) (M : rf_M) (ls : rf_L), fl 22 353 B M → v0 ∈ k4 → v1 ∈ k4 → inr v2 → rf_ld ls 0 = some (.ref v0) → rf_ld ls 1 = some (.ref v1) → rf_ld ls 2 = some (zv v2) → b15 v0 v1 v2 M → lx (cx0 fz) n' 121 15 ls [] (M, S) (vl_i 22 353 B S K)) (h : e_S_isLike_15b v0 v1 v2 M b15 K) : lx (cx0 fz) n0 121 15 ls [] (M, S) (vl_i 22 353 B S K) := by
  unfold e_S_isLike_15b at h
  rcases Nat.eq_zero_or_pos n0 with e0 | hp
  · rw [e0]; exact lx_zero
  refine l1 (n := 1) rfl rfl rfl (li_of a2) ?_
  refine l_bi rfl (by decide) ?_
  refine l_ic rfl iv2 ⟨by decide, by decide⟩ (fun c => ?_) (fun c => ?_)
  · replace h := h.1 c
    refine l1 (n := 1) rfl rfl rfl rfl ?_
    refine l_s1 (n := 1) rfl rfl rfl rfl (fun ls y1 ho => ?_)
    have y2 := ho 0 _ (by decide) (fun q => by cases q.2) a0
    have y3 := ho 1 _ (by decide) (fun q => by cases q.2) a1
    exact E_S_isLike_62 hS hR mv0 mv1 ⟨by decide, by decide⟩ y2 y3 y1 h
  · replace h := h.2 c
    refine l1 (n := 1) rfl rfl rfl (la_of a0) ?_
    refine l_gr rfl (ko_4 hS mv0) rfl (fun _ => rfl) (kf_4_0 hR.2 mv0) ?_
    refine l1 (n := 1) rfl rfl rfl (li_of a2) ?_
    refine b_la rfl (kt_4_0 (fz := fz) hS mv0).1 (Nat.le_of_ble_eq_true rfl) iv2 (fun q => ?_)
    replace h := h q
    refine l1 (n := 1) rfl rfl rfl (la_of a1) ?_
    refine l_gr rfl (ko_4 hS mv1) rfl (fun _ => rfl) (kf_4_0 hR.2 mv1) ?_
    refine l1 (n := 1) rfl rfl rfl (li_of a2) ?_
    refine b_la rfl (kt_4_0 (fz := fz) hS mv1).1 (Nat.le_of_ble_eq_true rfl) iv2 (fun q => ?_)
    replace h := h q
    refine l_op (T := (lg_cmp (gl M (v0 + 1) (v2).toNat) (gl M (v1 + 1) (v2).toNat))) rfl rfl rfl ?_
    refine l_if rfl (inr_ti _) (fun c => ?_) (fun c => ?_)
    · replace h := h.2 c
      exact E_S_isLike_52 hS hR  h
    · replace h := h.1 (Classical.not_not.mp c)
      refine l1 (n := 1) rfl rfl rfl (la_of a0) ?_
      refine l_gr rfl (ko_4 hS mv0) rfl (fun _ => rfl) (kf_4_1 hR.2 mv0) ?_
      refine l1 (n := 1) rfl rfl rfl (li_of a2) ?_
      refine b_ia rfl (kt_4_1 (fz := fz) hS mv0).1 (Nat.le_of_ble_eq_true rfl) iv2 (fun q => ?_)
      replace h := h q
      refine l1 (n := 1) rfl rfl rfl (la_of a1) ?_
      refine l_gr rfl (ko_4 hS mv1) rfl (fun _ => rfl) (kf_4_1 hR.2 mv1) ?_
      refine l1 (n := 1) rfl rfl rfl (li_of a2) ?_
      refine b_ia rfl (kt_4_1 (fz := fz) hS mv1).1 (Nat.le_of_ble_eq_true rfl) iv2 (fun q => ?_)
      replace h := h q
      refine l_ic rfl (inr_gi _ _ _) (inr_gi _ _ _) (fun c => ?_) (fun c => ?_)
      · replace h := h.1 c
        refine l_ii rfl a2 (Nat.le_of_ble_eq_true rfl) (fun ls y4 ho => ?_)
        have y5 := ho 0 _ (by decide) (fun q => by cases q.2) a0
        have y6 := ho 1 _ (by decide) (fun q => by cases q.2) a1
        refine l3 rfl rfl rfl ?_
        obtain ⟨i1, h⟩ := h
        exact hb15 _ (by omega) _ _ _ _ _ hR mv0 mv1 i1 y5 y6 y4 h
      · replace h := h.2 c
        exact E_S_isLike_52 hS hR  h
def e_S_isLike_15 (v0 : Nat) (v1 : Nat) (v2 : Int) (M : rf_M) (K : Int → rf_M → Prop) : Prop := ∃ Inv : Nat → Nat → Int → rf_M → Prop, Inv v0 v1 v2 M ∧ ∀ (v0 : Nat) (v1 : Nat) (v2 : Int) (M : rf_M), inr v2 → Inv v0 v1 v2 M → e_S_isLike_15b v0 v1 v2 M Inv K
theorem E_S_isLike_15 {fz : Bool} {S : gS} {B : rf_M} {M : rf_M} {ls : rf_L} {n0 : Nat} {v0 : Nat} {v1 : Nat} {v2 : Int} {K : Int → rf_M → Prop} (hS : rl S) (hR : fl 22 353 B M) (mv0 : v0 ∈ k4) (mv1 : v1 ∈ k4) (iv2 : inr v2) (a0 : rf_ld ls 0 = some (.ref v0)) (a1 : rf_ld ls 1 = some (.ref v1)) (a2 : rf_ld ls 2 = some (zv v2)) (h : e_S_isLike_15 v0 v1 v2 M K) : lx (cx0 fz) n0 121 15 ls [] (M, S) (vl_i 22 353 B S K) := by
  obtain ⟨Inv, hm, hb⟩ := h
  induction n0 using Nat.strongRecOn generalizing ls M v0 v1 v2 with
  | _ n0 ih =>
    refine E_S_isLike_15b hS hR mv0 mv1 iv2 a0 a1 a2 (fun n' hn' v0' v1' v2' M' ls' hR' f0 f1 f2 f3 f4 f5 q2 => ih n' hn' hR' f0 f1 f2 f3 f4 f5 q2) (hb v0 v1 v2 M iv2 hm)
def e_S_isLike (v0 : Nat) (v1 : Nat) (M : rf_M) (K : Int → rf_M → Prop) : Prop := ((gi M v0 2) = (gi M v1 2) → (e_S_isLike_15 v0 v1 0 M K)) ∧ (¬ ((gi M v0 2) = (gi M v1 2)) → (K 0 M))
theorem E_S_isLike {fz : Bool} {S : gS} {B : rf_M} {M : rf_M} {ls : rf_L} {n0 : Nat} {v0 : Nat} {v1 : Nat} {K : Int → rf_M → Prop} (hS : rl S) (hR : fl 22 353 B M) (mv0 : v0 ∈ k4) (mv1 : v1 ∈ k4) (a0 : rf_ld ls 0 = some (.ref v0)) (a1 : rf_ld ls 1 = some (.ref v1)) (h : e_S_isLike v0 v1 M K) : lx (cx0 fz) n0 121 0 ls [] (M, S) (vl_i 22 353 B S K) := by
  unfold e_S_isLike at h
  refine l1 (n := 1) rfl rfl rfl (la_of a0) ?_
  refine l_gi rfl (ko_4 hS mv0) rfl (fun _ => rfl) ?_
  refine l1 (n := 1) rfl rfl rfl (la_of a1) ?_
  refine l_gi rfl (ko_4 hS mv1) rfl (fun _ => rfl) ?_
  refine l_ic rfl (inr_gi _ _ _) (inr_gi _ _ _) (fun c => ?_) (fun c => ?_)
  · replace h := h.1 c
    refine l1 (n := 1) rfl rfl rfl rfl ?_
    refine l_s1 (n := 1) rfl rfl rfl rfl (fun ls y1 ho => ?_)
    have y2 := ho 0 _ (by decide) (fun q => by cases q.2) a0
    have y3 := ho 1 _ (by decide) (fun q => by cases q.2) a1
    exact E_S_isLike_15 hS hR mv0 mv1 ⟨by decide, by decide⟩ y2 y3 y1 h
  · replace h := h.2 c
    refine l1 (n := 1) rfl rfl rfl rfl ?_
    exact l_rb rfl rfl (Or.inl rfl) hR h
def em_S_isLike (x0 : Nat) (x1 : Nat) (M : rf_M) (K : Int → rf_M → Prop) : Prop := e_S_isLike x0 x1 M K
theorem E_S_isLike_m {fz : Bool} {S : gS} {B : rf_M} {M : rf_M} {n0 : Nat} {x0 : Nat} {x1 : Nat} {K : Int → rf_M → Prop} (hS : rl S) (hR : fl 22 353 B M) (mx0 : x0 ∈ k4) (mx1 : x1 ∈ k4) (h : em_S_isLike x0 x1 M K) : lx (cx0 fz) n0 121 0 (lv_args 0 [.ref x0, .ref x1]) [] (M, S) (vl_i 22 353 B S K) :=
  E_S_isLike hS hR mx0 mx1 rfl rfl h
def e_M_replays_69 (s0 : Int) (M : rf_M) (K : Int → rf_M → Prop) : Prop := K s0 M
theorem E_M_replays_69 {fz : Bool} {S : gS} {B : rf_M} {M : rf_M} {ls : rf_L} {n0 : Nat} {s0 : Int} {K : Int → rf_M → Prop} (hS : rl S) (hR : fl 22 353 B M) (is0 : inr s0) (h : e_M_replays_69 s0 M K) : lx (cx0 fz) n0 118 69 ls [zv s0] (M, S) (vl_i 22 353 B S K) := by
  unfold e_M_replays_69 at h
  exact l_ri rfl rfl is0 hR h
def e_M_replays_68 (M : rf_M) (K : Int → rf_M → Prop) : Prop := e_M_replays_69 0 M K
theorem E_M_replays_68 {fz : Bool} {S : gS} {B : rf_M} {M : rf_M} {ls : rf_L} {n0 : Nat} {K : Int → rf_M → Prop} (hS : rl S) (hR : fl 22 353 B M) (h : e_M_replays_68 M K) : lx (cx0 fz) n0 118 68 ls [] (M, S) (vl_i 22 353 B S K) := by
  unfold e_M_replays_68 at h
  refine l1 (n := 1) rfl rfl rfl rfl ?_
  exact E_M_replays_69 hS hR ⟨by decide, by decide⟩ h
def e_M_replays_8b (v1 : Int) (M : rf_M) (b8 : Int → rf_M → Prop) (K : Int → rf_M → Prop) : Prop := ((gi M 324 0) ≤ v1 → (((gi M 331 2) = 0 → (e_M_replays_68 M K)) ∧ (¬ ((gi M 331 2) = 0) → (em_S_isLike 187 332 M (fun (z1 : Int) (M1 : rf_M) => (z1 = 0 → (e_M_replays_68 M1 K)) ∧ (¬ (z1 = 0) → (e_M_replays_69 1 M1 K))))))) ∧ (¬ ((gi M 324 0) ≤ v1) → (em_Y_redo v1 M (fun (M2 : rf_M) => inr (v1 + 1) ∧ (b8 (v1 + 1) M2))))
theorem E_M_replays_8b {fz : Bool} {S : gS} {B : rf_M} {M : rf_M} {ls : rf_L} {n0 : Nat} {v1 : Int} {b8 : Int → rf_M → Prop} {K : Int → rf_M → Prop} (hS : rl S) (hR : fl 22 353 B M) (iv1 : inr v1) (a0 : rf_ld ls 0 = some (.ref 22)) (a1 : rf_ld ls 1 = some (zv v1)) (hb8 : ∀ n', n' < n0 → ∀ (v1 : Int) (M : rf_M) (ls : rf_L), fl 22 353 B M → inr v1 → rf_ld ls 0 = some (.ref 22) → rf_ld ls 1 = some (zv v1) → b8 v1 M → lx (cx0 fz) n' 118 8 ls [] (M, S) (vl_i 22 353 B S K)) (h : e_M_replays_8b v1 M b8 K) : lx (cx0 fz) n0 118 8 ls [] (M, S) (vl_i 22 353 B S K) := by
  unfold e_M_replays_8b at h
  rcases Nat.eq_zero_or_pos n0 with e0 | hp
  · rw [e0]; exact lx_zero
  refine l1 (n := 1) rfl rfl rfl (li_of a1) ?_
  refine l1 (n := 1) rfl rfl rfl (la_of a0) ?_
  refine l_gr rfl (ko_0 hS (List.Mem.head _)) rfl (fun _ => rfl) (kf_0_8 hR.2 (List.Mem.head _)) ?_
  refine l_gi rfl (ko_9 hS (List.Mem.head _)) rfl (fun _ => rfl) ?_
  refine l_ic rfl iv1 (inr_gi _ _ _) (fun c => ?_) (fun c => ?_)
  · replace h := h.1 c
    refine l1 (n := 1) rfl rfl rfl (la_of a0) ?_
    refine l_gr rfl (ko_0 hS (List.Mem.head _)) rfl (fun _ => rfl) (kf_0_9 hR.2 (List.Mem.head _)) ?_
    refine l_gi rfl (ko_10 hS (List.Mem.head _)) rfl (fun _ => rfl) ?_
    refine l_if rfl (inr_gi _ _ _) (fun c => ?_) (fun c => ?_)
    · replace h := h.1 c
      exact E_M_replays_68 hS hR  h
    · replace h := h.2 c
      refine l1 (n := 1) rfl rfl rfl (la_of a0) ?_
      refine l_gr rfl (ko_0 hS (List.Mem.head _)) rfl (fun _ => rfl) (kf_0_6 hR.2 (List.Mem.head _)) ?_
      refine l1 (n := 1) rfl rfl rfl (la_of a0) ?_
      refine l_gr rfl (ko_0 hS (List.Mem.head _)) rfl (fun _ => rfl) (kf_0_9 hR.2 (List.Mem.head _)) ?_
      refine l_gr rfl (ko_10 hS (List.Mem.head _)) rfl (fun _ => rfl) (kf_10_0 hR.2 (List.Mem.head _)) ?_
      refine b_iv (c := 187) (as := [.ref 332]) (rest := []) rfl (by decide) (ko_4 hS (List.Mem.head _)) rfl rfl (Nat.le_of_ble_eq_true rfl) (fun hq => ?_)
      refine lx_mono (E_S_isLike_m hS hR (List.Mem.head _) (by decide) h) ?_
      rintro _ _ ⟨z1, M1, rfl, rfl, r1, iz1, h⟩
      refine l_if rfl iz1 (fun c => ?_) (fun c => ?_)
      · replace h := h.1 c
        exact E_M_replays_68 hS r1  h
      · replace h := h.2 c
        refine l1 (n := 1) rfl rfl rfl rfl ?_
        refine l3 rfl rfl rfl ?_
        exact E_M_replays_69 hS r1 ⟨by decide, by decide⟩ h
  · replace h := h.2 c
    refine l1 (n := 1) rfl rfl rfl (la_of a0) ?_
    refine l_gr rfl (ko_0 hS (List.Mem.head _)) rfl (fun _ => rfl) (kf_0_9 hR.2 (List.Mem.head _)) ?_
    refine l1 (n := 1) rfl rfl rfl (la_of a0) ?_
    refine l_gr rfl (ko_0 hS (List.Mem.head _)) rfl (fun _ => rfl) (kf_0_8 hR.2 (List.Mem.head _)) ?_
    refine l1 (n := 1) rfl rfl rfl (li_of a1) ?_
    refine b_iv (c := 331) (as := [.ref 324, zv v1]) (rest := []) rfl (by decide) (ko_10 hS (List.Mem.head _)) rfl rfl (Nat.le_of_ble_eq_true rfl) (fun hq => ?_)
    refine lx_mono (E_Y_redo_m hS hR iv1 h) ?_
    rintro _ _ ⟨M2, rfl, rfl, r2, h⟩
    refine l_ii rfl a1 (Nat.le_of_ble_eq_true rfl) (fun ls y1 ho => ?_)
    have y2 := ho 0 _ (by decide) (fun q => by cases q.2) a0
    refine l3 rfl rfl rfl ?_
    obtain ⟨i1, h⟩ := h
    exact hb8 _ (by omega) _ _ _ r2 i1 y2 y1 h
def e_M_replays_8 (v1 : Int) (M : rf_M) (K : Int → rf_M → Prop) : Prop := ∃ Inv : Int → rf_M → Prop, Inv v1 M ∧ ∀ (v1 : Int) (M : rf_M), inr v1 → Inv v1 M → e_M_replays_8b v1 M Inv K
theorem E_M_replays_8 {fz : Bool} {S : gS} {B : rf_M} {M : rf_M} {ls : rf_L} {n0 : Nat} {v1 : Int} {K : Int → rf_M → Prop} (hS : rl S) (hR : fl 22 353 B M) (iv1 : inr v1) (a0 : rf_ld ls 0 = some (.ref 22)) (a1 : rf_ld ls 1 = some (zv v1)) (h : e_M_replays_8 v1 M K) : lx (cx0 fz) n0 118 8 ls [] (M, S) (vl_i 22 353 B S K) := by
  obtain ⟨Inv, hm, hb⟩ := h
  induction n0 using Nat.strongRecOn generalizing ls M v1 with
  | _ n0 ih =>
    refine E_M_replays_8b hS hR iv1 a0 a1 (fun n' hn' v1' M' ls' hR' f0 f1 f2 q2 => ih n' hn' hR' f0 f1 f2 q2) (hb v1 M iv1 hm)
def e_M_replays (M : rf_M) (K : Int → rf_M → Prop) : Prop := e_M_replays_8 (gi M 331 1) M K
theorem E_M_replays {fz : Bool} {S : gS} {B : rf_M} {M : rf_M} {ls : rf_L} {n0 : Nat} {K : Int → rf_M → Prop} (hS : rl S) (hR : fl 22 353 B M) (a0 : rf_ld ls 0 = some (.ref 22)) (h : e_M_replays M K) : lx (cx0 fz) n0 118 0 ls [] (M, S) (vl_i 22 353 B S K) := by
  unfold e_M_replays at h
  refine l1 (n := 1) rfl rfl rfl (la_of a0) ?_
  refine l_gr rfl (ko_0 hS (List.Mem.head _)) rfl (fun _ => rfl) (kf_0_9 hR.2 (List.Mem.head _)) ?_
  refine l_gi rfl (ko_10 hS (List.Mem.head _)) rfl (fun _ => rfl) ?_
  refine l_s1 (n := 1) rfl rfl rfl rfl (fun ls y1 ho => ?_)
  have y2 := ho 0 _ (by decide) (fun q => by cases q.2) a0
  exact E_M_replays_8 hS hR (inr_gi _ _ _) y2 y1 h
def em_M_replays (M : rf_M) (K : Int → rf_M → Prop) : Prop := e_M_replays  M K
theorem E_M_replays_m {fz : Bool} {S : gS} {B : rf_M} {M : rf_M} {n0 : Nat} {K : Int → rf_M → Prop} (hS : rl S) (hR : fl 22 353 B M) (h : em_M_replays  M K) : lx (cx0 fz) n0 118 0 (lv_args 0 [.ref 22]) [] (M, S) (vl_i 22 353 B S K) :=
  E_M_replays hS hR rfl h
def e_F_fillJ16_6b (v0 : Nat) (v1 : Int64) (v3 : Int) (v4 : Int) (M : rf_M) (b6 : Nat → Int64 → Int → Int → rf_M → Prop) (K : rf_M → Prop) : Prop := (v4 ≤ v3 → (K M)) ∧ (¬ (v4 ≤ v3) → ((0 ≤ v3 ∧ v3 < 16 → (∀ M1 : rf_M, M1 = wl M v0 (v3).toNat v1 → (inr (v3 + 1) ∧ (b6 v0 v1 (v3 + 1) v4 M1))))))
theorem E_F_fillJ16_6b {fz : Bool} {S : gS} {B : rf_M} {M : rf_M} {ls : rf_L} {n0 : Nat} {v0 : Nat} {v1 : Int64} {v3 : Int} {v4 : Int} {b6 : Nat → Int64 → Int → Int → rf_M → Prop} {K : rf_M → Prop} (hS : rl S) (hR : fl 22 353 B M) (mv0 : pa fz S v0 .long 16) (iv3 : inr v3) (iv4 : inr v4) (a0 : rf_ld ls 0 = some (.ref v0)) (a1 : rf_ld ls 1 = some (.long v1)) (a3 : rf_ld ls 3 = some (zv v3)) (a4 : rf_ld ls 4 = some (zv v4)) (hb6 : ∀ n', n' < n0 → ∀ (v0 : Nat) (v1 : Int64) (v3 : Int) (v4 : Int) (M : rf_M) (ls : rf_L), fl 22 353 B M → pa fz S v0 .long 16 → inr v3 → inr v4 → rf_ld ls 0 = some (.ref v0) → rf_ld ls 1 = some (.long v1) → rf_ld ls 3 = some (zv v3) → rf_ld ls 4 = some (zv v4) → b6 v0 v1 v3 v4 M → lx (cx0 fz) n' 89 6 ls [] (M, S) (vl_v 22 353 B S K)) (h : e_F_fillJ16_6b v0 v1 v3 v4 M b6 K) : lx (cx0 fz) n0 89 6 ls [] (M, S) (vl_v 22 353 B S K) := by
  unfold e_F_fillJ16_6b at h
  rcases Nat.eq_zero_or_pos n0 with e0 | hp
  · rw [e0]; exact lx_zero
  refine l1 (n := 1) rfl rfl rfl (li_of a3) ?_
  refine l1 (n := 2) rfl rfl rfl (li_of a4) ?_
  refine l_ic rfl iv3 iv4 (fun c => ?_) (fun c => ?_)
  · replace h := h.1 c
    exact l_rv rfl rfl hR h
  · replace h := h.2 c
    refine l1 (n := 1) rfl rfl rfl (la_of a0) ?_
    refine l1 (n := 1) rfl rfl rfl (li_of a3) ?_
    refine l1 (n := 1) rfl rfl rfl (ll_of a1) ?_
    refine b_ls rfl mv0.1 (Nat.le_of_ble_eq_true rfl) iv3 (fun q M1 e => ?_)
    replace h := h q M1 e
    have r1 := hR.wl mv0.1.1 mv0.2 e
    refine l_ii rfl a3 (Nat.le_of_ble_eq_true rfl) (fun ls y1 ho => ?_)
    have y2 := ho 0 _ (by decide) (fun q => by cases q.2) a0
    have y3 := ho 1 _ (by decide) (fun q => absurd q.1 (by decide)) a1
    have y4 := ho 4 _ (by decide) (fun q => by cases q.2) a4
    refine l3 rfl rfl rfl ?_
    obtain ⟨i1, h⟩ := h
    exact hb6 _ (by omega) _ _ _ _ _ _ r1 mv0 i1 iv4 y2 y3 y1 y4 h
def e_F_fillJ16_6 (v0 : Nat) (v1 : Int64) (v3 : Int) (v4 : Int) (M : rf_M) (K : rf_M → Prop) : Prop := ∃ Inv : Nat → Int64 → Int → Int → rf_M → Prop, Inv v0 v1 v3 v4 M ∧ ∀ (v0 : Nat) (v1 : Int64) (v3 : Int) (v4 : Int) (M : rf_M), inr v3 → inr v4 → Inv v0 v1 v3 v4 M → e_F_fillJ16_6b v0 v1 v3 v4 M Inv K
theorem E_F_fillJ16_6 {fz : Bool} {S : gS} {B : rf_M} {M : rf_M} {ls : rf_L} {n0 : Nat} {v0 : Nat} {v1 : Int64} {v3 : Int} {v4 : Int} {K : rf_M → Prop} (hS : rl S) (hR : fl 22 353 B M) (mv0 : pa fz S v0 .long 16) (iv3 : inr v3) (iv4 : inr v4) (a0 : rf_ld ls 0 = some (.ref v0)) (a1 : rf_ld ls 1 = some (.long v1)) (a3 : rf_ld ls 3 = some (zv v3)) (a4 : rf_ld ls 4 = some (zv v4)) (h : e_F_fillJ16_6 v0 v1 v3 v4 M K) : lx (cx0 fz) n0 89 6 ls [] (M, S) (vl_v 22 353 B S K) := by
  obtain ⟨Inv, hm, hb⟩ := h
  induction n0 using Nat.strongRecOn generalizing ls M v0 v1 v3 v4 with
  | _ n0 ih =>
    refine E_F_fillJ16_6b hS hR mv0 iv3 iv4 a0 a1 a3 a4 (fun n' hn' v0' v1' v3' v4' M' ls' hR' f0 f1 f2 f3 f4 f5 f6 q2 => ih n' hn' hR' f0 f1 f2 f3 f4 f5 f6 q2) (hb v0 v1 v3 v4 M iv3 iv4 hm)
def e_F_fillJ16 (v0 : Nat) (v1 : Int64) (M : rf_M) (K : rf_M → Prop) : Prop := e_F_fillJ16_6 v0 v1 0 16 M K
theorem E_F_fillJ16 {fz : Bool} {S : gS} {B : rf_M} {M : rf_M} {ls : rf_L} {n0 : Nat} {v0 : Nat} {v1 : Int64} {K : rf_M → Prop} (hS : rl S) (hR : fl 22 353 B M) (mv0 : pa fz S v0 .long 16) (a0 : rf_ld ls 0 = some (.ref v0)) (a1 : rf_ld ls 1 = some (.long v1)) (h : e_F_fillJ16 v0 v1 M K) : lx (cx0 fz) n0 89 0 ls [] (M, S) (vl_v 22 353 B S K) := by
  unfold e_F_fillJ16 at h
  refine l1 (n := 1) rfl rfl rfl rfl ?_
  refine l_s1 (n := 1) rfl rfl rfl rfl (fun ls y1 ho => ?_)
  have y2 := ho 0 _ (by decide) (fun q => by cases q.2) a0
  have y3 := ho 1 _ (by decide) (fun q => absurd q.1 (by decide)) a1
  refine l1 (n := 1) rfl rfl rfl (la_of y2) ?_
  refine l_al (z := 16) rfl mv0.1 rfl ?_
  refine l_s1 (n := 2) rfl rfl rfl rfl (fun ls y4 ho => ?_)
  have y5 := ho 0 _ (by decide) (fun q => by cases q.2) y2
  have y6 := ho 1 _ (by decide) (fun q => absurd q.1 (by decide)) y3
  have y7 := ho 3 _ (by decide) (fun q => by cases q.2) y1
  exact E_F_fillJ16_6 hS hR mv0 ⟨by decide, by decide⟩ ⟨by decide, by decide⟩ y5 y6 y7 y4 h
def em_F_fillJ16 (x0 : Nat) (x1 : Int64) (M : rf_M) (K : rf_M → Prop) : Prop := e_F_fillJ16 x0 x1 M K
theorem E_F_fillJ16_m {fz : Bool} {S : gS} {B : rf_M} {M : rf_M} {n0 : Nat} {x0 : Nat} {x1 : Int64} {K : rf_M → Prop} (hS : rl S) (hR : fl 22 353 B M) (mx0 : pa fz S x0 .long 16) (h : em_F_fillJ16 x0 x1 M K) : lx (cx0 fz) n0 89 0 (lv_args 0 [.ref x0, .long x1]) [] (M, S) (vl_v 22 353 B S K) :=
  E_F_fillJ16 hS hR mx0 rfl rfl h
def e_F_fillI16_5b (v0 : Nat) (v1 : Int) (v2 : Int) (v3 : Int) (M : rf_M) (b5 : Nat → Int → Int → Int → rf_M → Prop) (K : rf_M → Prop) : Prop := (v3 ≤ v2 → (K M)) ∧ (¬ (v3 ≤ v2) → ((0 ≤ v2 ∧ v2 < 16 → (∀ M1 : rf_M, M1 = wi M v0 (v2).toNat v1 → (inr (v2 + 1) ∧ (b5 v0 v1 (v2 + 1) v3 M1))))))
theorem E_F_fillI16_5b {fz : Bool} {S : gS} {B : rf_M} {M : rf_M} {ls : rf_L} {n0 : Nat} {v0 : Nat} {v1 : Int} {v2 : Int} {v3 : Int} {b5 : Nat → Int → Int → Int → rf_M → Prop} {K : rf_M → Prop} (hS : rl S) (hR : fl 22 353 B M) (mv0 : pa fz S v0 .int 16) (iv1 : inr v1) (iv2 : inr v2) (iv3 : inr v3) (a0 : rf_ld ls 0 = some (.ref v0)) (a1 : rf_ld ls 1 = some (zv v1)) (a2 : rf_ld ls 2 = some (zv v2)) (a3 : rf_ld ls 3 = some (zv v3)) (hb5 : ∀ n', n' < n0 → ∀ (v0 : Nat) (v1 : Int) (v2 : Int) (v3 : Int) (M : rf_M) (ls : rf_L), fl 22 353 B M → pa fz S v0 .int 16 → inr v1 → inr v2 → inr v3 → rf_ld ls 0 = some (.ref v0) → rf_ld ls 1 = some (zv v1) → rf_ld ls 2 = some (zv v2) → rf_ld ls 3 = some (zv v3) → b5 v0 v1 v2 v3 M → lx (cx0 fz) n' 124 5 ls [] (M, S) (vl_v 22 353 B S K)) (h : e_F_fillI16_5b v0 v1 v2 v3 M b5 K) : lx (cx0 fz) n0 124 5 ls [] (M, S) (vl_v 22 353 B S K) := by
  unfold e_F_fillI16_5b at h
  rcases Nat.eq_zero_or_pos n0 with e0 | hp
  · rw [e0]; exact lx_zero
  refine l1 (n := 1) rfl rfl rfl (li_of a2) ?_
  refine l1 (n := 1) rfl rfl rfl (li_of a3) ?_
  refine l_ic rfl iv2 iv3 (fun c => ?_) (fun c => ?_)
  · replace h := h.1 c
    exact l_rv rfl rfl hR h
  · replace h := h.2 c
    refine l1 (n := 1) rfl rfl rfl (la_of a0) ?_
    refine l1 (n := 1) rfl rfl rfl (li_of a2) ?_
    refine l1 (n := 1) rfl rfl rfl (li_of a1) ?_
    refine b_is rfl mv0.1 (Nat.le_of_ble_eq_true rfl) iv2 (fun q M1 e => ?_)
    replace h := h q M1 e
    have r1 := hR.wi mv0.1.1 mv0.2 e
    refine l_ii rfl a2 (Nat.le_of_ble_eq_true rfl) (fun ls y1 ho => ?_)
    have y2 := ho 0 _ (by decide) (fun q => by cases q.2) a0
    have y3 := ho 1 _ (by decide) (fun q => by cases q.2) a1
    have y4 := ho 3 _ (by decide) (fun q => by cases q.2) a3
    refine l3 rfl rfl rfl ?_
    obtain ⟨i1, h⟩ := h
    exact hb5 _ (by omega) _ _ _ _ _ _ r1 mv0 iv1 i1 iv3 y2 y3 y1 y4 h
def e_F_fillI16_5 (v0 : Nat) (v1 : Int) (v2 : Int) (v3 : Int) (M : rf_M) (K : rf_M → Prop) : Prop := ∃ Inv : Nat → Int → Int → Int → rf_M → Prop, Inv v0 v1 v2 v3 M ∧ ∀ (v0 : Nat) (v1 : Int) (v2 : Int) (v3 : Int) (M : rf_M), inr v1 → inr v2 → inr v3 → Inv v0 v1 v2 v3 M → e_F_fillI16_5b v0 v1 v2 v3 M Inv K
theorem E_F_fillI16_5 {fz : Bool} {S : gS} {B : rf_M} {M : rf_M} {ls : rf_L} {n0 : Nat} {v0 : Nat} {v1 : Int} {v2 : Int} {v3 : Int} {K : rf_M → Prop} (hS : rl S) (hR : fl 22 353 B M) (mv0 : pa fz S v0 .int 16) (iv1 : inr v1) (iv2 : inr v2) (iv3 : inr v3) (a0 : rf_ld ls 0 = some (.ref v0)) (a1 : rf_ld ls 1 = some (zv v1)) (a2 : rf_ld ls 2 = some (zv v2)) (a3 : rf_ld ls 3 = some (zv v3)) (h : e_F_fillI16_5 v0 v1 v2 v3 M K) : lx (cx0 fz) n0 124 5 ls [] (M, S) (vl_v 22 353 B S K) := by
  obtain ⟨Inv, hm, hb⟩ := h
  induction n0 using Nat.strongRecOn generalizing ls M v0 v1 v2 v3 with
  | _ n0 ih =>
    refine E_F_fillI16_5b hS hR mv0 iv1 iv2 iv3 a0 a1 a2 a3 (fun n' hn' v0' v1' v2' v3' M' ls' hR' f0 f1 f2 f3 f4 f5 f6 f7 q2 => ih n' hn' hR' f0 f1 f2 f3 f4 f5 f6 f7 q2) (hb v0 v1 v2 v3 M iv1 iv2 iv3 hm)
def e_F_fillI16 (v0 : Nat) (v1 : Int) (M : rf_M) (K : rf_M → Prop) : Prop := e_F_fillI16_5 v0 v1 0 16 M K
theorem E_F_fillI16 {fz : Bool} {S : gS} {B : rf_M} {M : rf_M} {ls : rf_L} {n0 : Nat} {v0 : Nat} {v1 : Int} {K : rf_M → Prop} (hS : rl S) (hR : fl 22 353 B M) (mv0 : pa fz S v0 .int 16) (iv1 : inr v1) (a0 : rf_ld ls 0 = some (.ref v0)) (a1 : rf_ld ls 1 = some (zv v1)) (h : e_F_fillI16 v0 v1 M K) : lx (cx0 fz) n0 124 0 ls [] (M, S) (vl_v 22 353 B S K) := by
  unfold e_F_fillI16 at h
  refine l1 (n := 1) rfl rfl rfl rfl ?_
  refine l_s1 (n := 1) rfl rfl rfl rfl (fun ls y1 ho => ?_)
  have y2 := ho 0 _ (by decide) (fun q => by cases q.2) a0
  have y3 := ho 1 _ (by decide) (fun q => by cases q.2) a1
  refine l1 (n := 1) rfl rfl rfl (la_of y2) ?_
  refine l_al (z := 16) rfl mv0.1 rfl ?_
  refine l_s1 (n := 1) rfl rfl rfl rfl (fun ls y4 ho => ?_)
  have y5 := ho 0 _ (by decide) (fun q => by cases q.2) y2
  have y6 := ho 1 _ (by decide) (fun q => by cases q.2) y3
  have y7 := ho 2 _ (by decide) (fun q => by cases q.2) y1
  exact E_F_fillI16_5 hS hR mv0 iv1 ⟨by decide, by decide⟩ ⟨by decide, by decide⟩ y5 y6 y7 y4 h
def em_F_fillI16 (x0 : Nat) (x1 : Int) (M : rf_M) (K : rf_M → Prop) : Prop := e_F_fillI16 x0 x1 M K
theorem E_F_fillI16_m {fz : Bool} {S : gS} {B : rf_M} {M : rf_M} {n0 : Nat} {x0 : Nat} {x1 : Int} {K : rf_M → Prop} (hS : rl S) (hR : fl 22 353 B M) (mx0 : pa fz S x0 .int 16) (ix1 : inr x1) (h : em_F_fillI16 x0 x1 M K) : lx (cx0 fz) n0 124 0 (lv_args 0 [.ref x0, zv x1]) [] (M, S) (vl_v 22 353 B S K) :=
  E_F_fillI16 hS hR mx0 ix1 rfl rfl h
def e_S_reset (v0 : Nat) (M : rf_M) (K : rf_M → Prop) : Prop := em_F_fillJ16 (v0 + 1) (Int64.ofNat 0) M (fun (M1 : rf_M) => em_F_fillI16 (v0 + 2) 0 M1 (fun (M2 : rf_M) => ∀ M3 : rf_M, M3 = wi M2 v0 2 0 → (K M3)))
theorem E_S_reset {fz : Bool} {S : gS} {B : rf_M} {M : rf_M} {ls : rf_L} {n0 : Nat} {v0 : Nat} {K : rf_M → Prop} (hS : rl S) (hR : fl 22 353 B M) (mv0 : v0 ∈ k4) (a0 : rf_ld ls 0 = some (.ref v0)) (h : e_S_reset v0 M K) : lx (cx0 fz) n0 123 0 ls [] (M, S) (vl_v 22 353 B S K) := by
  unfold e_S_reset at h
  refine l1 (n := 1) rfl rfl rfl (la_of a0) ?_
  refine l_gr rfl (ko_4 hS mv0) rfl (fun _ => rfl) (kf_4_0 hR.2 mv0) ?_
  refine l1 (n := 1) rfl rfl rfl rfl ?_
  refine b_st (as := [.ref (v0 + 1), .long (Int64.ofNat 0)]) (rest := []) rfl (by decide) rfl (Nat.le_of_ble_eq_true rfl) (fun hq => ?_)
  refine lx_mono (E_F_fillJ16_m hS hR (kt_4_0 (fz := fz) hS mv0) h) ?_
  rintro _ _ ⟨M1, rfl, rfl, r1, h⟩
  refine l1 (n := 1) rfl rfl rfl (la_of a0) ?_
  refine l_gr rfl (ko_4 hS mv0) rfl (fun _ => rfl) (kf_4_1 r1.2 mv0) ?_
  refine l1 (n := 1) rfl rfl rfl rfl ?_
  refine b_st (as := [.ref (v0 + 2), zv 0]) (rest := []) rfl (by decide) rfl (Nat.le_of_ble_eq_true rfl) (fun hq => ?_)
  refine lx_mono (E_F_fillI16_m hS r1 (kt_4_1 (fz := fz) hS mv0) ⟨by decide, by decide⟩ h) ?_
  rintro _ _ ⟨M2, rfl, rfl, r2, h⟩
  refine l1 (n := 1) rfl rfl rfl (la_of a0) ?_
  refine l1 (n := 1) rfl rfl rfl rfl ?_
  refine l_pi rfl (ko_4 (fz := fz) hS mv0) rfl (fun _ _ => rfl) (fun M3 e => ?_)
  replace h := h M3 e
  have r3 := r2.wi (ko_4 (fz := fz) hS mv0).1 (kl_4 mv0) e
  exact l_rv rfl rfl r3 h
def em_S_reset (x0 : Nat) (M : rf_M) (K : rf_M → Prop) : Prop := e_S_reset x0 M K
theorem E_S_reset_m {fz : Bool} {S : gS} {B : rf_M} {M : rf_M} {n0 : Nat} {x0 : Nat} {K : rf_M → Prop} (hS : rl S) (hR : fl 22 353 B M) (mx0 : x0 ∈ k4) (h : em_S_reset x0 M K) : lx (cx0 fz) n0 123 0 (lv_args 0 [.ref x0]) [] (M, S) (vl_v 22 353 B S K) :=
  E_S_reset hS hR mx0 rfl h
def e_Y_reset (M : rf_M) (K : rf_M → Prop) : Prop := em_S_reset 332 M (fun (M1 : rf_M) => ∀ M2 : rf_M, M2 = wi M1 331 1 0 → (∀ M3 : rf_M, M3 = wi M2 331 2 1 → (K M3)))
theorem E_Y_reset {fz : Bool} {S : gS} {B : rf_M} {M : rf_M} {ls : rf_L} {n0 : Nat} {K : rf_M → Prop} (hS : rl S) (hR : fl 22 353 B M) (a0 : rf_ld ls 0 = some (.ref 331)) (h : e_Y_reset M K) : lx (cx0 fz) n0 125 0 ls [] (M, S) (vl_v 22 353 B S K) := by
  unfold e_Y_reset at h
  refine l1 (n := 1) rfl rfl rfl (la_of a0) ?_
  refine l_gr rfl (ko_10 hS (List.Mem.head _)) rfl (fun _ => rfl) (kf_10_0 hR.2 (List.Mem.head _)) ?_
  refine b_iv (c := 332) (as := []) (rest := []) rfl (by decide) (ko_4 hS (by decide)) rfl rfl (Nat.le_of_ble_eq_true rfl) (fun hq => ?_)
  refine lx_mono (E_S_reset_m hS hR (by decide) h) ?_
  rintro _ _ ⟨M1, rfl, rfl, r1, h⟩
  refine l1 (n := 1) rfl rfl rfl (la_of a0) ?_
  refine l1 (n := 1) rfl rfl rfl rfl ?_
  refine l_pi rfl (ko_10 (fz := fz) hS (List.Mem.head _)) rfl (fun _ _ => rfl) (fun M2 e => ?_)
  replace h := h M2 e
  have r2 := r1.wi (ko_10 (fz := fz) hS (List.Mem.head _)).1 (kl_10 (List.Mem.head _)) e
  refine l1 (n := 1) rfl rfl rfl (la_of a0) ?_
  refine l1 (n := 1) rfl rfl rfl rfl ?_
  refine l_pb rfl (ko_10 (fz := fz) hS (List.Mem.head _)) rfl rfl (Or.inr rfl) (fun M3 e => ?_)
  replace h := h M3 e
  have r3 := r2.wi (ko_10 (fz := fz) hS (List.Mem.head _)).1 (kl_10 (List.Mem.head _)) e
  exact l_rv rfl rfl r3 h
def em_Y_reset (M : rf_M) (K : rf_M → Prop) : Prop := e_Y_reset  M K
theorem E_Y_reset_m {fz : Bool} {S : gS} {B : rf_M} {M : rf_M} {n0 : Nat} {K : rf_M → Prop} (hS : rl S) (hR : fl 22 353 B M) (h : em_Y_reset  M K) : lx (cx0 fz) n0 125 0 (lv_args 0 [.ref 331]) [] (M, S) (vl_v 22 353 B S K) :=
  E_Y_reset hS hR rfl h
def e_C_reset (v0 : Nat) (M : rf_M) (K : rf_M → Prop) : Prop := ∀ M1 : rf_M, M1 = wi M v0 0 0 → (∀ M2 : rf_M, M2 = wi M1 v0 5 0 → (em_C_forgetCuts v0 M2 (fun (M3 : rf_M) => K M3)))
theorem E_C_reset {fz : Bool} {S : gS} {B : rf_M} {M : rf_M} {ls : rf_L} {n0 : Nat} {v0 : Nat} {K : rf_M → Prop} (hS : rl S) (hR : fl 22 353 B M) (mv0 : v0 ∈ k6) (a0 : rf_ld ls 0 = some (.ref v0)) (h : e_C_reset v0 M K) : lx (cx0 fz) n0 126 0 ls [] (M, S) (vl_v 22 353 B S K) := by
  unfold e_C_reset at h
  refine l1 (n := 1) rfl rfl rfl (la_of a0) ?_
  refine l1 (n := 1) rfl rfl rfl rfl ?_
  refine l_pi rfl (ko_6 (fz := fz) hS mv0) rfl (fun _ _ => rfl) (fun M1 e => ?_)
  replace h := h M1 e
  have r1 := hR.wi (ko_6 (fz := fz) hS mv0).1 (kl_6 mv0) e
  refine l1 (n := 1) rfl rfl rfl (la_of a0) ?_
  refine l1 (n := 1) rfl rfl rfl rfl ?_
  refine l_pi rfl (ko_6 (fz := fz) hS mv0) rfl (fun _ _ => rfl) (fun M2 e => ?_)
  replace h := h M2 e
  have r2 := r1.wi (ko_6 (fz := fz) hS mv0).1 (kl_6 mv0) e
  refine l1 (n := 1) rfl rfl rfl (la_of a0) ?_
  refine b_iv (c := v0) (as := []) (rest := []) rfl (by decide) (ko_6 hS mv0) rfl rfl (Nat.le_of_ble_eq_true rfl) (fun hq => ?_)
  refine lx_mono (E_C_forgetCuts_m hS r2 mv0 h) ?_
  rintro _ _ ⟨M3, rfl, rfl, r3, h⟩
  exact l_rv rfl rfl r3 h
def em_C_reset (x0 : Nat) (M : rf_M) (K : rf_M → Prop) : Prop := e_C_reset x0 M K
theorem E_C_reset_m {fz : Bool} {S : gS} {B : rf_M} {M : rf_M} {n0 : Nat} {x0 : Nat} {K : rf_M → Prop} (hS : rl S) (hR : fl 22 353 B M) (mx0 : x0 ∈ k6) (h : em_C_reset x0 M K) : lx (cx0 fz) n0 126 0 (lv_args 0 [.ref x0]) [] (M, S) (vl_v 22 353 B S K) :=
  E_C_reset hS hR mx0 rfl h
def e_M_clear_32b (v1 : Int) (v2 : Int) (M : rf_M) (b32 : Int → Int → rf_M → Prop) (K : Int → rf_M → Prop) : Prop := (8 ≤ v2 → (∀ M1 : rf_M, M1 = wi M 22 4 (-1) → (K v1 M1))) ∧ (¬ (8 ≤ v2) → ((0 ≤ v2 ∧ v2 < 8 → (em_C_reset (clA v2) M (fun (M2 : rf_M) => inr (v2 + 1) ∧ (b32 v1 (v2 + 1) M2))))))
theorem E_M_clear_32b {fz : Bool} {S : gS} {B : rf_M} {M : rf_M} {ls : rf_L} {n0 : Nat} {v1 : Int} {v2 : Int} {b32 : Int → Int → rf_M → Prop} {K : Int → rf_M → Prop} (hS : rl S) (hR : fl 22 353 B M) (iv1 : inr v1) (iv2 : inr v2) (a0 : rf_ld ls 0 = some (.ref 22)) (a1 : rf_ld ls 1 = some (zv v1)) (a2 : rf_ld ls 2 = some (zv v2)) (hb32 : ∀ n', n' < n0 → ∀ (v1 : Int) (v2 : Int) (M : rf_M) (ls : rf_L), fl 22 353 B M → inr v1 → inr v2 → rf_ld ls 0 = some (.ref 22) → rf_ld ls 1 = some (zv v1) → rf_ld ls 2 = some (zv v2) → b32 v1 v2 M → lx (cx0 fz) n' 122 32 ls [] (M, S) (vl_i 22 353 B S K)) (h : e_M_clear_32b v1 v2 M b32 K) : lx (cx0 fz) n0 122 32 ls [] (M, S) (vl_i 22 353 B S K) := by
  unfold e_M_clear_32b at h
  rcases Nat.eq_zero_or_pos n0 with e0 | hp
  · rw [e0]; exact lx_zero
  refine l1 (n := 1) rfl rfl rfl (li_of a2) ?_
  refine l_bi rfl (by decide) ?_
  refine l_ic rfl iv2 ⟨by decide, by decide⟩ (fun c => ?_) (fun c => ?_)
  · replace h := h.1 c
    refine l1 (n := 1) rfl rfl rfl (la_of a0) ?_
    refine l1 (n := 1) rfl rfl rfl rfl ?_
    refine l_pi rfl (ko_0 (fz := fz) hS (List.Mem.head _)) rfl (fun _ _ => rfl) (fun M1 e => ?_)
    replace h := h M1 e
    have r1 := hR.wi (ko_0 (fz := fz) hS (List.Mem.head _)).1 (kl_0 (List.Mem.head _)) e
    refine l1 (n := 1) rfl rfl rfl (li_of a1) ?_
    exact l_ri rfl rfl iv1 r1 h
  · replace h := h.2 c
    refine l1 (n := 1) rfl rfl rfl (la_of a0) ?_
    refine l_gr rfl (ko_0 hS (List.Mem.head _)) rfl (fun _ => rfl) (kf_0_7 hR.2 (List.Mem.head _)) ?_
    refine l1 (n := 1) rfl rfl rfl (li_of a2) ?_
    refine b_aa rfl (kc_195 (fz := fz) hS).1 (Nat.le_of_ble_eq_true rfl) iv2 (fun q1 => ⟨clA_ref hR.2 q1, ?_⟩)
    replace h := h q1
    refine b_iv (c := (clA v2)) (as := []) (rest := []) rfl (by decide) (ko_6 hS (clA_mem q1)) rfl rfl (Nat.le_of_ble_eq_true rfl) (fun hq => ?_)
    refine lx_mono (E_C_reset_m hS hR (clA_mem q1) h) ?_
    rintro _ _ ⟨M2, rfl, rfl, r2, h⟩
    refine l_ii rfl a2 (Nat.le_of_ble_eq_true rfl) (fun ls y1 ho => ?_)
    have y2 := ho 0 _ (by decide) (fun q => by cases q.2) a0
    have y3 := ho 1 _ (by decide) (fun q => by cases q.2) a1
    refine l3 rfl rfl rfl ?_
    obtain ⟨i1, h⟩ := h
    exact hb32 _ (by omega) _ _ _ _ r2 iv1 i1 y2 y3 y1 h
def e_M_clear_32 (v1 : Int) (v2 : Int) (M : rf_M) (K : Int → rf_M → Prop) : Prop := ∃ Inv : Int → Int → rf_M → Prop, Inv v1 v2 M ∧ ∀ (v1 : Int) (v2 : Int) (M : rf_M), inr v1 → inr v2 → Inv v1 v2 M → e_M_clear_32b v1 v2 M Inv K
theorem E_M_clear_32 {fz : Bool} {S : gS} {B : rf_M} {M : rf_M} {ls : rf_L} {n0 : Nat} {v1 : Int} {v2 : Int} {K : Int → rf_M → Prop} (hS : rl S) (hR : fl 22 353 B M) (iv1 : inr v1) (iv2 : inr v2) (a0 : rf_ld ls 0 = some (.ref 22)) (a1 : rf_ld ls 1 = some (zv v1)) (a2 : rf_ld ls 2 = some (zv v2)) (h : e_M_clear_32 v1 v2 M K) : lx (cx0 fz) n0 122 32 ls [] (M, S) (vl_i 22 353 B S K) := by
  obtain ⟨Inv, hm, hb⟩ := h
  induction n0 using Nat.strongRecOn generalizing ls M v1 v2 with
  | _ n0 ih =>
    refine E_M_clear_32b hS hR iv1 iv2 a0 a1 a2 (fun n' hn' v1' v2' M' ls' hR' f0 f1 f2 f3 f4 q2 => ih n' hn' hR' f0 f1 f2 f3 f4 q2) (hb v1 v2 M iv1 iv2 hm)
def e_M_clear (M : rf_M) (K : Int → rf_M → Prop) : Prop := ∀ M1 : rf_M, M1 = wi M 324 0 0 → (em_S_reset 187 M1 (fun (M2 : rf_M) => em_Y_reset  M2 (fun (M3 : rf_M) => e_M_clear_32 (gi M 324 0) 0 M3 K)))
theorem E_M_clear {fz : Bool} {S : gS} {B : rf_M} {M : rf_M} {ls : rf_L} {n0 : Nat} {K : Int → rf_M → Prop} (hS : rl S) (hR : fl 22 353 B M) (a0 : rf_ld ls 0 = some (.ref 22)) (h : e_M_clear M K) : lx (cx0 fz) n0 122 0 ls [] (M, S) (vl_i 22 353 B S K) := by
  unfold e_M_clear at h
  refine l1 (n := 1) rfl rfl rfl (la_of a0) ?_
  refine l_gr rfl (ko_0 hS (List.Mem.head _)) rfl (fun _ => rfl) (kf_0_8 hR.2 (List.Mem.head _)) ?_
  refine l_gi rfl (ko_9 hS (List.Mem.head _)) rfl (fun _ => rfl) ?_
  refine l_s1 (n := 1) rfl rfl rfl rfl (fun ls y1 ho => ?_)
  have y2 := ho 0 _ (by decide) (fun q => by cases q.2) a0
  refine l1 (n := 1) rfl rfl rfl (la_of y2) ?_
  refine l_gr rfl (ko_0 hS (List.Mem.head _)) rfl (fun _ => rfl) (kf_0_8 hR.2 (List.Mem.head _)) ?_
  refine l1 (n := 1) rfl rfl rfl rfl ?_
  refine l_pi rfl (ko_9 (fz := fz) hS (List.Mem.head _)) rfl (fun _ _ => rfl) (fun M1 e => ?_)
  replace h := h M1 e
  have r1 := hR.wi (ko_9 (fz := fz) hS (List.Mem.head _)).1 (kl_9 (List.Mem.head _)) e
  refine l1 (n := 1) rfl rfl rfl (la_of y2) ?_
  refine l_gr rfl (ko_0 hS (List.Mem.head _)) rfl (fun _ => rfl) (kf_0_6 r1.2 (List.Mem.head _)) ?_
  refine b_iv (c := 187) (as := []) (rest := []) rfl (by decide) (ko_4 hS (List.Mem.head _)) rfl rfl (Nat.le_of_ble_eq_true rfl) (fun hq => ?_)
  refine lx_mono (E_S_reset_m hS r1 (List.Mem.head _) h) ?_
  rintro _ _ ⟨M2, rfl, rfl, r2, h⟩
  refine l1 (n := 1) rfl rfl rfl (la_of y2) ?_
  refine l_gr rfl (ko_0 hS (List.Mem.head _)) rfl (fun _ => rfl) (kf_0_9 r2.2 (List.Mem.head _)) ?_
  refine b_iv (c := 331) (as := []) (rest := []) rfl (by decide) (ko_10 hS (List.Mem.head _)) rfl rfl (Nat.le_of_ble_eq_true rfl) (fun hq => ?_)
  refine lx_mono (E_Y_reset_m hS r2 h) ?_
  rintro _ _ ⟨M3, rfl, rfl, r3, h⟩
  refine l1 (n := 1) rfl rfl rfl rfl ?_
  refine l_s1 (n := 1) rfl rfl rfl rfl (fun ls y3 ho => ?_)
  have y4 := ho 0 _ (by decide) (fun q => by cases q.2) y2
  have y5 := ho 1 _ (by decide) (fun q => by cases q.2) y1
  exact E_M_clear_32 hS r3 (inr_gi _ _ _) ⟨by decide, by decide⟩ y4 y5 y3 h
def em_M_clear (M : rf_M) (K : Int → rf_M → Prop) : Prop := e_M_clear  M K
theorem E_M_clear_m {fz : Bool} {S : gS} {B : rf_M} {M : rf_M} {n0 : Nat} {K : Int → rf_M → Prop} (hS : rl S) (hR : fl 22 353 B M) (h : em_M_clear  M K) : lx (cx0 fz) n0 122 0 (lv_args 0 [.ref 22]) [] (M, S) (vl_i 22 353 B S K) :=
  E_M_clear hS hR rfl h
