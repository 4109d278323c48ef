/-! the program's parser as formulas, for lx (printed by wip/tools/vl.py) -/
def e_Q_isFaulty_13 (s0 : Int) (M : rf_M) (K : Int → rf_M → Prop) : Prop := (s0 = 0 ∨ s0 = 1) ∧ K s0 M
theorem E_Q_isFaulty_13 {fz : Bool} {S : gS} {B : rf_M} {M : rf_M} {ls : rf_L} {n0 : Nat} {s0 : Int} {K : Int → rf_M → Prop} (hS : rl S) (hR : fl 22 353 B M) (is0 : inr s0) (h : e_Q_isFaulty_13 s0 M K) : lx (cx0 fz) n0 36 13 ls [zv s0] (M, S) (vl_i 22 353 B S K) := by
  unfold e_Q_isFaulty_13 at h
  exact l_rb rfl rfl h.1 hR h.2
def e_Q_isFaulty (M : rf_M) (K : Int → rf_M → Prop) : Prop := ((gi M 169 3) = (-1) → (e_Q_isFaulty_13 0 M K)) ∧ (¬ ((gi M 169 3) = (-1)) → (e_Q_isFaulty_13 1 M K))
theorem E_Q_isFaulty {fz : Bool} {S : gS} {B : rf_M} {M : rf_M} {ls : rf_L} {n0 : Nat} {K : Int → rf_M → Prop} (hS : rl S) (hR : fl 22 353 B M) (a0 : rf_ld ls 0 = some (.ref 169)) (h : e_Q_isFaulty M K) : lx (cx0 fz) n0 36 0 ls [] (M, S) (vl_i 22 353 B S K) := by
  unfold e_Q_isFaulty at h
  refine l1 (n := 1) rfl rfl rfl (la_of a0) ?_
  refine l_gi rfl (ko_2 hS (List.Mem.head _)) rfl (fun _ => rfl) ?_
  refine l1 (n := 1) rfl rfl rfl rfl ?_
  refine l_ic rfl (inr_gi _ _ _) ⟨by decide, by decide⟩ (fun c => ?_) (fun c => ?_)
  · replace h := h.1 c
    refine l1 (n := 1) rfl rfl rfl rfl ?_
    exact E_Q_isFaulty_13 hS hR ⟨by decide, by decide⟩ h
  · replace h := h.2 c
    refine l1 (n := 1) rfl rfl rfl rfl ?_
    refine l3 rfl rfl rfl ?_
    exact E_Q_isFaulty_13 hS hR ⟨by decide, by decide⟩ h
def em_Q_isFaulty (M : rf_M) (K : Int → rf_M → Prop) : Prop := e_Q_isFaulty  M K
theorem E_Q_isFaulty_m {fz : Bool} {S : gS} {B : rf_M} {M : rf_M} {n0 : Nat} {K : Int → rf_M → Prop} (hS : rl S) (hR : fl 22 353 B M) (h : em_Q_isFaulty  M K) : lx (cx0 fz) n0 36 0 (lv_args 0 [.ref 169]) [] (M, S) (vl_i 22 353 B S K) :=
  E_Q_isFaulty hS hR rfl h
def e_Q_refuse_24 (M : rf_M) (K : rf_M → Prop) : Prop := K M
theorem E_Q_refuse_24 {fz : Bool} {S : gS} {B : rf_M} {M : rf_M} {ls : rf_L} {n0 : Nat} {K : rf_M → Prop} (hS : rl S) (hR : fl 22 353 B M) (h : e_Q_refuse_24 M K) : lx (cx0 fz) n0 42 24 ls [] (M, S) (vl_v 22 353 B S K) := by
  unfold e_Q_refuse_24 at h
  exact l_rv rfl rfl hR h
def e_Q_refuse (M : rf_M) (K : rf_M → Prop) : Prop := ((gi M 169 3) = (-1) → ((0 ≤ (gi M 169 2) ∧ (gi M 169 2) < 801 → (∀ M1 : rf_M, M1 = wi M 169 3 (gi M 172 (gi M 169 2).toNat) → (e_Q_refuse_24 M1 K))))) ∧ (¬ (gi M 169 3) = (-1) → (e_Q_refuse_24 M K))
theorem E_Q_refuse {fz : Bool} {S : gS} {B : rf_M} {M : rf_M} {ls : rf_L} {n0 : Nat} {K : rf_M → Prop} (hS : rl S) (hR : fl 22 353 B M) (a0 : rf_ld ls 0 = some (.ref 169)) (h : e_Q_refuse M K) : lx (cx0 fz) n0 42 0 ls [] (M, S) (vl_v 22 353 B S K) := by
  unfold e_Q_refuse at h
  refine l1 (n := 1) rfl rfl rfl (la_of a0) ?_
  refine l_gi rfl (ko_2 hS (List.Mem.head _)) rfl (fun _ => rfl) ?_
  refine l1 (n := 1) rfl rfl rfl rfl ?_
  refine l_ic rfl (inr_gi _ _ _) ⟨by decide, by decide⟩ (fun c => ?_) (fun c => ?_)
  · replace h := h.2 c
    exact E_Q_refuse_24 hS hR  h
  · replace h := h.1 (Classical.not_not.mp c)
    refine l1 (n := 1) rfl rfl rfl (la_of a0) ?_
    refine l1 (n := 1) rfl rfl rfl (la_of a0) ?_
    refine l_gr rfl (ko_2 hS (List.Mem.head _)) rfl (fun _ => rfl) (kf_2_0 hR.2 (List.Mem.head _)) ?_
    refine l_gr rfl (ko_3 hS (List.Mem.head _)) rfl (fun _ => rfl) (kf_3_1 hR.2 (List.Mem.head _)) ?_
    refine l1 (n := 1) rfl rfl rfl (la_of a0) ?_
    refine l_gi rfl (ko_2 hS (List.Mem.head _)) rfl (fun _ => rfl) ?_
    refine b_ia rfl (kc_172 (fz := fz) hS).1 (Nat.le_of_ble_eq_true rfl) (inr_gi _ _ _) (fun q => ?_)
    replace h := h q
    refine l_pi rfl (ko_2 (fz := fz) hS (List.Mem.head _)) rfl (fun _ _ => rfl) (fun M1 e => ?_)
    replace h := h M1 e
    have r1 := hR.wi (ko_2 (fz := fz) hS (List.Mem.head _)).1 (kl_2 (List.Mem.head _)) e
    exact E_Q_refuse_24 hS r1  h
def em_Q_refuse (M : rf_M) (K : rf_M → Prop) : Prop := e_Q_refuse  M K
theorem E_Q_refuse_m {fz : Bool} {S : gS} {B : rf_M} {M : rf_M} {n0 : Nat} {K : rf_M → Prop} (hS : rl S) (hR : fl 22 353 B M) (h : em_Q_refuse  M K) : lx (cx0 fz) n0 42 0 (lv_args 0 [.ref 169]) [] (M, S) (vl_v 22 353 B S K) :=
  E_Q_refuse hS hR rfl h
def e_Q_isAt_29 (s0 : Int) (M : rf_M) (K : Int → rf_M → Prop) : Prop := (s0 = 0 ∨ s0 = 1) ∧ K s0 M
theorem E_Q_isAt_29 {fz : Bool} {S : gS} {B : rf_M} {M : rf_M} {ls : rf_L} {n0 : Nat} {s0 : Int} {K : Int → rf_M → Prop} (hS : rl S) (hR : fl 22 353 B M) (is0 : inr s0) (h : e_Q_isAt_29 s0 M K) : lx (cx0 fz) n0 37 29 ls [zv s0] (M, S) (vl_i 22 353 B S K) := by
  unfold e_Q_isAt_29 at h
  exact l_rb rfl rfl h.1 hR h.2
def e_Q_isAt_28 (M : rf_M) (K : Int → rf_M → Prop) : Prop := e_Q_isAt_29 0 M K
theorem E_Q_isAt_28 {fz : Bool} {S : gS} {B : rf_M} {M : rf_M} {ls : rf_L} {n0 : Nat} {K : Int → rf_M → Prop} (hS : rl S) (hR : fl 22 353 B M) (h : e_Q_isAt_28 M K) : lx (cx0 fz) n0 37 28 ls [] (M, S) (vl_i 22 353 B S K) := by
  unfold e_Q_isAt_28 at h
  refine l1 (n := 1) rfl rfl rfl rfl ?_
  exact E_Q_isAt_29 hS hR ⟨by decide, by decide⟩ h
def e_Q_isAt (v1 : Int) (M : rf_M) (K : Int → rf_M → Prop) : Prop := ((gi M 169 3) = (-1) → ((0 ≤ (gi M 169 2) ∧ (gi M 169 2) < 801 → (((gi M 171 (gi M 169 2).toNat) = v1 → (e_Q_isAt_29 1 M K)) ∧ (¬ (gi M 171 (gi M 169 2).toNat) = v1 → (e_Q_isAt_28 M K)))))) ∧ (¬ (gi M 169 3) = (-1) → (e_Q_isAt_28 M K))
theorem E_Q_isAt {fz : Bool} {S : gS} {B : rf_M} {M : rf_M} {ls : rf_L} {n0 : Nat} {v1 : Int} {K : Int → rf_M → Prop} (hS : rl S) (hR : fl 22 353 B M) (iv1 : inr v1) (a0 : rf_ld ls 0 = some (.ref 169)) (a1 : rf_ld ls 1 = some (zv v1)) (h : e_Q_isAt v1 M K) : lx (cx0 fz) n0 37 0 ls [] (M, S) (vl_i 22 353 B S K) := by
  unfold e_Q_isAt at h
  refine l1 (n := 1) rfl rfl rfl (la_of a0) ?_
  refine l_gi rfl (ko_2 hS (List.Mem.head _)) rfl (fun _ => rfl) ?_
  refine l1 (n := 1) rfl rfl rfl rfl ?_
  refine l_ic rfl (inr_gi _ _ _) ⟨by decide, by decide⟩ (fun c => ?_) (fun c => ?_)
  · replace h := h.2 c
    exact E_Q_isAt_28 hS hR  h
  · replace h := h.1 (Classical.not_not.mp c)
    refine l1 (n := 1) rfl rfl rfl (la_of a0) ?_
    refine l_gr rfl (ko_2 hS (List.Mem.head _)) rfl (fun _ => rfl) (kf_2_0 hR.2 (List.Mem.head _)) ?_
    refine l_gr rfl (ko_3 hS (List.Mem.head _)) rfl (fun _ => rfl) (kf_3_0 hR.2 (List.Mem.head _)) ?_
    refine l1 (n := 1) rfl rfl rfl (la_of a0) ?_
    refine l_gi rfl (ko_2 hS (List.Mem.head _)) rfl (fun _ => rfl) ?_
    refine b_ia rfl (kc_171 (fz := fz) hS).1 (Nat.le_of_ble_eq_true rfl) (inr_gi _ _ _) (fun q => ?_)
    replace h := h q
    refine l1 (n := 1) rfl rfl rfl (li_of a1) ?_
    refine l_ic rfl (inr_gi _ _ _) iv1 (fun c => ?_) (fun c => ?_)
    · replace h := h.2 c
      exact E_Q_isAt_28 hS hR  h
    · replace h := h.1 (Classical.not_not.mp c)
      refine l1 (n := 1) rfl rfl rfl rfl ?_
      refine l3 rfl rfl rfl ?_
      exact E_Q_isAt_29 hS hR ⟨by decide, by decide⟩ h
def em_Q_isAt (x1 : Int) (M : rf_M) (K : Int → rf_M → Prop) : Prop := e_Q_isAt x1 M K
theorem E_Q_isAt_m {fz : Bool} {S : gS} {B : rf_M} {M : rf_M} {n0 : Nat} {x1 : Int} {K : Int → rf_M → Prop} (hS : rl S) (hR : fl 22 353 B M) (ix1 : inr x1) (h : em_Q_isAt x1 M K) : lx (cx0 fz) n0 37 0 (lv_args 0 [.ref 169, zv x1]) [] (M, S) (vl_i 22 353 B S K) :=
  E_Q_isAt hS hR ix1 rfl rfl h
def e_Q_number (M : rf_M) (K : Int → rf_M → Prop) : Prop := (0 ≤ (gi M 169 2) ∧ (gi M 169 2) < 801 → (K (gi M 173 (gi M 169 2).toNat) M))
theorem E_Q_number {fz : Bool} {S : gS} {B : rf_M} {M : rf_M} {ls : rf_L} {n0 : Nat} {K : Int → rf_M → Prop} (hS : rl S) (hR : fl 22 353 B M) (a0 : rf_ld ls 0 = some (.ref 169)) (h : e_Q_number M K) : lx (cx0 fz) n0 43 0 ls [] (M, S) (vl_i 22 353 B S K) := by
  unfold e_Q_number at h
  refine l1 (n := 1) rfl rfl rfl (la_of a0) ?_
  refine l_gr rfl (ko_2 hS (List.Mem.head _)) rfl (fun _ => rfl) (kf_2_0 hR.2 (List.Mem.head _)) ?_
  refine l_gr rfl (ko_3 hS (List.Mem.head _)) rfl (fun _ => rfl) (kf_3_2 hR.2 (List.Mem.head _)) ?_
  refine l1 (n := 1) rfl rfl rfl (la_of a0) ?_
  refine l_gi rfl (ko_2 hS (List.Mem.head _)) rfl (fun _ => rfl) ?_
  refine b_ia rfl (kc_173 (fz := fz) hS).1 (Nat.le_of_ble_eq_true rfl) (inr_gi _ _ _) (fun q => ?_)
  replace h := h q
  exact l_ri rfl rfl (inr_gi _ _ _) hR h
def em_Q_number (M : rf_M) (K : Int → rf_M → Prop) : Prop := e_Q_number  M K
theorem E_Q_number_m {fz : Bool} {S : gS} {B : rf_M} {M : rf_M} {n0 : Nat} {K : Int → rf_M → Prop} (hS : rl S) (hR : fl 22 353 B M) (h : em_Q_number  M K) : lx (cx0 fz) n0 43 0 (lv_args 0 [.ref 169]) [] (M, S) (vl_i 22 353 B S K) :=
  E_Q_number hS hR rfl h
def e_P_emit_40 (M : rf_M) (K : rf_M → Prop) : Prop := K M
theorem E_P_emit_40 {fz : Bool} {S : gS} {B : rf_M} {M : rf_M} {ls : rf_L} {n0 : Nat} {K : rf_M → Prop} (hS : rl S) (hR : fl 22 353 B M) (h : e_P_emit_40 M K) : lx (cx0 fz) n0 51 40 ls [] (M, S) (vl_v 22 353 B S K) := by
  unfold e_P_emit_40 at h
  exact l_rv rfl rfl hR h
def e_P_emit (v0 : Nat) (v1 : Int) (v2 : Int) (M : rf_M) (K : rf_M → Prop) : Prop := (160 ≤ (gi M v0 3) → (e_P_emit_40 M K)) ∧ (¬ (160 ≤ (gi M v0 3)) → ((0 ≤ (gi M v0 3) ∧ (gi M v0 3) < 160 → (∀ M1 : rf_M, M1 = wi M (v0 + 10) (gi M v0 3).toNat v1 → ((0 ≤ (gi M1 v0 3) ∧ (gi M1 v0 3) < 160 → (∀ M2 : rf_M, M2 = wi M1 (v0 + 11) (gi M1 v0 3).toNat v2 → (∀ M3 : rf_M, M3 = wi M2 v0 3 ((gi M2 v0 3) + 1) → (e_P_emit_40 M3 K)))))))))
theorem E_P_emit {fz : Bool} {S : gS} {B : rf_M} {M : rf_M} {ls : rf_L} {n0 : Nat} {v0 : Nat} {v1 : Int} {v2 : Int} {K : rf_M → Prop} (hS : rl S) (hR : fl 22 353 B M) (mv0 : v0 ∈ k1) (iv1 : inr v1) (iv2 : inr v2) (a0 : rf_ld ls 0 = some (.ref v0)) (a1 : rf_ld ls 1 = some (zv v1)) (a2 : rf_ld ls 2 = some (zv v2)) (h : e_P_emit v0 v1 v2 M K) : lx (cx0 fz) n0 51 0 ls [] (M, S) (vl_v 22 353 B S K) := by
  unfold e_P_emit at h
  refine l1 (n := 1) rfl rfl rfl (la_of a0) ?_
  refine l_gi rfl (ko_1 hS mv0) rfl (fun _ => rfl) ?_
  refine l_si rfl (by decide) ?_
  refine l_ic rfl (inr_gi _ _ _) ⟨by decide, by decide⟩ (fun c => ?_) (fun c => ?_)
  · replace h := h.1 c
    exact E_P_emit_40 hS hR  h
  · replace h := h.2 c
    refine l1 (n := 1) rfl rfl rfl (la_of a0) ?_
    refine l_gr rfl (ko_1 hS mv0) rfl (fun _ => rfl) (kf_1_14 hR.2 mv0) ?_
    refine l1 (n := 1) rfl rfl rfl (la_of a0) ?_
    refine l_gi rfl (ko_1 hS mv0) rfl (fun _ => rfl) ?_
    refine l1 (n := 1) rfl rfl rfl (li_of a1) ?_
    refine b_is rfl (kt_1_14 (fz := fz) hS mv0).1 (Nat.le_of_ble_eq_true rfl) (inr_gi _ _ _) (fun q M1 e => ?_)
    replace h := h q M1 e
    have r1 := hR.wi (kt_1_14 (fz := fz) hS mv0).1.1 (kt_1_14 (fz := fz) hS mv0).2 e
    refine l1 (n := 1) rfl rfl rfl (la_of a0) ?_
    refine l_gr rfl (ko_1 hS mv0) rfl (fun _ => rfl) (kf_1_15 r1.2 mv0) ?_
    refine l1 (n := 1) rfl rfl rfl (la_of a0) ?_
    refine l_gi rfl (ko_1 hS mv0) rfl (fun _ => rfl) ?_
    refine l1 (n := 1) rfl rfl rfl (li_of a2) ?_
    refine b_is rfl (kt_1_15 (fz := fz) hS mv0).1 (Nat.le_of_ble_eq_true rfl) (inr_gi _ _ _) (fun q M2 e => ?_)
    replace h := h q M2 e
    have r2 := r1.wi (kt_1_15 (fz := fz) hS mv0).1.1 (kt_1_15 (fz := fz) hS mv0).2 e
    refine l1 (n := 1) rfl rfl rfl (la_of a0) ?_
    refine l0 rfl rfl rfl ?_
    refine l_gi rfl (ko_1 hS mv0) rfl (fun _ => rfl) ?_
    refine l1 (n := 1) rfl rfl rfl rfl ?_
    refine l_add rfl ?_
    refine l_pi rfl (ko_1 (fz := fz) hS mv0) rfl (fun _ _ => rfl) (fun M3 e => ?_)
    replace h := h M3 e
    have r3 := r2.wi (ko_1 (fz := fz) hS mv0).1 (kl_1 mv0) e
    exact E_P_emit_40 hS r3  h
def em_P_emit (x0 : Nat) (x1 : Int) (x2 : Int) (M : rf_M) (K : rf_M → Prop) : Prop := e_P_emit x0 x1 x2 M K
theorem E_P_emit_m {fz : Bool} {S : gS} {B : rf_M} {M : rf_M} {n0 : Nat} {x0 : Nat} {x1 : Int} {x2 : Int} {K : rf_M → Prop} (hS : rl S) (hR : fl 22 353 B M) (mx0 : x0 ∈ k1) (ix1 : inr x1) (ix2 : inr x2) (h : em_P_emit x0 x1 x2 M K) : lx (cx0 fz) n0 51 0 (lv_args 0 [.ref x0, zv x1, zv x2]) [] (M, S) (vl_v 22 353 B S K) :=
  E_P_emit hS hR mx0 ix1 ix2 rfl rfl rfl h
def e_Q_advance_24 (M : rf_M) (K : rf_M → Prop) : Prop := K M
theorem E_Q_advance_24 {fz : Bool} {S : gS} {B : rf_M} {M : rf_M} {ls : rf_L} {n0 : Nat} {K : rf_M → Prop} (hS : rl S) (hR : fl 22 353 B M) (h : e_Q_advance_24 M K) : lx (cx0 fz) n0 44 24 ls [] (M, S) (vl_v 22 353 B S K) := by
  unfold e_Q_advance_24 at h
  exact l_rv rfl rfl hR h
def e_Q_advance (M : rf_M) (K : rf_M → Prop) : Prop := ((gi M 170 3) ≤ (gi M 169 2) → (e_Q_advance_24 M K)) ∧ (¬ ((gi M 170 3) ≤ (gi M 169 2)) → (∀ M1 : rf_M, M1 = wi M 169 2 ((gi M 169 2) + 1) → (e_Q_advance_24 M1 K)))
theorem E_Q_advance {fz : Bool} {S : gS} {B : rf_M} {M : rf_M} {ls : rf_L} {n0 : Nat} {K : rf_M → Prop} (hS : rl S) (hR : fl 22 353 B M) (a0 : rf_ld ls 0 = some (.ref 169)) (h : e_Q_advance M K) : lx (cx0 fz) n0 44 0 ls [] (M, S) (vl_v 22 353 B S K) := by
  unfold e_Q_advance at h
  refine l1 (n := 1) rfl rfl rfl (la_of a0) ?_
  refine l_gi rfl (ko_2 hS (List.Mem.head _)) rfl (fun _ => rfl) ?_
  refine l1 (n := 1) rfl rfl rfl (la_of a0) ?_
  refine l_gr rfl (ko_2 hS (List.Mem.head _)) rfl (fun _ => rfl) (kf_2_0 hR.2 (List.Mem.head _)) ?_
  refine l_gi rfl (ko_3 hS (List.Mem.head _)) rfl (fun _ => rfl) ?_
  refine l_ic rfl (inr_gi _ _ _) (inr_gi _ _ _) (fun c => ?_) (fun c => ?_)
  · replace h := h.1 c
    exact E_Q_advance_24 hS hR  h
  · replace h := h.2 c
    refine l1 (n := 1) rfl rfl rfl (la_of a0) ?_
    refine l0 rfl rfl rfl ?_
    refine l_gi rfl (ko_2 hS (List.Mem.head _)) rfl (fun _ => rfl) ?_
    refine l1 (n := 1) rfl rfl rfl rfl ?_
    refine l_add rfl ?_
    refine l_pi rfl (ko_2 (fz := fz) hS (List.Mem.head _)) rfl (fun _ _ => rfl) (fun M1 e => ?_)
    replace h := h M1 e
    have r1 := hR.wi (ko_2 (fz := fz) hS (List.Mem.head _)).1 (kl_2 (List.Mem.head _)) e
    exact E_Q_advance_24 hS r1  h
def em_Q_advance (M : rf_M) (K : rf_M → Prop) : Prop := e_Q_advance  M K
theorem E_Q_advance_m {fz : Bool} {S : gS} {B : rf_M} {M : rf_M} {n0 : Nat} {K : rf_M → Prop} (hS : rl S) (hR : fl 22 353 B M) (h : em_Q_advance  M K) : lx (cx0 fz) n0 44 0 (lv_args 0 [.ref 169]) [] (M, S) (vl_v 22 353 B S K) :=
  E_Q_advance hS hR rfl h
def e_Q_token (M : rf_M) (K : Int → rf_M → Prop) : Prop := (0 ≤ (gi M 169 2) ∧ (gi M 169 2) < 801 → (K (gi M 171 (gi M 169 2).toNat) M))
theorem E_Q_token {fz : Bool} {S : gS} {B : rf_M} {M : rf_M} {ls : rf_L} {n0 : Nat} {K : Int → rf_M → Prop} (hS : rl S) (hR : fl 22 353 B M) (a0 : rf_ld ls 0 = some (.ref 169)) (h : e_Q_token M K) : lx (cx0 fz) n0 39 0 ls [] (M, S) (vl_i 22 353 B S K) := by
  unfold e_Q_token at h
  refine l1 (n := 1) rfl rfl rfl (la_of a0) ?_
  refine l_gr rfl (ko_2 hS (List.Mem.head _)) rfl (fun _ => rfl) (kf_2_0 hR.2 (List.Mem.head _)) ?_
  refine l_gr rfl (ko_3 hS (List.Mem.head _)) rfl (fun _ => rfl) (kf_3_0 hR.2 (List.Mem.head _)) ?_
  refine l1 (n := 1) rfl rfl rfl (la_of a0) ?_
  refine l_gi rfl (ko_2 hS (List.Mem.head _)) rfl (fun _ => rfl) ?_
  refine b_ia rfl (kc_171 (fz := fz) hS).1 (Nat.le_of_ble_eq_true rfl) (inr_gi _ _ _) (fun q => ?_)
  replace h := h q
  exact l_ri rfl rfl (inr_gi _ _ _) hR h
def em_Q_token (M : rf_M) (K : Int → rf_M → Prop) : Prop := e_Q_token  M K
theorem E_Q_token_m {fz : Bool} {S : gS} {B : rf_M} {M : rf_M} {n0 : Nat} {K : Int → rf_M → Prop} (hS : rl S) (hR : fl 22 353 B M) (h : em_Q_token  M K) : lx (cx0 fz) n0 39 0 (lv_args 0 [.ref 169]) [] (M, S) (vl_i 22 353 B S K) :=
  E_Q_token hS hR rfl h
def e_Q_product_40 (U : Int → rf_M → (rf_M → Prop) → Prop) (v1 : Int) (v2 : Int) (M : rf_M) (b7 : Int → Int → rf_M → Prop) (K : rf_M → Prop) : Prop := em_Q_token  M (fun (z1 : Int) (M1 : rf_M) => em_Q_advance  M1 (fun (M2 : rf_M) => U v1 M2 (fun (M3 : rf_M) => isP M3 169 1 ∧ (em_P_emit (gr M3 169 1) z1 0 M3 (fun (M4 : rf_M) => inr (v2 + 1) ∧ (b7 v1 (v2 + 1) M4))))))
theorem E_Q_product_40 {fz : Bool} {S : gS} {B : rf_M} {M : rf_M} {ls : rf_L} {n0 : Nat} {U : Int → rf_M → (rf_M → Prop) → Prop} {v1 : Int} {v2 : Int} {b7 : Int → Int → rf_M → Prop} {K : rf_M → Prop} (hS : rl S) (hR : fl 22 353 B M) (hU : ∀ n', n' < n0 → ∀ (x0 : Int) (M : rf_M) (K : rf_M → Prop), fl 22 353 B M → inr x0 → U x0 M K → lx (cx0 fz) n' 50 0 (lv_args 0 [.ref 169, zv x0]) [] (M, S) (vl_v 22 353 B S K)) (iv1 : inr v1) (iv2 : inr v2) (a0 : rf_ld ls 0 = some (.ref 169)) (a1 : rf_ld ls 1 = some (zv v1)) (a2 : rf_ld ls 2 = some (zv v2)) (hb7 : ∀ n', n' < n0 → ∀ (v1 : Int) (v2 : Int) (M : rf_M) (ls : rf_L), fl 22 353 B M → inr v1 → inr v2 → rf_ld ls 0 = some (.ref 169) → rf_ld ls 1 = some (zv v1) → rf_ld ls 2 = some (zv v2) → b7 v1 v2 M → lx (cx0 fz) n' 49 7 ls [] (M, S) (vl_v 22 353 B S K)) (h : e_Q_product_40 U v1 v2 M b7 K) : lx (cx0 fz) n0 49 40 ls [] (M, S) (vl_v 22 353 B S K) := by
  unfold e_Q_product_40 at h
  rcases Nat.eq_zero_or_pos n0 with e0 | hp
  · rw [e0]; exact lx_zero
  refine l1 (n := 1) rfl rfl rfl (la_of a0) ?_
  refine b_iv (c := 169) (as := []) (rest := []) rfl (by decide) (ko_2 hS (List.Mem.head _)) rfl rfl (Nat.le_of_ble_eq_true rfl) (fun hq => ?_)
  refine lx_mono (E_Q_token_m hS hR h) ?_
  rintro _ _ ⟨z1, M1, rfl, rfl, r1, iz1, h⟩
  refine l_s1 (n := 1) rfl rfl rfl rfl (fun ls y1 ho => ?_)
  have y2 := ho 0 _ (by decide) (fun q => by cases q.2) a0
  have y3 := ho 1 _ (by decide) (fun q => by cases q.2) a1
  have y4 := ho 2 _ (by decide) (fun q => by cases q.2) a2
  refine l1 (n := 1) rfl rfl rfl (la_of y2) ?_
  refine b_iv (c := 169) (as := []) (rest := []) rfl (by decide) (ko_2 hS (List.Mem.head _)) rfl rfl (Nat.le_of_ble_eq_true rfl) (fun hq => ?_)
  refine lx_mono (E_Q_advance_m hS r1 h) ?_
  rintro _ _ ⟨M2, rfl, rfl, r2, h⟩
  refine l1 (n := 1) rfl rfl rfl (la_of y2) ?_
  refine l1 (n := 1) rfl rfl rfl (li_of y3) ?_
  refine b_iv (c := 169) (as := [zv v1]) (rest := []) rfl (by decide) (ko_2 hS (List.Mem.head _)) rfl rfl (Nat.le_of_ble_eq_true rfl) (fun hq => ?_)
  refine lx_mono (hU _ (by omega) _ _ _ r2 iv1 h) ?_
  rintro _ _ ⟨M3, rfl, rfl, r3, h⟩
  refine l1 (n := 1) rfl rfl rfl (la_of y2) ?_
  obtain ⟨q1, h⟩ := h
  refine l_gr rfl (ko_2 hS (List.Mem.head _)) rfl (fun _ => rfl) q1.1 ?_
  refine l1 (n := 1) rfl rfl rfl (li_of y1) ?_
  refine l1 (n := 1) rfl rfl rfl rfl ?_
  refine b_iv (c := (gr M3 169 1)) (as := [zv z1, zv 0]) (rest := []) rfl (by decide) (ko_1 hS q1.2) rfl rfl (Nat.le_of_ble_eq_true rfl) (fun hq => ?_)
  refine lx_mono (E_P_emit_m hS r3 q1.2 iz1 ⟨by decide, by decide⟩ h) ?_
  rintro _ _ ⟨M4, rfl, rfl, r4, h⟩
  refine l_ii rfl y4 (Nat.le_of_ble_eq_true rfl) (fun ls y5 ho => ?_)
  have y6 := ho 0 _ (by decide) (fun q => by cases q.2) y2
  have y7 := ho 1 _ (by decide) (fun q => by cases q.2) y3
  refine l3 rfl rfl rfl ?_
  obtain ⟨i1, h⟩ := h
  exact hb7 _ (by omega) _ _ _ _ r4 iv1 i1 y6 y7 y5 h
def e_Q_product_69 (U : Int → rf_M → (rf_M → Prop) → Prop) (M : rf_M) (K : rf_M → Prop) : Prop := K M
theorem E_Q_product_69 {fz : Bool} {S : gS} {B : rf_M} {M : rf_M} {ls : rf_L} {n0 : Nat} {U : Int → rf_M → (rf_M → Prop) → Prop} {K : rf_M → Prop} (hS : rl S) (hR : fl 22 353 B M) (hU : ∀ n', n' < n0 → ∀ (x0 : Int) (M : rf_M) (K : rf_M → Prop), fl 22 353 B M → inr x0 → U x0 M K → lx (cx0 fz) n' 50 0 (lv_args 0 [.ref 169, zv x0]) [] (M, S) (vl_v 22 353 B S K)) (h : e_Q_product_69 U M K) : lx (cx0 fz) n0 49 69 ls [] (M, S) (vl_v 22 353 B S K) := by
  unfold e_Q_product_69 at h
  rcases Nat.eq_zero_or_pos n0 with e0 | hp
  · rw [e0]; exact lx_zero
  exact l_rv rfl rfl hR h
def e_Q_product_7b (U : Int → rf_M → (rf_M → Prop) → Prop) (v1 : Int) (v2 : Int) (M : rf_M) (b7 : Int → Int → rf_M → Prop) (K : rf_M → Prop) : Prop := (60 ≤ v2 → (e_Q_product_69 U M K)) ∧ (¬ (60 ≤ v2) → (em_Q_isAt 42 M (fun (z1 : Int) (M1 : rf_M) => (z1 = 0 → (em_Q_isAt 47 M1 (fun (z2 : Int) (M2 : rf_M) => (z2 = 0 → (em_Q_isAt 37 M2 (fun (z3 : Int) (M3 : rf_M) => (z3 = 0 → (e_Q_product_69 U M3 K)) ∧ (¬ (z3 = 0) → (e_Q_product_40 U v1 v2 M3 b7 K))))) ∧ (¬ z2 = 0 → (e_Q_product_40 U v1 v2 M2 b7 K))))) ∧ (¬ z1 = 0 → (e_Q_product_40 U v1 v2 M1 b7 K)))))
theorem E_Q_product_7b {fz : Bool} {S : gS} {B : rf_M} {M : rf_M} {ls : rf_L} {n0 : Nat} {U : Int → rf_M → (rf_M → Prop) → Prop} {v1 : Int} {v2 : Int} {b7 : Int → Int → rf_M → Prop} {K : rf_M → Prop} (hS : rl S) (hR : fl 22 353 B M) (hU : ∀ n', n' < n0 → ∀ (x0 : Int) (M : rf_M) (K : rf_M → Prop), fl 22 353 B M → inr x0 → U x0 M K → lx (cx0 fz) n' 50 0 (lv_args 0 [.ref 169, zv x0]) [] (M, S) (vl_v 22 353 B S K)) (iv1 : inr v1) (iv2 : inr v2) (a0 : rf_ld ls 0 = some (.ref 169)) (a1 : rf_ld ls 1 = some (zv v1)) (a2 : rf_ld ls 2 = some (zv v2)) (hb7 : ∀ n', n' < n0 → ∀ (v1 : Int) (v2 : Int) (M : rf_M) (ls : rf_L), fl 22 353 B M → inr v1 → inr v2 → rf_ld ls 0 = some (.ref 169) → rf_ld ls 1 = some (zv v1) → rf_ld ls 2 = some (zv v2) → b7 v1 v2 M → lx (cx0 fz) n' 49 7 ls [] (M, S) (vl_v 22 353 B S K)) (h : e_Q_product_7b U v1 v2 M b7 K) : lx (cx0 fz) n0 49 7 ls [] (M, S) (vl_v 22 353 B S K) := by
  unfold e_Q_product_7b at h
  rcases Nat.eq_zero_or_pos n0 with e0 | hp
  · rw [e0]; exact lx_zero
  refine l1 (n := 1) rfl rfl rfl (li_of a2) ?_
  refine l_bi rfl (by decide) ?_
  refine l_ic rfl iv2 ⟨by decide, by decide⟩ (fun c => ?_) (fun c => ?_)
  · replace h := h.1 c
    exact E_Q_product_69 hS hR (fun n' hn' => hU n' (by omega))  h
  · replace h := h.2 c
    refine l1 (n := 1) rfl rfl rfl (la_of a0) ?_
    refine l_bi rfl (by decide) ?_
    refine b_iv (c := 169) (as := [zv 42]) (rest := []) rfl (by decide) (ko_2 hS (List.Mem.head _)) rfl rfl (Nat.le_of_ble_eq_true rfl) (fun hq => ?_)
    refine lx_mono (E_Q_isAt_m hS hR ⟨by decide, by decide⟩ h) ?_
    rintro _ _ ⟨z1, M1, rfl, rfl, r1, iz1, h⟩
    refine l_if rfl iz1 (fun c => ?_) (fun c => ?_)
    · replace h := h.2 c
      exact E_Q_product_40 hS r1 (fun n' hn' => hU n' (by omega)) iv1 iv2 a0 a1 a2 (fun n' hn' => hb7 n' (by omega)) h
    · replace h := h.1 (Classical.not_not.mp c)
      refine l1 (n := 1) rfl rfl rfl (la_of a0) ?_
      refine l_bi rfl (by decide) ?_
      refine b_iv (c := 169) (as := [zv 47]) (rest := []) rfl (by decide) (ko_2 hS (List.Mem.head _)) rfl rfl (Nat.le_of_ble_eq_true rfl) (fun hq => ?_)
      refine lx_mono (E_Q_isAt_m hS r1 ⟨by decide, by decide⟩ h) ?_
      rintro _ _ ⟨z2, M2, rfl, rfl, r2, iz2, h⟩
      refine l_if rfl iz2 (fun c => ?_) (fun c => ?_)
      · replace h := h.2 c
        exact E_Q_product_40 hS r2 (fun n' hn' => hU n' (by omega)) iv1 iv2 a0 a1 a2 (fun n' hn' => hb7 n' (by omega)) h
      · replace h := h.1 (Classical.not_not.mp c)
        refine l1 (n := 1) rfl rfl rfl (la_of a0) ?_
        refine l_bi rfl (by decide) ?_
        refine b_iv (c := 169) (as := [zv 37]) (rest := []) rfl (by decide) (ko_2 hS (List.Mem.head _)) rfl rfl (Nat.le_of_ble_eq_true rfl) (fun hq => ?_)
        refine lx_mono (E_Q_isAt_m hS r2 ⟨by decide, by decide⟩ h) ?_
        rintro _ _ ⟨z3, M3, rfl, rfl, r3, iz3, h⟩
        refine l_if rfl iz3 (fun c => ?_) (fun c => ?_)
        · replace h := h.1 c
          exact E_Q_product_69 hS r3 (fun n' hn' => hU n' (by omega))  h
        · replace h := h.2 c
          exact E_Q_product_40 hS r3 (fun n' hn' => hU n' (by omega)) iv1 iv2 a0 a1 a2 (fun n' hn' => hb7 n' (by omega)) h
def e_Q_product_7 (U : Int → rf_M → (rf_M → Prop) → Prop) (v1 : Int) (v2 : Int) (M : rf_M) (K : rf_M → Prop) : Prop := ∃ Inv : Int → Int → rf_M → Prop, Inv v1 v2 M ∧ ∀ (v1 : Int) (v2 : Int) (M : rf_M), inr v1 → inr v2 → Inv v1 v2 M → e_Q_product_7b U v1 v2 M Inv K
theorem E_Q_product_7 {fz : Bool} {S : gS} {B : rf_M} {M : rf_M} {ls : rf_L} {n0 : Nat} {U : Int → rf_M → (rf_M → Prop) → Prop} {v1 : Int} {v2 : Int} {K : rf_M → Prop} (hS : rl S) (hR : fl 22 353 B M) (hU : ∀ n', n' < n0 → ∀ (x0 : Int) (M : rf_M) (K : rf_M → Prop), fl 22 353 B M → inr x0 → U x0 M K → lx (cx0 fz) n' 50 0 (lv_args 0 [.ref 169, zv x0]) [] (M, S) (vl_v 22 353 B S K)) (iv1 : inr v1) (iv2 : inr v2) (a0 : rf_ld ls 0 = some (.ref 169)) (a1 : rf_ld ls 1 = some (zv v1)) (a2 : rf_ld ls 2 = some (zv v2)) (h : e_Q_product_7 U v1 v2 M K) : lx (cx0 fz) n0 49 7 ls [] (M, S) (vl_v 22 353 B S K) := by
  obtain ⟨Inv, hm, hb⟩ := h
  induction n0 using Nat.strongRecOn generalizing ls M v1 v2 with
  | _ n0 ih =>
    refine E_Q_product_7b hS hR hU iv1 iv2 a0 a1 a2 (fun n' hn' v1' v2' M' ls' hR' f0 f1 f2 f3 f4 q2 => ih n' hn' hR' (fun n'' hn'' => hU n'' (by omega)) f0 f1 f2 f3 f4 q2) (hb v1 v2 M iv1 iv2 hm)
def e_Q_product (U : Int → rf_M → (rf_M → Prop) → Prop) (v1 : Int) (M : rf_M) (K : rf_M → Prop) : Prop := U v1 M (fun (M1 : rf_M) => e_Q_product_7 U v1 0 M1 K)
theorem E_Q_product {fz : Bool} {S : gS} {B : rf_M} {M : rf_M} {ls : rf_L} {n0 : Nat} {U : Int → rf_M → (rf_M → Prop) → Prop} {v1 : Int} {K : rf_M → Prop} (hS : rl S) (hR : fl 22 353 B M) (hU : ∀ n', n' < n0 → ∀ (x0 : Int) (M : rf_M) (K : rf_M → Prop), fl 22 353 B M → inr x0 → U x0 M K → lx (cx0 fz) n' 50 0 (lv_args 0 [.ref 169, zv x0]) [] (M, S) (vl_v 22 353 B S K)) (iv1 : inr v1) (a0 : rf_ld ls 0 = some (.ref 169)) (a1 : rf_ld ls 1 = some (zv v1)) (h : e_Q_product U v1 M K) : lx (cx0 fz) n0 49 0 ls [] (M, S) (vl_v 22 353 B S K) := by
  unfold e_Q_product at h
  rcases Nat.eq_zero_or_pos n0 with e0 | hp
  · rw [e0]; exact lx_zero
  refine l1 (n := 1) rfl rfl rfl (la_of a0) ?_
  refine l1 (n := 1) rfl rfl rfl (li_of a1) ?_
  refine b_iv (c := 169) (as := [zv v1]) (rest := []) rfl (by decide) (ko_2 hS (List.Mem.head _)) rfl rfl (Nat.le_of_ble_eq_true rfl) (fun hq => ?_)
  refine lx_mono (hU _ (by omega) _ _ _ hR iv1 h) ?_
  rintro _ _ ⟨M1, rfl, rfl, r1, h⟩
  refine l1 (n := 1) rfl rfl rfl rfl ?_
  refine l_s1 (n := 1) rfl rfl rfl rfl (fun ls y1 ho => ?_)
  have y2 := ho 0 _ (by decide) (fun q => by cases q.2) a0
  have y3 := ho 1 _ (by decide) (fun q => by cases q.2) a1
  exact E_Q_product_7 hS r1 (fun n' hn' => hU n' (by omega)) iv1 ⟨by decide, by decide⟩ y2 y3 y1 h
def em_Q_product (U : Int → rf_M → (rf_M → Prop) → Prop) (x1 : Int) (M : rf_M) (K : rf_M → Prop) : Prop := e_Q_product U x1 M K
theorem E_Q_product_m {fz : Bool} {S : gS} {B : rf_M} {M : rf_M} {n0 : Nat} {U : Int → rf_M → (rf_M → Prop) → Prop} {x1 : Int} {K : rf_M → Prop} (hS : rl S) (hR : fl 22 353 B M) (hU : ∀ n', n' < n0 → ∀ (x0 : Int) (M : rf_M) (K : rf_M → Prop), fl 22 353 B M → inr x0 → U x0 M K → lx (cx0 fz) n' 50 0 (lv_args 0 [.ref 169, zv x0]) [] (M, S) (vl_v 22 353 B S K)) (ix1 : inr x1) (h : em_Q_product U x1 M K) : lx (cx0 fz) n0 49 0 (lv_args 0 [.ref 169, zv x1]) [] (M, S) (vl_v 22 353 B S K) :=
  E_Q_product hS hR hU ix1 rfl rfl h
def e_Q_sum_31 (U : Int → rf_M → (rf_M → Prop) → Prop) (v1 : Int) (v2 : Int) (M : rf_M) (b7 : Int → Int → rf_M → Prop) (K : rf_M → Prop) : Prop := em_Q_token  M (fun (z1 : Int) (M1 : rf_M) => em_Q_advance  M1 (fun (M2 : rf_M) => em_Q_product U v1 M2 (fun (M3 : rf_M) => isP M3 169 1 ∧ (em_P_emit (gr M3 169 1) z1 0 M3 (fun (M4 : rf_M) => inr (v2 + 1) ∧ (b7 v1 (v2 + 1) M4))))))
theorem E_Q_sum_31 {fz : Bool} {S : gS} {B : rf_M} {M : rf_M} {ls : rf_L} {n0 : Nat} {U : Int → rf_M → (rf_M → Prop) → Prop} {v1 : Int} {v2 : Int} {b7 : Int → Int → rf_M → Prop} {K : rf_M → Prop} (hS : rl S) (hR : fl 22 353 B M) (hU : ∀ n', n' < n0 → ∀ (x0 : Int) (M : rf_M) (K : rf_M → Prop), fl 22 353 B M → inr x0 → U x0 M K → lx (cx0 fz) n' 50 0 (lv_args 0 [.ref 169, zv x0]) [] (M, S) (vl_v 22 353 B S K)) (iv1 : inr v1) (iv2 : inr v2) (a0 : rf_ld ls 0 = some (.ref 169)) (a1 : rf_ld ls 1 = some (zv v1)) (a2 : rf_ld ls 2 = some (zv v2)) (hb7 : ∀ n', n' < n0 → ∀ (v1 : Int) (v2 : Int) (M : rf_M) (ls : rf_L), fl 22 353 B M → inr v1 → inr v2 → rf_ld ls 0 = some (.ref 169) → rf_ld ls 1 = some (zv v1) → rf_ld ls 2 = some (zv v2) → b7 v1 v2 M → lx (cx0 fz) n' 48 7 ls [] (M, S) (vl_v 22 353 B S K)) (h : e_Q_sum_31 U v1 v2 M b7 K) : lx (cx0 fz) n0 48 31 ls [] (M, S) (vl_v 22 353 B S K) := by
  unfold e_Q_sum_31 at h
  rcases Nat.eq_zero_or_pos n0 with e0 | hp
  · rw [e0]; exact lx_zero
  refine l1 (n := 1) rfl rfl rfl (la_of a0) ?_
  refine b_iv (c := 169) (as := []) (rest := []) rfl (by decide) (ko_2 hS (List.Mem.head _)) rfl rfl (Nat.le_of_ble_eq_true rfl) (fun hq => ?_)
  refine lx_mono (E_Q_token_m hS hR h) ?_
  rintro _ _ ⟨z1, M1, rfl, rfl, r1, iz1, h⟩
  refine l_s1 (n := 1) rfl rfl rfl rfl (fun ls y1 ho => ?_)
  have y2 := ho 0 _ (by decide) (fun q => by cases q.2) a0
  have y3 := ho 1 _ (by decide) (fun q => by cases q.2) a1
  have y4 := ho 2 _ (by decide) (fun q => by cases q.2) a2
  refine l1 (n := 1) rfl rfl rfl (la_of y2) ?_
  refine b_iv (c := 169) (as := []) (rest := []) rfl (by decide) (ko_2 hS (List.Mem.head _)) rfl rfl (Nat.le_of_ble_eq_true rfl) (fun hq => ?_)
  refine lx_mono (E_Q_advance_m hS r1 h) ?_
  rintro _ _ ⟨M2, rfl, rfl, r2, h⟩
  refine l1 (n := 1) rfl rfl rfl (la_of y2) ?_
  refine l1 (n := 1) rfl rfl rfl (li_of y3) ?_
  refine b_iv (c := 169) (as := [zv v1]) (rest := []) rfl (by decide) (ko_2 hS (List.Mem.head _)) rfl rfl (Nat.le_of_ble_eq_true rfl) (fun hq => ?_)
  refine lx_mono (E_Q_product_m hS r2 (fun n' hn' => hU n' (by omega)) iv1 h) ?_
  rintro _ _ ⟨M3, rfl, rfl, r3, h⟩
  refine l1 (n := 1) rfl rfl rfl (la_of y2) ?_
  obtain ⟨q1, h⟩ := h
  refine l_gr rfl (ko_2 hS (List.Mem.head _)) rfl (fun _ => rfl) q1.1 ?_
  refine l1 (n := 1) rfl rfl rfl (li_of y1) ?_
  refine l1 (n := 1) rfl rfl rfl rfl ?_
  refine b_iv (c := (gr M3 169 1)) (as := [zv z1, zv 0]) (rest := []) rfl (by decide) (ko_1 hS q1.2) rfl rfl (Nat.le_of_ble_eq_true rfl) (fun hq => ?_)
  refine lx_mono (E_P_emit_m hS r3 q1.2 iz1 ⟨by decide, by decide⟩ h) ?_
  rintro _ _ ⟨M4, rfl, rfl, r4, h⟩
  refine l_ii rfl y4 (Nat.le_of_ble_eq_true rfl) (fun ls y5 ho => ?_)
  have y6 := ho 0 _ (by decide) (fun q => by cases q.2) y2
  have y7 := ho 1 _ (by decide) (fun q => by cases q.2) y3
  refine l3 rfl rfl rfl ?_
  obtain ⟨i1, h⟩ := h
  exact hb7 _ (by omega) _ _ _ _ r4 iv1 i1 y6 y7 y5 h
def e_Q_sum_60 (U : Int → rf_M → (rf_M → Prop) → Prop) (M : rf_M) (K : rf_M → Prop) : Prop := K M
theorem E_Q_sum_60 {fz : Bool} {S : gS} {B : rf_M} {M : rf_M} {ls : rf_L} {n0 : Nat} {U : Int → rf_M → (rf_M → Prop) → Prop} {K : rf_M → Prop} (hS : rl S) (hR : fl 22 353 B M) (hU : ∀ n', n' < n0 → ∀ (x0 : Int) (M : rf_M) (K : rf_M → Prop), fl 22 353 B M → inr x0 → U x0 M K → lx (cx0 fz) n' 50 0 (lv_args 0 [.ref 169, zv x0]) [] (M, S) (vl_v 22 353 B S K)) (h : e_Q_sum_60 U M K) : lx (cx0 fz) n0 48 60 ls [] (M, S) (vl_v 22 353 B S K) := by
  unfold e_Q_sum_60 at h
  rcases Nat.eq_zero_or_pos n0 with e0 | hp
  · rw [e0]; exact lx_zero
  exact l_rv rfl rfl hR h
def e_Q_sum_7b (U : Int → rf_M → (rf_M → Prop) → Prop) (v1 : Int) (v2 : Int) (M : rf_M) (b7 : Int → Int → rf_M → Prop) (K : rf_M → Prop) : Prop := (60 ≤ v2 → (e_Q_sum_60 U M K)) ∧ (¬ (60 ≤ v2) → (em_Q_isAt 43 M (fun (z1 : Int) (M1 : rf_M) => (z1 = 0 → (em_Q_isAt 45 M1 (fun (z2 : Int) (M2 : rf_M) => (z2 = 0 → (e_Q_sum_60 U M2 K)) ∧ (¬ (z2 = 0) → (e_Q_sum_31 U v1 v2 M2 b7 K))))) ∧ (¬ z1 = 0 → (e_Q_sum_31 U v1 v2 M1 b7 K)))))
theorem E_Q_sum_7b {fz : Bool} {S : gS} {B : rf_M} {M : rf_M} {ls : rf_L} {n0 : Nat} {U : Int → rf_M → (rf_M → Prop) → Prop} {v1 : Int} {v2 : Int} {b7 : Int → Int → rf_M → Prop} {K : rf_M → Prop} (hS : rl S) (hR : fl 22 353 B M) (hU : ∀ n', n' < n0 → ∀ (x0 : Int) (M : rf_M) (K : rf_M → Prop), fl 22 353 B M → inr x0 → U x0 M K → lx (cx0 fz) n' 50 0 (lv_args 0 [.ref 169, zv x0]) [] (M, S) (vl_v 22 353 B S K)) (iv1 : inr v1) (iv2 : inr v2) (a0 : rf_ld ls 0 = some (.ref 169)) (a1 : rf_ld ls 1 = some (zv v1)) (a2 : rf_ld ls 2 = some (zv v2)) (hb7 : ∀ n', n' < n0 → ∀ (v1 : Int) (v2 : Int) (M : rf_M) (ls : rf_L), fl 22 353 B M → inr v1 → inr v2 → rf_ld ls 0 = some (.ref 169) → rf_ld ls 1 = some (zv v1) → rf_ld ls 2 = some (zv v2) → b7 v1 v2 M → lx (cx0 fz) n' 48 7 ls [] (M, S) (vl_v 22 353 B S K)) (h : e_Q_sum_7b U v1 v2 M b7 K) : lx (cx0 fz) n0 48 7 ls [] (M, S) (vl_v 22 353 B S K) := by
  unfold e_Q_sum_7b at h
  rcases Nat.eq_zero_or_pos n0 with e0 | hp
  · rw [e0]; exact lx_zero
  refine l1 (n := 1) rfl rfl rfl (li_of a2) ?_
  refine l_bi rfl (by decide) ?_
  refine l_ic rfl iv2 ⟨by decide, by decide⟩ (fun c => ?_) (fun c => ?_)
  · replace h := h.1 c
    exact E_Q_sum_60 hS hR (fun n' hn' => hU n' (by omega))  h
  · replace h := h.2 c
    refine l1 (n := 1) rfl rfl rfl (la_of a0) ?_
    refine l_bi rfl (by decide) ?_
    refine b_iv (c := 169) (as := [zv 43]) (rest := []) rfl (by decide) (ko_2 hS (List.Mem.head _)) rfl rfl (Nat.le_of_ble_eq_true rfl) (fun hq => ?_)
    refine lx_mono (E_Q_isAt_m hS hR ⟨by decide, by decide⟩ h) ?_
    rintro _ _ ⟨z1, M1, rfl, rfl, r1, iz1, h⟩
    refine l_if rfl iz1 (fun c => ?_) (fun c => ?_)
    · replace h := h.2 c
      exact E_Q_sum_31 hS r1 (fun n' hn' => hU n' (by omega)) iv1 iv2 a0 a1 a2 (fun n' hn' => hb7 n' (by omega)) h
    · replace h := h.1 (Classical.not_not.mp c)
      refine l1 (n := 1) rfl rfl rfl (la_of a0) ?_
      refine l_bi rfl (by decide) ?_
      refine b_iv (c := 169) (as := [zv 45]) (rest := []) rfl (by decide) (ko_2 hS (List.Mem.head _)) rfl rfl (Nat.le_of_ble_eq_true rfl) (fun hq => ?_)
      refine lx_mono (E_Q_isAt_m hS r1 ⟨by decide, by decide⟩ h) ?_
      rintro _ _ ⟨z2, M2, rfl, rfl, r2, iz2, h⟩
      refine l_if rfl iz2 (fun c => ?_) (fun c => ?_)
      · replace h := h.1 c
        exact E_Q_sum_60 hS r2 (fun n' hn' => hU n' (by omega))  h
      · replace h := h.2 c
        exact E_Q_sum_31 hS r2 (fun n' hn' => hU n' (by omega)) iv1 iv2 a0 a1 a2 (fun n' hn' => hb7 n' (by omega)) h
def e_Q_sum_7 (U : Int → rf_M → (rf_M → Prop) → Prop) (v1 : Int) (v2 : Int) (M : rf_M) (K : rf_M → Prop) : Prop := ∃ Inv : Int → Int → rf_M → Prop, Inv v1 v2 M ∧ ∀ (v1 : Int) (v2 : Int) (M : rf_M), inr v1 → inr v2 → Inv v1 v2 M → e_Q_sum_7b U v1 v2 M Inv K
theorem E_Q_sum_7 {fz : Bool} {S : gS} {B : rf_M} {M : rf_M} {ls : rf_L} {n0 : Nat} {U : Int → rf_M → (rf_M → Prop) → Prop} {v1 : Int} {v2 : Int} {K : rf_M → Prop} (hS : rl S) (hR : fl 22 353 B M) (hU : ∀ n', n' < n0 → ∀ (x0 : Int) (M : rf_M) (K : rf_M → Prop), fl 22 353 B M → inr x0 → U x0 M K → lx (cx0 fz) n' 50 0 (lv_args 0 [.ref 169, zv x0]) [] (M, S) (vl_v 22 353 B S K)) (iv1 : inr v1) (iv2 : inr v2) (a0 : rf_ld ls 0 = some (.ref 169)) (a1 : rf_ld ls 1 = some (zv v1)) (a2 : rf_ld ls 2 = some (zv v2)) (h : e_Q_sum_7 U v1 v2 M K) : lx (cx0 fz) n0 48 7 ls [] (M, S) (vl_v 22 353 B S K) := by
  obtain ⟨Inv, hm, hb⟩ := h
  induction n0 using Nat.strongRecOn generalizing ls M v1 v2 with
  | _ n0 ih =>
    refine E_Q_sum_7b hS hR hU iv1 iv2 a0 a1 a2 (fun n' hn' v1' v2' M' ls' hR' f0 f1 f2 f3 f4 q2 => ih n' hn' hR' (fun n'' hn'' => hU n'' (by omega)) f0 f1 f2 f3 f4 q2) (hb v1 v2 M iv1 iv2 hm)
def e_Q_sum (U : Int → rf_M → (rf_M → Prop) → Prop) (v1 : Int) (M : rf_M) (K : rf_M → Prop) : Prop := em_Q_product U v1 M (fun (M1 : rf_M) => e_Q_sum_7 U v1 0 M1 K)
theorem E_Q_sum {fz : Bool} {S : gS} {B : rf_M} {M : rf_M} {ls : rf_L} {n0 : Nat} {U : Int → rf_M → (rf_M → Prop) → Prop} {v1 : Int} {K : rf_M → Prop} (hS : rl S) (hR : fl 22 353 B M) (hU : ∀ n', n' < n0 → ∀ (x0 : Int) (M : rf_M) (K : rf_M → Prop), fl 22 353 B M → inr x0 → U x0 M K → lx (cx0 fz) n' 50 0 (lv_args 0 [.ref 169, zv x0]) [] (M, S) (vl_v 22 353 B S K)) (iv1 : inr v1) (a0 : rf_ld ls 0 = some (.ref 169)) (a1 : rf_ld ls 1 = some (zv v1)) (h : e_Q_sum U v1 M K) : lx (cx0 fz) n0 48 0 ls [] (M, S) (vl_v 22 353 B S K) := by
  unfold e_Q_sum at h
  rcases Nat.eq_zero_or_pos n0 with e0 | hp
  · rw [e0]; exact lx_zero
  refine l1 (n := 1) rfl rfl rfl (la_of a0) ?_
  refine l1 (n := 1) rfl rfl rfl (li_of a1) ?_
  refine b_iv (c := 169) (as := [zv v1]) (rest := []) rfl (by decide) (ko_2 hS (List.Mem.head _)) rfl rfl (Nat.le_of_ble_eq_true rfl) (fun hq => ?_)
  refine lx_mono (E_Q_product_m hS hR (fun n' hn' => hU n' (by omega)) iv1 h) ?_
  rintro _ _ ⟨M1, rfl, rfl, r1, h⟩
  refine l1 (n := 1) rfl rfl rfl rfl ?_
  refine l_s1 (n := 1) rfl rfl rfl rfl (fun ls y1 ho => ?_)
  have y2 := ho 0 _ (by decide) (fun q => by cases q.2) a0
  have y3 := ho 1 _ (by decide) (fun q => by cases q.2) a1
  exact E_Q_sum_7 hS r1 (fun n' hn' => hU n' (by omega)) iv1 ⟨by decide, by decide⟩ y2 y3 y1 h
def em_Q_sum (U : Int → rf_M → (rf_M → Prop) → Prop) (x1 : Int) (M : rf_M) (K : rf_M → Prop) : Prop := e_Q_sum U x1 M K
theorem E_Q_sum_m {fz : Bool} {S : gS} {B : rf_M} {M : rf_M} {n0 : Nat} {U : Int → rf_M → (rf_M → Prop) → Prop} {x1 : Int} {K : rf_M → Prop} (hS : rl S) (hR : fl 22 353 B M) (hU : ∀ n', n' < n0 → ∀ (x0 : Int) (M : rf_M) (K : rf_M → Prop), fl 22 353 B M → inr x0 → U x0 M K → lx (cx0 fz) n' 50 0 (lv_args 0 [.ref 169, zv x0]) [] (M, S) (vl_v 22 353 B S K)) (ix1 : inr x1) (h : em_Q_sum U x1 M K) : lx (cx0 fz) n0 48 0 (lv_args 0 [.ref 169, zv x1]) [] (M, S) (vl_v 22 353 B S K) :=
  E_Q_sum hS hR hU ix1 rfl rfl h
def e_Q_exp_55 (U : Int → rf_M → (rf_M → Prop) → Prop) (M : rf_M) (K : rf_M → Prop) : Prop := K M
theorem E_Q_exp_55 {fz : Bool} {S : gS} {B : rf_M} {M : rf_M} {ls : rf_L} {n0 : Nat} {U : Int → rf_M → (rf_M → Prop) → Prop} {K : rf_M → Prop} (hS : rl S) (hR : fl 22 353 B M) (hU : ∀ n', n' < n0 → ∀ (x0 : Int) (M : rf_M) (K : rf_M → Prop), fl 22 353 B M → inr x0 → U x0 M K → lx (cx0 fz) n' 50 0 (lv_args 0 [.ref 169, zv x0]) [] (M, S) (vl_v 22 353 B S K)) (h : e_Q_exp_55 U M K) : lx (cx0 fz) n0 47 55 ls [] (M, S) (vl_v 22 353 B S K) := by
  unfold e_Q_exp_55 at h
  rcases Nat.eq_zero_or_pos n0 with e0 | hp
  · rw [e0]; exact lx_zero
  exact l_rv rfl rfl hR h
def e_Q_exp_32 (U : Int → rf_M → (rf_M → Prop) → Prop) (v1 : Int) (M : rf_M) (K : rf_M → Prop) : Prop := em_Q_token  M (fun (z1 : Int) (M1 : rf_M) => em_Q_advance  M1 (fun (M2 : rf_M) => em_Q_sum U v1 M2 (fun (M3 : rf_M) => isP M3 169 1 ∧ (em_P_emit (gr M3 169 1) z1 0 M3 (fun (M4 : rf_M) => e_Q_exp_55 U M4 K)))))
theorem E_Q_exp_32 {fz : Bool} {S : gS} {B : rf_M} {M : rf_M} {ls : rf_L} {n0 : Nat} {U : Int → rf_M → (rf_M → Prop) → Prop} {v1 : Int} {K : rf_M → Prop} (hS : rl S) (hR : fl 22 353 B M) (hU : ∀ n', n' < n0 → ∀ (x0 : Int) (M : rf_M) (K : rf_M → Prop), fl 22 353 B M → inr x0 → U x0 M K → lx (cx0 fz) n' 50 0 (lv_args 0 [.ref 169, zv x0]) [] (M, S) (vl_v 22 353 B S K)) (iv1 : inr v1) (a0 : rf_ld ls 0 = some (.ref 169)) (a1 : rf_ld ls 1 = some (zv v1)) (h : e_Q_exp_32 U v1 M K) : lx (cx0 fz) n0 47 32 ls [] (M, S) (vl_v 22 353 B S K) := by
  unfold e_Q_exp_32 at h
  rcases Nat.eq_zero_or_pos n0 with e0 | hp
  · rw [e0]; exact lx_zero
  refine l1 (n := 1) rfl rfl rfl (la_of a0) ?_
  refine b_iv (c := 169) (as := []) (rest := []) rfl (by decide) (ko_2 hS (List.Mem.head _)) rfl rfl (Nat.le_of_ble_eq_true rfl) (fun hq => ?_)
  refine lx_mono (E_Q_token_m hS hR h) ?_
  rintro _ _ ⟨z1, M1, rfl, rfl, r1, iz1, h⟩
  refine l_s1 (n := 1) rfl rfl rfl rfl (fun ls y1 ho => ?_)
  have y2 := ho 0 _ (by decide) (fun q => by cases q.2) a0
  have y3 := ho 1 _ (by decide) (fun q => by cases q.2) a1
  refine l1 (n := 1) rfl rfl rfl (la_of y2) ?_
  refine b_iv (c := 169) (as := []) (rest := []) rfl (by decide) (ko_2 hS (List.Mem.head _)) rfl rfl (Nat.le_of_ble_eq_true rfl) (fun hq => ?_)
  refine lx_mono (E_Q_advance_m hS r1 h) ?_
  rintro _ _ ⟨M2, rfl, rfl, r2, h⟩
  refine l1 (n := 1) rfl rfl rfl (la_of y2) ?_
  refine l1 (n := 1) rfl rfl rfl (li_of y3) ?_
  refine b_iv (c := 169) (as := [zv v1]) (rest := []) rfl (by decide) (ko_2 hS (List.Mem.head _)) rfl rfl (Nat.le_of_ble_eq_true rfl) (fun hq => ?_)
  refine lx_mono (E_Q_sum_m hS r2 (fun n' hn' => hU n' (by omega)) iv1 h) ?_
  rintro _ _ ⟨M3, rfl, rfl, r3, h⟩
  refine l1 (n := 1) rfl rfl rfl (la_of y2) ?_
  obtain ⟨q1, h⟩ := h
  refine l_gr rfl (ko_2 hS (List.Mem.head _)) rfl (fun _ => rfl) q1.1 ?_
  refine l1 (n := 1) rfl rfl rfl (li_of y1) ?_
  refine l1 (n := 1) rfl rfl rfl rfl ?_
  refine b_iv (c := (gr M3 169 1)) (as := [zv z1, zv 0]) (rest := []) rfl (by decide) (ko_1 hS q1.2) rfl rfl (Nat.le_of_ble_eq_true rfl) (fun hq => ?_)
  refine lx_mono (E_P_emit_m hS r3 q1.2 iz1 ⟨by decide, by decide⟩ h) ?_
  rintro _ _ ⟨M4, rfl, rfl, r4, h⟩
  exact E_Q_exp_55 hS r4 (fun n' hn' => hU n' (by omega))  h
def e_Q_exp (U : Int → rf_M → (rf_M → Prop) → Prop) (v1 : Int) (M : rf_M) (K : rf_M → Prop) : Prop := em_Q_sum U v1 M (fun (M1 : rf_M) => em_Q_isAt 60 M1 (fun (z2 : Int) (M2 : rf_M) => (z2 = 0 → (em_Q_isAt 61 M2 (fun (z3 : Int) (M3 : rf_M) => (z3 = 0 → (em_Q_isAt 35 M3 (fun (z4 : Int) (M4 : rf_M) => (z4 = 0 → (e_Q_exp_55 U M4 K)) ∧ (¬ (z4 = 0) → (e_Q_exp_32 U v1 M4 K))))) ∧ (¬ z3 = 0 → (e_Q_exp_32 U v1 M3 K))))) ∧ (¬ z2 = 0 → (e_Q_exp_32 U v1 M2 K))))
theorem E_Q_exp {fz : Bool} {S : gS} {B : rf_M} {M : rf_M} {ls : rf_L} {n0 : Nat} {U : Int → rf_M → (rf_M → Prop) → Prop} {v1 : Int} {K : rf_M → Prop} (hS : rl S) (hR : fl 22 353 B M) (hU : ∀ n', n' < n0 → ∀ (x0 : Int) (M : rf_M) (K : rf_M → Prop), fl 22 353 B M → inr x0 → U x0 M K → lx (cx0 fz) n' 50 0 (lv_args 0 [.ref 169, zv x0]) [] (M, S) (vl_v 22 353 B S K)) (iv1 : inr v1) (a0 : rf_ld ls 0 = some (.ref 169)) (a1 : rf_ld ls 1 = some (zv v1)) (h : e_Q_exp U v1 M K) : lx (cx0 fz) n0 47 0 ls [] (M, S) (vl_v 22 353 B S K) := by
  unfold e_Q_exp at h
  rcases Nat.eq_zero_or_pos n0 with e0 | hp
  · rw [e0]; exact lx_zero
  refine l1 (n := 1) rfl rfl rfl (la_of a0) ?_
  refine l1 (n := 1) rfl rfl rfl (li_of a1) ?_
  refine b_iv (c := 169) (as := [zv v1]) (rest := []) rfl (by decide) (ko_2 hS (List.Mem.head _)) rfl rfl (Nat.le_of_ble_eq_true rfl) (fun hq => ?_)
  refine lx_mono (E_Q_sum_m hS hR (fun n' hn' => hU n' (by omega)) iv1 h) ?_
  rintro _ _ ⟨M1, rfl, rfl, r1, h⟩
  refine l1 (n := 1) rfl rfl rfl (la_of a0) ?_
  refine l_bi rfl (by decide) ?_
  refine b_iv (c := 169) (as := [zv 60]) (rest := []) rfl (by decide) (ko_2 hS (List.Mem.head _)) rfl rfl (Nat.le_of_ble_eq_true rfl) (fun hq => ?_)
  refine lx_mono (E_Q_isAt_m hS r1 ⟨by decide, by decide⟩ h) ?_
  rintro _ _ ⟨z2, M2, rfl, rfl, r2, iz2, h⟩
  refine l_if rfl iz2 (fun c => ?_) (fun c => ?_)
  · replace h := h.2 c
    exact E_Q_exp_32 hS r2 (fun n' hn' => hU n' (by omega)) iv1 a0 a1 h
  · replace h := h.1 (Classical.not_not.mp c)
    refine l1 (n := 1) rfl rfl rfl (la_of a0) ?_
    refine l_bi rfl (by decide) ?_
    refine b_iv (c := 169) (as := [zv 61]) (rest := []) rfl (by decide) (ko_2 hS (List.Mem.head _)) rfl rfl (Nat.le_of_ble_eq_true rfl) (fun hq => ?_)
    refine lx_mono (E_Q_isAt_m hS r2 ⟨by decide, by decide⟩ h) ?_
    rintro _ _ ⟨z3, M3, rfl, rfl, r3, iz3, h⟩
    refine l_if rfl iz3 (fun c => ?_) (fun c => ?_)
    · replace h := h.2 c
      exact E_Q_exp_32 hS r3 (fun n' hn' => hU n' (by omega)) iv1 a0 a1 h
    · replace h := h.1 (Classical.not_not.mp c)
      refine l1 (n := 1) rfl rfl rfl (la_of a0) ?_
      refine l_bi rfl (by decide) ?_
      refine b_iv (c := 169) (as := [zv 35]) (rest := []) rfl (by decide) (ko_2 hS (List.Mem.head _)) rfl rfl (Nat.le_of_ble_eq_true rfl) (fun hq => ?_)
      refine lx_mono (E_Q_isAt_m hS r3 ⟨by decide, by decide⟩ h) ?_
      rintro _ _ ⟨z4, M4, rfl, rfl, r4, iz4, h⟩
      refine l_if rfl iz4 (fun c => ?_) (fun c => ?_)
      · replace h := h.1 c
        exact E_Q_exp_55 hS r4 (fun n' hn' => hU n' (by omega))  h
      · replace h := h.2 c
        exact E_Q_exp_32 hS r4 (fun n' hn' => hU n' (by omega)) iv1 a0 a1 h
def em_Q_exp (U : Int → rf_M → (rf_M → Prop) → Prop) (x1 : Int) (M : rf_M) (K : rf_M → Prop) : Prop := e_Q_exp U x1 M K
theorem E_Q_exp_m {fz : Bool} {S : gS} {B : rf_M} {M : rf_M} {n0 : Nat} {U : Int → rf_M → (rf_M → Prop) → Prop} {x1 : Int} {K : rf_M → Prop} (hS : rl S) (hR : fl 22 353 B M) (hU : ∀ n', n' < n0 → ∀ (x0 : Int) (M : rf_M) (K : rf_M → Prop), fl 22 353 B M → inr x0 → U x0 M K → lx (cx0 fz) n' 50 0 (lv_args 0 [.ref 169, zv x0]) [] (M, S) (vl_v 22 353 B S K)) (ix1 : inr x1) (h : em_Q_exp U x1 M K) : lx (cx0 fz) n0 47 0 (lv_args 0 [.ref 169, zv x1]) [] (M, S) (vl_v 22 353 B S K) :=
  E_Q_exp hS hR hU ix1 rfl rfl h
def e_Q_expect_19 (M : rf_M) (K : rf_M → Prop) : Prop := K M
theorem E_Q_expect_19 {fz : Bool} {S : gS} {B : rf_M} {M : rf_M} {ls : rf_L} {n0 : Nat} {K : rf_M → Prop} (hS : rl S) (hR : fl 22 353 B M) (h : e_Q_expect_19 M K) : lx (cx0 fz) n0 45 19 ls [] (M, S) (vl_v 22 353 B S K) := by
  unfold e_Q_expect_19 at h
  exact l_rv rfl rfl hR h
def e_Q_expect (v1 : Int) (M : rf_M) (K : rf_M → Prop) : Prop := em_Q_isAt v1 M (fun (z1 : Int) (M1 : rf_M) => (z1 = 0 → (em_Q_refuse  M1 (fun (M2 : rf_M) => e_Q_expect_19 M2 K))) ∧ (¬ (z1 = 0) → (em_Q_advance  M1 (fun (M3 : rf_M) => e_Q_expect_19 M3 K))))
theorem E_Q_expect {fz : Bool} {S : gS} {B : rf_M} {M : rf_M} {ls : rf_L} {n0 : Nat} {v1 : Int} {K : rf_M → Prop} (hS : rl S) (hR : fl 22 353 B M) (iv1 : inr v1) (a0 : rf_ld ls 0 = some (.ref 169)) (a1 : rf_ld ls 1 = some (zv v1)) (h : e_Q_expect v1 M K) : lx (cx0 fz) n0 45 0 ls [] (M, S) (vl_v 22 353 B S K) := by
  unfold e_Q_expect at h
  refine l1 (n := 1) rfl rfl rfl (la_of a0) ?_
  refine l1 (n := 1) rfl rfl rfl (li_of a1) ?_
  refine b_iv (c := 169) (as := [zv v1]) (rest := []) rfl (by decide) (ko_2 hS (List.Mem.head _)) rfl rfl (Nat.le_of_ble_eq_true rfl) (fun hq => ?_)
  refine lx_mono (E_Q_isAt_m hS hR iv1 h) ?_
  rintro _ _ ⟨z1, M1, rfl, rfl, r1, iz1, h⟩
  refine l_if rfl iz1 (fun c => ?_) (fun c => ?_)
  · replace h := h.1 c
    refine l1 (n := 1) rfl rfl rfl (la_of a0) ?_
    refine b_iv (c := 169) (as := []) (rest := []) rfl (by decide) (ko_2 hS (List.Mem.head _)) rfl rfl (Nat.le_of_ble_eq_true rfl) (fun hq => ?_)
    refine lx_mono (E_Q_refuse_m hS r1 h) ?_
    rintro _ _ ⟨M2, rfl, rfl, r2, h⟩
    exact E_Q_expect_19 hS r2  h
  · replace h := h.2 c
    refine l1 (n := 1) rfl rfl rfl (la_of a0) ?_
    refine b_iv (c := 169) (as := []) (rest := []) rfl (by decide) (ko_2 hS (List.Mem.head _)) rfl rfl (Nat.le_of_ble_eq_true rfl) (fun hq => ?_)
    refine lx_mono (E_Q_advance_m hS r1 h) ?_
    rintro _ _ ⟨M3, rfl, rfl, r3, h⟩
    refine l3 rfl rfl rfl ?_
    exact E_Q_expect_19 hS r3  h
def em_Q_expect (x1 : Int) (M : rf_M) (K : rf_M → Prop) : Prop := e_Q_expect x1 M K
theorem E_Q_expect_m {fz : Bool} {S : gS} {B : rf_M} {M : rf_M} {n0 : Nat} {x1 : Int} {K : rf_M → Prop} (hS : rl S) (hR : fl 22 353 B M) (ix1 : inr x1) (h : em_Q_expect x1 M K) : lx (cx0 fz) n0 45 0 (lv_args 0 [.ref 169, zv x1]) [] (M, S) (vl_v 22 353 B S K) :=
  E_Q_expect hS hR ix1 rfl rfl h
def e_Q_unary_19 (U : Int → rf_M → (rf_M → Prop) → Prop) (M : rf_M) (K : rf_M → Prop) : Prop := em_Q_refuse  M (fun (M1 : rf_M) => K M1)
theorem E_Q_unary_19 {fz : Bool} {S : gS} {B : rf_M} {M : rf_M} {ls : rf_L} {n0 : Nat} {U : Int → rf_M → (rf_M → Prop) → Prop} {K : rf_M → Prop} (hS : rl S) (hR : fl 22 353 B M) (hU : ∀ n', n' < n0 → ∀ (x0 : Int) (M : rf_M) (K : rf_M → Prop), fl 22 353 B M → inr x0 → U x0 M K → lx (cx0 fz) n' 50 0 (lv_args 0 [.ref 169, zv x0]) [] (M, S) (vl_v 22 353 B S K)) (a0 : rf_ld ls 0 = some (.ref 169)) (h : e_Q_unary_19 U M K) : lx (cx0 fz) n0 50 19 ls [] (M, S) (vl_v 22 353 B S K) := by
  unfold e_Q_unary_19 at h
  rcases Nat.eq_zero_or_pos n0 with e0 | hp
  · rw [e0]; exact lx_zero
  refine l1 (n := 1) rfl rfl rfl (la_of a0) ?_
  refine b_iv (c := 169) (as := []) (rest := []) rfl (by decide) (ko_2 hS (List.Mem.head _)) rfl rfl (Nat.le_of_ble_eq_true rfl) (fun hq => ?_)
  refine lx_mono (E_Q_refuse_m hS hR h) ?_
  rintro _ _ ⟨M1, rfl, rfl, r1, h⟩
  exact l_rv rfl rfl r1 h
def e_Q_unary_185 (U : Int → rf_M → (rf_M → Prop) → Prop) (M : rf_M) (K : rf_M → Prop) : Prop := K M
theorem E_Q_unary_185 {fz : Bool} {S : gS} {B : rf_M} {M : rf_M} {ls : rf_L} {n0 : Nat} {U : Int → rf_M → (rf_M → Prop) → Prop} {K : rf_M → Prop} (hS : rl S) (hR : fl 22 353 B M) (hU : ∀ n', n' < n0 → ∀ (x0 : Int) (M : rf_M) (K : rf_M → Prop), fl 22 353 B M → inr x0 → U x0 M K → lx (cx0 fz) n' 50 0 (lv_args 0 [.ref 169, zv x0]) [] (M, S) (vl_v 22 353 B S K)) (h : e_Q_unary_185 U M K) : lx (cx0 fz) n0 50 185 ls [] (M, S) (vl_v 22 353 B S K) := by
  unfold e_Q_unary_185 at h
  rcases Nat.eq_zero_or_pos n0 with e0 | hp
  · rw [e0]; exact lx_zero
  exact l_rv rfl rfl hR h
def e_Q_unary_89 (U : Int → rf_M → (rf_M → Prop) → Prop) (M : rf_M) (K : rf_M → Prop) : Prop := isP M 169 1 ∧ (em_Q_number  M (fun (z1 : Int) (M1 : rf_M) => em_P_emit (gr M 169 1) 2 z1 M1 (fun (M2 : rf_M) => em_Q_advance  M2 (fun (M3 : rf_M) => e_Q_unary_185 U M3 K))))
theorem E_Q_unary_89 {fz : Bool} {S : gS} {B : rf_M} {M : rf_M} {ls : rf_L} {n0 : Nat} {U : Int → rf_M → (rf_M → Prop) → Prop} {K : rf_M → Prop} (hS : rl S) (hR : fl 22 353 B M) (hU : ∀ n', n' < n0 → ∀ (x0 : Int) (M : rf_M) (K : rf_M → Prop), fl 22 353 B M → inr x0 → U x0 M K → lx (cx0 fz) n' 50 0 (lv_args 0 [.ref 169, zv x0]) [] (M, S) (vl_v 22 353 B S K)) (a0 : rf_ld ls 0 = some (.ref 169)) (h : e_Q_unary_89 U M K) : lx (cx0 fz) n0 50 89 ls [] (M, S) (vl_v 22 353 B S K) := by
  unfold e_Q_unary_89 at h
  rcases Nat.eq_zero_or_pos n0 with e0 | hp
  · rw [e0]; exact lx_zero
  refine l1 (n := 1) rfl rfl rfl (la_of a0) ?_
  obtain ⟨q1, h⟩ := h
  refine l_gr rfl (ko_2 hS (List.Mem.head _)) rfl (fun _ => rfl) q1.1 ?_
  refine l1 (n := 1) rfl rfl rfl rfl ?_
  refine l1 (n := 1) rfl rfl rfl (la_of a0) ?_
  refine b_iv (c := 169) (as := []) (rest := [zv 2, .ref (gr M 169 1)]) rfl (by decide) (ko_2 hS (List.Mem.head _)) rfl rfl (Nat.le_of_ble_eq_true rfl) (fun hq => ?_)
  refine lx_mono (E_Q_number_m hS hR h) ?_
  rintro _ _ ⟨z1, M1, rfl, rfl, r1, iz1, h⟩
  refine b_iv (c := (gr M 169 1)) (as := [zv 2, zv z1]) (rest := []) rfl (by decide) (ko_1 hS q1.2) rfl rfl (Nat.le_of_ble_eq_true rfl) (fun hq => ?_)
  refine lx_mono (E_P_emit_m hS r1 q1.2 ⟨by decide, by decide⟩ iz1 h) ?_
  rintro _ _ ⟨M2, rfl, rfl, r2, h⟩
  refine l1 (n := 1) rfl rfl rfl (la_of a0) ?_
  refine b_iv (c := 169) (as := []) (rest := []) rfl (by decide) (ko_2 hS (List.Mem.head _)) rfl rfl (Nat.le_of_ble_eq_true rfl) (fun hq => ?_)
  refine lx_mono (E_Q_advance_m hS r2 h) ?_
  rintro _ _ ⟨M3, rfl, rfl, r3, h⟩
  refine l3 rfl rfl rfl ?_
  exact E_Q_unary_185 hS r3 (fun n' hn' => hU n' (by omega))  h
def e_Q_unary_181 (U : Int → rf_M → (rf_M → Prop) → Prop) (M : rf_M) (K : rf_M → Prop) : Prop := em_Q_refuse  M (fun (M1 : rf_M) => e_Q_unary_185 U M1 K)
theorem E_Q_unary_181 {fz : Bool} {S : gS} {B : rf_M} {M : rf_M} {ls : rf_L} {n0 : Nat} {U : Int → rf_M → (rf_M → Prop) → Prop} {K : rf_M → Prop} (hS : rl S) (hR : fl 22 353 B M) (hU : ∀ n', n' < n0 → ∀ (x0 : Int) (M : rf_M) (K : rf_M → Prop), fl 22 353 B M → inr x0 → U x0 M K → lx (cx0 fz) n' 50 0 (lv_args 0 [.ref 169, zv x0]) [] (M, S) (vl_v 22 353 B S K)) (a0 : rf_ld ls 0 = some (.ref 169)) (h : e_Q_unary_181 U M K) : lx (cx0 fz) n0 50 181 ls [] (M, S) (vl_v 22 353 B S K) := by
  unfold e_Q_unary_181 at h
  rcases Nat.eq_zero_or_pos n0 with e0 | hp
  · rw [e0]; exact lx_zero
  refine l1 (n := 1) rfl rfl rfl (la_of a0) ?_
  refine b_iv (c := 169) (as := []) (rest := []) rfl (by decide) (ko_2 hS (List.Mem.head _)) rfl rfl (Nat.le_of_ble_eq_true rfl) (fun hq => ?_)
  refine lx_mono (E_Q_refuse_m hS hR h) ?_
  rintro _ _ ⟨M1, rfl, rfl, r1, h⟩
  exact E_Q_unary_185 hS r1 (fun n' hn' => hU n' (by omega))  h
def e_Q_unary_146 (U : Int → rf_M → (rf_M → Prop) → Prop) (v1 : Int) (M : rf_M) (K : rf_M → Prop) : Prop := em_Q_isAt 40 M (fun (z1 : Int) (M1 : rf_M) => (z1 = 0 → (e_Q_unary_181 U M1 K)) ∧ (¬ (z1 = 0) → ((8 ≤ v1 → (e_Q_unary_181 U M1 K)) ∧ (¬ (8 ≤ v1) → (em_Q_advance  M1 (fun (M2 : rf_M) => inr (v1 + 1) ∧ (em_Q_exp U (v1 + 1) M2 (fun (M3 : rf_M) => em_Q_expect 41 M3 (fun (M4 : rf_M) => e_Q_unary_185 U M4 K)))))))))
theorem E_Q_unary_146 {fz : Bool} {S : gS} {B : rf_M} {M : rf_M} {ls : rf_L} {n0 : Nat} {U : Int → rf_M → (rf_M → Prop) → Prop} {v1 : Int} {K : rf_M → Prop} (hS : rl S) (hR : fl 22 353 B M) (hU : ∀ n', n' < n0 → ∀ (x0 : Int) (M : rf_M) (K : rf_M → Prop), fl 22 353 B M → inr x0 → U x0 M K → lx (cx0 fz) n' 50 0 (lv_args 0 [.ref 169, zv x0]) [] (M, S) (vl_v 22 353 B S K)) (iv1 : inr v1) (a0 : rf_ld ls 0 = some (.ref 169)) (a1 : rf_ld ls 1 = some (zv v1)) (h : e_Q_unary_146 U v1 M K) : lx (cx0 fz) n0 50 146 ls [] (M, S) (vl_v 22 353 B S K) := by
  unfold e_Q_unary_146 at h
  rcases Nat.eq_zero_or_pos n0 with e0 | hp
  · rw [e0]; exact lx_zero
  refine l1 (n := 1) rfl rfl rfl (la_of a0) ?_
  refine l_bi rfl (by decide) ?_
  refine b_iv (c := 169) (as := [zv 40]) (rest := []) rfl (by decide) (ko_2 hS (List.Mem.head _)) rfl rfl (Nat.le_of_ble_eq_true rfl) (fun hq => ?_)
  refine lx_mono (E_Q_isAt_m hS hR ⟨by decide, by decide⟩ h) ?_
  rintro _ _ ⟨z1, M1, rfl, rfl, r1, iz1, h⟩
  refine l_if rfl iz1 (fun c => ?_) (fun c => ?_)
  · replace h := h.1 c
    exact E_Q_unary_181 hS r1 (fun n' hn' => hU n' (by omega)) a0 h
  · replace h := h.2 c
    refine l1 (n := 1) rfl rfl rfl (li_of a1) ?_
    refine l_bi rfl (by decide) ?_
    refine l_ic rfl iv1 ⟨by decide, by decide⟩ (fun c => ?_) (fun c => ?_)
    · replace h := h.1 c
      exact E_Q_unary_181 hS r1 (fun n' hn' => hU n' (by omega)) a0 h
    · replace h := h.2 c
      refine l1 (n := 1) rfl rfl rfl (la_of a0) ?_
      refine b_iv (c := 169) (as := []) (rest := []) rfl (by decide) (ko_2 hS (List.Mem.head _)) rfl rfl (Nat.le_of_ble_eq_true rfl) (fun hq => ?_)
      refine lx_mono (E_Q_advance_m hS r1 h) ?_
      rintro _ _ ⟨M2, rfl, rfl, r2, h⟩
      refine l1 (n := 1) rfl rfl rfl (la_of a0) ?_
      refine l1 (n := 1) rfl rfl rfl (li_of a1) ?_
      refine l1 (n := 1) rfl rfl rfl rfl ?_
      refine l_add rfl ?_
      obtain ⟨i1, h⟩ := h
      refine b_iv (c := 169) (as := [zv (v1 + 1)]) (rest := []) rfl (by decide) (ko_2 hS (List.Mem.head _)) rfl rfl (Nat.le_of_ble_eq_true rfl) (fun hq => ?_)
      refine lx_mono (E_Q_exp_m hS r2 (fun n' hn' => hU n' (by omega)) i1 h) ?_
      rintro _ _ ⟨M3, rfl, rfl, r3, h⟩
      refine l1 (n := 1) rfl rfl rfl (la_of a0) ?_
      refine l_bi rfl (by decide) ?_
      refine b_iv (c := 169) (as := [zv 41]) (rest := []) rfl (by decide) (ko_2 hS (List.Mem.head _)) rfl rfl (Nat.le_of_ble_eq_true rfl) (fun hq => ?_)
      refine lx_mono (E_Q_expect_m hS r3 ⟨by decide, by decide⟩ h) ?_
      rintro _ _ ⟨M4, rfl, rfl, r4, h⟩
      refine l3 rfl rfl rfl ?_
      exact E_Q_unary_185 hS r4 (fun n' hn' => hU n' (by omega))  h
def e_Q_unary_108 (U : Int → rf_M → (rf_M → Prop) → Prop) (v1 : Int) (M : rf_M) (K : rf_M → Prop) : Prop := em_Q_isAt 45 M (fun (z1 : Int) (M1 : rf_M) => (z1 = 0 → (e_Q_unary_146 U v1 M1 K)) ∧ (¬ (z1 = 0) → ((8 ≤ v1 → (e_Q_unary_146 U v1 M1 K)) ∧ (¬ (8 ≤ v1) → (em_Q_advance  M1 (fun (M2 : rf_M) => inr (v1 + 1) ∧ (U (v1 + 1) M2 (fun (M3 : rf_M) => isP M3 169 1 ∧ (em_P_emit (gr M3 169 1) 3 0 M3 (fun (M4 : rf_M) => e_Q_unary_185 U M4 K))))))))))
theorem E_Q_unary_108 {fz : Bool} {S : gS} {B : rf_M} {M : rf_M} {ls : rf_L} {n0 : Nat} {U : Int → rf_M → (rf_M → Prop) → Prop} {v1 : Int} {K : rf_M → Prop} (hS : rl S) (hR : fl 22 353 B M) (hU : ∀ n', n' < n0 → ∀ (x0 : Int) (M : rf_M) (K : rf_M → Prop), fl 22 353 B M → inr x0 → U x0 M K → lx (cx0 fz) n' 50 0 (lv_args 0 [.ref 169, zv x0]) [] (M, S) (vl_v 22 353 B S K)) (iv1 : inr v1) (a0 : rf_ld ls 0 = some (.ref 169)) (a1 : rf_ld ls 1 = some (zv v1)) (h : e_Q_unary_108 U v1 M K) : lx (cx0 fz) n0 50 108 ls [] (M, S) (vl_v 22 353 B S K) := by
  unfold e_Q_unary_108 at h
  rcases Nat.eq_zero_or_pos n0 with e0 | hp
  · rw [e0]; exact lx_zero
  refine l1 (n := 1) rfl rfl rfl (la_of a0) ?_
  refine l_bi rfl (by decide) ?_
  refine b_iv (c := 169) (as := [zv 45]) (rest := []) rfl (by decide) (ko_2 hS (List.Mem.head _)) rfl rfl (Nat.le_of_ble_eq_true rfl) (fun hq => ?_)
  refine lx_mono (E_Q_isAt_m hS hR ⟨by decide, by decide⟩ h) ?_
  rintro _ _ ⟨z1, M1, rfl, rfl, r1, iz1, h⟩
  refine l_if rfl iz1 (fun c => ?_) (fun c => ?_)
  · replace h := h.1 c
    exact E_Q_unary_146 hS r1 (fun n' hn' => hU n' (by omega)) iv1 a0 a1 h
  · replace h := h.2 c
    refine l1 (n := 1) rfl rfl rfl (li_of a1) ?_
    refine l_bi rfl (by decide) ?_
    refine l_ic rfl iv1 ⟨by decide, by decide⟩ (fun c => ?_) (fun c => ?_)
    · replace h := h.1 c
      exact E_Q_unary_146 hS r1 (fun n' hn' => hU n' (by omega)) iv1 a0 a1 h
    · replace h := h.2 c
      refine l1 (n := 1) rfl rfl rfl (la_of a0) ?_
      refine b_iv (c := 169) (as := []) (rest := []) rfl (by decide) (ko_2 hS (List.Mem.head _)) rfl rfl (Nat.le_of_ble_eq_true rfl) (fun hq => ?_)
      refine lx_mono (E_Q_advance_m hS r1 h) ?_
      rintro _ _ ⟨M2, rfl, rfl, r2, h⟩
      refine l1 (n := 1) rfl rfl rfl (la_of a0) ?_
      refine l1 (n := 1) rfl rfl rfl (li_of a1) ?_
      refine l1 (n := 1) rfl rfl rfl rfl ?_
      refine l_add rfl ?_
      obtain ⟨i1, h⟩ := h
      refine b_iv (c := 169) (as := [zv (v1 + 1)]) (rest := []) rfl (by decide) (ko_2 hS (List.Mem.head _)) rfl rfl (Nat.le_of_ble_eq_true rfl) (fun hq => ?_)
      refine lx_mono (hU _ (by omega) _ _ _ r2 i1 h) ?_
      rintro _ _ ⟨M3, rfl, rfl, r3, h⟩
      refine l1 (n := 1) rfl rfl rfl (la_of a0) ?_
      obtain ⟨q1, h⟩ := h
      refine l_gr rfl (ko_2 hS (List.Mem.head _)) rfl (fun _ => rfl) q1.1 ?_
      refine l1 (n := 1) rfl rfl rfl rfl ?_
      refine l1 (n := 1) rfl rfl rfl rfl ?_
      refine b_iv (c := (gr M3 169 1)) (as := [zv 3, zv 0]) (rest := []) rfl (by decide) (ko_1 hS q1.2) rfl rfl (Nat.le_of_ble_eq_true rfl) (fun hq => ?_)
      refine lx_mono (E_P_emit_m hS r3 q1.2 ⟨by decide, by decide⟩ ⟨by decide, by decide⟩ h) ?_
      rintro _ _ ⟨M4, rfl, rfl, r4, h⟩
      refine l3 rfl rfl rfl ?_
      exact E_Q_unary_185 hS r4 (fun n' hn' => hU n' (by omega))  h
def e_Q_unary (U : Int → rf_M → (rf_M → Prop) → Prop) (v1 : Int) (M : rf_M) (K : rf_M → Prop) : Prop := em_Q_isFaulty  M (fun (z1 : Int) (M1 : rf_M) => (z1 = 0 → (isP M1 169 1 ∧ (((gi M1 (gr M1 169 1) 1) < 60 → (isP M1 169 1 ∧ (∀ M2 : rf_M, M2 = wi M1 (gr M1 169 1) 1 ((gi M1 (gr M1 169 1) 1) + 1) → (em_Q_isAt 2 M2 (fun (z3 : Int) (M3 : rf_M) => (z3 = 0 → (em_Q_isAt 1 M3 (fun (z4 : Int) (M4 : rf_M) => (z4 = 0 → (e_Q_unary_108 U v1 M4 K)) ∧ (¬ (z4 = 0) → (em_Q_number  M4 (fun (z5 : Int) (M5 : rf_M) => em_M_isCell z5 M5 (fun (z6 : Int) (M6 : rf_M) => (z6 = 0 → (((gi M6 169 4) = 0 → (e_Q_unary_89 U M6 K)) ∧ (¬ (gi M6 169 4) = 0 → (e_Q_unary_108 U v1 M6 K)))) ∧ (¬ z6 = 0 → (e_Q_unary_89 U M6 K))))))))) ∧ (¬ (z3 = 0) → (isP M3 169 1 ∧ (em_Q_number  M3 (fun (z7 : Int) (M7 : rf_M) => em_P_emit (gr M3 169 1) 1 z7 M7 (fun (M8 : rf_M) => em_Q_advance  M8 (fun (M9 : rf_M) => e_Q_unary_185 U M9 K))))))))))) ∧ (¬ ((gi M1 (gr M1 169 1) 1) < 60) → (e_Q_unary_19 U M1 K))))) ∧ (¬ z1 = 0 → (e_Q_unary_19 U M1 K)))
theorem E_Q_unary {fz : Bool} {S : gS} {B : rf_M} {M : rf_M} {ls : rf_L} {n0 : Nat} {U : Int → rf_M → (rf_M → Prop) → Prop} {v1 : Int} {K : rf_M → Prop} (hS : rl S) (hR : fl 22 353 B M) (hU : ∀ n', n' < n0 → ∀ (x0 : Int) (M : rf_M) (K : rf_M → Prop), fl 22 353 B M → inr x0 → U x0 M K → lx (cx0 fz) n' 50 0 (lv_args 0 [.ref 169, zv x0]) [] (M, S) (vl_v 22 353 B S K)) (iv1 : inr v1) (a0 : rf_ld ls 0 = some (.ref 169)) (a1 : rf_ld ls 1 = some (zv v1)) (h : e_Q_unary U v1 M K) : lx (cx0 fz) n0 50 0 ls [] (M, S) (vl_v 22 353 B S K) := by
  unfold e_Q_unary at h
  rcases Nat.eq_zero_or_pos n0 with e0 | hp
  · rw [e0]; exact lx_zero
  refine l1 (n := 1) rfl rfl rfl (la_of a0) ?_
  refine b_iv (c := 169) (as := []) (rest := []) rfl (by decide) (ko_2 hS (List.Mem.head _)) rfl rfl (Nat.le_of_ble_eq_true rfl) (fun hq => ?_)
  refine lx_mono (E_Q_isFaulty_m hS hR h) ?_
  rintro _ _ ⟨z1, M1, rfl, rfl, r1, iz1, h⟩
  refine l_if rfl iz1 (fun c => ?_) (fun c => ?_)
  · replace h := h.2 c
    exact E_Q_unary_19 hS r1 (fun n' hn' => hU n' (by omega)) a0 h
  · replace h := h.1 (Classical.not_not.mp c)
    refine l1 (n := 1) rfl rfl rfl (la_of a0) ?_
    obtain ⟨q1, h⟩ := h
    refine l_gr rfl (ko_2 hS (List.Mem.head _)) rfl (fun _ => rfl) q1.1 ?_
    refine l_gi rfl (ko_1 hS q1.2) rfl (fun _ => rfl) ?_
    refine l_bi rfl (by decide) ?_
    refine l_ic rfl (inr_gi _ _ _) ⟨by decide, by decide⟩ (fun c => ?_) (fun c => ?_)
    · replace h := h.1 c
      refine l1 (n := 1) rfl rfl rfl (la_of a0) ?_
      obtain ⟨q2, h⟩ := h
      refine l_gr rfl (ko_2 hS (List.Mem.head _)) rfl (fun _ => rfl) q2.1 ?_
      refine l0 rfl rfl rfl ?_
      refine l_gi rfl (ko_1 hS q2.2) rfl (fun _ => rfl) ?_
      refine l1 (n := 1) rfl rfl rfl rfl ?_
      refine l_add rfl ?_
      refine l_pi rfl (ko_1 (fz := fz) hS q2.2) rfl (fun _ _ => rfl) (fun M2 e => ?_)
      replace h := h M2 e
      have r2 := r1.wi (ko_1 (fz := fz) hS q2.2).1 (kl_1 q2.2) e
      refine l1 (n := 1) rfl rfl rfl (la_of a0) ?_
      refine l1 (n := 1) rfl rfl rfl rfl ?_
      refine b_iv (c := 169) (as := [zv 2]) (rest := []) rfl (by decide) (ko_2 hS (List.Mem.head _)) rfl rfl (Nat.le_of_ble_eq_true rfl) (fun hq => ?_)
      refine lx_mono (E_Q_isAt_m hS r2 ⟨by decide, by decide⟩ h) ?_
      rintro _ _ ⟨z3, M3, rfl, rfl, r3, iz3, h⟩
      refine l_if rfl iz3 (fun c => ?_) (fun c => ?_)
      · replace h := h.1 c
        refine l1 (n := 1) rfl rfl rfl (la_of a0) ?_
        refine l1 (n := 1) rfl rfl rfl rfl ?_
        refine b_iv (c := 169) (as := [zv 1]) (rest := []) rfl (by decide) (ko_2 hS (List.Mem.head _)) rfl rfl (Nat.le_of_ble_eq_true rfl) (fun hq => ?_)
        refine lx_mono (E_Q_isAt_m hS r3 ⟨by decide, by decide⟩ h) ?_
        rintro _ _ ⟨z4, M4, rfl, rfl, r4, iz4, h⟩
        refine l_if rfl iz4 (fun c => ?_) (fun c => ?_)
        · replace h := h.1 c
          exact E_Q_unary_108 hS r4 (fun n' hn' => hU n' (by omega)) iv1 a0 a1 h
        · replace h := h.2 c
          refine l1 (n := 1) rfl rfl rfl (la_of a0) ?_
          refine b_iv (c := 169) (as := []) (rest := []) rfl (by decide) (ko_2 hS (List.Mem.head _)) rfl rfl (Nat.le_of_ble_eq_true rfl) (fun hq => ?_)
          refine lx_mono (E_Q_number_m hS r4 h) ?_
          rintro _ _ ⟨z5, M5, rfl, rfl, r5, iz5, h⟩
          refine b_st (as := [zv z5]) (rest := []) rfl (by decide) rfl (Nat.le_of_ble_eq_true rfl) (fun hq => ?_)
          refine lx_mono (E_M_isCell_m hS r5 iz5 h) ?_
          rintro _ _ ⟨z6, M6, rfl, rfl, r6, iz6, h⟩
          refine l_if rfl iz6 (fun c => ?_) (fun c => ?_)
          · replace h := h.2 c
            exact E_Q_unary_89 hS r6 (fun n' hn' => hU n' (by omega)) a0 h
          · replace h := h.1 (Classical.not_not.mp c)
            refine l1 (n := 1) rfl rfl rfl (la_of a0) ?_
            refine l_gi rfl (ko_2 hS (List.Mem.head _)) rfl (fun _ => rfl) ?_
            refine l_if rfl (inr_gi _ _ _) (fun c => ?_) (fun c => ?_)
            · replace h := h.2 c
              exact E_Q_unary_108 hS r6 (fun n' hn' => hU n' (by omega)) iv1 a0 a1 h
            · replace h := h.1 (Classical.not_not.mp c)
              exact E_Q_unary_89 hS r6 (fun n' hn' => hU n' (by omega)) a0 h
      · replace h := h.2 c
        refine l1 (n := 1) rfl rfl rfl (la_of a0) ?_
        obtain ⟨q3, h⟩ := h
        refine l_gr rfl (ko_2 hS (List.Mem.head _)) rfl (fun _ => rfl) q3.1 ?_
        refine l1 (n := 1) rfl rfl rfl rfl ?_
        refine l1 (n := 1) rfl rfl rfl (la_of a0) ?_
        refine b_iv (c := 169) (as := []) (rest := [zv 1, .ref (gr M3 169 1)]) rfl (by decide) (ko_2 hS (List.Mem.head _)) rfl rfl (Nat.le_of_ble_eq_true rfl) (fun hq => ?_)
        refine lx_mono (E_Q_number_m hS r3 h) ?_
        rintro _ _ ⟨z7, M7, rfl, rfl, r7, iz7, h⟩
        refine b_iv (c := (gr M3 169 1)) (as := [zv 1, zv z7]) (rest := []) rfl (by decide) (ko_1 hS q3.2) rfl rfl (Nat.le_of_ble_eq_true rfl) (fun hq => ?_)
        refine lx_mono (E_P_emit_m hS r7 q3.2 ⟨by decide, by decide⟩ iz7 h) ?_
        rintro _ _ ⟨M8, rfl, rfl, r8, h⟩
        refine l1 (n := 1) rfl rfl rfl (la_of a0) ?_
        refine b_iv (c := 169) (as := []) (rest := []) rfl (by decide) (ko_2 hS (List.Mem.head _)) rfl rfl (Nat.le_of_ble_eq_true rfl) (fun hq => ?_)
        refine lx_mono (E_Q_advance_m hS r8 h) ?_
        rintro _ _ ⟨M9, rfl, rfl, r9, h⟩
        refine l3 rfl rfl rfl ?_
        exact E_Q_unary_185 hS r9 (fun n' hn' => hU n' (by omega))  h
    · replace h := h.2 c
      exact E_Q_unary_19 hS r1 (fun n' hn' => hU n' (by omega)) a0 h
def em_Q_unary (U : Int → rf_M → (rf_M → Prop) → Prop) (x1 : Int) (M : rf_M) (K : rf_M → Prop) : Prop := e_Q_unary U x1 M K
theorem E_Q_unary_m {fz : Bool} {S : gS} {B : rf_M} {M : rf_M} {n0 : Nat} {U : Int → rf_M → (rf_M → Prop) → Prop} {x1 : Int} {K : rf_M → Prop} (hS : rl S) (hR : fl 22 353 B M) (hU : ∀ n', n' < n0 → ∀ (x0 : Int) (M : rf_M) (K : rf_M → Prop), fl 22 353 B M → inr x0 → U x0 M K → lx (cx0 fz) n' 50 0 (lv_args 0 [.ref 169, zv x0]) [] (M, S) (vl_v 22 353 B S K)) (ix1 : inr x1) (h : em_Q_unary U x1 M K) : lx (cx0 fz) n0 50 0 (lv_args 0 [.ref 169, zv x1]) [] (M, S) (vl_v 22 353 B S K) :=
  E_Q_unary hS hR hU ix1 rfl rfl h
def e_Q_canBegin (v0 : Int) (M : rf_M) (K : Int → rf_M → Prop) : Prop := (v0 = 1 → (K 1 M)) ∧ (v0 = 10 → (K 1 M)) ∧ (v0 = 12 → (K 1 M)) ∧ (v0 = 13 → (K 1 M)) ∧ (v0 = 14 → (K 1 M)) ∧ (v0 = 15 → (K 1 M)) ∧ (v0 = 17 → (K 1 M)) ∧ (v0 = 19 → (K 1 M)) ∧ (¬ v0 = 1 ∧ ¬ v0 = 10 ∧ ¬ v0 = 12 ∧ ¬ v0 = 13 ∧ ¬ v0 = 14 ∧ ¬ v0 = 15 ∧ ¬ v0 = 17 ∧ ¬ v0 = 19 → (K 0 M))
theorem E_Q_canBegin {fz : Bool} {S : gS} {B : rf_M} {M : rf_M} {ls : rf_L} {n0 : Nat} {v0 : Int} {K : Int → rf_M → Prop} (hS : rl S) (hR : fl 22 353 B M) (iv0 : inr v0) (a0 : rf_ld ls 0 = some (zv v0)) (h : e_Q_canBegin v0 M K) : lx (cx0 fz) n0 40 0 ls [] (M, S) (vl_i 22 353 B S K) := by
  unfold e_Q_canBegin at h
  refine l1 (n := 1) rfl rfl rfl (li_of a0) ?_
  have ia : inr v0 := iv0
  obtain ⟨h1, h⟩ := h
  by_cases e1 : v0 = 1
  · replace h := h1 e1
    refine l_sw (pc' := 92) e1 rfl rfl rfl ?_
    refine l1 (n := 1) rfl rfl rfl rfl ?_
    exact l_rb rfl rfl (Or.inr rfl) hR h
  obtain ⟨h1, h⟩ := h
  by_cases e10 : v0 = 10
  · replace h := h1 e10
    refine l_sw (pc' := 92) e10 rfl rfl rfl ?_
    refine l1 (n := 1) rfl rfl rfl rfl ?_
    exact l_rb rfl rfl (Or.inr rfl) hR h
  obtain ⟨h1, h⟩ := h
  by_cases e12 : v0 = 12
  · replace h := h1 e12
    refine l_sw (pc' := 92) e12 rfl rfl rfl ?_
    refine l1 (n := 1) rfl rfl rfl rfl ?_
    exact l_rb rfl rfl (Or.inr rfl) hR h
  obtain ⟨h1, h⟩ := h
  by_cases e13 : v0 = 13
  · replace h := h1 e13
    refine l_sw (pc' := 92) e13 rfl rfl rfl ?_
    refine l1 (n := 1) rfl rfl rfl rfl ?_
    exact l_rb rfl rfl (Or.inr rfl) hR h
  obtain ⟨h1, h⟩ := h
  by_cases e14 : v0 = 14
  · replace h := h1 e14
    refine l_sw (pc' := 92) e14 rfl rfl rfl ?_
    refine l1 (n := 1) rfl rfl rfl rfl ?_
    exact l_rb rfl rfl (Or.inr rfl) hR h
  obtain ⟨h1, h⟩ := h
  by_cases e15 : v0 = 15
  · replace h := h1 e15
    refine l_sw (pc' := 92) e15 rfl rfl rfl ?_
    refine l1 (n := 1) rfl rfl rfl rfl ?_
    exact l_rb rfl rfl (Or.inr rfl) hR h
  obtain ⟨h1, h⟩ := h
  by_cases e17 : v0 = 17
  · replace h := h1 e17
    refine l_sw (pc' := 92) e17 rfl rfl rfl ?_
    refine l1 (n := 1) rfl rfl rfl rfl ?_
    exact l_rb rfl rfl (Or.inr rfl) hR h
  obtain ⟨h1, h⟩ := h
  by_cases e19 : v0 = 19
  · replace h := h1 e19
    refine l_sw (pc' := 92) e19 rfl rfl rfl ?_
    refine l1 (n := 1) rfl rfl rfl rfl ?_
    exact l_rb rfl rfl (Or.inr rfl) hR h
  replace h := h ⟨e1, e10, e12, e13, e14, e15, e17, e19⟩
  by_cases e2 : v0 = 2
  · refine l_sw (pc' := 94) e2 rfl rfl rfl ?_
    refine l1 (n := 1) rfl rfl rfl rfl ?_
    exact l_rb rfl rfl (Or.inl rfl) hR h
  by_cases e3 : v0 = 3
  · refine l_sw (pc' := 94) e3 rfl rfl rfl ?_
    refine l1 (n := 1) rfl rfl rfl rfl ?_
    exact l_rb rfl rfl (Or.inl rfl) hR h
  by_cases e4 : v0 = 4
  · refine l_sw (pc' := 94) e4 rfl rfl rfl ?_
    refine l1 (n := 1) rfl rfl rfl rfl ?_
    exact l_rb rfl rfl (Or.inl rfl) hR h
  by_cases e5 : v0 = 5
  · refine l_sw (pc' := 94) e5 rfl rfl rfl ?_
    refine l1 (n := 1) rfl rfl rfl rfl ?_
    exact l_rb rfl rfl (Or.inl rfl) hR h
  by_cases e6 : v0 = 6
  · refine l_sw (pc' := 94) e6 rfl rfl rfl ?_
    refine l1 (n := 1) rfl rfl rfl rfl ?_
    exact l_rb rfl rfl (Or.inl rfl) hR h
  by_cases e7 : v0 = 7
  · refine l_sw (pc' := 94) e7 rfl rfl rfl ?_
    refine l1 (n := 1) rfl rfl rfl rfl ?_
    exact l_rb rfl rfl (Or.inl rfl) hR h
  by_cases e8 : v0 = 8
  · refine l_sw (pc' := 94) e8 rfl rfl rfl ?_
    refine l1 (n := 1) rfl rfl rfl rfl ?_
    exact l_rb rfl rfl (Or.inl rfl) hR h
  by_cases e9 : v0 = 9
  · refine l_sw (pc' := 94) e9 rfl rfl rfl ?_
    refine l1 (n := 1) rfl rfl rfl rfl ?_
    exact l_rb rfl rfl (Or.inl rfl) hR h
  by_cases e11 : v0 = 11
  · refine l_sw (pc' := 94) e11 rfl rfl rfl ?_
    refine l1 (n := 1) rfl rfl rfl rfl ?_
    exact l_rb rfl rfl (Or.inl rfl) hR h
  by_cases e16 : v0 = 16
  · refine l_sw (pc' := 94) e16 rfl rfl rfl ?_
    refine l1 (n := 1) rfl rfl rfl rfl ?_
    exact l_rb rfl rfl (Or.inl rfl) hR h
  by_cases e18 : v0 = 18
  · refine l_sw (pc' := 94) e18 rfl rfl rfl ?_
    refine l1 (n := 1) rfl rfl rfl rfl ?_
    exact l_rb rfl rfl (Or.inl rfl) hR h
  refine l_swt (a := v0) rfl ia (swo_1_19 e1 e2 e3 e4 e5 e6 e7 e8 e9 e10 e11 e12 e13 e14 e15 e16 e17 e18 e19) ?_
  show lx _ _ _ 94 _ _ _ _
  refine l1 (n := 1) rfl rfl rfl rfl ?_
  exact l_rb rfl rfl (Or.inl rfl) hR h
def em_Q_canBegin (x0 : Int) (M : rf_M) (K : Int → rf_M → Prop) : Prop := e_Q_canBegin x0 M K
theorem E_Q_canBegin_m {fz : Bool} {S : gS} {B : rf_M} {M : rf_M} {n0 : Nat} {x0 : Int} {K : Int → rf_M → Prop} (hS : rl S) (hR : fl 22 353 B M) (ix0 : inr x0) (h : em_Q_canBegin x0 M K) : lx (cx0 fz) n0 40 0 (lv_args 0 [zv x0]) [] (M, S) (vl_i 22 353 B S K) :=
  E_Q_canBegin hS hR ix0 rfl h
def e_P_open (v0 : Nat) (v1 : Int) (v2 : Int) (v3 : Int) (v4 : Int) (M : rf_M) (K : Int → rf_M → Prop) : Prop := ((gi M v0 0) < 40 → (∀ M1 : rf_M, M1 = wi M v0 0 ((gi M v0 0) + 1) → ((0 ≤ (gi M v0 0) ∧ (gi M v0 0) < 40 → (∀ M2 : rf_M, M2 = wi M1 (v0 + 1) (gi M v0 0).toNat v1 → ((0 ≤ (gi M v0 0) ∧ (gi M v0 0) < 40 → (∀ M3 : rf_M, M3 = wi M2 (v0 + 2) (gi M v0 0).toNat 0 → ((0 ≤ (gi M v0 0) ∧ (gi M v0 0) < 40 → (∀ M4 : rf_M, M4 = wi M3 (v0 + 3) (gi M v0 0).toNat (gi M3 v0 3) → ((0 ≤ (gi M v0 0) ∧ (gi M v0 0) < 40 → (∀ M5 : rf_M, M5 = wi M4 (v0 + 4) (gi M v0 0).toNat v2 → ((0 ≤ (gi M v0 0) ∧ (gi M v0 0) < 40 → (∀ M6 : rf_M, M6 = wi M5 (v0 + 5) (gi M v0 0).toNat v3 → ((0 ≤ (gi M v0 0) ∧ (gi M v0 0) < 40 → (∀ M7 : rf_M, M7 = wi M6 (v0 + 6) (gi M v0 0).toNat v4 → ((0 ≤ (gi M v0 0) ∧ (gi M v0 0) < 40 → (∀ M8 : rf_M, M8 = wi M7 (v0 + 7) (gi M v0 0).toNat (-1) → ((0 ≤ (gi M v0 0) ∧ (gi M v0 0) < 40 → (∀ M9 : rf_M, M9 = wi M8 (v0 + 8) (gi M v0 0).toNat (-1) → ((0 ≤ (gi M v0 0) ∧ (gi M v0 0) < 40 → (∀ M10 : rf_M, M10 = wi M9 (v0 + 9) (gi M v0 0).toNat (-1) → (K (gi M v0 0) M10)))))))))))))))))))))))))))))) ∧ (¬ ((gi M v0 0) < 40) → (K (-1) M))
theorem E_P_open {fz : Bool} {S : gS} {B : rf_M} {M : rf_M} {ls : rf_L} {n0 : Nat} {v0 : Nat} {v1 : Int} {v2 : Int} {v3 : Int} {v4 : Int} {K : Int → rf_M → Prop} (hS : rl S) (hR : fl 22 353 B M) (mv0 : v0 ∈ k1) (iv1 : inr v1) (iv2 : inr v2) (iv3 : inr v3) (iv4 : inr v4) (a0 : rf_ld ls 0 = some (.ref v0)) (a1 : rf_ld ls 1 = some (zv v1)) (a2 : rf_ld ls 2 = some (zv v2)) (a3 : rf_ld ls 3 = some (zv v3)) (a4 : rf_ld ls 4 = some (zv v4)) (h : e_P_open v0 v1 v2 v3 v4 M K) : lx (cx0 fz) n0 41 0 ls [] (M, S) (vl_i 22 353 B S K) := by
  unfold e_P_open at h
  refine l1 (n := 1) rfl rfl rfl (la_of a0) ?_
  refine l_gi rfl (ko_1 hS mv0) rfl (fun _ => rfl) ?_
  refine l_bi rfl (by decide) ?_
  refine l_ic rfl (inr_gi _ _ _) ⟨by decide, by decide⟩ (fun c => ?_) (fun c => ?_)
  · replace h := h.1 c
    refine l1 (n := 1) rfl rfl rfl (la_of a0) ?_
    refine l_gi rfl (ko_1 hS mv0) rfl (fun _ => rfl) ?_
    refine l_s1 (n := 2) rfl rfl rfl rfl (fun ls y1 ho => ?_)
    have y2 := ho 0 _ (by decide) (fun q => by cases q.2) a0
    have y3 := ho 1 _ (by decide) (fun q => by cases q.2) a1
    have y4 := ho 2 _ (by decide) (fun q => by cases q.2) a2
    have y5 := ho 3 _ (by decide) (fun q => by cases q.2) a3
    have y6 := ho 4 _ (by decide) (fun q => by cases q.2) a4
    refine l1 (n := 1) rfl rfl rfl (la_of y2) ?_
    refine l0 rfl rfl rfl ?_
    refine l_gi rfl (ko_1 hS mv0) rfl (fun _ => rfl) ?_
    refine l1 (n := 1) rfl rfl rfl rfl ?_
    refine l_add rfl ?_
    refine l_pi rfl (ko_1 (fz := fz) hS mv0) rfl (fun _ _ => rfl) (fun M1 e => ?_)
    replace h := h M1 e
    have r1 := hR.wi (ko_1 (fz := fz) hS mv0).1 (kl_1 mv0) e
    refine l1 (n := 1) rfl rfl rfl (la_of y2) ?_
    refine l_gr rfl (ko_1 hS mv0) rfl (fun _ => rfl) (kf_1_5 r1.2 mv0) ?_
    refine l1 (n := 2) rfl rfl rfl (li_of y1) ?_
    refine l1 (n := 1) rfl rfl rfl (li_of y3) ?_
    refine b_is rfl (kt_1_5 (fz := fz) hS mv0).1 (Nat.le_of_ble_eq_true rfl) (inr_gi _ _ _) (fun q M2 e => ?_)
    replace h := h q M2 e
    have r2 := r1.wi (kt_1_5 (fz := fz) hS mv0).1.1 (kt_1_5 (fz := fz) hS mv0).2 e
    refine l1 (n := 1) rfl rfl rfl (la_of y2) ?_
    refine l_gr rfl (ko_1 hS mv0) rfl (fun _ => rfl) (kf_1_6 r2.2 mv0) ?_
    refine l1 (n := 2) rfl rfl rfl (li_of y1) ?_
    refine l1 (n := 1) rfl rfl rfl rfl ?_
    refine b_is rfl (kt_1_6 (fz := fz) hS mv0).1 (Nat.le_of_ble_eq_true rfl) (inr_gi _ _ _) (fun q M3 e => ?_)
    replace h := h q M3 e
    have r3 := r2.wi (kt_1_6 (fz := fz) hS mv0).1.1 (kt_1_6 (fz := fz) hS mv0).2 e
    refine l1 (n := 1) rfl rfl rfl (la_of y2) ?_
    refine l_gr rfl (ko_1 hS mv0) rfl (fun _ => rfl) (kf_1_7 r3.2 mv0) ?_
    refine l1 (n := 2) rfl rfl rfl (li_of y1) ?_
    refine l1 (n := 1) rfl rfl rfl (la_of y2) ?_
    refine l_gi rfl (ko_1 hS mv0) rfl (fun _ => rfl) ?_
    refine b_is rfl (kt_1_7 (fz := fz) hS mv0).1 (Nat.le_of_ble_eq_true rfl) (inr_gi _ _ _) (fun q M4 e => ?_)
    replace h := h q M4 e
    have r4 := r3.wi (kt_1_7 (fz := fz) hS mv0).1.1 (kt_1_7 (fz := fz) hS mv0).2 e
    refine l1 (n := 1) rfl rfl rfl (la_of y2) ?_
    refine l_gr rfl (ko_1 hS mv0) rfl (fun _ => rfl) (kf_1_8 r4.2 mv0) ?_
    refine l1 (n := 2) rfl rfl rfl (li_of y1) ?_
    refine l1 (n := 1) rfl rfl rfl (li_of y4) ?_
    refine b_is rfl (kt_1_8 (fz := fz) hS mv0).1 (Nat.le_of_ble_eq_true rfl) (inr_gi _ _ _) (fun q M5 e => ?_)
    replace h := h q M5 e
    have r5 := r4.wi (kt_1_8 (fz := fz) hS mv0).1.1 (kt_1_8 (fz := fz) hS mv0).2 e
    refine l1 (n := 1) rfl rfl rfl (la_of y2) ?_
    refine l_gr rfl (ko_1 hS mv0) rfl (fun _ => rfl) (kf_1_9 r5.2 mv0) ?_
    refine l1 (n := 2) rfl rfl rfl (li_of y1) ?_
    refine l1 (n := 1) rfl rfl rfl (li_of y5) ?_
    refine b_is rfl (kt_1_9 (fz := fz) hS mv0).1 (Nat.le_of_ble_eq_true rfl) (inr_gi _ _ _) (fun q M6 e => ?_)
    replace h := h q M6 e
    have r6 := r5.wi (kt_1_9 (fz := fz) hS mv0).1.1 (kt_1_9 (fz := fz) hS mv0).2 e
    refine l1 (n := 1) rfl rfl rfl (la_of y2) ?_
    refine l_gr rfl (ko_1 hS mv0) rfl (fun _ => rfl) (kf_1_10 r6.2 mv0) ?_
    refine l1 (n := 2) rfl rfl rfl (li_of y1) ?_
    refine l1 (n := 2) rfl rfl rfl (li_of y6) ?_
    refine b_is rfl (kt_1_10 (fz := fz) hS mv0).1 (Nat.le_of_ble_eq_true rfl) (inr_gi _ _ _) (fun q M7 e => ?_)
    replace h := h q M7 e
    have r7 := r6.wi (kt_1_10 (fz := fz) hS mv0).1.1 (kt_1_10 (fz := fz) hS mv0).2 e
    refine l1 (n := 1) rfl rfl rfl (la_of y2) ?_
    refine l_gr rfl (ko_1 hS mv0) rfl (fun _ => rfl) (kf_1_11 r7.2 mv0) ?_
    refine l1 (n := 2) rfl rfl rfl (li_of y1) ?_
    refine l1 (n := 1) rfl rfl rfl rfl ?_
    refine b_is rfl (kt_1_11 (fz := fz) hS mv0).1 (Nat.le_of_ble_eq_true rfl) (inr_gi _ _ _) (fun q M8 e => ?_)
    replace h := h q M8 e
    have r8 := r7.wi (kt_1_11 (fz := fz) hS mv0).1.1 (kt_1_11 (fz := fz) hS mv0).2 e
    refine l1 (n := 1) rfl rfl rfl (la_of y2) ?_
    refine l_gr rfl (ko_1 hS mv0) rfl (fun _ => rfl) (kf_1_12 r8.2 mv0) ?_
    refine l1 (n := 2) rfl rfl rfl (li_of y1) ?_
    refine l1 (n := 1) rfl rfl rfl rfl ?_
    refine b_is rfl (kt_1_12 (fz := fz) hS mv0).1 (Nat.le_of_ble_eq_true rfl) (inr_gi _ _ _) (fun q M9 e => ?_)
    replace h := h q M9 e
    have r9 := r8.wi (kt_1_12 (fz := fz) hS mv0).1.1 (kt_1_12 (fz := fz) hS mv0).2 e
    refine l1 (n := 1) rfl rfl rfl (la_of y2) ?_
    refine l_gr rfl (ko_1 hS mv0) rfl (fun _ => rfl) (kf_1_13 r9.2 mv0) ?_
    refine l1 (n := 2) rfl rfl rfl (li_of y1) ?_
    refine l1 (n := 1) rfl rfl rfl rfl ?_
    refine b_is rfl (kt_1_13 (fz := fz) hS mv0).1 (Nat.le_of_ble_eq_true rfl) (inr_gi _ _ _) (fun q M10 e => ?_)
    replace h := h q M10 e
    have r10 := r9.wi (kt_1_13 (fz := fz) hS mv0).1.1 (kt_1_13 (fz := fz) hS mv0).2 e
    refine l1 (n := 2) rfl rfl rfl (li_of y1) ?_
    exact l_ri rfl rfl (inr_gi _ _ _) r10 h
  · replace h := h.2 c
    refine l1 (n := 1) rfl rfl rfl rfl ?_
    exact l_ri rfl rfl ⟨by decide, by decide⟩ hR h
def em_P_open (x0 : Nat) (x1 : Int) (x2 : Int) (x3 : Int) (x4 : Int) (M : rf_M) (K : Int → rf_M → Prop) : Prop := e_P_open x0 x1 x2 x3 x4 M K
theorem E_P_open_m {fz : Bool} {S : gS} {B : rf_M} {M : rf_M} {n0 : Nat} {x0 : Nat} {x1 : Int} {x2 : Int} {x3 : Int} {x4 : Int} {K : Int → rf_M → Prop} (hS : rl S) (hR : fl 22 353 B M) (mx0 : x0 ∈ k1) (ix1 : inr x1) (ix2 : inr x2) (ix3 : inr x3) (ix4 : inr x4) (h : em_P_open x0 x1 x2 x3 x4 M K) : lx (cx0 fz) n0 41 0 (lv_args 0 [.ref x0, zv x1, zv x2, zv x3, zv x4]) [] (M, S) (vl_i 22 353 B S K) :=
  E_P_open hS hR mx0 ix1 ix2 ix3 ix4 rfl rfl rfl rfl rfl h
def e_Q_closedExp (E : Int → rf_M → (rf_M → Prop) → Prop) (Bd : Int → Int → Int → rf_M → (Int → rf_M → Prop) → Prop) (M : rf_M) (K : rf_M → Prop) : Prop := E 0 M (fun (M1 : rf_M) => isP M1 169 1 ∧ (em_P_emit (gr M1 169 1) 0 0 M1 (fun (M2 : rf_M) => em_Q_expect 59 M2 (fun (M3 : rf_M) => K M3))))
theorem E_Q_closedExp {fz : Bool} {S : gS} {B : rf_M} {M : rf_M} {ls : rf_L} {n0 : Nat} {E : Int → rf_M → (rf_M → Prop) → Prop} {Bd : Int → Int → Int → rf_M → (Int → rf_M → Prop) → Prop} {K : rf_M → Prop} (hS : rl S) (hR : fl 22 353 B M) (hE : ∀ n', n' < n0 → ∀ (x0 : Int) (M : rf_M) (K : rf_M → Prop), fl 22 353 B M → inr x0 → E x0 M K → lx (cx0 fz) n' 47 0 (lv_args 0 [.ref 169, zv x0]) [] (M, S) (vl_v 22 353 B S K)) (hBd : ∀ n', n' < n0 → ∀ (x0 : Int) (x1 : Int) (x2 : Int) (M : rf_M) (K : Int → rf_M → Prop), fl 22 353 B M → inr x0 → inr x1 → inr x2 → Bd x0 x1 x2 M K → lx (cx0 fz) n' 54 0 (lv_args 0 [.ref 169, zv x0, zv x1, zv x2]) [] (M, S) (vl_i 22 353 B S K)) (a0 : rf_ld ls 0 = some (.ref 169)) (h : e_Q_closedExp E Bd M K) : lx (cx0 fz) n0 46 0 ls [] (M, S) (vl_v 22 353 B S K) := by
  unfold e_Q_closedExp at h
  rcases Nat.eq_zero_or_pos n0 with e0 | hp
  · rw [e0]; exact lx_zero
  refine l1 (n := 1) rfl rfl rfl (la_of a0) ?_
  refine l1 (n := 1) rfl rfl rfl rfl ?_
  refine b_iv (c := 169) (as := [zv 0]) (rest := []) rfl (by decide) (ko_2 hS (List.Mem.head _)) rfl rfl (Nat.le_of_ble_eq_true rfl) (fun hq => ?_)
  refine lx_mono (hE _ (by omega) _ _ _ hR ⟨by decide, by decide⟩ h) ?_
  rintro _ _ ⟨M1, rfl, rfl, r1, h⟩
  refine l1 (n := 1) rfl rfl rfl (la_of a0) ?_
  obtain ⟨q1, h⟩ := h
  refine l_gr rfl (ko_2 hS (List.Mem.head _)) rfl (fun _ => rfl) q1.1 ?_
  refine l1 (n := 1) rfl rfl rfl rfl ?_
  refine l1 (n := 1) rfl rfl rfl rfl ?_
  refine b_iv (c := (gr M1 169 1)) (as := [zv 0, zv 0]) (rest := []) rfl (by decide) (ko_1 hS q1.2) rfl rfl (Nat.le_of_ble_eq_true rfl) (fun hq => ?_)
  refine lx_mono (E_P_emit_m hS r1 q1.2 ⟨by decide, by decide⟩ ⟨by decide, by decide⟩ h) ?_
  rintro _ _ ⟨M2, rfl, rfl, r2, h⟩
  refine l1 (n := 1) rfl rfl rfl (la_of a0) ?_
  refine l_bi rfl (by decide) ?_
  refine b_iv (c := 169) (as := [zv 59]) (rest := []) rfl (by decide) (ko_2 hS (List.Mem.head _)) rfl rfl (Nat.le_of_ble_eq_true rfl) (fun hq => ?_)
  refine lx_mono (E_Q_expect_m hS r2 ⟨by decide, by decide⟩ h) ?_
  rintro _ _ ⟨M3, rfl, rfl, r3, h⟩
  exact l_rv rfl rfl r3 h
def em_Q_closedExp (E : Int → rf_M → (rf_M → Prop) → Prop) (Bd : Int → Int → Int → rf_M → (Int → rf_M → Prop) → Prop) (M : rf_M) (K : rf_M → Prop) : Prop := e_Q_closedExp E Bd  M K
theorem E_Q_closedExp_m {fz : Bool} {S : gS} {B : rf_M} {M : rf_M} {n0 : Nat} {E : Int → rf_M → (rf_M → Prop) → Prop} {Bd : Int → Int → Int → rf_M → (Int → rf_M → Prop) → Prop} {K : rf_M → Prop} (hS : rl S) (hR : fl 22 353 B M) (hE : ∀ n', n' < n0 → ∀ (x0 : Int) (M : rf_M) (K : rf_M → Prop), fl 22 353 B M → inr x0 → E x0 M K → lx (cx0 fz) n' 47 0 (lv_args 0 [.ref 169, zv x0]) [] (M, S) (vl_v 22 353 B S K)) (hBd : ∀ n', n' < n0 → ∀ (x0 : Int) (x1 : Int) (x2 : Int) (M : rf_M) (K : Int → rf_M → Prop), fl 22 353 B M → inr x0 → inr x1 → inr x2 → Bd x0 x1 x2 M K → lx (cx0 fz) n' 54 0 (lv_args 0 [.ref 169, zv x0, zv x1, zv x2]) [] (M, S) (vl_i 22 353 B S K)) (h : em_Q_closedExp E Bd  M K) : lx (cx0 fz) n0 46 0 (lv_args 0 [.ref 169]) [] (M, S) (vl_v 22 353 B S K) :=
  E_Q_closedExp hS hR hE hBd rfl h
def e_Q_local_20 (M : rf_M) (K : Int → rf_M → Prop) : Prop := em_Q_refuse  M (fun (M1 : rf_M) => K 16 M1)
theorem E_Q_local_20 {fz : Bool} {S : gS} {B : rf_M} {M : rf_M} {ls : rf_L} {n0 : Nat} {K : Int → rf_M → Prop} (hS : rl S) (hR : fl 22 353 B M) (a0 : rf_ld ls 0 = some (.ref 169)) (h : e_Q_local_20 M K) : lx (cx0 fz) n0 55 20 ls [] (M, S) (vl_i 22 353 B S K) := by
  unfold e_Q_local_20 at h
  refine l1 (n := 1) rfl rfl rfl (la_of a0) ?_
  refine b_iv (c := 169) (as := []) (rest := []) rfl (by decide) (ko_2 hS (List.Mem.head _)) rfl rfl (Nat.le_of_ble_eq_true rfl) (fun hq => ?_)
  refine lx_mono (E_Q_refuse_m hS hR h) ?_
  rintro _ _ ⟨M1, rfl, rfl, r1, h⟩
  refine l_bi rfl (by decide) ?_
  exact l_ri rfl rfl ⟨by decide, by decide⟩ r1 h
def e_Q_local (M : rf_M) (K : Int → rf_M → Prop) : Prop := em_Q_number  M (fun (z1 : Int) (M1 : rf_M) => em_Q_isAt 1 M1 (fun (z2 : Int) (M2 : rf_M) => (z2 = 0 → (e_Q_local_20 M2 K)) ∧ (¬ (z2 = 0) → (em_M_isCell z1 M2 (fun (z3 : Int) (M3 : rf_M) => (z3 = 0 → (em_Q_advance  M3 (fun (M4 : rf_M) => K z1 M4))) ∧ (¬ (z3 = 0) → (e_Q_local_20 M3 K)))))))
theorem E_Q_local {fz : Bool} {S : gS} {B : rf_M} {M : rf_M} {ls : rf_L} {n0 : Nat} {K : Int → rf_M → Prop} (hS : rl S) (hR : fl 22 353 B M) (a0 : rf_ld ls 0 = some (.ref 169)) (h : e_Q_local M K) : lx (cx0 fz) n0 55 0 ls [] (M, S) (vl_i 22 353 B S K) := by
  unfold e_Q_local at h
  refine l1 (n := 1) rfl rfl rfl (la_of a0) ?_
  refine b_iv (c := 169) (as := []) (rest := []) rfl (by decide) (ko_2 hS (List.Mem.head _)) rfl rfl (Nat.le_of_ble_eq_true rfl) (fun hq => ?_)
  refine lx_mono (E_Q_number_m hS hR h) ?_
  rintro _ _ ⟨z1, M1, rfl, rfl, r1, iz1, h⟩
  refine l_s1 (n := 1) rfl rfl rfl rfl (fun ls y1 ho => ?_)
  have y2 := ho 0 _ (by decide) (fun q => by cases q.2) a0
  refine l1 (n := 1) rfl rfl rfl (la_of y2) ?_
  refine l1 (n := 1) rfl rfl rfl rfl ?_
  refine b_iv (c := 169) (as := [zv 1]) (rest := []) rfl (by decide) (ko_2 hS (List.Mem.head _)) rfl rfl (Nat.le_of_ble_eq_true rfl) (fun hq => ?_)
  refine lx_mono (E_Q_isAt_m hS r1 ⟨by decide, by decide⟩ h) ?_
  rintro _ _ ⟨z2, M2, rfl, rfl, r2, iz2, h⟩
  refine l_if rfl iz2 (fun c => ?_) (fun c => ?_)
  · replace h := h.1 c
    exact E_Q_local_20 hS r2 y2 h
  · replace h := h.2 c
    refine l1 (n := 1) rfl rfl rfl (li_of y1) ?_
    refine b_st (as := [zv z1]) (rest := []) rfl (by decide) rfl (Nat.le_of_ble_eq_true rfl) (fun hq => ?_)
    refine lx_mono (E_M_isCell_m hS r2 iz1 h) ?_
    rintro _ _ ⟨z3, M3, rfl, rfl, r3, iz3, h⟩
    refine l_if rfl iz3 (fun c => ?_) (fun c => ?_)
    · replace h := h.1 c
      refine l1 (n := 1) rfl rfl rfl (la_of y2) ?_
      refine b_iv (c := 169) (as := []) (rest := []) rfl (by decide) (ko_2 hS (List.Mem.head _)) rfl rfl (Nat.le_of_ble_eq_true rfl) (fun hq => ?_)
      refine lx_mono (E_Q_advance_m hS r3 h) ?_
      rintro _ _ ⟨M4, rfl, rfl, r4, h⟩
      refine l1 (n := 1) rfl rfl rfl (li_of y1) ?_
      exact l_ri rfl rfl iz1 r4 h
    · replace h := h.2 c
      exact E_Q_local_20 hS r3 y2 h
def em_Q_local (M : rf_M) (K : Int → rf_M → Prop) : Prop := e_Q_local  M K
theorem E_Q_local_m {fz : Bool} {S : gS} {B : rf_M} {M : rf_M} {n0 : Nat} {K : Int → rf_M → Prop} (hS : rl S) (hR : fl 22 353 B M) (h : em_Q_local  M K) : lx (cx0 fz) n0 55 0 (lv_args 0 [.ref 169]) [] (M, S) (vl_i 22 353 B S K) :=
  E_Q_local hS hR rfl h
def e_Q_compound_158 (E : Int → rf_M → (rf_M → Prop) → Prop) (Bd : Int → Int → Int → rf_M → (Int → rf_M → Prop) → Prop) (M : rf_M) (K : rf_M → Prop) : Prop := K M
theorem E_Q_compound_158 {fz : Bool} {S : gS} {B : rf_M} {M : rf_M} {ls : rf_L} {n0 : Nat} {E : Int → rf_M → (rf_M → Prop) → Prop} {Bd : Int → Int → Int → rf_M → (Int → rf_M → Prop) → Prop} {K : rf_M → Prop} (hS : rl S) (hR : fl 22 353 B M) (hE : ∀ n', n' < n0 → ∀ (x0 : Int) (M : rf_M) (K : rf_M → Prop), fl 22 353 B M → inr x0 → E x0 M K → lx (cx0 fz) n' 47 0 (lv_args 0 [.ref 169, zv x0]) [] (M, S) (vl_v 22 353 B S K)) (hBd : ∀ n', n' < n0 → ∀ (x0 : Int) (x1 : Int) (x2 : Int) (M : rf_M) (K : Int → rf_M → Prop), fl 22 353 B M → inr x0 → inr x1 → inr x2 → Bd x0 x1 x2 M K → lx (cx0 fz) n' 54 0 (lv_args 0 [.ref 169, zv x0, zv x1, zv x2]) [] (M, S) (vl_i 22 353 B S K)) (h : e_Q_compound_158 E Bd M K) : lx (cx0 fz) n0 53 158 ls [] (M, S) (vl_v 22 353 B S K) := by
  unfold e_Q_compound_158 at h
  rcases Nat.eq_zero_or_pos n0 with e0 | hp
  · rw [e0]; exact lx_zero
  exact l_rv rfl rfl hR h
def e_Q_compound_117 (E : Int → rf_M → (rf_M → Prop) → Prop) (Bd : Int → Int → Int → rf_M → (Int → rf_M → Prop) → Prop) (v1 : Int) (v2 : Int) (v3 : Int) (M : rf_M) (K : rf_M → Prop) : Prop := (v1 = 17 → (em_Q_expect 18 M (fun (M1 : rf_M) => isP M1 169 1 ∧ (em_Q_local  M1 (fun (z2 : Int) (M2 : rf_M) => (0 ≤ v2 ∧ v2 < 40 → (∀ M3 : rf_M, M3 = wi M2 ((gr M1 169 1) + 2) (v2).toNat z2 → (isP M3 169 1 ∧ (Bd v2 1 v3 M3 (fun (z4 : Int) (M4 : rf_M) => (0 ≤ v2 ∧ v2 < 40 → (∀ M5 : rf_M, M5 = wi M4 ((gr M3 169 1) + 9) (v2).toNat z4 → (e_Q_compound_158 E Bd M5 K))))))))))))) ∧ (¬ v1 = 17 → (e_Q_compound_158 E Bd M K))
theorem E_Q_compound_117 {fz : Bool} {S : gS} {B : rf_M} {M : rf_M} {ls : rf_L} {n0 : Nat} {E : Int → rf_M → (rf_M → Prop) → Prop} {Bd : Int → Int → Int → rf_M → (Int → rf_M → Prop) → Prop} {v1 : Int} {v2 : Int} {v3 : Int} {K : rf_M → Prop} (hS : rl S) (hR : fl 22 353 B M) (hE : ∀ n', n' < n0 → ∀ (x0 : Int) (M : rf_M) (K : rf_M → Prop), fl 22 353 B M → inr x0 → E x0 M K → lx (cx0 fz) n' 47 0 (lv_args 0 [.ref 169, zv x0]) [] (M, S) (vl_v 22 353 B S K)) (hBd : ∀ n', n' < n0 → ∀ (x0 : Int) (x1 : Int) (x2 : Int) (M : rf_M) (K : Int → rf_M → Prop), fl 22 353 B M → inr x0 → inr x1 → inr x2 → Bd x0 x1 x2 M K → lx (cx0 fz) n' 54 0 (lv_args 0 [.ref 169, zv x0, zv x1, zv x2]) [] (M, S) (vl_i 22 353 B S K)) (iv1 : inr v1) (iv2 : inr v2) (iv3 : inr v3) (a0 : rf_ld ls 0 = some (.ref 169)) (a1 : rf_ld ls 1 = some (zv v1)) (a2 : rf_ld ls 2 = some (zv v2)) (a3 : rf_ld ls 3 = some (zv v3)) (h : e_Q_compound_117 E Bd v1 v2 v3 M K) : lx (cx0 fz) n0 53 117 ls [] (M, S) (vl_v 22 353 B S K) := by
  unfold e_Q_compound_117 at h
  rcases Nat.eq_zero_or_pos n0 with e0 | hp
  · rw [e0]; exact lx_zero
  refine l1 (n := 1) rfl rfl rfl (li_of a1) ?_
  refine l_bi rfl (by decide) ?_
  refine l_ic rfl iv1 ⟨by decide, by decide⟩ (fun c => ?_) (fun c => ?_)
  · replace h := h.2 c
    exact E_Q_compound_158 hS hR (fun n' hn' => hE n' (by omega)) (fun n' hn' => hBd n' (by omega))  h
  · replace h := h.1 (Classical.not_not.mp c)
    refine l1 (n := 1) rfl rfl rfl (la_of a0) ?_
    refine l_bi rfl (by decide) ?_
    refine b_iv (c := 169) (as := [zv 18]) (rest := []) rfl (by decide) (ko_2 hS (List.Mem.head _)) rfl rfl (Nat.le_of_ble_eq_true rfl) (fun hq => ?_)
    refine lx_mono (E_Q_expect_m hS hR ⟨by decide, by decide⟩ h) ?_
    rintro _ _ ⟨M1, rfl, rfl, r1, h⟩
    refine l1 (n := 1) rfl rfl rfl (la_of a0) ?_
    obtain ⟨q1, h⟩ := h
    refine l_gr rfl (ko_2 hS (List.Mem.head _)) rfl (fun _ => rfl) q1.1 ?_
    refine l_gr rfl (ko_1 hS q1.2) rfl (fun _ => rfl) (kf_1_6 r1.2 q1.2) ?_
    refine l1 (n := 1) rfl rfl rfl (li_of a2) ?_
    refine l1 (n := 1) rfl rfl rfl (la_of a0) ?_
    refine b_iv (c := 169) (as := []) (rest := [zv v2, .ref ((gr M1 169 1) + 2)]) rfl (by decide) (ko_2 hS (List.Mem.head _)) rfl rfl (Nat.le_of_ble_eq_true rfl) (fun hq => ?_)
    refine lx_mono (E_Q_local_m hS r1 h) ?_
    rintro _ _ ⟨z2, M2, rfl, rfl, r2, iz2, h⟩
    refine b_is rfl (kt_1_6 (fz := fz) hS q1.2).1 (Nat.le_of_ble_eq_true rfl) iv2 (fun q M3 e => ?_)
    replace h := h q M3 e
    have r3 := r2.wi (kt_1_6 (fz := fz) hS q1.2).1.1 (kt_1_6 (fz := fz) hS q1.2).2 e
    refine l1 (n := 1) rfl rfl rfl (la_of a0) ?_
    obtain ⟨q2, h⟩ := h
    refine l_gr rfl (ko_2 hS (List.Mem.head _)) rfl (fun _ => rfl) q2.1 ?_
    refine l_gr rfl (ko_1 hS q2.2) rfl (fun _ => rfl) (kf_1_13 r3.2 q2.2) ?_
    refine l1 (n := 1) rfl rfl rfl (li_of a2) ?_
    refine l1 (n := 1) rfl rfl rfl (la_of a0) ?_
    refine l1 (n := 1) rfl rfl rfl (li_of a2) ?_
    refine l1 (n := 1) rfl rfl rfl rfl ?_
    refine l1 (n := 1) rfl rfl rfl (li_of a3) ?_
    refine b_iv (c := 169) (as := [zv v2, zv 1, zv v3]) (rest := [zv v2, .ref ((gr M3 169 1) + 9)]) rfl (by decide) (ko_2 hS (List.Mem.head _)) rfl rfl (Nat.le_of_ble_eq_true rfl) (fun hq => ?_)
    refine lx_mono (hBd _ (by omega) _ _ _ _ _ r3 iv2 ⟨by decide, by decide⟩ iv3 h) ?_
    rintro _ _ ⟨z4, M4, rfl, rfl, r4, iz4, h⟩
    refine b_is rfl (kt_1_13 (fz := fz) hS q2.2).1 (Nat.le_of_ble_eq_true rfl) iv2 (fun q M5 e => ?_)
    replace h := h q M5 e
    have r5 := r4.wi (kt_1_13 (fz := fz) hS q2.2).1.1 (kt_1_13 (fz := fz) hS q2.2).2 e
    exact E_Q_compound_158 hS r5 (fun n' hn' => hE n' (by omega)) (fun n' hn' => hBd n' (by omega))  h
def e_Q_compound_89 (E : Int → rf_M → (rf_M → Prop) → Prop) (Bd : Int → Int → Int → rf_M → (Int → rf_M → Prop) → Prop) (v1 : Int) (v2 : Int) (v3 : Int) (M : rf_M) (K : rf_M → Prop) : Prop := (v1 = 15 → (em_Q_expect 16 M (fun (M1 : rf_M) => isP M1 169 1 ∧ (Bd v2 1 v3 M1 (fun (z2 : Int) (M2 : rf_M) => (0 ≤ v2 ∧ v2 < 40 → (∀ M3 : rf_M, M3 = wi M2 ((gr M1 169 1) + 9) (v2).toNat z2 → (e_Q_compound_117 E Bd v1 v2 v3 M3 K)))))))) ∧ (¬ v1 = 15 → (e_Q_compound_117 E Bd v1 v2 v3 M K))
theorem E_Q_compound_89 {fz : Bool} {S : gS} {B : rf_M} {M : rf_M} {ls : rf_L} {n0 : Nat} {E : Int → rf_M → (rf_M → Prop) → Prop} {Bd : Int → Int → Int → rf_M → (Int → rf_M → Prop) → Prop} {v1 : Int} {v2 : Int} {v3 : Int} {K : rf_M → Prop} (hS : rl S) (hR : fl 22 353 B M) (hE : ∀ n', n' < n0 → ∀ (x0 : Int) (M : rf_M) (K : rf_M → Prop), fl 22 353 B M → inr x0 → E x0 M K → lx (cx0 fz) n' 47 0 (lv_args 0 [.ref 169, zv x0]) [] (M, S) (vl_v 22 353 B S K)) (hBd : ∀ n', n' < n0 → ∀ (x0 : Int) (x1 : Int) (x2 : Int) (M : rf_M) (K : Int → rf_M → Prop), fl 22 353 B M → inr x0 → inr x1 → inr x2 → Bd x0 x1 x2 M K → lx (cx0 fz) n' 54 0 (lv_args 0 [.ref 169, zv x0, zv x1, zv x2]) [] (M, S) (vl_i 22 353 B S K)) (iv1 : inr v1) (iv2 : inr v2) (iv3 : inr v3) (a0 : rf_ld ls 0 = some (.ref 169)) (a1 : rf_ld ls 1 = some (zv v1)) (a2 : rf_ld ls 2 = some (zv v2)) (a3 : rf_ld ls 3 = some (zv v3)) (h : e_Q_compound_89 E Bd v1 v2 v3 M K) : lx (cx0 fz) n0 53 89 ls [] (M, S) (vl_v 22 353 B S K) := by
  unfold e_Q_compound_89 at h
  rcases Nat.eq_zero_or_pos n0 with e0 | hp
  · rw [e0]; exact lx_zero
  refine l1 (n := 1) rfl rfl rfl (li_of a1) ?_
  refine l_bi rfl (by decide) ?_
  refine l_ic rfl iv1 ⟨by decide, by decide⟩ (fun c => ?_) (fun c => ?_)
  · replace h := h.2 c
    exact E_Q_compound_117 hS hR (fun n' hn' => hE n' (by omega)) (fun n' hn' => hBd n' (by omega)) iv1 iv2 iv3 a0 a1 a2 a3 h
  · replace h := h.1 (Classical.not_not.mp c)
    refine l1 (n := 1) rfl rfl rfl (la_of a0) ?_
    refine l_bi rfl (by decide) ?_
    refine b_iv (c := 169) (as := [zv 16]) (rest := []) rfl (by decide) (ko_2 hS (List.Mem.head _)) rfl rfl (Nat.le_of_ble_eq_true rfl) (fun hq => ?_)
    refine lx_mono (E_Q_expect_m hS hR ⟨by decide, by decide⟩ h) ?_
    rintro _ _ ⟨M1, rfl, rfl, r1, h⟩
    refine l1 (n := 1) rfl rfl rfl (la_of a0) ?_
    obtain ⟨q1, h⟩ := h
    refine l_gr rfl (ko_2 hS (List.Mem.head _)) rfl (fun _ => rfl) q1.1 ?_
    refine l_gr rfl (ko_1 hS q1.2) rfl (fun _ => rfl) (kf_1_13 r1.2 q1.2) ?_
    refine l1 (n := 1) rfl rfl rfl (li_of a2) ?_
    refine l1 (n := 1) rfl rfl rfl (la_of a0) ?_
    refine l1 (n := 1) rfl rfl rfl (li_of a2) ?_
    refine l1 (n := 1) rfl rfl rfl rfl ?_
    refine l1 (n := 1) rfl rfl rfl (li_of a3) ?_
    refine b_iv (c := 169) (as := [zv v2, zv 1, zv v3]) (rest := [zv v2, .ref ((gr M1 169 1) + 9)]) rfl (by decide) (ko_2 hS (List.Mem.head _)) rfl rfl (Nat.le_of_ble_eq_true rfl) (fun hq => ?_)
    refine lx_mono (hBd _ (by omega) _ _ _ _ _ r1 iv2 ⟨by decide, by decide⟩ iv3 h) ?_
    rintro _ _ ⟨z2, M2, rfl, rfl, r2, iz2, h⟩
    refine b_is rfl (kt_1_13 (fz := fz) hS q1.2).1 (Nat.le_of_ble_eq_true rfl) iv2 (fun q M3 e => ?_)
    replace h := h q M3 e
    have r3 := r2.wi (kt_1_13 (fz := fz) hS q1.2).1.1 (kt_1_13 (fz := fz) hS q1.2).2 e
    exact E_Q_compound_117 hS r3 (fun n' hn' => hE n' (by omega)) (fun n' hn' => hBd n' (by omega)) iv1 iv2 iv3 a0 a1 a2 a3 h
def e_Q_compound_38 (E : Int → rf_M → (rf_M → Prop) → Prop) (Bd : Int → Int → Int → rf_M → (Int → rf_M → Prop) → Prop) (v1 : Int) (v2 : Int) (v3 : Int) (M : rf_M) (K : rf_M → Prop) : Prop := isP M 169 1 ∧ (Bd v2 0 v3 M (fun (z1 : Int) (M1 : rf_M) => (0 ≤ v2 ∧ v2 < 40 → (∀ M2 : rf_M, M2 = wi M1 ((gr M 169 1) + 8) (v2).toNat z1 → ((v1 = 10 → (em_Q_isAt 11 M2 (fun (z3 : Int) (M3 : rf_M) => (z3 = 0 → (e_Q_compound_89 E Bd v1 v2 v3 M3 K)) ∧ (¬ (z3 = 0) → (em_Q_advance  M3 (fun (M4 : rf_M) => isP M4 169 1 ∧ (Bd v2 1 v3 M4 (fun (z5 : Int) (M5 : rf_M) => (0 ≤ v2 ∧ v2 < 40 → (∀ M6 : rf_M, M6 = wi M5 ((gr M4 169 1) + 9) (v2).toNat z5 → (e_Q_compound_89 E Bd v1 v2 v3 M6 K))))))))))) ∧ (¬ v1 = 10 → (e_Q_compound_89 E Bd v1 v2 v3 M2 K)))))))
theorem E_Q_compound_38 {fz : Bool} {S : gS} {B : rf_M} {M : rf_M} {ls : rf_L} {n0 : Nat} {E : Int → rf_M → (rf_M → Prop) → Prop} {Bd : Int → Int → Int → rf_M → (Int → rf_M → Prop) → Prop} {v1 : Int} {v2 : Int} {v3 : Int} {K : rf_M → Prop} (hS : rl S) (hR : fl 22 353 B M) (hE : ∀ n', n' < n0 → ∀ (x0 : Int) (M : rf_M) (K : rf_M → Prop), fl 22 353 B M → inr x0 → E x0 M K → lx (cx0 fz) n' 47 0 (lv_args 0 [.ref 169, zv x0]) [] (M, S) (vl_v 22 353 B S K)) (hBd : ∀ n', n' < n0 → ∀ (x0 : Int) (x1 : Int) (x2 : Int) (M : rf_M) (K : Int → rf_M → Prop), fl 22 353 B M → inr x0 → inr x1 → inr x2 → Bd x0 x1 x2 M K → lx (cx0 fz) n' 54 0 (lv_args 0 [.ref 169, zv x0, zv x1, zv x2]) [] (M, S) (vl_i 22 353 B S K)) (iv1 : inr v1) (iv2 : inr v2) (iv3 : inr v3) (a0 : rf_ld ls 0 = some (.ref 169)) (a1 : rf_ld ls 1 = some (zv v1)) (a2 : rf_ld ls 2 = some (zv v2)) (a3 : rf_ld ls 3 = some (zv v3)) (h : e_Q_compound_38 E Bd v1 v2 v3 M K) : lx (cx0 fz) n0 53 38 ls [] (M, S) (vl_v 22 353 B S K) := by
  unfold e_Q_compound_38 at h
  rcases Nat.eq_zero_or_pos n0 with e0 | hp
  · rw [e0]; exact lx_zero
  refine l1 (n := 1) rfl rfl rfl (la_of a0) ?_
  obtain ⟨q1, h⟩ := h
  refine l_gr rfl (ko_2 hS (List.Mem.head _)) rfl (fun _ => rfl) q1.1 ?_
  refine l_gr rfl (ko_1 hS q1.2) rfl (fun _ => rfl) (kf_1_12 hR.2 q1.2) ?_
  refine l1 (n := 1) rfl rfl rfl (li_of a2) ?_
  refine l1 (n := 1) rfl rfl rfl (la_of a0) ?_
  refine l1 (n := 1) rfl rfl rfl (li_of a2) ?_
  refine l1 (n := 1) rfl rfl rfl rfl ?_
  refine l1 (n := 1) rfl rfl rfl (li_of a3) ?_
  refine b_iv (c := 169) (as := [zv v2, zv 0, zv v3]) (rest := [zv v2, .ref ((gr M 169 1) + 8)]) rfl (by decide) (ko_2 hS (List.Mem.head _)) rfl rfl (Nat.le_of_ble_eq_true rfl) (fun hq => ?_)
  refine lx_mono (hBd _ (by omega) _ _ _ _ _ hR iv2 ⟨by decide, by decide⟩ iv3 h) ?_
  rintro _ _ ⟨z1, M1, rfl, rfl, r1, iz1, h⟩
  refine b_is rfl (kt_1_12 (fz := fz) hS q1.2).1 (Nat.le_of_ble_eq_true rfl) iv2 (fun q M2 e => ?_)
  replace h := h q M2 e
  have r2 := r1.wi (kt_1_12 (fz := fz) hS q1.2).1.1 (kt_1_12 (fz := fz) hS q1.2).2 e
  refine l1 (n := 1) rfl rfl rfl (li_of a1) ?_
  refine l_bi rfl (by decide) ?_
  refine l_ic rfl iv1 ⟨by decide, by decide⟩ (fun c => ?_) (fun c => ?_)
  · replace h := h.2 c
    exact E_Q_compound_89 hS r2 (fun n' hn' => hE n' (by omega)) (fun n' hn' => hBd n' (by omega)) iv1 iv2 iv3 a0 a1 a2 a3 h
  · replace h := h.1 (Classical.not_not.mp c)
    refine l1 (n := 1) rfl rfl rfl (la_of a0) ?_
    refine l_bi rfl (by decide) ?_
    refine b_iv (c := 169) (as := [zv 11]) (rest := []) rfl (by decide) (ko_2 hS (List.Mem.head _)) rfl rfl (Nat.le_of_ble_eq_true rfl) (fun hq => ?_)
    refine lx_mono (E_Q_isAt_m hS r2 ⟨by decide, by decide⟩ h) ?_
    rintro _ _ ⟨z3, M3, rfl, rfl, r3, iz3, h⟩
    refine l_if rfl iz3 (fun c => ?_) (fun c => ?_)
    · replace h := h.1 c
      exact E_Q_compound_89 hS r3 (fun n' hn' => hE n' (by omega)) (fun n' hn' => hBd n' (by omega)) iv1 iv2 iv3 a0 a1 a2 a3 h
    · replace h := h.2 c
      refine l1 (n := 1) rfl rfl rfl (la_of a0) ?_
      refine b_iv (c := 169) (as := []) (rest := []) rfl (by decide) (ko_2 hS (List.Mem.head _)) rfl rfl (Nat.le_of_ble_eq_true rfl) (fun hq => ?_)
      refine lx_mono (E_Q_advance_m hS r3 h) ?_
      rintro _ _ ⟨M4, rfl, rfl, r4, h⟩
      refine l1 (n := 1) rfl rfl rfl (la_of a0) ?_
      obtain ⟨q2, h⟩ := h
      refine l_gr rfl (ko_2 hS (List.Mem.head _)) rfl (fun _ => rfl) q2.1 ?_
      refine l_gr rfl (ko_1 hS q2.2) rfl (fun _ => rfl) (kf_1_13 r4.2 q2.2) ?_
      refine l1 (n := 1) rfl rfl rfl (li_of a2) ?_
      refine l1 (n := 1) rfl rfl rfl (la_of a0) ?_
      refine l1 (n := 1) rfl rfl rfl (li_of a2) ?_
      refine l1 (n := 1) rfl rfl rfl rfl ?_
      refine l1 (n := 1) rfl rfl rfl (li_of a3) ?_
      refine b_iv (c := 169) (as := [zv v2, zv 1, zv v3]) (rest := [zv v2, .ref ((gr M4 169 1) + 9)]) rfl (by decide) (ko_2 hS (List.Mem.head _)) rfl rfl (Nat.le_of_ble_eq_true rfl) (fun hq => ?_)
      refine lx_mono (hBd _ (by omega) _ _ _ _ _ r4 iv2 ⟨by decide, by decide⟩ iv3 h) ?_
      rintro _ _ ⟨z5, M5, rfl, rfl, r5, iz5, h⟩
      refine b_is rfl (kt_1_13 (fz := fz) hS q2.2).1 (Nat.le_of_ble_eq_true rfl) iv2 (fun q M6 e => ?_)
      replace h := h q M6 e
      have r6 := r5.wi (kt_1_13 (fz := fz) hS q2.2).1.1 (kt_1_13 (fz := fz) hS q2.2).2 e
      exact E_Q_compound_89 hS r6 (fun n' hn' => hE n' (by omega)) (fun n' hn' => hBd n' (by omega)) iv1 iv2 iv3 a0 a1 a2 a3 h
def e_Q_compound_12 (E : Int → rf_M → (rf_M → Prop) → Prop) (Bd : Int → Int → Int → rf_M → (Int → rf_M → Prop) → Prop) (v1 : Int) (v2 : Int) (v3 : Int) (M : rf_M) (K : rf_M → Prop) : Prop := em_Q_expect 40 M (fun (M1 : rf_M) => E 0 M1 (fun (M2 : rf_M) => isP M2 169 1 ∧ (em_P_emit (gr M2 169 1) 0 0 M2 (fun (M3 : rf_M) => em_Q_expect 41 M3 (fun (M4 : rf_M) => e_Q_compound_38 E Bd v1 v2 v3 M4 K)))))
theorem E_Q_compound_12 {fz : Bool} {S : gS} {B : rf_M} {M : rf_M} {ls : rf_L} {n0 : Nat} {E : Int → rf_M → (rf_M → Prop) → Prop} {Bd : Int → Int → Int → rf_M → (Int → rf_M → Prop) → Prop} {v1 : Int} {v2 : Int} {v3 : Int} {K : rf_M → Prop} (hS : rl S) (hR : fl 22 353 B M) (hE : ∀ n', n' < n0 → ∀ (x0 : Int) (M : rf_M) (K : rf_M → Prop), fl 22 353 B M → inr x0 → E x0 M K → lx (cx0 fz) n' 47 0 (lv_args 0 [.ref 169, zv x0]) [] (M, S) (vl_v 22 353 B S K)) (hBd : ∀ n', n' < n0 → ∀ (x0 : Int) (x1 : Int) (x2 : Int) (M : rf_M) (K : Int → rf_M → Prop), fl 22 353 B M → inr x0 → inr x1 → inr x2 → Bd x0 x1 x2 M K → lx (cx0 fz) n' 54 0 (lv_args 0 [.ref 169, zv x0, zv x1, zv x2]) [] (M, S) (vl_i 22 353 B S K)) (iv1 : inr v1) (iv2 : inr v2) (iv3 : inr v3) (a0 : rf_ld ls 0 = some (.ref 169)) (a1 : rf_ld ls 1 = some (zv v1)) (a2 : rf_ld ls 2 = some (zv v2)) (a3 : rf_ld ls 3 = some (zv v3)) (h : e_Q_compound_12 E Bd v1 v2 v3 M K) : lx (cx0 fz) n0 53 12 ls [] (M, S) (vl_v 22 353 B S K) := by
  unfold e_Q_compound_12 at h
  rcases Nat.eq_zero_or_pos n0 with e0 | hp
  · rw [e0]; exact lx_zero
  refine l1 (n := 1) rfl rfl rfl (la_of a0) ?_
  refine l_bi rfl (by decide) ?_
  refine b_iv (c := 169) (as := [zv 40]) (rest := []) rfl (by decide) (ko_2 hS (List.Mem.head _)) rfl rfl (Nat.le_of_ble_eq_true rfl) (fun hq => ?_)
  refine lx_mono (E_Q_expect_m hS hR ⟨by decide, by decide⟩ h) ?_
  rintro _ _ ⟨M1, rfl, rfl, r1, h⟩
  refine l1 (n := 1) rfl rfl rfl (la_of a0) ?_
  refine l1 (n := 1) rfl rfl rfl rfl ?_
  refine b_iv (c := 169) (as := [zv 0]) (rest := []) rfl (by decide) (ko_2 hS (List.Mem.head _)) rfl rfl (Nat.le_of_ble_eq_true rfl) (fun hq => ?_)
  refine lx_mono (hE _ (by omega) _ _ _ r1 ⟨by decide, by decide⟩ h) ?_
  rintro _ _ ⟨M2, rfl, rfl, r2, h⟩
  refine l1 (n := 1) rfl rfl rfl (la_of a0) ?_
  obtain ⟨q1, h⟩ := h
  refine l_gr rfl (ko_2 hS (List.Mem.head _)) rfl (fun _ => rfl) q1.1 ?_
  refine l1 (n := 1) rfl rfl rfl rfl ?_
  refine l1 (n := 1) rfl rfl rfl rfl ?_
  refine b_iv (c := (gr M2 169 1)) (as := [zv 0, zv 0]) (rest := []) rfl (by decide) (ko_1 hS q1.2) rfl rfl (Nat.le_of_ble_eq_true rfl) (fun hq => ?_)
  refine lx_mono (E_P_emit_m hS r2 q1.2 ⟨by decide, by decide⟩ ⟨by decide, by decide⟩ h) ?_
  rintro _ _ ⟨M3, rfl, rfl, r3, h⟩
  refine l1 (n := 1) rfl rfl rfl (la_of a0) ?_
  refine l_bi rfl (by decide) ?_
  refine b_iv (c := 169) (as := [zv 41]) (rest := []) rfl (by decide) (ko_2 hS (List.Mem.head _)) rfl rfl (Nat.le_of_ble_eq_true rfl) (fun hq => ?_)
  refine lx_mono (E_Q_expect_m hS r3 ⟨by decide, by decide⟩ h) ?_
  rintro _ _ ⟨M4, rfl, rfl, r4, h⟩
  exact E_Q_compound_38 hS r4 (fun n' hn' => hE n' (by omega)) (fun n' hn' => hBd n' (by omega)) iv1 iv2 iv3 a0 a1 a2 a3 h
def e_Q_compound (E : Int → rf_M → (rf_M → Prop) → Prop) (Bd : Int → Int → Int → rf_M → (Int → rf_M → Prop) → Prop) (v1 : Int) (v2 : Int) (v3 : Int) (M : rf_M) (K : rf_M → Prop) : Prop := (v1 = 10 → (e_Q_compound_12 E Bd v1 v2 v3 M K)) ∧ (¬ (v1 = 10) → ((v1 = 12 → (e_Q_compound_12 E Bd v1 v2 v3 M K)) ∧ (¬ v1 = 12 → (e_Q_compound_38 E Bd v1 v2 v3 M K))))
theorem E_Q_compound {fz : Bool} {S : gS} {B : rf_M} {M : rf_M} {ls : rf_L} {n0 : Nat} {E : Int → rf_M → (rf_M → Prop) → Prop} {Bd : Int → Int → Int → rf_M → (Int → rf_M → Prop) → Prop} {v1 : Int} {v2 : Int} {v3 : Int} {K : rf_M → Prop} (hS : rl S) (hR : fl 22 353 B M) (hE : ∀ n', n' < n0 → ∀ (x0 : Int) (M : rf_M) (K : rf_M → Prop), fl 22 353 B M → inr x0 → E x0 M K → lx (cx0 fz) n' 47 0 (lv_args 0 [.ref 169, zv x0]) [] (M, S) (vl_v 22 353 B S K)) (hBd : ∀ n', n' < n0 → ∀ (x0 : Int) (x1 : Int) (x2 : Int) (M : rf_M) (K : Int → rf_M → Prop), fl 22 353 B M → inr x0 → inr x1 → inr x2 → Bd x0 x1 x2 M K → lx (cx0 fz) n' 54 0 (lv_args 0 [.ref 169, zv x0, zv x1, zv x2]) [] (M, S) (vl_i 22 353 B S K)) (iv1 : inr v1) (iv2 : inr v2) (iv3 : inr v3) (a0 : rf_ld ls 0 = some (.ref 169)) (a1 : rf_ld ls 1 = some (zv v1)) (a2 : rf_ld ls 2 = some (zv v2)) (a3 : rf_ld ls 3 = some (zv v3)) (h : e_Q_compound E Bd v1 v2 v3 M K) : lx (cx0 fz) n0 53 0 ls [] (M, S) (vl_v 22 353 B S K) := by
  unfold e_Q_compound at h
  rcases Nat.eq_zero_or_pos n0 with e0 | hp
  · rw [e0]; exact lx_zero
  refine l1 (n := 1) rfl rfl rfl (li_of a1) ?_
  refine l_bi rfl (by decide) ?_
  refine l_ic rfl iv1 ⟨by decide, by decide⟩ (fun c => ?_) (fun c => ?_)
  · replace h := h.1 c
    exact E_Q_compound_12 hS hR (fun n' hn' => hE n' (by omega)) (fun n' hn' => hBd n' (by omega)) iv1 iv2 iv3 a0 a1 a2 a3 h
  · replace h := h.2 c
    refine l1 (n := 1) rfl rfl rfl (li_of a1) ?_
    refine l_bi rfl (by decide) ?_
    refine l_ic rfl iv1 ⟨by decide, by decide⟩ (fun c => ?_) (fun c => ?_)
    · replace h := h.2 c
      exact E_Q_compound_38 hS hR (fun n' hn' => hE n' (by omega)) (fun n' hn' => hBd n' (by omega)) iv1 iv2 iv3 a0 a1 a2 a3 h
    · replace h := h.1 (Classical.not_not.mp c)
      exact E_Q_compound_12 hS hR (fun n' hn' => hE n' (by omega)) (fun n' hn' => hBd n' (by omega)) iv1 iv2 iv3 a0 a1 a2 a3 h
def em_Q_compound (E : Int → rf_M → (rf_M → Prop) → Prop) (Bd : Int → Int → Int → rf_M → (Int → rf_M → Prop) → Prop) (x1 : Int) (x2 : Int) (x3 : Int) (M : rf_M) (K : rf_M → Prop) : Prop := e_Q_compound E Bd x1 x2 x3 M K
theorem E_Q_compound_m {fz : Bool} {S : gS} {B : rf_M} {M : rf_M} {n0 : Nat} {E : Int → rf_M → (rf_M → Prop) → Prop} {Bd : Int → Int → Int → rf_M → (Int → rf_M → Prop) → Prop} {x1 : Int} {x2 : Int} {x3 : Int} {K : rf_M → Prop} (hS : rl S) (hR : fl 22 353 B M) (hE : ∀ n', n' < n0 → ∀ (x0 : Int) (M : rf_M) (K : rf_M → Prop), fl 22 353 B M → inr x0 → E x0 M K → lx (cx0 fz) n' 47 0 (lv_args 0 [.ref 169, zv x0]) [] (M, S) (vl_v 22 353 B S K)) (hBd : ∀ n', n' < n0 → ∀ (x0 : Int) (x1 : Int) (x2 : Int) (M : rf_M) (K : Int → rf_M → Prop), fl 22 353 B M → inr x0 → inr x1 → inr x2 → Bd x0 x1 x2 M K → lx (cx0 fz) n' 54 0 (lv_args 0 [.ref 169, zv x0, zv x1, zv x2]) [] (M, S) (vl_i 22 353 B S K)) (ix1 : inr x1) (ix2 : inr x2) (ix3 : inr x3) (h : em_Q_compound E Bd x1 x2 x3 M K) : lx (cx0 fz) n0 53 0 (lv_args 0 [.ref 169, zv x1, zv x2, zv x3]) [] (M, S) (vl_v 22 353 B S K) :=
  E_Q_compound hS hR hE hBd ix1 ix2 ix3 rfl rfl rfl rfl h
def e_Q_statement_163 (E : Int → rf_M → (rf_M → Prop) → Prop) (Bd : Int → Int → Int → rf_M → (Int → rf_M → Prop) → Prop) (v5 : Int) (M : rf_M) (K : Int → rf_M → Prop) : Prop := K v5 M
theorem E_Q_statement_163 {fz : Bool} {S : gS} {B : rf_M} {M : rf_M} {ls : rf_L} {n0 : Nat} {E : Int → rf_M → (rf_M → Prop) → Prop} {Bd : Int → Int → Int → rf_M → (Int → rf_M → Prop) → Prop} {v5 : Int} {K : Int → rf_M → Prop} (hS : rl S) (hR : fl 22 353 B M) (hE : ∀ n', n' < n0 → ∀ (x0 : Int) (M : rf_M) (K : rf_M → Prop), fl 22 353 B M → inr x0 → E x0 M K → lx (cx0 fz) n' 47 0 (lv_args 0 [.ref 169, zv x0]) [] (M, S) (vl_v 22 353 B S K)) (hBd : ∀ n', n' < n0 → ∀ (x0 : Int) (x1 : Int) (x2 : Int) (M : rf_M) (K : Int → rf_M → Prop), fl 22 353 B M → inr x0 → inr x1 → inr x2 → Bd x0 x1 x2 M K → lx (cx0 fz) n' 54 0 (lv_args 0 [.ref 169, zv x0, zv x1, zv x2]) [] (M, S) (vl_i 22 353 B S K)) (iv5 : inr v5) (a5 : rf_ld ls 5 = some (zv v5)) (h : e_Q_statement_163 E Bd v5 M K) : lx (cx0 fz) n0 38 163 ls [] (M, S) (vl_i 22 353 B S K) := by
  unfold e_Q_statement_163 at h
  rcases Nat.eq_zero_or_pos n0 with e0 | hp
  · rw [e0]; exact lx_zero
  refine l1 (n := 2) rfl rfl rfl (li_of a5) ?_
  exact l_ri rfl rfl iv5 hR h
def e_Q_statement_30 (E : Int → rf_M → (rf_M → Prop) → Prop) (Bd : Int → Int → Int → rf_M → (Int → rf_M → Prop) → Prop) (v3 : Int) (v4 : Int) (s0 : Int) (M : rf_M) (K : Int → rf_M → Prop) : Prop := (s0 = (-1) → (em_Q_refuse  M (fun (M12 : rf_M) => K (-1) M12))) ∧ (¬ s0 = (-1) → (isP M 169 1 ∧ (em_Q_number  M (fun (z1 : Int) (M1 : rf_M) => (0 ≤ s0 ∧ s0 < 40 → (∀ M2 : rf_M, M2 = wi M1 ((gr M 169 1) + 2) (s0).toNat z1 → (em_Q_advance  M2 (fun (M3 : rf_M) => (v4 = 1 → (em_Q_expect 61 M3 (fun (M4 : rf_M) => em_Q_closedExp E Bd  M4 (fun (M5 : rf_M) => e_Q_statement_163 E Bd s0 M5 K)))) ∧ (v4 = 13 → (em_Q_expect 59 M3 (fun (M6 : rf_M) => e_Q_statement_163 E Bd s0 M6 K))) ∧ (v4 = 14 → (em_Q_closedExp E Bd  M3 (fun (M7 : rf_M) => e_Q_statement_163 E Bd s0 M7 K))) ∧ (v4 = 19 → (∀ M8 : rf_M, M8 = wi M3 169 4 1 → (em_Q_closedExp E Bd  M8 (fun (M9 : rf_M) => ∀ M10 : rf_M, M10 = wi M9 169 4 0 → (e_Q_statement_163 E Bd s0 M10 K))))) ∧ (¬ v4 = 1 ∧ ¬ v4 = 13 ∧ ¬ v4 = 14 ∧ ¬ v4 = 19 → (em_Q_compound E Bd v4 s0 v3 M3 (fun (M11 : rf_M) => e_Q_statement_163 E Bd s0 M11 K)))))))))))
theorem E_Q_statement_30 {fz : Bool} {S : gS} {B : rf_M} {M : rf_M} {ls : rf_L} {n0 : Nat} {E : Int → rf_M → (rf_M → Prop) → Prop} {Bd : Int → Int → Int → rf_M → (Int → rf_M → Prop) → Prop} {v3 : Int} {v4 : Int} {s0 : Int} {K : Int → rf_M → Prop} (hS : rl S) (hR : fl 22 353 B M) (hE : ∀ n', n' < n0 → ∀ (x0 : Int) (M : rf_M) (K : rf_M → Prop), fl 22 353 B M → inr x0 → E x0 M K → lx (cx0 fz) n' 47 0 (lv_args 0 [.ref 169, zv x0]) [] (M, S) (vl_v 22 353 B S K)) (hBd : ∀ n', n' < n0 → ∀ (x0 : Int) (x1 : Int) (x2 : Int) (M : rf_M) (K : Int → rf_M → Prop), fl 22 353 B M → inr x0 → inr x1 → inr x2 → Bd x0 x1 x2 M K → lx (cx0 fz) n' 54 0 (lv_args 0 [.ref 169, zv x0, zv x1, zv x2]) [] (M, S) (vl_i 22 353 B S K)) (iv3 : inr v3) (iv4 : inr v4) (is0 : inr s0) (a0 : rf_ld ls 0 = some (.ref 169)) (a3 : rf_ld ls 3 = some (zv v3)) (a4 : rf_ld ls 4 = some (zv v4)) (h : e_Q_statement_30 E Bd v3 v4 s0 M K) : lx (cx0 fz) n0 38 30 ls [zv s0] (M, S) (vl_i 22 353 B S K) := by
  unfold e_Q_statement_30 at h
  rcases Nat.eq_zero_or_pos n0 with e0 | hp
  · rw [e0]; exact lx_zero
  refine l_s1 (n := 2) rfl rfl rfl rfl (fun ls y1 ho => ?_)
  have y2 := ho 0 _ (by decide) (fun q => by cases q.2) a0
  have y3 := ho 3 _ (by decide) (fun q => by cases q.2) a3
  have y4 := ho 4 _ (by decide) (fun q => by cases q.2) a4
  refine l1 (n := 2) rfl rfl rfl (li_of y1) ?_
  refine l1 (n := 1) rfl rfl rfl rfl ?_
  refine l_ic rfl is0 ⟨by decide, by decide⟩ (fun c => ?_) (fun c => ?_)
  · replace h := h.2 c
    refine l1 (n := 1) rfl rfl rfl (la_of y2) ?_
    obtain ⟨q1, h⟩ := h
    refine l_gr rfl (ko_2 hS (List.Mem.head _)) rfl (fun _ => rfl) q1.1 ?_
    refine l_gr rfl (ko_1 hS q1.2) rfl (fun _ => rfl) (kf_1_6 hR.2 q1.2) ?_
    refine l1 (n := 2) rfl rfl rfl (li_of y1) ?_
    refine l1 (n := 1) rfl rfl rfl (la_of y2) ?_
    refine b_iv (c := 169) (as := []) (rest := [zv s0, .ref ((gr M 169 1) + 2)]) rfl (by decide) (ko_2 hS (List.Mem.head _)) rfl rfl (Nat.le_of_ble_eq_true rfl) (fun hq => ?_)
    refine lx_mono (E_Q_number_m hS hR h) ?_
    rintro _ _ ⟨z1, M1, rfl, rfl, r1, iz1, h⟩
    refine b_is rfl (kt_1_6 (fz := fz) hS q1.2).1 (Nat.le_of_ble_eq_true rfl) is0 (fun q M2 e => ?_)
    replace h := h q M2 e
    have r2 := r1.wi (kt_1_6 (fz := fz) hS q1.2).1.1 (kt_1_6 (fz := fz) hS q1.2).2 e
    refine l1 (n := 1) rfl rfl rfl (la_of y2) ?_
    refine b_iv (c := 169) (as := []) (rest := []) rfl (by decide) (ko_2 hS (List.Mem.head _)) rfl rfl (Nat.le_of_ble_eq_true rfl) (fun hq => ?_)
    refine lx_mono (E_Q_advance_m hS r2 h) ?_
    rintro _ _ ⟨M3, rfl, rfl, r3, h⟩
    refine l1 (n := 2) rfl rfl rfl (li_of y4) ?_
    have ia : inr v4 := iv4
    obtain ⟨h1, h⟩ := h
    by_cases e1 : v4 = 1
    · replace h := h1 e1
      refine l_sw (pc' := 108) e1 rfl rfl rfl ?_
      refine l1 (n := 1) rfl rfl rfl (la_of y2) ?_
      refine l_bi rfl (by decide) ?_
      refine b_iv (c := 169) (as := [zv 61]) (rest := []) rfl (by decide) (ko_2 hS (List.Mem.head _)) rfl rfl (Nat.le_of_ble_eq_true rfl) (fun hq => ?_)
      refine lx_mono (E_Q_expect_m hS r3 ⟨by decide, by decide⟩ h) ?_
      rintro _ _ ⟨M4, rfl, rfl, r4, h⟩
      refine l1 (n := 1) rfl rfl rfl (la_of y2) ?_
      refine b_iv (c := 169) (as := []) (rest := []) rfl (by decide) (ko_2 hS (List.Mem.head _)) rfl rfl (Nat.le_of_ble_eq_true rfl) (fun hq => ?_)
      refine lx_mono (E_Q_closedExp_m hS r4 (fun n' hn' => hE n' (by omega)) (fun n' hn' => hBd n' (by omega)) h) ?_
      rintro _ _ ⟨M5, rfl, rfl, r5, h⟩
      refine l3 rfl rfl rfl ?_
      exact E_Q_statement_163 hS r5 (fun n' hn' => hE n' (by omega)) (fun n' hn' => hBd n' (by omega)) is0 y1 h
    obtain ⟨h1, h⟩ := h
    by_cases e13 : v4 = 13
    · replace h := h1 e13
      refine l_sw (pc' := 145) e13 rfl rfl rfl ?_
      refine l1 (n := 1) rfl rfl rfl (la_of y2) ?_
      refine l_bi rfl (by decide) ?_
      refine b_iv (c := 169) (as := [zv 59]) (rest := []) rfl (by decide) (ko_2 hS (List.Mem.head _)) rfl rfl (Nat.le_of_ble_eq_true rfl) (fun hq => ?_)
      refine lx_mono (E_Q_expect_m hS r3 ⟨by decide, by decide⟩ h) ?_
      rintro _ _ ⟨M6, rfl, rfl, r6, h⟩
      refine l3 rfl rfl rfl ?_
      exact E_Q_statement_163 hS r6 (fun n' hn' => hE n' (by omega)) (fun n' hn' => hBd n' (by omega)) is0 y1 h
    obtain ⟨h1, h⟩ := h
    by_cases e14 : v4 = 14
    · replace h := h1 e14
      refine l_sw (pc' := 121) e14 rfl rfl rfl ?_
      refine l1 (n := 1) rfl rfl rfl (la_of y2) ?_
      refine b_iv (c := 169) (as := []) (rest := []) rfl (by decide) (ko_2 hS (List.Mem.head _)) rfl rfl (Nat.le_of_ble_eq_true rfl) (fun hq => ?_)
      refine lx_mono (E_Q_closedExp_m hS r3 (fun n' hn' => hE n' (by omega)) (fun n' hn' => hBd n' (by omega)) h) ?_
      rintro _ _ ⟨M7, rfl, rfl, r7, h⟩
      refine l3 rfl rfl rfl ?_
      exact E_Q_statement_163 hS r7 (fun n' hn' => hE n' (by omega)) (fun n' hn' => hBd n' (by omega)) is0 y1 h
    obtain ⟨h1, h⟩ := h
    by_cases e19 : v4 = 19
    · replace h := h1 e19
      refine l_sw (pc' := 128) e19 rfl rfl rfl ?_
      refine l1 (n := 1) rfl rfl rfl (la_of y2) ?_
      refine l1 (n := 1) rfl rfl rfl rfl ?_
      refine l_pb rfl (ko_2 (fz := fz) hS (List.Mem.head _)) rfl rfl (Or.inr rfl) (fun M8 e => ?_)
      replace h := h M8 e
      have r8 := r3.wi (ko_2 (fz := fz) hS (List.Mem.head _)).1 (kl_2 (List.Mem.head _)) e
      refine l1 (n := 1) rfl rfl rfl (la_of y2) ?_
      refine b_iv (c := 169) (as := []) (rest := []) rfl (by decide) (ko_2 hS (List.Mem.head _)) rfl rfl (Nat.le_of_ble_eq_true rfl) (fun hq => ?_)
      refine lx_mono (E_Q_closedExp_m hS r8 (fun n' hn' => hE n' (by omega)) (fun n' hn' => hBd n' (by omega)) h) ?_
      rintro _ _ ⟨M9, rfl, rfl, r9, h⟩
      refine l1 (n := 1) rfl rfl rfl (la_of y2) ?_
      refine l1 (n := 1) rfl rfl rfl rfl ?_
      refine l_pb rfl (ko_2 (fz := fz) hS (List.Mem.head _)) rfl rfl (Or.inl rfl) (fun M10 e => ?_)
      replace h := h M10 e
      have r10 := r9.wi (ko_2 (fz := fz) hS (List.Mem.head _)).1 (kl_2 (List.Mem.head _)) e
      refine l3 rfl rfl rfl ?_
      exact E_Q_statement_163 hS r10 (fun n' hn' => hE n' (by omega)) (fun n' hn' => hBd n' (by omega)) is0 y1 h
    replace h := h ⟨e1, e13, e14, e19⟩
    refine l_swl (t := 154) rfl ia (by simp only [List.tail_cons, rf_sw, if_neg (Ne.symm e1), if_neg (Ne.symm e13), if_neg (Ne.symm e14), if_neg (Ne.symm e19)]; rfl) ?_
    refine l1 (n := 1) rfl rfl rfl (la_of y2) ?_
    refine l1 (n := 2) rfl rfl rfl (li_of y4) ?_
    refine l1 (n := 2) rfl rfl rfl (li_of y1) ?_
    refine l1 (n := 1) rfl rfl rfl (li_of y3) ?_
    refine b_iv (c := 169) (as := [zv v4, zv s0, zv v3]) (rest := []) rfl (by decide) (ko_2 hS (List.Mem.head _)) rfl rfl (Nat.le_of_ble_eq_true rfl) (fun hq => ?_)
    refine lx_mono (E_Q_compound_m hS r3 (fun n' hn' => hE n' (by omega)) (fun n' hn' => hBd n' (by omega)) iv4 is0 iv3 h) ?_
    rintro _ _ ⟨M11, rfl, rfl, r11, h⟩
    exact E_Q_statement_163 hS r11 (fun n' hn' => hE n' (by omega)) (fun n' hn' => hBd n' (by omega)) is0 y1 h
  · replace h := h.1 (Classical.not_not.mp c)
    refine l1 (n := 1) rfl rfl rfl (la_of y2) ?_
    refine b_iv (c := 169) (as := []) (rest := []) rfl (by decide) (ko_2 hS (List.Mem.head _)) rfl rfl (Nat.le_of_ble_eq_true rfl) (fun hq => ?_)
    refine lx_mono (E_Q_refuse_m hS hR h) ?_
    rintro _ _ ⟨M12, rfl, rfl, r12, h⟩
    refine l1 (n := 1) rfl rfl rfl rfl ?_
    exact l_ri rfl rfl ⟨by decide, by decide⟩ r12 h
def e_Q_statement (E : Int → rf_M → (rf_M → Prop) → Prop) (Bd : Int → Int → Int → rf_M → (Int → rf_M → Prop) → Prop) (v1 : Int) (v2 : Int) (v3 : Int) (M : rf_M) (K : Int → rf_M → Prop) : Prop := em_Q_token  M (fun (z1 : Int) (M1 : rf_M) => em_Q_canBegin z1 M1 (fun (z2 : Int) (M2 : rf_M) => (z2 = 0 → (e_Q_statement_30 E Bd v3 z1 (-1) M2 K)) ∧ (¬ (z2 = 0) → (isP M2 169 1 ∧ (em_P_open (gr M2 169 1) z1 v1 v2 v3 M2 (fun (z3 : Int) (M3 : rf_M) => e_Q_statement_30 E Bd v3 z1 z3 M3 K))))))
theorem E_Q_statement {fz : Bool} {S : gS} {B : rf_M} {M : rf_M} {ls : rf_L} {n0 : Nat} {E : Int → rf_M → (rf_M → Prop) → Prop} {Bd : Int → Int → Int → rf_M → (Int → rf_M → Prop) → Prop} {v1 : Int} {v2 : Int} {v3 : Int} {K : Int → rf_M → Prop} (hS : rl S) (hR : fl 22 353 B M) (hE : ∀ n', n' < n0 → ∀ (x0 : Int) (M : rf_M) (K : rf_M → Prop), fl 22 353 B M → inr x0 → E x0 M K → lx (cx0 fz) n' 47 0 (lv_args 0 [.ref 169, zv x0]) [] (M, S) (vl_v 22 353 B S K)) (hBd : ∀ n', n' < n0 → ∀ (x0 : Int) (x1 : Int) (x2 : Int) (M : rf_M) (K : Int → rf_M → Prop), fl 22 353 B M → inr x0 → inr x1 → inr x2 → Bd x0 x1 x2 M K → lx (cx0 fz) n' 54 0 (lv_args 0 [.ref 169, zv x0, zv x1, zv x2]) [] (M, S) (vl_i 22 353 B S K)) (iv1 : inr v1) (iv2 : inr v2) (iv3 : inr v3) (a0 : rf_ld ls 0 = some (.ref 169)) (a1 : rf_ld ls 1 = some (zv v1)) (a2 : rf_ld ls 2 = some (zv v2)) (a3 : rf_ld ls 3 = some (zv v3)) (h : e_Q_statement E Bd v1 v2 v3 M K) : lx (cx0 fz) n0 38 0 ls [] (M, S) (vl_i 22 353 B S K) := by
  unfold e_Q_statement at h
  rcases Nat.eq_zero_or_pos n0 with e0 | hp
  · rw [e0]; exact lx_zero
  refine l1 (n := 1) rfl rfl rfl (la_of a0) ?_
  refine b_iv (c := 169) (as := []) (rest := []) rfl (by decide) (ko_2 hS (List.Mem.head _)) rfl rfl (Nat.le_of_ble_eq_true rfl) (fun hq => ?_)
  refine lx_mono (E_Q_token_m hS hR h) ?_
  rintro _ _ ⟨z1, M1, rfl, rfl, r1, iz1, h⟩
  refine l_s1 (n := 2) rfl rfl rfl rfl (fun ls y1 ho => ?_)
  have y2 := ho 0 _ (by decide) (fun q => by cases q.2) a0
  have y3 := ho 1 _ (by decide) (fun q => by cases q.2) a1
  have y4 := ho 2 _ (by decide) (fun q => by cases q.2) a2
  have y5 := ho 3 _ (by decide) (fun q => by cases q.2) a3
  refine l1 (n := 2) rfl rfl rfl (li_of y1) ?_
  refine b_st (as := [zv z1]) (rest := []) rfl (by decide) rfl (Nat.le_of_ble_eq_true rfl) (fun hq => ?_)
  refine lx_mono (E_Q_canBegin_m hS r1 iz1 h) ?_
  rintro _ _ ⟨z2, M2, rfl, rfl, r2, iz2, h⟩
  refine l_if rfl iz2 (fun c => ?_) (fun c => ?_)
  · replace h := h.1 c
    refine l1 (n := 1) rfl rfl rfl rfl ?_
    exact E_Q_statement_30 hS r2 (fun n' hn' => hE n' (by omega)) (fun n' hn' => hBd n' (by omega)) iv3 iz1 ⟨by decide, by decide⟩ y2 y5 y1 h
  · replace h := h.2 c
    refine l1 (n := 1) rfl rfl rfl (la_of y2) ?_
    obtain ⟨q1, h⟩ := h
    refine l_gr rfl (ko_2 hS (List.Mem.head _)) rfl (fun _ => rfl) q1.1 ?_
    refine l1 (n := 2) rfl rfl rfl (li_of y1) ?_
    refine l1 (n := 1) rfl rfl rfl (li_of y3) ?_
    refine l1 (n := 1) rfl rfl rfl (li_of y4) ?_
    refine l1 (n := 1) rfl rfl rfl (li_of y5) ?_
    refine b_iv (c := (gr M2 169 1)) (as := [zv z1, zv v1, zv v2, zv v3]) (rest := []) rfl (by decide) (ko_1 hS q1.2) rfl rfl (Nat.le_of_ble_eq_true rfl) (fun hq => ?_)
    refine lx_mono (E_P_open_m hS r2 q1.2 iz1 iv1 iv2 iv3 h) ?_
    rintro _ _ ⟨z3, M3, rfl, rfl, r3, iz3, h⟩
    refine l3 rfl rfl rfl ?_
    exact E_Q_statement_30 hS r3 (fun n' hn' => hE n' (by omega)) (fun n' hn' => hBd n' (by omega)) iv3 iz1 iz3 y2 y5 y1 h
def em_Q_statement (E : Int → rf_M → (rf_M → Prop) → Prop) (Bd : Int → Int → Int → rf_M → (Int → rf_M → Prop) → Prop) (x1 : Int) (x2 : Int) (x3 : Int) (M : rf_M) (K : Int → rf_M → Prop) : Prop := e_Q_statement E Bd x1 x2 x3 M K
theorem E_Q_statement_m {fz : Bool} {S : gS} {B : rf_M} {M : rf_M} {n0 : Nat} {E : Int → rf_M → (rf_M → Prop) → Prop} {Bd : Int → Int → Int → rf_M → (Int → rf_M → Prop) → Prop} {x1 : Int} {x2 : Int} {x3 : Int} {K : Int → rf_M → Prop} (hS : rl S) (hR : fl 22 353 B M) (hE : ∀ n', n' < n0 → ∀ (x0 : Int) (M : rf_M) (K : rf_M → Prop), fl 22 353 B M → inr x0 → E x0 M K → lx (cx0 fz) n' 47 0 (lv_args 0 [.ref 169, zv x0]) [] (M, S) (vl_v 22 353 B S K)) (hBd : ∀ n', n' < n0 → ∀ (x0 : Int) (x1 : Int) (x2 : Int) (M : rf_M) (K : Int → rf_M → Prop), fl 22 353 B M → inr x0 → inr x1 → inr x2 → Bd x0 x1 x2 M K → lx (cx0 fz) n' 54 0 (lv_args 0 [.ref 169, zv x0, zv x1, zv x2]) [] (M, S) (vl_i 22 353 B S K)) (ix1 : inr x1) (ix2 : inr x2) (ix3 : inr x3) (h : em_Q_statement E Bd x1 x2 x3 M K) : lx (cx0 fz) n0 38 0 (lv_args 0 [.ref 169, zv x1, zv x2, zv x3]) [] (M, S) (vl_i 22 353 B S K) :=
  E_Q_statement hS hR hE hBd ix1 ix2 ix3 rfl rfl rfl rfl h
def e_Q_statements_40 (E : Int → rf_M → (rf_M → Prop) → Prop) (Bd : Int → Int → Int → rf_M → (Int → rf_M → Prop) → Prop) (v4 : Int) (M : rf_M) (K : Int → rf_M → Prop) : Prop := K v4 M
theorem E_Q_statements_40 {fz : Bool} {S : gS} {B : rf_M} {M : rf_M} {ls : rf_L} {n0 : Nat} {E : Int → rf_M → (rf_M → Prop) → Prop} {Bd : Int → Int → Int → rf_M → (Int → rf_M → Prop) → Prop} {v4 : Int} {K : Int → rf_M → Prop} (hS : rl S) (hR : fl 22 353 B M) (hE : ∀ n', n' < n0 → ∀ (x0 : Int) (M : rf_M) (K : rf_M → Prop), fl 22 353 B M → inr x0 → E x0 M K → lx (cx0 fz) n' 47 0 (lv_args 0 [.ref 169, zv x0]) [] (M, S) (vl_v 22 353 B S K)) (hBd : ∀ n', n' < n0 → ∀ (x0 : Int) (x1 : Int) (x2 : Int) (M : rf_M) (K : Int → rf_M → Prop), fl 22 353 B M → inr x0 → inr x1 → inr x2 → Bd x0 x1 x2 M K → lx (cx0 fz) n' 54 0 (lv_args 0 [.ref 169, zv x0, zv x1, zv x2]) [] (M, S) (vl_i 22 353 B S K)) (iv4 : inr v4) (a4 : rf_ld ls 4 = some (zv v4)) (h : e_Q_statements_40 E Bd v4 M K) : lx (cx0 fz) n0 35 40 ls [] (M, S) (vl_i 22 353 B S K) := by
  unfold e_Q_statements_40 at h
  rcases Nat.eq_zero_or_pos n0 with e0 | hp
  · rw [e0]; exact lx_zero
  refine l1 (n := 2) rfl rfl rfl (li_of a4) ?_
  exact l_ri rfl rfl iv4 hR h
def e_Q_statements_77 (E : Int → rf_M → (rf_M → Prop) → Prop) (Bd : Int → Int → Int → rf_M → (Int → rf_M → Prop) → Prop) (v1 : Int) (v2 : Int) (v3 : Int) (v4 : Int) (v6 : Int) (v7 : Int) (M : rf_M) (b9 : Int → Int → Int → Int → Int → Int → rf_M → Prop) (K : Int → rf_M → Prop) : Prop := inr (v6 + 1) ∧ (b9 v1 v2 v3 v4 v7 (v6 + 1) M)
theorem E_Q_statements_77 {fz : Bool} {S : gS} {B : rf_M} {M : rf_M} {ls : rf_L} {n0 : Nat} {E : Int → rf_M → (rf_M → Prop) → Prop} {Bd : Int → Int → Int → rf_M → (Int → rf_M → Prop) → Prop} {v1 : Int} {v2 : Int} {v3 : Int} {v4 : Int} {v6 : Int} {v7 : Int} {b9 : Int → Int → Int → Int → Int → Int → rf_M → Prop} {K : Int → rf_M → Prop} (hS : rl S) (hR : fl 22 353 B M) (hE : ∀ n', n' < n0 → ∀ (x0 : Int) (M : rf_M) (K : rf_M → Prop), fl 22 353 B M → inr x0 → E x0 M K → lx (cx0 fz) n' 47 0 (lv_args 0 [.ref 169, zv x0]) [] (M, S) (vl_v 22 353 B S K)) (hBd : ∀ n', n' < n0 → ∀ (x0 : Int) (x1 : Int) (x2 : Int) (M : rf_M) (K : Int → rf_M → Prop), fl 22 353 B M → inr x0 → inr x1 → inr x2 → Bd x0 x1 x2 M K → lx (cx0 fz) n' 54 0 (lv_args 0 [.ref 169, zv x0, zv x1, zv x2]) [] (M, S) (vl_i 22 353 B S K)) (iv1 : inr v1) (iv2 : inr v2) (iv3 : inr v3) (iv4 : inr v4) (iv6 : inr v6) (iv7 : inr v7) (a0 : rf_ld ls 0 = some (.ref 169)) (a1 : rf_ld ls 1 = some (zv v1)) (a2 : rf_ld ls 2 = some (zv v2)) (a3 : rf_ld ls 3 = some (zv v3)) (a4 : rf_ld ls 4 = some (zv v4)) (a6 : rf_ld ls 6 = some (zv v6)) (a7 : rf_ld ls 7 = some (zv v7)) (hb9 : ∀ n', n' < n0 → ∀ (v1 : Int) (v2 : Int) (v3 : Int) (v4 : Int) (v5 : Int) (v6 : Int) (M : rf_M) (ls : rf_L), fl 22 353 B M → inr v1 → inr v2 → inr v3 → inr v4 → inr v5 → inr v6 → rf_ld ls 0 = some (.ref 169) → rf_ld ls 1 = some (zv v1) → rf_ld ls 2 = some (zv v2) → rf_ld ls 3 = some (zv v3) → rf_ld ls 4 = some (zv v4) → rf_ld ls 5 = some (zv v5) → rf_ld ls 6 = some (zv v6) → b9 v1 v2 v3 v4 v5 v6 M → lx (cx0 fz) n' 35 9 ls [] (M, S) (vl_i 22 353 B S K)) (h : e_Q_statements_77 E Bd v1 v2 v3 v4 v6 v7 M b9 K) : lx (cx0 fz) n0 35 77 ls [] (M, S) (vl_i 22 353 B S K) := by
  unfold e_Q_statements_77 at h
  rcases Nat.eq_zero_or_pos n0 with e0 | hp
  · rw [e0]; exact lx_zero
  refine l1 (n := 2) rfl rfl rfl (li_of a7) ?_
  refine l_s1 (n := 2) rfl rfl rfl rfl (fun ls y1 ho => ?_)
  have y2 := ho 0 _ (by decide) (fun q => by cases q.2) a0
  have y3 := ho 1 _ (by decide) (fun q => by cases q.2) a1
  have y4 := ho 2 _ (by decide) (fun q => by cases q.2) a2
  have y5 := ho 3 _ (by decide) (fun q => by cases q.2) a3
  have y6 := ho 4 _ (by decide) (fun q => by cases q.2) a4
  have y7 := ho 6 _ (by decide) (fun q => by cases q.2) a6
  refine l_ii rfl y7 (Nat.le_of_ble_eq_true rfl) (fun ls y8 ho => ?_)
  have y9 := ho 0 _ (by decide) (fun q => by cases q.2) y2
  have y10 := ho 1 _ (by decide) (fun q => by cases q.2) y3
  have y11 := ho 2 _ (by decide) (fun q => by cases q.2) y4
  have y12 := ho 3 _ (by decide) (fun q => by cases q.2) y5
  have y13 := ho 4 _ (by decide) (fun q => by cases q.2) y6
  have y14 := ho 5 _ (by decide) (fun q => by cases q.2) y1
  refine l3 rfl rfl rfl ?_
  obtain ⟨i1, h⟩ := h
  exact hb9 _ (by omega) _ _ _ _ _ _ _ _ hR iv1 iv2 iv3 iv4 iv7 i1 y9 y10 y11 y12 y13 y14 y8 h
def e_Q_statements_9b (E : Int → rf_M → (rf_M → Prop) → Prop) (Bd : Int → Int → Int → rf_M → (Int → rf_M → Prop) → Prop) (v1 : Int) (v2 : Int) (v3 : Int) (v4 : Int) (v5 : Int) (v6 : Int) (M : rf_M) (b9 : Int → Int → Int → Int → Int → Int → rf_M → Prop) (K : Int → rf_M → Prop) : Prop := (40 < v6 → (K v4 M)) ∧ (¬ (40 < v6) → (em_Q_isFaulty  M (fun (z1 : Int) (M1 : rf_M) => (z1 = 0 → (em_Q_isAt 0 M1 (fun (z2 : Int) (M2 : rf_M) => (z2 = 0 → (em_Q_isAt 125 M2 (fun (z3 : Int) (M3 : rf_M) => (z3 = 0 → (em_Q_statement E Bd v1 v2 v3 M3 (fun (z4 : Int) (M4 : rf_M) => (v5 = (-1) → (e_Q_statements_77 E Bd v1 v2 v3 z4 v6 z4 M4 b9 K)) ∧ (¬ v5 = (-1) → (isP M4 169 1 ∧ ((0 ≤ v5 ∧ v5 < 40 → (∀ M5 : rf_M, M5 = wi M4 ((gr M4 169 1) + 7) (v5).toNat z4 → (e_Q_statements_77 E Bd v1 v2 v3 v4 v6 z4 M5 b9 K))))))))) ∧ (¬ (z3 = 0) → (e_Q_statements_40 E Bd v4 M3 K))))) ∧ (¬ z2 = 0 → (e_Q_statements_40 E Bd v4 M2 K))))) ∧ (¬ z1 = 0 → (e_Q_statements_40 E Bd v4 M1 K)))))
theorem E_Q_statements_9b {fz : Bool} {S : gS} {B : rf_M} {M : rf_M} {ls : rf_L} {n0 : Nat} {E : Int → rf_M → (rf_M → Prop) → Prop} {Bd : Int → Int → Int → rf_M → (Int → rf_M → Prop) → Prop} {v1 : Int} {v2 : Int} {v3 : Int} {v4 : Int} {v5 : Int} {v6 : Int} {b9 : Int → Int → Int → Int → Int → Int → rf_M → Prop} {K : Int → rf_M → Prop} (hS : rl S) (hR : fl 22 353 B M) (hE : ∀ n', n' < n0 → ∀ (x0 : Int) (M : rf_M) (K : rf_M → Prop), fl 22 353 B M → inr x0 → E x0 M K → lx (cx0 fz) n' 47 0 (lv_args 0 [.ref 169, zv x0]) [] (M, S) (vl_v 22 353 B S K)) (hBd : ∀ n', n' < n0 → ∀ (x0 : Int) (x1 : Int) (x2 : Int) (M : rf_M) (K : Int → rf_M → Prop), fl 22 353 B M → inr x0 → inr x1 → inr x2 → Bd x0 x1 x2 M K → lx (cx0 fz) n' 54 0 (lv_args 0 [.ref 169, zv x0, zv x1, zv x2]) [] (M, S) (vl_i 22 353 B S K)) (iv1 : inr v1) (iv2 : inr v2) (iv3 : inr v3) (iv4 : inr v4) (iv5 : inr v5) (iv6 : inr v6) (a0 : rf_ld ls 0 = some (.ref 169)) (a1 : rf_ld ls 1 = some (zv v1)) (a2 : rf_ld ls 2 = some (zv v2)) (a3 : rf_ld ls 3 = some (zv v3)) (a4 : rf_ld ls 4 = some (zv v4)) (a5 : rf_ld ls 5 = some (zv v5)) (a6 : rf_ld ls 6 = some (zv v6)) (hb9 : ∀ n', n' < n0 → ∀ (v1 : Int) (v2 : Int) (v3 : Int) (v4 : Int) (v5 : Int) (v6 : Int) (M : rf_M) (ls : rf_L), fl 22 353 B M → inr v1 → inr v2 → inr v3 → inr v4 → inr v5 → inr v6 → rf_ld ls 0 = some (.ref 169) → rf_ld ls 1 = some (zv v1) → rf_ld ls 2 = some (zv v2) → rf_ld ls 3 = some (zv v3) → rf_ld ls 4 = some (zv v4) → rf_ld ls 5 = some (zv v5) → rf_ld ls 6 = some (zv v6) → b9 v1 v2 v3 v4 v5 v6 M → lx (cx0 fz) n' 35 9 ls [] (M, S) (vl_i 22 353 B S K)) (h : e_Q_statements_9b E Bd v1 v2 v3 v4 v5 v6 M b9 K) : lx (cx0 fz) n0 35 9 ls [] (M, S) (vl_i 22 353 B S K) := by
  unfold e_Q_statements_9b at h
  rcases Nat.eq_zero_or_pos n0 with e0 | hp
  · rw [e0]; exact lx_zero
  refine l1 (n := 2) rfl rfl rfl (li_of a6) ?_
  refine l_bi rfl (by decide) ?_
  refine l_ic rfl iv6 ⟨by decide, by decide⟩ (fun c => ?_) (fun c => ?_)
  · replace h := h.1 c
    refine l1 (n := 2) rfl rfl rfl (li_of a4) ?_
    exact l_ri rfl rfl iv4 hR h
  · replace h := h.2 c
    refine l1 (n := 1) rfl rfl rfl (la_of a0) ?_
    refine b_iv (c := 169) (as := []) (rest := []) rfl (by decide) (ko_2 hS (List.Mem.head _)) rfl rfl (Nat.le_of_ble_eq_true rfl) (fun hq => ?_)
    refine lx_mono (E_Q_isFaulty_m hS hR h) ?_
    rintro _ _ ⟨z1, M1, rfl, rfl, r1, iz1, h⟩
    refine l_if rfl iz1 (fun c => ?_) (fun c => ?_)
    · replace h := h.2 c
      exact E_Q_statements_40 hS r1 (fun n' hn' => hE n' (by omega)) (fun n' hn' => hBd n' (by omega)) iv4 a4 h
    · replace h := h.1 (Classical.not_not.mp c)
      refine l1 (n := 1) rfl rfl rfl (la_of a0) ?_
      refine l1 (n := 1) rfl rfl rfl rfl ?_
      refine b_iv (c := 169) (as := [zv 0]) (rest := []) rfl (by decide) (ko_2 hS (List.Mem.head _)) rfl rfl (Nat.le_of_ble_eq_true rfl) (fun hq => ?_)
      refine lx_mono (E_Q_isAt_m hS r1 ⟨by decide, by decide⟩ h) ?_
      rintro _ _ ⟨z2, M2, rfl, rfl, r2, iz2, h⟩
      refine l_if rfl iz2 (fun c => ?_) (fun c => ?_)
      · replace h := h.2 c
        exact E_Q_statements_40 hS r2 (fun n' hn' => hE n' (by omega)) (fun n' hn' => hBd n' (by omega)) iv4 a4 h
      · replace h := h.1 (Classical.not_not.mp c)
        refine l1 (n := 1) rfl rfl rfl (la_of a0) ?_
        refine l_bi rfl (by decide) ?_
        refine b_iv (c := 169) (as := [zv 125]) (rest := []) rfl (by decide) (ko_2 hS (List.Mem.head _)) rfl rfl (Nat.le_of_ble_eq_true rfl) (fun hq => ?_)
        refine lx_mono (E_Q_isAt_m hS r2 ⟨by decide, by decide⟩ h) ?_
        rintro _ _ ⟨z3, M3, rfl, rfl, r3, iz3, h⟩
        refine l_if rfl iz3 (fun c => ?_) (fun c => ?_)
        · replace h := h.1 c
          refine l1 (n := 1) rfl rfl rfl (la_of a0) ?_
          refine l1 (n := 1) rfl rfl rfl (li_of a1) ?_
          refine l1 (n := 1) rfl rfl rfl (li_of a2) ?_
          refine l1 (n := 1) rfl rfl rfl (li_of a3) ?_
          refine b_iv (c := 169) (as := [zv v1, zv v2, zv v3]) (rest := []) rfl (by decide) (ko_2 hS (List.Mem.head _)) rfl rfl (Nat.le_of_ble_eq_true rfl) (fun hq => ?_)
          refine lx_mono (E_Q_statement_m hS r3 (fun n' hn' => hE n' (by omega)) (fun n' hn' => hBd n' (by omega)) iv1 iv2 iv3 h) ?_
          rintro _ _ ⟨z4, M4, rfl, rfl, r4, iz4, h⟩
          refine l_s1 (n := 2) rfl rfl rfl rfl (fun ls y1 ho => ?_)
          have y2 := ho 0 _ (by decide) (fun q => by cases q.2) a0
          have y3 := ho 1 _ (by decide) (fun q => by cases q.2) a1
          have y4 := ho 2 _ (by decide) (fun q => by cases q.2) a2
          have y5 := ho 3 _ (by decide) (fun q => by cases q.2) a3
          have y6 := ho 4 _ (by decide) (fun q => by cases q.2) a4
          have y7 := ho 5 _ (by decide) (fun q => by cases q.2) a5
          have y8 := ho 6 _ (by decide) (fun q => by cases q.2) a6
          refine l1 (n := 2) rfl rfl rfl (li_of y7) ?_
          refine l1 (n := 1) rfl rfl rfl rfl ?_
          refine l_ic rfl iv5 ⟨by decide, by decide⟩ (fun c => ?_) (fun c => ?_)
          · replace h := h.2 c
            refine l1 (n := 1) rfl rfl rfl (la_of y2) ?_
            obtain ⟨q1, h⟩ := h
            refine l_gr rfl (ko_2 hS (List.Mem.head _)) rfl (fun _ => rfl) q1.1 ?_
            refine l_gr rfl (ko_1 hS q1.2) rfl (fun _ => rfl) (kf_1_11 r4.2 q1.2) ?_
            refine l1 (n := 2) rfl rfl rfl (li_of y7) ?_
            refine l1 (n := 2) rfl rfl rfl (li_of y1) ?_
            refine b_is rfl (kt_1_11 (fz := fz) hS q1.2).1 (Nat.le_of_ble_eq_true rfl) iv5 (fun q M5 e => ?_)
            replace h := h q M5 e
            have r5 := r4.wi (kt_1_11 (fz := fz) hS q1.2).1.1 (kt_1_11 (fz := fz) hS q1.2).2 e
            exact E_Q_statements_77 hS r5 (fun n' hn' => hE n' (by omega)) (fun n' hn' => hBd n' (by omega)) iv1 iv2 iv3 iv4 iv6 iz4 y2 y3 y4 y5 y6 y8 y1 (fun n' hn' => hb9 n' (by omega)) h
          · replace h := h.1 (Classical.not_not.mp c)
            refine l1 (n := 2) rfl rfl rfl (li_of y1) ?_
            refine l_s1 (n := 2) rfl rfl rfl rfl (fun ls y9 ho => ?_)
            have y10 := ho 0 _ (by decide) (fun q => by cases q.2) y2
            have y11 := ho 1 _ (by decide) (fun q => by cases q.2) y3
            have y12 := ho 2 _ (by decide) (fun q => by cases q.2) y4
            have y13 := ho 3 _ (by decide) (fun q => by cases q.2) y5
            have y14 := ho 6 _ (by decide) (fun q => by cases q.2) y8
            have y15 := ho 7 _ (by decide) (fun q => by cases q.2) y1
            refine l3 rfl rfl rfl ?_
            exact E_Q_statements_77 hS r4 (fun n' hn' => hE n' (by omega)) (fun n' hn' => hBd n' (by omega)) iv1 iv2 iv3 iz4 iv6 iz4 y10 y11 y12 y13 y9 y14 y15 (fun n' hn' => hb9 n' (by omega)) h
        · replace h := h.2 c
          exact E_Q_statements_40 hS r3 (fun n' hn' => hE n' (by omega)) (fun n' hn' => hBd n' (by omega)) iv4 a4 h
def e_Q_statements_9 (E : Int → rf_M → (rf_M → Prop) → Prop) (Bd : Int → Int → Int → rf_M → (Int → rf_M → Prop) → Prop) (v1 : Int) (v2 : Int) (v3 : Int) (v4 : Int) (v5 : Int) (v6 : Int) (M : rf_M) (K : Int → rf_M → Prop) : Prop := ∃ Inv : Int → Int → Int → Int → Int → Int → rf_M → Prop, Inv v1 v2 v3 v4 v5 v6 M ∧ ∀ (v1 : Int) (v2 : Int) (v3 : Int) (v4 : Int) (v5 : Int) (v6 : Int) (M : rf_M), inr v1 → inr v2 → inr v3 → inr v4 → inr v5 → inr v6 → Inv v1 v2 v3 v4 v5 v6 M → e_Q_statements_9b E Bd v1 v2 v3 v4 v5 v6 M Inv K
theorem E_Q_statements_9 {fz : Bool} {S : gS} {B : rf_M} {M : rf_M} {ls : rf_L} {n0 : Nat} {E : Int → rf_M → (rf_M → Prop) → Prop} {Bd : Int → Int → Int → rf_M → (Int → rf_M → Prop) → Prop} {v1 : Int} {v2 : Int} {v3 : Int} {v4 : Int} {v5 : Int} {v6 : Int} {K : Int → rf_M → Prop} (hS : rl S) (hR : fl 22 353 B M) (hE : ∀ n', n' < n0 → ∀ (x0 : Int) (M : rf_M) (K : rf_M → Prop), fl 22 353 B M → inr x0 → E x0 M K → lx (cx0 fz) n' 47 0 (lv_args 0 [.ref 169, zv x0]) [] (M, S) (vl_v 22 353 B S K)) (hBd : ∀ n', n' < n0 → ∀ (x0 : Int) (x1 : Int) (x2 : Int) (M : rf_M) (K : Int → rf_M → Prop), fl 22 353 B M → inr x0 → inr x1 → inr x2 → Bd x0 x1 x2 M K → lx (cx0 fz) n' 54 0 (lv_args 0 [.ref 169, zv x0, zv x1, zv x2]) [] (M, S) (vl_i 22 353 B S K)) (iv1 : inr v1) (iv2 : inr v2) (iv3 : inr v3) (iv4 : inr v4) (iv5 : inr v5) (iv6 : inr v6) (a0 : rf_ld ls 0 = some (.ref 169)) (a1 : rf_ld ls 1 = some (zv v1)) (a2 : rf_ld ls 2 = some (zv v2)) (a3 : rf_ld ls 3 = some (zv v3)) (a4 : rf_ld ls 4 = some (zv v4)) (a5 : rf_ld ls 5 = some (zv v5)) (a6 : rf_ld ls 6 = some (zv v6)) (h : e_Q_statements_9 E Bd v1 v2 v3 v4 v5 v6 M K) : lx (cx0 fz) n0 35 9 ls [] (M, S) (vl_i 22 353 B S K) := by
  obtain ⟨Inv, hm, hb⟩ := h
  induction n0 using Nat.strongRecOn generalizing ls M v1 v2 v3 v4 v5 v6 with
  | _ n0 ih =>
    refine E_Q_statements_9b hS hR hE hBd iv1 iv2 iv3 iv4 iv5 iv6 a0 a1 a2 a3 a4 a5 a6 (fun n' hn' v1' v2' v3' v4' v5' v6' M' ls' hR' f0 f1 f2 f3 f4 f5 f6 f7 f8 f9 f10 f11 f12 q2 => ih n' hn' hR' (fun n'' hn'' => hE n'' (by omega)) (fun n'' hn'' => hBd n'' (by omega)) f0 f1 f2 f3 f4 f5 f6 f7 f8 f9 f10 f11 f12 q2) (hb v1 v2 v3 v4 v5 v6 M iv1 iv2 iv3 iv4 iv5 iv6 hm)
def e_Q_statements (E : Int → rf_M → (rf_M → Prop) → Prop) (Bd : Int → Int → Int → rf_M → (Int → rf_M → Prop) → Prop) (v1 : Int) (v2 : Int) (v3 : Int) (M : rf_M) (K : Int → rf_M → Prop) : Prop := e_Q_statements_9 E Bd v1 v2 v3 (-1) (-1) 0 M K
theorem E_Q_statements {fz : Bool} {S : gS} {B : rf_M} {M : rf_M} {ls : rf_L} {n0 : Nat} {E : Int → rf_M → (rf_M → Prop) → Prop} {Bd : Int → Int → Int → rf_M → (Int → rf_M → Prop) → Prop} {v1 : Int} {v2 : Int} {v3 : Int} {K : Int → rf_M → Prop} (hS : rl S) (hR : fl 22 353 B M) (hE : ∀ n', n' < n0 → ∀ (x0 : Int) (M : rf_M) (K : rf_M → Prop), fl 22 353 B M → inr x0 → E x0 M K → lx (cx0 fz) n' 47 0 (lv_args 0 [.ref 169, zv x0]) [] (M, S) (vl_v 22 353 B S K)) (hBd : ∀ n', n' < n0 → ∀ (x0 : Int) (x1 : Int) (x2 : Int) (M : rf_M) (K : Int → rf_M → Prop), fl 22 353 B M → inr x0 → inr x1 → inr x2 → Bd x0 x1 x2 M K → lx (cx0 fz) n' 54 0 (lv_args 0 [.ref 169, zv x0, zv x1, zv x2]) [] (M, S) (vl_i 22 353 B S K)) (iv1 : inr v1) (iv2 : inr v2) (iv3 : inr v3) (a0 : rf_ld ls 0 = some (.ref 169)) (a1 : rf_ld ls 1 = some (zv v1)) (a2 : rf_ld ls 2 = some (zv v2)) (a3 : rf_ld ls 3 = some (zv v3)) (h : e_Q_statements E Bd v1 v2 v3 M K) : lx (cx0 fz) n0 35 0 ls [] (M, S) (vl_i 22 353 B S K) := by
  unfold e_Q_statements at h
  rcases Nat.eq_zero_or_pos n0 with e0 | hp
  · rw [e0]; exact lx_zero
  refine l1 (n := 1) rfl rfl rfl rfl ?_
  refine l_s1 (n := 2) rfl rfl rfl rfl (fun ls y1 ho => ?_)
  have y2 := ho 0 _ (by decide) (fun q => by cases q.2) a0
  have y3 := ho 1 _ (by decide) (fun q => by cases q.2) a1
  have y4 := ho 2 _ (by decide) (fun q => by cases q.2) a2
  have y5 := ho 3 _ (by decide) (fun q => by cases q.2) a3
  refine l1 (n := 1) rfl rfl rfl rfl ?_
  refine l_s1 (n := 2) rfl rfl rfl rfl (fun ls y6 ho => ?_)
  have y7 := ho 0 _ (by decide) (fun q => by cases q.2) y2
  have y8 := ho 1 _ (by decide) (fun q => by cases q.2) y3
  have y9 := ho 2 _ (by decide) (fun q => by cases q.2) y4
  have y10 := ho 3 _ (by decide) (fun q => by cases q.2) y5
  have y11 := ho 4 _ (by decide) (fun q => by cases q.2) y1
  refine l1 (n := 1) rfl rfl rfl rfl ?_
  refine l_s1 (n := 2) rfl rfl rfl rfl (fun ls y12 ho => ?_)
  have y13 := ho 0 _ (by decide) (fun q => by cases q.2) y7
  have y14 := ho 1 _ (by decide) (fun q => by cases q.2) y8
  have y15 := ho 2 _ (by decide) (fun q => by cases q.2) y9
  have y16 := ho 3 _ (by decide) (fun q => by cases q.2) y10
  have y17 := ho 4 _ (by decide) (fun q => by cases q.2) y11
  have y18 := ho 5 _ (by decide) (fun q => by cases q.2) y6
  exact E_Q_statements_9 hS hR (fun n' hn' => hE n' (by omega)) (fun n' hn' => hBd n' (by omega)) iv1 iv2 iv3 ⟨by decide, by decide⟩ ⟨by decide, by decide⟩ ⟨by decide, by decide⟩ y13 y14 y15 y16 y17 y18 y12 h
def em_Q_statements (E : Int → rf_M → (rf_M → Prop) → Prop) (Bd : Int → Int → Int → rf_M → (Int → rf_M → Prop) → Prop) (x1 : Int) (x2 : Int) (x3 : Int) (M : rf_M) (K : Int → rf_M → Prop) : Prop := e_Q_statements E Bd x1 x2 x3 M K
theorem E_Q_statements_m {fz : Bool} {S : gS} {B : rf_M} {M : rf_M} {n0 : Nat} {E : Int → rf_M → (rf_M → Prop) → Prop} {Bd : Int → Int → Int → rf_M → (Int → rf_M → Prop) → Prop} {x1 : Int} {x2 : Int} {x3 : Int} {K : Int → rf_M → Prop} (hS : rl S) (hR : fl 22 353 B M) (hE : ∀ n', n' < n0 → ∀ (x0 : Int) (M : rf_M) (K : rf_M → Prop), fl 22 353 B M → inr x0 → E x0 M K → lx (cx0 fz) n' 47 0 (lv_args 0 [.ref 169, zv x0]) [] (M, S) (vl_v 22 353 B S K)) (hBd : ∀ n', n' < n0 → ∀ (x0 : Int) (x1 : Int) (x2 : Int) (M : rf_M) (K : Int → rf_M → Prop), fl 22 353 B M → inr x0 → inr x1 → inr x2 → Bd x0 x1 x2 M K → lx (cx0 fz) n' 54 0 (lv_args 0 [.ref 169, zv x0, zv x1, zv x2]) [] (M, S) (vl_i 22 353 B S K)) (ix1 : inr x1) (ix2 : inr x2) (ix3 : inr x3) (h : em_Q_statements E Bd x1 x2 x3 M K) : lx (cx0 fz) n0 35 0 (lv_args 0 [.ref 169, zv x1, zv x2, zv x3]) [] (M, S) (vl_i 22 353 B S K) :=
  E_Q_statements hS hR hE hBd ix1 ix2 ix3 rfl rfl rfl rfl h
def e_Q_body_15 (E : Int → rf_M → (rf_M → Prop) → Prop) (Bd : Int → Int → Int → rf_M → (Int → rf_M → Prop) → Prop) (M : rf_M) (K : Int → rf_M → Prop) : Prop := em_Q_refuse  M (fun (M1 : rf_M) => K (-1) M1)
theorem E_Q_body_15 {fz : Bool} {S : gS} {B : rf_M} {M : rf_M} {ls : rf_L} {n0 : Nat} {E : Int → rf_M → (rf_M → Prop) → Prop} {Bd : Int → Int → Int → rf_M → (Int → rf_M → Prop) → Prop} {K : Int → rf_M → Prop} (hS : rl S) (hR : fl 22 353 B M) (hE : ∀ n', n' < n0 → ∀ (x0 : Int) (M : rf_M) (K : rf_M → Prop), fl 22 353 B M → inr x0 → E x0 M K → lx (cx0 fz) n' 47 0 (lv_args 0 [.ref 169, zv x0]) [] (M, S) (vl_v 22 353 B S K)) (hBd : ∀ n', n' < n0 → ∀ (x0 : Int) (x1 : Int) (x2 : Int) (M : rf_M) (K : Int → rf_M → Prop), fl 22 353 B M → inr x0 → inr x1 → inr x2 → Bd x0 x1 x2 M K → lx (cx0 fz) n' 54 0 (lv_args 0 [.ref 169, zv x0, zv x1, zv x2]) [] (M, S) (vl_i 22 353 B S K)) (a0 : rf_ld ls 0 = some (.ref 169)) (h : e_Q_body_15 E Bd M K) : lx (cx0 fz) n0 54 15 ls [] (M, S) (vl_i 22 353 B S K) := by
  unfold e_Q_body_15 at h
  rcases Nat.eq_zero_or_pos n0 with e0 | hp
  · rw [e0]; exact lx_zero
  refine l1 (n := 1) rfl rfl rfl (la_of a0) ?_
  refine b_iv (c := 169) (as := []) (rest := []) rfl (by decide) (ko_2 hS (List.Mem.head _)) rfl rfl (Nat.le_of_ble_eq_true rfl) (fun hq => ?_)
  refine lx_mono (E_Q_refuse_m hS hR h) ?_
  rintro _ _ ⟨M1, rfl, rfl, r1, h⟩
  refine l1 (n := 1) rfl rfl rfl rfl ?_
  exact l_ri rfl rfl ⟨by decide, by decide⟩ r1 h
def e_Q_body (E : Int → rf_M → (rf_M → Prop) → Prop) (Bd : Int → Int → Int → rf_M → (Int → rf_M → Prop) → Prop) (v1 : Int) (v2 : Int) (v3 : Int) (M : rf_M) (K : Int → rf_M → Prop) : Prop := em_Q_isAt 123 M (fun (z1 : Int) (M1 : rf_M) => (z1 = 0 → (e_Q_body_15 E Bd M1 K)) ∧ (¬ (z1 = 0) → ((v3 < 8 → (em_Q_advance  M1 (fun (M2 : rf_M) => isP M2 169 1 ∧ (isP M2 169 1 ∧ (inr (v3 + 1) ∧ (∀ M3 : rf_M, M3 = wi M2 (gr M2 169 1) 2 (if (gi M2 (gr M2 169 1) 2) < (v3 + 1) then (v3 + 1) else (gi M2 (gr M2 169 1) 2)) → (inr (v3 + 1) ∧ (em_Q_statements E Bd v1 v2 (v3 + 1) M3 (fun (z4 : Int) (M4 : rf_M) => em_Q_expect 125 M4 (fun (M5 : rf_M) => K z4 M5)))))))))) ∧ (¬ (v3 < 8) → (e_Q_body_15 E Bd M1 K)))))
theorem E_Q_body {fz : Bool} {S : gS} {B : rf_M} {M : rf_M} {ls : rf_L} {n0 : Nat} {E : Int → rf_M → (rf_M → Prop) → Prop} {Bd : Int → Int → Int → rf_M → (Int → rf_M → Prop) → Prop} {v1 : Int} {v2 : Int} {v3 : Int} {K : Int → rf_M → Prop} (hS : rl S) (hR : fl 22 353 B M) (hE : ∀ n', n' < n0 → ∀ (x0 : Int) (M : rf_M) (K : rf_M → Prop), fl 22 353 B M → inr x0 → E x0 M K → lx (cx0 fz) n' 47 0 (lv_args 0 [.ref 169, zv x0]) [] (M, S) (vl_v 22 353 B S K)) (hBd : ∀ n', n' < n0 → ∀ (x0 : Int) (x1 : Int) (x2 : Int) (M : rf_M) (K : Int → rf_M → Prop), fl 22 353 B M → inr x0 → inr x1 → inr x2 → Bd x0 x1 x2 M K → lx (cx0 fz) n' 54 0 (lv_args 0 [.ref 169, zv x0, zv x1, zv x2]) [] (M, S) (vl_i 22 353 B S K)) (iv1 : inr v1) (iv2 : inr v2) (iv3 : inr v3) (a0 : rf_ld ls 0 = some (.ref 169)) (a1 : rf_ld ls 1 = some (zv v1)) (a2 : rf_ld ls 2 = some (zv v2)) (a3 : rf_ld ls 3 = some (zv v3)) (h : e_Q_body E Bd v1 v2 v3 M K) : lx (cx0 fz) n0 54 0 ls [] (M, S) (vl_i 22 353 B S K) := by
  unfold e_Q_body at h
  rcases Nat.eq_zero_or_pos n0 with e0 | hp
  · rw [e0]; exact lx_zero
  refine l1 (n := 1) rfl rfl rfl (la_of a0) ?_
  refine l_bi rfl (by decide) ?_
  refine b_iv (c := 169) (as := [zv 123]) (rest := []) rfl (by decide) (ko_2 hS (List.Mem.head _)) rfl rfl (Nat.le_of_ble_eq_true rfl) (fun hq => ?_)
  refine lx_mono (E_Q_isAt_m hS hR ⟨by decide, by decide⟩ h) ?_
  rintro _ _ ⟨z1, M1, rfl, rfl, r1, iz1, h⟩
  refine l_if rfl iz1 (fun c => ?_) (fun c => ?_)
  · replace h := h.1 c
    exact E_Q_body_15 hS r1 (fun n' hn' => hE n' (by omega)) (fun n' hn' => hBd n' (by omega)) a0 h
  · replace h := h.2 c
    refine l1 (n := 1) rfl rfl rfl (li_of a3) ?_
    refine l_bi rfl (by decide) ?_
    refine l_ic rfl iv3 ⟨by decide, by decide⟩ (fun c => ?_) (fun c => ?_)
    · replace h := h.1 c
      refine l1 (n := 1) rfl rfl rfl (la_of a0) ?_
      refine b_iv (c := 169) (as := []) (rest := []) rfl (by decide) (ko_2 hS (List.Mem.head _)) rfl rfl (Nat.le_of_ble_eq_true rfl) (fun hq => ?_)
      refine lx_mono (E_Q_advance_m hS r1 h) ?_
      rintro _ _ ⟨M2, rfl, rfl, r2, h⟩
      refine l1 (n := 1) rfl rfl rfl (la_of a0) ?_
      obtain ⟨q1, h⟩ := h
      refine l_gr rfl (ko_2 hS (List.Mem.head _)) rfl (fun _ => rfl) q1.1 ?_
      refine l1 (n := 1) rfl rfl rfl (la_of a0) ?_
      obtain ⟨q2, h⟩ := h
      refine l_gr rfl (ko_2 hS (List.Mem.head _)) rfl (fun _ => rfl) q2.1 ?_
      refine l_gi rfl (ko_1 hS q2.2) rfl (fun _ => rfl) ?_
      refine l1 (n := 1) rfl rfl rfl (li_of a3) ?_
      refine l1 (n := 1) rfl rfl rfl rfl ?_
      refine l_add rfl ?_
      obtain ⟨i1, h⟩ := h
      refine b_mx rfl rfl (inr_gi _ _ _) i1 ?_
      refine l_pi rfl (ko_1 (fz := fz) hS q1.2) rfl (fun _ _ => rfl) (fun M3 e => ?_)
      replace h := h M3 e
      have r3 := r2.wi (ko_1 (fz := fz) hS q1.2).1 (kl_1 q1.2) e
      refine l1 (n := 1) rfl rfl rfl (la_of a0) ?_
      refine l1 (n := 1) rfl rfl rfl (li_of a1) ?_
      refine l1 (n := 1) rfl rfl rfl (li_of a2) ?_
      refine l1 (n := 1) rfl rfl rfl (li_of a3) ?_
      refine l1 (n := 1) rfl rfl rfl rfl ?_
      refine l_add rfl ?_
      obtain ⟨i2, h⟩ := h
      refine b_iv (c := 169) (as := [zv v1, zv v2, zv (v3 + 1)]) (rest := []) rfl (by decide) (ko_2 hS (List.Mem.head _)) rfl rfl (Nat.le_of_ble_eq_true rfl) (fun hq => ?_)
      refine lx_mono (E_Q_statements_m hS r3 (fun n' hn' => hE n' (by omega)) (fun n' hn' => hBd n' (by omega)) iv1 iv2 i2 h) ?_
      rintro _ _ ⟨z4, M4, rfl, rfl, r4, iz4, h⟩
      refine l_s1 (n := 2) rfl rfl rfl rfl (fun ls y1 ho => ?_)
      have y2 := ho 0 _ (by decide) (fun q => by cases q.2) a0
      refine l1 (n := 1) rfl rfl rfl (la_of y2) ?_
      refine l_bi rfl (by decide) ?_
      refine b_iv (c := 169) (as := [zv 125]) (rest := []) rfl (by decide) (ko_2 hS (List.Mem.head _)) rfl rfl (Nat.le_of_ble_eq_true rfl) (fun hq => ?_)
      refine lx_mono (E_Q_expect_m hS r4 ⟨by decide, by decide⟩ h) ?_
      rintro _ _ ⟨M5, rfl, rfl, r5, h⟩
      refine l1 (n := 2) rfl rfl rfl (li_of y1) ?_
      exact l_ri rfl rfl iz4 r5 h
    · replace h := h.2 c
      exact E_Q_body_15 hS r1 (fun n' hn' => hE n' (by omega)) (fun n' hn' => hBd n' (by omega)) a0 h
def em_Q_body (E : Int → rf_M → (rf_M → Prop) → Prop) (Bd : Int → Int → Int → rf_M → (Int → rf_M → Prop) → Prop) (x1 : Int) (x2 : Int) (x3 : Int) (M : rf_M) (K : Int → rf_M → Prop) : Prop := e_Q_body E Bd x1 x2 x3 M K
theorem E_Q_body_m {fz : Bool} {S : gS} {B : rf_M} {M : rf_M} {n0 : Nat} {E : Int → rf_M → (rf_M → Prop) → Prop} {Bd : Int → Int → Int → rf_M → (Int → rf_M → Prop) → Prop} {x1 : Int} {x2 : Int} {x3 : Int} {K : Int → rf_M → Prop} (hS : rl S) (hR : fl 22 353 B M) (hE : ∀ n', n' < n0 → ∀ (x0 : Int) (M : rf_M) (K : rf_M → Prop), fl 22 353 B M → inr x0 → E x0 M K → lx (cx0 fz) n' 47 0 (lv_args 0 [.ref 169, zv x0]) [] (M, S) (vl_v 22 353 B S K)) (hBd : ∀ n', n' < n0 → ∀ (x0 : Int) (x1 : Int) (x2 : Int) (M : rf_M) (K : Int → rf_M → Prop), fl 22 353 B M → inr x0 → inr x1 → inr x2 → Bd x0 x1 x2 M K → lx (cx0 fz) n' 54 0 (lv_args 0 [.ref 169, zv x0, zv x1, zv x2]) [] (M, S) (vl_i 22 353 B S K)) (ix1 : inr x1) (ix2 : inr x2) (ix3 : inr x3) (h : em_Q_body E Bd x1 x2 x3 M K) : lx (cx0 fz) n0 54 0 (lv_args 0 [.ref 169, zv x1, zv x2, zv x3]) [] (M, S) (vl_i 22 353 B S K) :=
  E_Q_body hS hR hE hBd ix1 ix2 ix3 rfl rfl rfl rfl h
def e_P_reset (v0 : Nat) (M : rf_M) (K : rf_M → Prop) : Prop := ∀ M1 : rf_M, M1 = wi M v0 0 0 → (∀ M2 : rf_M, M2 = wi M1 v0 1 0 → (∀ M3 : rf_M, M3 = wi M2 v0 2 0 → (∀ M4 : rf_M, M4 = wi M3 v0 3 0 → (∀ M5 : rf_M, M5 = wi M4 v0 4 (-1) → (K M5)))))
theorem E_P_reset {fz : Bool} {S : gS} {B : rf_M} {M : rf_M} {ls : rf_L} {n0 : Nat} {v0 : Nat} {K : rf_M → Prop} (hS : rl S) (hR : fl 22 353 B M) (mv0 : v0 ∈ k1) (a0 : rf_ld ls 0 = some (.ref v0)) (h : e_P_reset v0 M K) : lx (cx0 fz) n0 18 0 ls [] (M, S) (vl_v 22 353 B S K) := by
  unfold e_P_reset at h
  refine l1 (n := 1) rfl rfl rfl (la_of a0) ?_
  refine l1 (n := 1) rfl rfl rfl rfl ?_
  refine l_pi rfl (ko_1 (fz := fz) hS mv0) rfl (fun _ _ => rfl) (fun M1 e => ?_)
  replace h := h M1 e
  have r1 := hR.wi (ko_1 (fz := fz) hS mv0).1 (kl_1 mv0) e
  refine l1 (n := 1) rfl rfl rfl (la_of a0) ?_
  refine l1 (n := 1) rfl rfl rfl rfl ?_
  refine l_pi rfl (ko_1 (fz := fz) hS mv0) rfl (fun _ _ => rfl) (fun M2 e => ?_)
  replace h := h M2 e
  have r2 := r1.wi (ko_1 (fz := fz) hS mv0).1 (kl_1 mv0) e
  refine l1 (n := 1) rfl rfl rfl (la_of a0) ?_
  refine l1 (n := 1) rfl rfl rfl rfl ?_
  refine l_pi rfl (ko_1 (fz := fz) hS mv0) rfl (fun _ _ => rfl) (fun M3 e => ?_)
  replace h := h M3 e
  have r3 := r2.wi (ko_1 (fz := fz) hS mv0).1 (kl_1 mv0) e
  refine l1 (n := 1) rfl rfl rfl (la_of a0) ?_
  refine l1 (n := 1) rfl rfl rfl rfl ?_
  refine l_pi rfl (ko_1 (fz := fz) hS mv0) rfl (fun _ _ => rfl) (fun M4 e => ?_)
  replace h := h M4 e
  have r4 := r3.wi (ko_1 (fz := fz) hS mv0).1 (kl_1 mv0) e
  refine l1 (n := 1) rfl rfl rfl (la_of a0) ?_
  refine l1 (n := 1) rfl rfl rfl rfl ?_
  refine l_pi rfl (ko_1 (fz := fz) hS mv0) rfl (fun _ _ => rfl) (fun M5 e => ?_)
  replace h := h M5 e
  have r5 := r4.wi (ko_1 (fz := fz) hS mv0).1 (kl_1 mv0) e
  exact l_rv rfl rfl r5 h
def em_P_reset (x0 : Nat) (M : rf_M) (K : rf_M → Prop) : Prop := e_P_reset x0 M K
theorem E_P_reset_m {fz : Bool} {S : gS} {B : rf_M} {M : rf_M} {n0 : Nat} {x0 : Nat} {K : rf_M → Prop} (hS : rl S) (hR : fl 22 353 B M) (mx0 : x0 ∈ k1) (h : em_P_reset x0 M K) : lx (cx0 fz) n0 18 0 (lv_args 0 [.ref x0]) [] (M, S) (vl_v 22 353 B S K) :=
  E_P_reset hS hR mx0 rfl h
def e_Q_parse (Sc : Nat → Int → rf_M → (rf_M → Prop) → Prop) (Ss : Int → Int → Int → rf_M → (Int → rf_M → Prop) → Prop) (v1 : Nat) (v2 : Int) (v3 : Nat) (M : rf_M) (K : Int → rf_M → Prop) : Prop := ∀ M1 : rf_M, M1 = wq M 169 1 v3 → (isP M1 169 1 ∧ (em_P_reset (gr M1 169 1) M1 (fun (M2 : rf_M) => ∀ M3 : rf_M, M3 = wi M2 169 2 0 → (∀ M4 : rf_M, M4 = wi M3 169 3 (-1) → (∀ M5 : rf_M, M5 = wi M4 169 4 0 → (Sc v1 v2 M5 (fun (M6 : rf_M) => isP M6 169 1 ∧ (Ss (-1) 0 0 M6 (fun (z7 : Int) (M7 : rf_M) => ∀ M8 : rf_M, M8 = wi M7 (gr M6 169 1) 4 z7 → (em_Q_expect 0 M8 (fun (M9 : rf_M) => K (gi M9 169 3) M9)))))))))))
theorem E_Q_parse {fz : Bool} {S : gS} {B : rf_M} {M : rf_M} {ls : rf_L} {n0 : Nat} {Sc : Nat → Int → rf_M → (rf_M → Prop) → Prop} {Ss : Int → Int → Int → rf_M → (Int → rf_M → Prop) → Prop} {v1 : Nat} {v2 : Int} {v3 : Nat} {K : Int → rf_M → Prop} (hS : rl S) (hR : fl 22 353 B M) (hSc : ∀ n', n' < n0 → ∀ (x0 : Nat) (x1 : Int) (M : rf_M) (K : rf_M → Prop), fl 22 353 B M → pa fz S x0 .int 800 → inr x1 → Sc x0 x1 M K → lx (cx0 fz) n' 19 0 (lv_args 0 [.ref 170, .ref x0, zv x1]) [] (M, S) (vl_v 22 353 B S K)) (hSs : ∀ n', n' < n0 → ∀ (x0 : Int) (x1 : Int) (x2 : Int) (M : rf_M) (K : Int → rf_M → Prop), fl 22 353 B M → inr x0 → inr x1 → inr x2 → Ss x0 x1 x2 M K → lx (cx0 fz) n' 35 0 (lv_args 0 [.ref 169, zv x0, zv x1, zv x2]) [] (M, S) (vl_i 22 353 B S K)) (mv1 : pa fz S v1 .int 800) (iv2 : inr v2) (mv3 : v3 ∈ k1) (a0 : rf_ld ls 0 = some (.ref 169)) (a1 : rf_ld ls 1 = some (.ref v1)) (a2 : rf_ld ls 2 = some (zv v2)) (a3 : rf_ld ls 3 = some (.ref v3)) (h : e_Q_parse Sc Ss v1 v2 v3 M K) : lx (cx0 fz) n0 17 0 ls [] (M, S) (vl_i 22 353 B S K) := by
  unfold e_Q_parse at h
  rcases Nat.eq_zero_or_pos n0 with e0 | hp
  · rw [e0]; exact lx_zero
  refine l1 (n := 1) rfl rfl rfl (la_of a0) ?_
  refine l1 (n := 1) rfl rfl rfl (la_of a3) ?_
  refine l_pq rfl (ko_2 (fz := fz) hS (List.Mem.head _)) rfl (fun _ _ => rfl) (fun M1 e => ?_)
  replace h := h M1 e
  have r1 := hR.wqQ e
  refine l1 (n := 1) rfl rfl rfl (la_of a0) ?_
  obtain ⟨q1, h⟩ := h
  refine l_gr rfl (ko_2 hS (List.Mem.head _)) rfl (fun _ => rfl) q1.1 ?_
  refine b_iv (c := (gr M1 169 1)) (as := []) (rest := []) rfl (by decide) (ko_1 hS q1.2) rfl rfl (Nat.le_of_ble_eq_true rfl) (fun hq => ?_)
  refine lx_mono (E_P_reset_m hS r1 q1.2 h) ?_
  rintro _ _ ⟨M2, rfl, rfl, r2, h⟩
  refine l1 (n := 1) rfl rfl rfl (la_of a0) ?_
  refine l1 (n := 1) rfl rfl rfl rfl ?_
  refine l_pi rfl (ko_2 (fz := fz) hS (List.Mem.head _)) rfl (fun _ _ => rfl) (fun M3 e => ?_)
  replace h := h M3 e
  have r3 := r2.wi (ko_2 (fz := fz) hS (List.Mem.head _)).1 (kl_2 (List.Mem.head _)) e
  refine l1 (n := 1) rfl rfl rfl (la_of a0) ?_
  refine l1 (n := 1) rfl rfl rfl rfl ?_
  refine l_pi rfl (ko_2 (fz := fz) hS (List.Mem.head _)) rfl (fun _ _ => rfl) (fun M4 e => ?_)
  replace h := h M4 e
  have r4 := r3.wi (ko_2 (fz := fz) hS (List.Mem.head _)).1 (kl_2 (List.Mem.head _)) e
  refine l1 (n := 1) rfl rfl rfl (la_of a0) ?_
  refine l1 (n := 1) rfl rfl rfl rfl ?_
  refine l_pb rfl (ko_2 (fz := fz) hS (List.Mem.head _)) rfl rfl (Or.inl rfl) (fun M5 e => ?_)
  replace h := h M5 e
  have r5 := r4.wi (ko_2 (fz := fz) hS (List.Mem.head _)).1 (kl_2 (List.Mem.head _)) e
  refine l1 (n := 1) rfl rfl rfl (la_of a0) ?_
  refine l_gr rfl (ko_2 hS (List.Mem.head _)) rfl (fun _ => rfl) (kf_2_0 r5.2 (List.Mem.head _)) ?_
  refine l1 (n := 1) rfl rfl rfl (la_of a1) ?_
  refine l1 (n := 1) rfl rfl rfl (li_of a2) ?_
  refine b_iv (c := 170) (as := [.ref v1, zv v2]) (rest := []) rfl (by decide) (ko_3 hS (List.Mem.head _)) rfl rfl (Nat.le_of_ble_eq_true rfl) (fun hq => ?_)
  refine lx_mono (hSc _ (by omega) _ _ _ _ r5 mv1 iv2 h) ?_
  rintro _ _ ⟨M6, rfl, rfl, r6, h⟩
  refine l1 (n := 1) rfl rfl rfl (la_of a0) ?_
  obtain ⟨q2, h⟩ := h
  refine l_gr rfl (ko_2 hS (List.Mem.head _)) rfl (fun _ => rfl) q2.1 ?_
  refine l1 (n := 1) rfl rfl rfl (la_of a0) ?_
  refine l1 (n := 1) rfl rfl rfl rfl ?_
  refine l1 (n := 1) rfl rfl rfl rfl ?_
  refine l1 (n := 1) rfl rfl rfl rfl ?_
  refine b_iv (c := 169) (as := [zv (-1), zv 0, zv 0]) (rest := [.ref (gr M6 169 1)]) rfl (by decide) (ko_2 hS (List.Mem.head _)) rfl rfl (Nat.le_of_ble_eq_true rfl) (fun hq => ?_)
  refine lx_mono (hSs _ (by omega) _ _ _ _ _ r6 ⟨by decide, by decide⟩ ⟨by decide, by decide⟩ ⟨by decide, by decide⟩ h) ?_
  rintro _ _ ⟨z7, M7, rfl, rfl, r7, iz7, h⟩
  refine l_pi rfl (ko_1 (fz := fz) hS q2.2) rfl (fun _ _ => rfl) (fun M8 e => ?_)
  replace h := h M8 e
  have r8 := r7.wi (ko_1 (fz := fz) hS q2.2).1 (kl_1 q2.2) e
  refine l1 (n := 1) rfl rfl rfl (la_of a0) ?_
  refine l1 (n := 1) rfl rfl rfl rfl ?_
  refine b_iv (c := 169) (as := [zv 0]) (rest := []) rfl (by decide) (ko_2 hS (List.Mem.head _)) rfl rfl (Nat.le_of_ble_eq_true rfl) (fun hq => ?_)
  refine lx_mono (E_Q_expect_m hS r8 ⟨by decide, by decide⟩ h) ?_
  rintro _ _ ⟨M9, rfl, rfl, r9, h⟩
  refine l1 (n := 1) rfl rfl rfl (la_of a0) ?_
  refine l_gi rfl (ko_2 hS (List.Mem.head _)) rfl (fun _ => rfl) ?_
  exact l_ri rfl rfl (inr_gi _ _ _) r9 h
def em_Q_parse (Sc : Nat → Int → rf_M → (rf_M → Prop) → Prop) (Ss : Int → Int → Int → rf_M → (Int → rf_M → Prop) → Prop) (x1 : Nat) (x2 : Int) (x3 : Nat) (M : rf_M) (K : Int → rf_M → Prop) : Prop := e_Q_parse Sc Ss x1 x2 x3 M K
theorem E_Q_parse_m {fz : Bool} {S : gS} {B : rf_M} {M : rf_M} {n0 : Nat} {Sc : Nat → Int → rf_M → (rf_M → Prop) → Prop} {Ss : Int → Int → Int → rf_M → (Int → rf_M → Prop) → Prop} {x1 : Nat} {x2 : Int} {x3 : Nat} {K : Int → rf_M → Prop} (hS : rl S) (hR : fl 22 353 B M) (hSc : ∀ n', n' < n0 → ∀ (x0 : Nat) (x1 : Int) (M : rf_M) (K : rf_M → Prop), fl 22 353 B M → pa fz S x0 .int 800 → inr x1 → Sc x0 x1 M K → lx (cx0 fz) n' 19 0 (lv_args 0 [.ref 170, .ref x0, zv x1]) [] (M, S) (vl_v 22 353 B S K)) (hSs : ∀ n', n' < n0 → ∀ (x0 : Int) (x1 : Int) (x2 : Int) (M : rf_M) (K : Int → rf_M → Prop), fl 22 353 B M → inr x0 → inr x1 → inr x2 → Ss x0 x1 x2 M K → lx (cx0 fz) n' 35 0 (lv_args 0 [.ref 169, zv x0, zv x1, zv x2]) [] (M, S) (vl_i 22 353 B S K)) (mx1 : pa fz S x1 .int 800) (ix2 : inr x2) (mx3 : x3 ∈ k1) (h : em_Q_parse Sc Ss x1 x2 x3 M K) : lx (cx0 fz) n0 17 0 (lv_args 0 [.ref 169, .ref x1, zv x2, .ref x3]) [] (M, S) (vl_i 22 353 B S K) :=
  E_Q_parse hS hR hSc hSs mx1 ix2 mx3 rfl rfl rfl rfl h
