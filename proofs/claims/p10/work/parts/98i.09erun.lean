def e_M_play_22 (v3 : Int) (v4 : Int64) (v6 : Int) (v7 : Int) (M : rf_M) (K : Int → rf_M → Prop) : Prop := ∃ Inv : Int → Int64 → Int → Int → rf_M → Prop, Inv v3 v4 v6 v7 M ∧ ∀ (v3 : Int) (v4 : Int64) (v6 : Int) (v7 : Int) (M : rf_M), inr v3 → inr v6 → inr v7 → Inv v3 v4 v6 v7 M → e_M_play_22b v3 v4 v6 v7 M Inv K
def e_M_play (v1 : Int64) (v3 : Int) (M : rf_M) (K : Int → rf_M → Prop) : Prop := (v3 < 0 → (e_M_play_11 M K)) ∧ (¬ (v3 < 0) → ((v3 ≤ 2000 → (e_M_play_22 v3 v1 0 0 M K)) ∧ (¬ (v3 ≤ 2000) → (e_M_play_11 M K))))
def em_M_play (x1 : Int64) (x2 : Int) (M : rf_M) (K : Int → rf_M → Prop) : Prop := e_M_play x1 x2 M K
def e_M_sees_18 (M : rf_M) (K : Int64 → rf_M → Prop) : Prop := K (Int64.ofNat 0) M
def e_M_sees_67 (s0 : Int64) (M : rf_M) (K : Int64 → rf_M → Prop) : Prop := K s0 M
def e_M_sees (v1 : Int) (v2 : Int) (M : rf_M) (K : Int64 → rf_M → Prop) : Prop := em_M_isClient v1 M (fun (z1 : Int) (M1 : rf_M) => (z1 = 0 → (e_M_sees_18 M1 K)) ∧ (¬ (z1 = 0) → ((v2 < 0 → (e_M_sees_18 M1 K)) ∧ (¬ (v2 < 0) → ((v2 < 26 → ((0 ≤ v1 ∧ v1 < 8 → (((gi M1 (clA v1) 0) = 2 → ((0 ≤ v1 ∧ v1 < 8 → (em_R_shows ((clA v1) + 3) v2 M1 (fun (z3 : Int64) (M3 : rf_M) => K z3 M3))))) ∧ (¬ (gi M1 (clA v1) 0) = 2 → (em_M_isCell v2 M1 (fun (z2 : Int) (M2 : rf_M) => (z2 = 0 → (e_M_sees_67 (Int64.ofNat 0) M2 K)) ∧ (¬ (z2 = 0) → ((0 ≤ v2 ∧ v2 < 16 → (e_M_sees_67 (gl M2 188 (v2).toNat) M2 K))))))))))) ∧ (¬ (v2 < 26) → (e_M_sees_18 M1 K)))))))
def em_M_sees (x1 : Int) (x2 : Int) (M : rf_M) (K : Int64 → rf_M → Prop) : Prop := e_M_sees x1 x2 M K
def e_M_rules (M : rf_M) (K : Int → rf_M → Prop) : Prop := K (gi M 187 2) M
def em_M_rules (M : rf_M) (K : Int → rf_M → Prop) : Prop := e_M_rules  M K
def e_M_rows (M : rf_M) (K : Int → rf_M → Prop) : Prop := K (gi M 324 0) M
def em_M_rows (M : rf_M) (K : Int → rf_M → Prop) : Prop := e_M_rows  M K
def e_J_has_24 (s0 : Int) (M : rf_M) (K : Int → rf_M → Prop) : Prop := (s0 = 0 ∨ s0 = 1) ∧ K s0 M
theorem E_J_has_24 {fz : Bool} {S : gS} {B : rf_M} {M : rf_M} {ls : rf_L} {n0 : Nat} {s0 : Int} {K : Int → rf_M → Prop} (hS : rl S) (hR : fl 22 353 B M) (is0 : inr s0) (h : e_J_has_24 s0 M K) : lx (cx0 fz) n0 116 24 ls [zv s0] (M, S) (vl_i 22 353 B S K) := by
  unfold e_J_has_24 at h
  exact l_rb rfl rfl h.1 hR h.2
def e_J_has_23 (M : rf_M) (K : Int → rf_M → Prop) : Prop := e_J_has_24 0 M K
theorem E_J_has_23 {fz : Bool} {S : gS} {B : rf_M} {M : rf_M} {ls : rf_L} {n0 : Nat} {K : Int → rf_M → Prop} (hS : rl S) (hR : fl 22 353 B M) (h : e_J_has_23 M K) : lx (cx0 fz) n0 116 23 ls [] (M, S) (vl_i 22 353 B S K) := by
  unfold e_J_has_23 at h
  refine l1 (n := 1) rfl rfl rfl rfl ?_
  exact E_J_has_24 hS hR ⟨by decide, by decide⟩ h
def e_J_has (v1 : Int) (M : rf_M) (K : Int → rf_M → Prop) : Prop := (v1 < 0 → (e_J_has_23 M K)) ∧ (¬ (v1 < 0) → (((gi M 324 0) ≤ v1 → (e_J_has_23 M K)) ∧ (¬ ((gi M 324 0) ≤ v1) → ((300 ≤ v1 → (e_J_has_23 M K)) ∧ (¬ (300 ≤ v1) → (e_J_has_24 1 M K))))))
theorem E_J_has {fz : Bool} {S : gS} {B : rf_M} {M : rf_M} {ls : rf_L} {n0 : Nat} {v1 : Int} {K : Int → rf_M → Prop} (hS : rl S) (hR : fl 22 353 B M) (iv1 : inr v1) (a0 : rf_ld ls 0 = some (.ref 324)) (a1 : rf_ld ls 1 = some (zv v1)) (h : e_J_has v1 M K) : lx (cx0 fz) n0 116 0 ls [] (M, S) (vl_i 22 353 B S K) := by
  unfold e_J_has at h
  refine l1 (n := 1) rfl rfl rfl (li_of a1) ?_
  refine l_if rfl iv1 (fun c => ?_) (fun c => ?_)
  · replace h := h.1 c
    exact E_J_has_23 hS hR  h
  · replace h := h.2 c
    refine l1 (n := 1) rfl rfl rfl (li_of a1) ?_
    refine l1 (n := 1) rfl rfl rfl (la_of a0) ?_
    refine l_gi rfl (ko_9 hS (List.Mem.head _)) rfl (fun _ => rfl) ?_
    refine l_ic rfl iv1 (inr_gi _ _ _) (fun c => ?_) (fun c => ?_)
    · replace h := h.1 c
      exact E_J_has_23 hS hR  h
    · replace h := h.2 c
      refine l1 (n := 1) rfl rfl rfl (li_of a1) ?_
      refine l_si rfl (by decide) ?_
      refine l_ic rfl iv1 ⟨by decide, by decide⟩ (fun c => ?_) (fun c => ?_)
      · replace h := h.1 c
        exact E_J_has_23 hS hR  h
      · replace h := h.2 c
        refine l1 (n := 1) rfl rfl rfl rfl ?_
        refine l3 rfl rfl rfl ?_
        exact E_J_has_24 hS hR ⟨by decide, by decide⟩ h
def em_J_has (x1 : Int) (M : rf_M) (K : Int → rf_M → Prop) : Prop := e_J_has x1 M K
theorem E_J_has_m {fz : Bool} {S : gS} {B : rf_M} {M : rf_M} {n0 : Nat} {x1 : Int} {K : Int → rf_M → Prop} (hS : rl S) (hR : fl 22 353 B M) (ix1 : inr x1) (h : em_J_has x1 M K) : lx (cx0 fz) n0 116 0 (lv_args 0 [.ref 324, zv x1]) [] (M, S) (vl_i 22 353 B S K) :=
  E_J_has hS hR ix1 rfl rfl h
def e_J_tell (v1 : Int) (v2 : Int) (M : rf_M) (K : Int → rf_M → Prop) : Prop := em_J_has v1 M (fun (z1 : Int) (M1 : rf_M) => (z1 = 0 → (K (-1) M1)) ∧ (¬ z1 = 0 → ((v2 = 0 → ((0 ≤ v1 ∧ v1 < 300 → (K (gi M1 325 (v1).toNat) M1)))) ∧ (v2 = 1 → ((0 ≤ v1 ∧ v1 < 300 → (K (gi M1 326 (v1).toNat) M1)))) ∧ (v2 = 2 → ((0 ≤ v1 ∧ v1 < 300 → (K (gi M1 327 (v1).toNat) M1)))) ∧ (v2 = 3 → ((0 ≤ v1 ∧ v1 < 300 → (K (gi M1 328 (v1).toNat) M1)))) ∧ (v2 = 4 → ((0 ≤ v1 ∧ v1 < 300 → (K (gi M1 329 (v1).toNat) M1)))) ∧ (¬ v2 = 0 ∧ ¬ v2 = 1 ∧ ¬ v2 = 2 ∧ ¬ v2 = 3 ∧ ¬ v2 = 4 → (K (-1) M1)))))
def em_J_tell (x1 : Int) (x2 : Int) (M : rf_M) (K : Int → rf_M → Prop) : Prop := e_J_tell x1 x2 M K
def e_M_row (v1 : Int) (v2 : Int) (M : rf_M) (K : Int → rf_M → Prop) : Prop := em_J_tell v1 v2 M (fun (z1 : Int) (M1 : rf_M) => K z1 M1)
def em_M_row (x1 : Int) (x2 : Int) (M : rf_M) (K : Int → rf_M → Prop) : Prop := e_M_row x1 x2 M K
def e_M_value_24 (s0 : Int64) (M : rf_M) (K : Int64 → rf_M → Prop) : Prop := K s0 M
def e_M_value (v1 : Int) (M : rf_M) (K : Int64 → rf_M → Prop) : Prop := em_J_has v1 M (fun (z1 : Int) (M1 : rf_M) => (z1 = 0 → (e_M_value_24 (Int64.ofNat 0) M1 K)) ∧ (¬ (z1 = 0) → ((0 ≤ v1 ∧ v1 < 300 → (e_M_value_24 (gl M1 330 (v1).toNat) M1 K)))))
def em_M_value (x1 : Int) (M : rf_M) (K : Int64 → rf_M → Prop) : Prop := e_M_value x1 M K
def e_Y_isTold_20 (s0 : Int) (M : rf_M) (K : Int → rf_M → Prop) : Prop := (s0 = 0 ∨ s0 = 1) ∧ K s0 M
theorem E_Y_isTold_20 {fz : Bool} {S : gS} {B : rf_M} {M : rf_M} {ls : rf_L} {n0 : Nat} {s0 : Int} {K : Int → rf_M → Prop} (hS : rl S) (hR : fl 22 353 B M) (is0 : inr s0) (h : e_Y_isTold_20 s0 M K) : lx (cx0 fz) n0 120 20 ls [zv s0] (M, S) (vl_i 22 353 B S K) := by
  unfold e_Y_isTold_20 at h
  exact l_rb rfl rfl h.1 hR h.2
def e_Y_isTold_78 (s0 : Int) (M : rf_M) (K : Int → rf_M → Prop) : Prop := (s0 = 0 ∨ s0 = 1) ∧ K s0 M
theorem E_Y_isTold_78 {fz : Bool} {S : gS} {B : rf_M} {M : rf_M} {ls : rf_L} {n0 : Nat} {s0 : Int} {K : Int → rf_M → Prop} (hS : rl S) (hR : fl 22 353 B M) (is0 : inr s0) (h : e_Y_isTold_78 s0 M K) : lx (cx0 fz) n0 120 78 ls [zv s0] (M, S) (vl_i 22 353 B S K) := by
  unfold e_Y_isTold_78 at h
  exact l_rb rfl rfl h.1 hR h.2
def e_Y_isTold_73 (M : rf_M) (K : Int → rf_M → Prop) : Prop := e_Y_isTold_78 1 M K
theorem E_Y_isTold_73 {fz : Bool} {S : gS} {B : rf_M} {M : rf_M} {ls : rf_L} {n0 : Nat} {K : Int → rf_M → Prop} (hS : rl S) (hR : fl 22 353 B M) (h : e_Y_isTold_73 M K) : lx (cx0 fz) n0 120 73 ls [] (M, S) (vl_i 22 353 B S K) := by
  unfold e_Y_isTold_73 at h
  refine l1 (n := 1) rfl rfl rfl rfl ?_
  refine l3 rfl rfl rfl ?_
  exact E_Y_isTold_78 hS hR ⟨by decide, by decide⟩ h
def e_Y_isTold_77 (M : rf_M) (K : Int → rf_M → Prop) : Prop := e_Y_isTold_78 0 M K
theorem E_Y_isTold_77 {fz : Bool} {S : gS} {B : rf_M} {M : rf_M} {ls : rf_L} {n0 : Nat} {K : Int → rf_M → Prop} (hS : rl S) (hR : fl 22 353 B M) (h : e_Y_isTold_77 M K) : lx (cx0 fz) n0 120 77 ls [] (M, S) (vl_i 22 353 B S K) := by
  unfold e_Y_isTold_77 at h
  refine l1 (n := 1) rfl rfl rfl rfl ?_
  exact E_Y_isTold_78 hS hR ⟨by decide, by decide⟩ h
def e_Y_isTold_51 (v2 : Int) (v3 : Int) (M : rf_M) (K : Int → rf_M → Prop) : Prop := (v3 = 2 → ((0 ≤ v2 ∧ v2 < 300 → (((lg_cmp (gl M 330 (v2).toNat) (gl M 340 3)).toInt = 0 → (e_Y_isTold_73 M K)) ∧ (¬ (lg_cmp (gl M 330 (v2).toNat) (gl M 340 3)).toInt = 0 → (e_Y_isTold_77 M K)))))) ∧ (¬ v3 = 2 → (e_Y_isTold_77 M K))
theorem E_Y_isTold_51 {fz : Bool} {S : gS} {B : rf_M} {M : rf_M} {ls : rf_L} {n0 : Nat} {v2 : Int} {v3 : Int} {K : Int → rf_M → Prop} (hS : rl S) (hR : fl 22 353 B M) (iv2 : inr v2) (iv3 : inr v3) (a0 : rf_ld ls 0 = some (.ref 331)) (a1 : rf_ld ls 1 = some (.ref 324)) (a2 : rf_ld ls 2 = some (zv v2)) (a3 : rf_ld ls 3 = some (zv v3)) (h : e_Y_isTold_51 v2 v3 M K) : lx (cx0 fz) n0 120 51 ls [] (M, S) (vl_i 22 353 B S K) := by
  unfold e_Y_isTold_51 at h
  refine l1 (n := 1) rfl rfl rfl (li_of a3) ?_
  refine l1 (n := 1) rfl rfl rfl rfl ?_
  refine l_ic rfl iv3 ⟨by decide, by decide⟩ (fun c => ?_) (fun c => ?_)
  · replace h := h.2 c
    exact E_Y_isTold_77 hS hR  h
  · replace h := h.1 (Classical.not_not.mp c)
    refine l1 (n := 1) rfl rfl rfl (la_of a1) ?_
    refine l_gr rfl (ko_9 hS (List.Mem.head _)) rfl (fun _ => rfl) (kf_9_6 hR.2 (List.Mem.head _)) ?_
    refine l1 (n := 1) rfl rfl rfl (li_of a2) ?_
    refine b_la rfl (kc_330 (fz := fz) hS).1 (Nat.le_of_ble_eq_true rfl) iv2 (fun q => ?_)
    replace h := h q
    refine l1 (n := 1) rfl rfl rfl (la_of a0) ?_
    refine l_gr rfl (ko_10 hS (List.Mem.head _)) rfl (fun _ => rfl) (kf_10_4 hR.2 (List.Mem.head _)) ?_
    refine l_gl rfl (ko_7 hS (by decide)) rfl (fun _ => rfl) ?_
    refine l_op (T := (lg_cmp (gl M 330 (v2).toNat) (gl M 340 3))) rfl rfl rfl ?_
    refine l_if rfl (inr_ti _) (fun c => ?_) (fun c => ?_)
    · replace h := h.2 c
      exact E_Y_isTold_77 hS hR  h
    · replace h := h.1 (Classical.not_not.mp c)
      exact E_Y_isTold_73 hS hR  h
def e_Y_isTold (v2 : Int) (v3 : Int) (v4 : Int) (M : rf_M) (K : Int → rf_M → Prop) : Prop := (v4 = 0 → ((0 ≤ v2 ∧ v2 < 300 → (((gi M 325 (v2).toNat) = 2 → ((v3 = 1 → ((0 ≤ v2 ∧ v2 < 300 → (((lg_cmp (gl M 330 (v2).toNat) (Int64.ofNat 18446744073709551614)).toInt = 0 → (e_Y_isTold_73 M K)) ∧ (¬ ((lg_cmp (gl M 330 (v2).toNat) (Int64.ofNat 18446744073709551614)).toInt = 0) → (e_Y_isTold_51 v2 v3 M K)))))) ∧ (¬ v3 = 1 → (e_Y_isTold_51 v2 v3 M K)))) ∧ (¬ ((gi M 325 (v2).toNat) = 2) → (K 0 M)))))) ∧ (¬ (v4 = 0) → ((0 ≤ v2 ∧ v2 < 300 → (((gi M 325 (v2).toNat) = 1 → (e_Y_isTold_20 1 M K)) ∧ (¬ (gi M 325 (v2).toNat) = 1 → (e_Y_isTold_20 0 M K))))))
theorem E_Y_isTold {fz : Bool} {S : gS} {B : rf_M} {M : rf_M} {ls : rf_L} {n0 : Nat} {v2 : Int} {v3 : Int} {v4 : Int} {K : Int → rf_M → Prop} (hS : rl S) (hR : fl 22 353 B M) (iv2 : inr v2) (iv3 : inr v3) (iv4 : inr v4) (a0 : rf_ld ls 0 = some (.ref 331)) (a1 : rf_ld ls 1 = some (.ref 324)) (a2 : rf_ld ls 2 = some (zv v2)) (a3 : rf_ld ls 3 = some (zv v3)) (a4 : rf_ld ls 4 = some (zv v4)) (h : e_Y_isTold v2 v3 v4 M K) : lx (cx0 fz) n0 120 0 ls [] (M, S) (vl_i 22 353 B S K) := by
  unfold e_Y_isTold at h
  refine l1 (n := 2) rfl rfl rfl (li_of a4) ?_
  refine l_if rfl iv4 (fun c => ?_) (fun c => ?_)
  · replace h := h.1 c
    refine l1 (n := 1) rfl rfl rfl (la_of a1) ?_
    refine l_gr rfl (ko_9 hS (List.Mem.head _)) rfl (fun _ => rfl) (kf_9_1 hR.2 (List.Mem.head _)) ?_
    refine l1 (n := 1) rfl rfl rfl (li_of a2) ?_
    refine b_ia rfl (kc_325 (fz := fz) hS).1 (Nat.le_of_ble_eq_true rfl) iv2 (fun q => ?_)
    replace h := h q
    refine l1 (n := 1) rfl rfl rfl rfl ?_
    refine l_ic rfl (inr_gi _ _ _) ⟨by decide, by decide⟩ (fun c => ?_) (fun c => ?_)
    · replace h := h.1 c
      refine l1 (n := 1) rfl rfl rfl (li_of a3) ?_
      refine l1 (n := 1) rfl rfl rfl rfl ?_
      refine l_ic rfl iv3 ⟨by decide, by decide⟩ (fun c => ?_) (fun c => ?_)
      · replace h := h.2 c
        exact E_Y_isTold_51 hS hR iv2 iv3 a0 a1 a2 a3 h
      · replace h := h.1 (Classical.not_not.mp c)
        refine l1 (n := 1) rfl rfl rfl (la_of a1) ?_
        refine l_gr rfl (ko_9 hS (List.Mem.head _)) rfl (fun _ => rfl) (kf_9_6 hR.2 (List.Mem.head _)) ?_
        refine l1 (n := 1) rfl rfl rfl (li_of a2) ?_
        refine b_la rfl (kc_330 (fz := fz) hS).1 (Nat.le_of_ble_eq_true rfl) iv2 (fun q => ?_)
        replace h := h q
        refine l7 (n := 3) rfl rfl rfl rfl ?_
        refine l_op (T := (lg_cmp (gl M 330 (v2).toNat) (Int64.ofNat 18446744073709551614))) rfl rfl rfl ?_
        refine l_if rfl (inr_ti _) (fun c => ?_) (fun c => ?_)
        · replace h := h.1 c
          exact E_Y_isTold_73 hS hR  h
        · replace h := h.2 c
          exact E_Y_isTold_51 hS hR iv2 iv3 a0 a1 a2 a3 h
    · replace h := h.2 c
      refine l1 (n := 1) rfl rfl rfl rfl ?_
      exact l_rb rfl rfl (Or.inl rfl) hR h
  · replace h := h.2 c
    refine l1 (n := 1) rfl rfl rfl (la_of a1) ?_
    refine l_gr rfl (ko_9 hS (List.Mem.head _)) rfl (fun _ => rfl) (kf_9_1 hR.2 (List.Mem.head _)) ?_
    refine l1 (n := 1) rfl rfl rfl (li_of a2) ?_
    refine b_ia rfl (kc_325 (fz := fz) hS).1 (Nat.le_of_ble_eq_true rfl) iv2 (fun q => ?_)
    replace h := h q
    refine l1 (n := 1) rfl rfl rfl rfl ?_
    refine l_ic rfl (inr_gi _ _ _) ⟨by decide, by decide⟩ (fun c => ?_) (fun c => ?_)
    · replace h := h.2 c
      refine l1 (n := 1) rfl rfl rfl rfl ?_
      exact E_Y_isTold_20 hS hR ⟨by decide, by decide⟩ h
    · replace h := h.1 (Classical.not_not.mp c)
      refine l1 (n := 1) rfl rfl rfl rfl ?_
      refine l3 rfl rfl rfl ?_
      exact E_Y_isTold_20 hS hR ⟨by decide, by decide⟩ h
def em_Y_isTold (x2 : Int) (x3 : Int) (x4 : Int) (M : rf_M) (K : Int → rf_M → Prop) : Prop := e_Y_isTold x2 x3 x4 M K
theorem E_Y_isTold_m {fz : Bool} {S : gS} {B : rf_M} {M : rf_M} {n0 : Nat} {x2 : Int} {x3 : Int} {x4 : Int} {K : Int → rf_M → Prop} (hS : rl S) (hR : fl 22 353 B M) (ix2 : inr x2) (ix3 : inr x3) (ix4 : inr x4) (h : em_Y_isTold x2 x3 x4 M K) : lx (cx0 fz) n0 120 0 (lv_args 0 [.ref 331, .ref 324, zv x2, zv x3, zv x4]) [] (M, S) (vl_i 22 353 B S K) :=
  E_Y_isTold hS hR ix2 ix3 ix4 rfl rfl rfl rfl rfl h
def e_Y_redo_62 (v2 : Int) (v3 : Int) (s1 : Int) (M : rf_M) (K : rf_M → Prop) : Prop := (s1 = 0 ∨ s1 = 1) ∧ (∀ M1 : rf_M, M1 = wi M 331 2 s1 → ((0 ≤ v2 ∧ v2 < 300 → (em_S_write 332 v3 (gl M1 330 (v2).toNat) M1 (fun (M2 : rf_M) => K M2)))))
theorem E_Y_redo_62 {fz : Bool} {S : gS} {B : rf_M} {M : rf_M} {ls : rf_L} {n0 : Nat} {v2 : Int} {v3 : Int} {s1 : Int} {K : rf_M → Prop} (hS : rl S) (hR : fl 22 353 B M) (iv2 : inr v2) (iv3 : inr v3) (is1 : inr s1) (a0 : rf_ld ls 0 = some (.ref 331)) (a1 : rf_ld ls 1 = some (.ref 324)) (a2 : rf_ld ls 2 = some (zv v2)) (a3 : rf_ld ls 3 = some (zv v3)) (h : e_Y_redo_62 v2 v3 s1 M K) : lx (cx0 fz) n0 119 62 ls [zv s1, .ref 331] (M, S) (vl_v 22 353 B S K) := by
  unfold e_Y_redo_62 at h
  obtain ⟨q, h⟩ := h
  refine l_pb rfl (ko_10 (fz := fz) hS (List.Mem.head _)) rfl rfl q (fun M1 e => ?_)
  replace h := h M1 e
  have r1 := hR.wi (ko_10 (fz := fz) hS (List.Mem.head _)).1 (kl_10 (List.Mem.head _)) e
  refine l1 (n := 1) rfl rfl rfl (la_of a0) ?_
  refine l_gr rfl (ko_10 hS (List.Mem.head _)) rfl (fun _ => rfl) (kf_10_0 r1.2 (List.Mem.head _)) ?_
  refine l1 (n := 1) rfl rfl rfl (li_of a3) ?_
  refine l1 (n := 1) rfl rfl rfl (la_of a1) ?_
  refine l_gr rfl (ko_9 hS (List.Mem.head _)) rfl (fun _ => rfl) (kf_9_6 r1.2 (List.Mem.head _)) ?_
  refine l1 (n := 1) rfl rfl rfl (li_of a2) ?_
  refine b_la rfl (kc_330 (fz := fz) hS).1 (Nat.le_of_ble_eq_true rfl) iv2 (fun q => ?_)
  replace h := h q
  refine b_iv (c := 332) (as := [zv v3, .long (gl M1 330 (v2).toNat)]) (rest := []) rfl (by decide) (ko_4 hS (by decide)) rfl rfl (Nat.le_of_ble_eq_true rfl) (fun hq => ?_)
  refine lx_mono (E_S_write_m hS r1 (by decide) iv3 h) ?_
  rintro _ _ ⟨M2, rfl, rfl, r2, h⟩
  exact l_rv rfl rfl r2 h
def e_Y_redo_61 (v2 : Int) (v3 : Int) (M : rf_M) (K : rf_M → Prop) : Prop := e_Y_redo_62 v2 v3 0 M K
theorem E_Y_redo_61 {fz : Bool} {S : gS} {B : rf_M} {M : rf_M} {ls : rf_L} {n0 : Nat} {v2 : Int} {v3 : Int} {K : rf_M → Prop} (hS : rl S) (hR : fl 22 353 B M) (iv2 : inr v2) (iv3 : inr v3) (a0 : rf_ld ls 0 = some (.ref 331)) (a1 : rf_ld ls 1 = some (.ref 324)) (a2 : rf_ld ls 2 = some (zv v2)) (a3 : rf_ld ls 3 = some (zv v3)) (h : e_Y_redo_61 v2 v3 M K) : lx (cx0 fz) n0 119 61 ls [.ref 331] (M, S) (vl_v 22 353 B S K) := by
  unfold e_Y_redo_61 at h
  refine l1 (n := 1) rfl rfl rfl rfl ?_
  exact E_Y_redo_62 hS hR iv2 iv3 ⟨by decide, by decide⟩ a0 a1 a2 a3 h
def e_Y_redo_93 (M : rf_M) (K : rf_M → Prop) : Prop := ∀ M1 : rf_M, M1 = wi M 331 2 0 → (K M1)
theorem E_Y_redo_93 {fz : Bool} {S : gS} {B : rf_M} {M : rf_M} {ls : rf_L} {n0 : Nat} {K : rf_M → Prop} (hS : rl S) (hR : fl 22 353 B M) (a0 : rf_ld ls 0 = some (.ref 331)) (h : e_Y_redo_93 M K) : lx (cx0 fz) n0 119 93 ls [] (M, S) (vl_v 22 353 B S K) := by
  unfold e_Y_redo_93 at h
  refine l1 (n := 1) rfl rfl rfl (la_of a0) ?_
  refine l1 (n := 1) rfl rfl rfl rfl ?_
  refine l_pb rfl (ko_10 (fz := fz) hS (List.Mem.head _)) rfl rfl (Or.inl rfl) (fun M1 e => ?_)
  replace h := h M1 e
  have r1 := hR.wi (ko_10 (fz := fz) hS (List.Mem.head _)).1 (kl_10 (List.Mem.head _)) e
  exact l_rv rfl rfl r1 h
def e_Y_redo_227 (s1 : Int) (M : rf_M) (K : rf_M → Prop) : Prop := (s1 = 0 ∨ s1 = 1) ∧ (∀ M1 : rf_M, M1 = wi M 331 2 s1 → (K M1))
theorem E_Y_redo_227 {fz : Bool} {S : gS} {B : rf_M} {M : rf_M} {ls : rf_L} {n0 : Nat} {s1 : Int} {K : rf_M → Prop} (hS : rl S) (hR : fl 22 353 B M) (is1 : inr s1) (h : e_Y_redo_227 s1 M K) : lx (cx0 fz) n0 119 227 ls [zv s1, .ref 331] (M, S) (vl_v 22 353 B S K) := by
  unfold e_Y_redo_227 at h
  obtain ⟨q, h⟩ := h
  refine l_pb rfl (ko_10 (fz := fz) hS (List.Mem.head _)) rfl rfl q (fun M1 e => ?_)
  replace h := h M1 e
  have r1 := hR.wi (ko_10 (fz := fz) hS (List.Mem.head _)).1 (kl_10 (List.Mem.head _)) e
  exact l_rv rfl rfl r1 h
def e_Y_redo_226 (M : rf_M) (K : rf_M → Prop) : Prop := e_Y_redo_227 0 M K
theorem E_Y_redo_226 {fz : Bool} {S : gS} {B : rf_M} {M : rf_M} {ls : rf_L} {n0 : Nat} {K : rf_M → Prop} (hS : rl S) (hR : fl 22 353 B M) (h : e_Y_redo_226 M K) : lx (cx0 fz) n0 119 226 ls [.ref 331] (M, S) (vl_v 22 353 B S K) := by
  unfold e_Y_redo_226 at h
  refine l1 (n := 1) rfl rfl rfl rfl ?_
  exact E_Y_redo_227 hS hR ⟨by decide, by decide⟩ h
def e_Y_redo_181 (v2 : Int) (v4 : Int) (s0 : Int) (M : rf_M) (K : rf_M → Prop) : Prop := ((gi M 331 2) = 0 → (e_Y_redo_226 M K)) ∧ (¬ ((gi M 331 2) = 0) → ((0 ≤ v2 ∧ v2 < 300 → (inr ((gi M 340 1) + 1) ∧ ((((gi M 340 1) + 1) = (gi M 328 (v2).toNat) → (em_Y_isTold v2 v4 s0 M (fun (z1 : Int) (M1 : rf_M) => (z1 = 0 → (e_Y_redo_226 M1 K)) ∧ (¬ (z1 = 0) → (e_Y_redo_227 1 M1 K))))) ∧ (¬ ((gi M 340 1) + 1) = (gi M 328 (v2).toNat) → (e_Y_redo_226 M K)))))))
theorem E_Y_redo_181 {fz : Bool} {S : gS} {B : rf_M} {M : rf_M} {ls : rf_L} {n0 : Nat} {v2 : Int} {v4 : Int} {s0 : Int} {K : rf_M → Prop} (hS : rl S) (hR : fl 22 353 B M) (iv2 : inr v2) (iv4 : inr v4) (is0 : inr s0) (a0 : rf_ld ls 0 = some (.ref 331)) (a1 : rf_ld ls 1 = some (.ref 324)) (a2 : rf_ld ls 2 = some (zv v2)) (a4 : rf_ld ls 4 = some (zv v4)) (h : e_Y_redo_181 v2 v4 s0 M K) : lx (cx0 fz) n0 119 181 ls [zv s0] (M, S) (vl_v 22 353 B S K) := by
  unfold e_Y_redo_181 at h
  refine l_s1 (n := 2) rfl rfl rfl rfl (fun ls y1 ho => ?_)
  have y2 := ho 0 _ (by decide) (fun q => by cases q.2) a0
  have y3 := ho 1 _ (by decide) (fun q => by cases q.2) a1
  have y4 := ho 2 _ (by decide) (fun q => by cases q.2) a2
  have y5 := ho 4 _ (by decide) (fun q => by cases q.2) a4
  refine l1 (n := 1) rfl rfl rfl (la_of y2) ?_
  refine l1 (n := 1) rfl rfl rfl (la_of y2) ?_
  refine l_gi rfl (ko_10 hS (List.Mem.head _)) rfl (fun _ => rfl) ?_
  refine l_if rfl (inr_gi _ _ _) (fun c => ?_) (fun c => ?_)
  · replace h := h.1 c
    exact E_Y_redo_226 hS hR  h
  · replace h := h.2 c
    refine l1 (n := 1) rfl rfl rfl (la_of y2) ?_
    refine l_gr rfl (ko_10 hS (List.Mem.head _)) rfl (fun _ => rfl) (kf_10_4 hR.2 (List.Mem.head _)) ?_
    refine l_gi rfl (ko_7 hS (by decide)) rfl (fun _ => rfl) ?_
    refine l1 (n := 1) rfl rfl rfl rfl ?_
    refine l_add rfl ?_
    refine l1 (n := 1) rfl rfl rfl (la_of y3) ?_
    refine l_gr rfl (ko_9 hS (List.Mem.head _)) rfl (fun _ => rfl) (kf_9_4 hR.2 (List.Mem.head _)) ?_
    refine l1 (n := 1) rfl rfl rfl (li_of y4) ?_
    refine b_ia rfl (kc_328 (fz := fz) hS).1 (Nat.le_of_ble_eq_true rfl) iv2 (fun q => ?_)
    replace h := h q
    obtain ⟨i1, h⟩ := h
    refine l_ic rfl i1 (inr_gi _ _ _) (fun c => ?_) (fun c => ?_)
    · replace h := h.2 c
      exact E_Y_redo_226 hS hR  h
    · replace h := h.1 (Classical.not_not.mp c)
      refine l1 (n := 1) rfl rfl rfl (la_of y2) ?_
      refine l1 (n := 1) rfl rfl rfl (la_of y3) ?_
      refine l1 (n := 1) rfl rfl rfl (li_of y4) ?_
      refine l1 (n := 2) rfl rfl rfl (li_of y5) ?_
      refine l1 (n := 2) rfl rfl rfl (li_of y1) ?_
      refine b_iv (c := 331) (as := [.ref 324, zv v2, zv v4, zv s0]) (rest := [.ref 331]) rfl (by decide) (ko_10 hS (List.Mem.head _)) rfl rfl (Nat.le_of_ble_eq_true rfl) (fun hq => ?_)
      refine lx_mono (E_Y_isTold_m hS hR iv2 iv4 is0 h) ?_
      rintro _ _ ⟨z1, M1, rfl, rfl, r1, iz1, h⟩
      refine l_if rfl iz1 (fun c => ?_) (fun c => ?_)
      · replace h := h.1 c
        exact E_Y_redo_226 hS r1  h
      · replace h := h.2 c
        refine l1 (n := 1) rfl rfl rfl rfl ?_
        refine l3 rfl rfl rfl ?_
        exact E_Y_redo_227 hS r1 ⟨by decide, by decide⟩ h
def e_Y_redo_180 (v2 : Int) (v4 : Int) (M : rf_M) (K : rf_M → Prop) : Prop := e_Y_redo_181 v2 v4 0 M K
theorem E_Y_redo_180 {fz : Bool} {S : gS} {B : rf_M} {M : rf_M} {ls : rf_L} {n0 : Nat} {v2 : Int} {v4 : Int} {K : rf_M → Prop} (hS : rl S) (hR : fl 22 353 B M) (iv2 : inr v2) (iv4 : inr v4) (a0 : rf_ld ls 0 = some (.ref 331)) (a1 : rf_ld ls 1 = some (.ref 324)) (a2 : rf_ld ls 2 = some (zv v2)) (a4 : rf_ld ls 4 = some (zv v4)) (h : e_Y_redo_180 v2 v4 M K) : lx (cx0 fz) n0 119 180 ls [] (M, S) (vl_v 22 353 B S K) := by
  unfold e_Y_redo_180 at h
  refine l1 (n := 1) rfl rfl rfl rfl ?_
  exact E_Y_redo_181 hS hR iv2 iv4 ⟨by decide, by decide⟩ a0 a1 a2 a4 h
def e_Y_redo_146 (v2 : Int) (v4 : Int) (M : rf_M) (K : rf_M → Prop) : Prop := (v4 = 1 → (isP M 340 0 ∧ (em_S_takes 332 (gr M 340 0) 342 M (fun (z1 : Int) (M1 : rf_M) => (z1 = 0 → (e_Y_redo_180 v2 v4 M1 K)) ∧ (¬ (z1 = 0) → (e_Y_redo_181 v2 v4 1 M1 K)))))) ∧ (¬ v4 = 1 → (e_Y_redo_180 v2 v4 M K))
theorem E_Y_redo_146 {fz : Bool} {S : gS} {B : rf_M} {M : rf_M} {ls : rf_L} {n0 : Nat} {v2 : Int} {v4 : Int} {K : rf_M → Prop} (hS : rl S) (hR : fl 22 353 B M) (iv2 : inr v2) (iv4 : inr v4) (a0 : rf_ld ls 0 = some (.ref 331)) (a1 : rf_ld ls 1 = some (.ref 324)) (a2 : rf_ld ls 2 = some (zv v2)) (a4 : rf_ld ls 4 = some (zv v4)) (h : e_Y_redo_146 v2 v4 M K) : lx (cx0 fz) n0 119 146 ls [] (M, S) (vl_v 22 353 B S K) := by
  unfold e_Y_redo_146 at h
  refine l1 (n := 2) rfl rfl rfl (li_of a4) ?_
  refine l1 (n := 1) rfl rfl rfl rfl ?_
  refine l_ic rfl iv4 ⟨by decide, by decide⟩ (fun c => ?_) (fun c => ?_)
  · replace h := h.2 c
    exact E_Y_redo_180 hS hR iv2 iv4 a0 a1 a2 a4 h
  · replace h := h.1 (Classical.not_not.mp c)
    refine l1 (n := 1) rfl rfl rfl (la_of a0) ?_
    refine l_gr rfl (ko_10 hS (List.Mem.head _)) rfl (fun _ => rfl) (kf_10_0 hR.2 (List.Mem.head _)) ?_
    refine l1 (n := 1) rfl rfl rfl (la_of a0) ?_
    refine l_gr rfl (ko_10 hS (List.Mem.head _)) rfl (fun _ => rfl) (kf_10_4 hR.2 (List.Mem.head _)) ?_
    obtain ⟨q1, h⟩ := h
    refine l_gr rfl (ko_7 hS (by decide)) rfl (fun _ => rfl) q1.1 ?_
    refine l1 (n := 1) rfl rfl rfl (la_of a0) ?_
    refine l_gr rfl (ko_10 hS (List.Mem.head _)) rfl (fun _ => rfl) (kf_10_4 hR.2 (List.Mem.head _)) ?_
    refine l_gr rfl (ko_7 hS (by decide)) rfl (fun _ => rfl) (kf_7_5 hR.2 (by decide)) ?_
    refine b_iv (c := 332) (as := [.ref (gr M 340 0), .ref 342]) (rest := []) rfl (by decide) (ko_4 hS (by decide)) rfl rfl (Nat.le_of_ble_eq_true rfl) (fun hq => ?_)
    refine lx_mono (E_S_takes_m hS hR (by decide) q1.2 (by decide) h) ?_
    rintro _ _ ⟨z1, M1, rfl, rfl, r1, iz1, h⟩
    refine l_if rfl iz1 (fun c => ?_) (fun c => ?_)
    · replace h := h.1 c
      exact E_Y_redo_180 hS r1 iv2 iv4 a0 a1 a2 a4 h
    · replace h := h.2 c
      refine l1 (n := 1) rfl rfl rfl rfl ?_
      refine l3 rfl rfl rfl ?_
      exact E_Y_redo_181 hS r1 iv2 iv4 ⟨by decide, by decide⟩ a0 a1 a2 a4 h
def e_Y_redo_118b (v2 : Int) (v4 : Int) (v5 : Int) (M : rf_M) (b118 : Int → Int → Int → rf_M → Prop) (K : rf_M → Prop) : Prop := (300 < v5 → (e_Y_redo_146 v2 v4 M K)) ∧ (¬ (300 < v5) → ((v4 = 0 → (em_R_step 340 M (fun (z1 : Int) (M1 : rf_M) => inr (v5 + 1) ∧ (b118 v2 z1 (v5 + 1) M1)))) ∧ (¬ v4 = 0 → (e_Y_redo_146 v2 v4 M K))))
theorem E_Y_redo_118b {fz : Bool} {S : gS} {B : rf_M} {M : rf_M} {ls : rf_L} {n0 : Nat} {v2 : Int} {v4 : Int} {v5 : Int} {b118 : Int → Int → Int → rf_M → Prop} {K : rf_M → Prop} (hS : rl S) (hR : fl 22 353 B M) (iv2 : inr v2) (iv4 : inr v4) (iv5 : inr v5) (a0 : rf_ld ls 0 = some (.ref 331)) (a1 : rf_ld ls 1 = some (.ref 324)) (a2 : rf_ld ls 2 = some (zv v2)) (a4 : rf_ld ls 4 = some (zv v4)) (a5 : rf_ld ls 5 = some (zv v5)) (hb118 : ∀ n', n' < n0 → ∀ (v2 : Int) (v4 : Int) (v5 : Int) (M : rf_M) (ls : rf_L), fl 22 353 B M → inr v2 → inr v4 → inr v5 → rf_ld ls 0 = some (.ref 331) → rf_ld ls 1 = some (.ref 324) → rf_ld ls 2 = some (zv v2) → rf_ld ls 4 = some (zv v4) → rf_ld ls 5 = some (zv v5) → b118 v2 v4 v5 M → lx (cx0 fz) n' 119 118 ls [] (M, S) (vl_v 22 353 B S K)) (h : e_Y_redo_118b v2 v4 v5 M b118 K) : lx (cx0 fz) n0 119 118 ls [] (M, S) (vl_v 22 353 B S K) := by
  unfold e_Y_redo_118b at h
  rcases Nat.eq_zero_or_pos n0 with e0 | hp
  · rw [e0]; exact lx_zero
  refine l1 (n := 2) rfl rfl rfl (li_of a5) ?_
  refine l_si rfl (by decide) ?_
  refine l_ic rfl iv5 ⟨by decide, by decide⟩ (fun c => ?_) (fun c => ?_)
  · replace h := h.1 c
    exact E_Y_redo_146 hS hR iv2 iv4 a0 a1 a2 a4 h
  · replace h := h.2 c
    refine l1 (n := 2) rfl rfl rfl (li_of a4) ?_
    refine l_if rfl iv4 (fun c => ?_) (fun c => ?_)
    · replace h := h.2 c
      exact E_Y_redo_146 hS hR iv2 iv4 a0 a1 a2 a4 h
    · replace h := h.1 (Classical.not_not.mp c)
      refine l1 (n := 1) rfl rfl rfl (la_of a0) ?_
      refine l_gr rfl (ko_10 hS (List.Mem.head _)) rfl (fun _ => rfl) (kf_10_4 hR.2 (List.Mem.head _)) ?_
      refine b_iv (c := 340) (as := []) (rest := []) rfl (by decide) (ko_7 hS (by decide)) rfl rfl (Nat.le_of_ble_eq_true rfl) (fun hq => ?_)
      refine lx_mono (E_R_step_m hS hR (by decide) h) ?_
      rintro _ _ ⟨z1, M1, rfl, rfl, r1, iz1, h⟩
      refine l_s1 (n := 2) rfl rfl rfl rfl (fun ls y1 ho => ?_)
      have y2 := ho 0 _ (by decide) (fun q => by cases q.2) a0
      have y3 := ho 1 _ (by decide) (fun q => by cases q.2) a1
      have y4 := ho 2 _ (by decide) (fun q => by cases q.2) a2
      have y5 := ho 5 _ (by decide) (fun q => by cases q.2) a5
      refine l_ii rfl y5 (Nat.le_of_ble_eq_true rfl) (fun ls y6 ho => ?_)
      have y7 := ho 0 _ (by decide) (fun q => by cases q.2) y2
      have y8 := ho 1 _ (by decide) (fun q => by cases q.2) y3
      have y9 := ho 2 _ (by decide) (fun q => by cases q.2) y4
      have y10 := ho 4 _ (by decide) (fun q => by cases q.2) y1
      refine l3 rfl rfl rfl ?_
      obtain ⟨i1, h⟩ := h
      exact hb118 _ (by omega) _ _ _ _ _ r1 iv2 iz1 i1 y7 y8 y9 y10 y6 h
