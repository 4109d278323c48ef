/-! the reference's parser as formulas, for lx (printed by wip/tools/vl.py) -/
def e_W_byteAt_22 (s0 : Int) (M : rf_M) (K : Int → rf_M → Prop) : Prop := K s0 M
theorem E_W_byteAt_22 {fz : Bool} {S : gS} {B : rf_M} {M : rf_M} {ls : rf_L} {n0 : Nat} {s0 : Int} {K : Int → rf_M → Prop} (hS : rl S) (hR : fl 353 406 B M) (is0 : inr s0) (h : e_W_byteAt_22 s0 M K) : lx (cx0 fz) n0 133 22 ls [zv s0] (M, S) (vl_i 353 406 B S K) := by
  unfold e_W_byteAt_22 at h
  exact l_ri rfl rfl is0 hR h
def e_W_byteAt (v1 : Int) (M : rf_M) (K : Int → rf_M → Prop) : Prop := ((gi M 353 2) ≤ v1 → (e_W_byteAt_22 (-1) M K)) ∧ (¬ ((gi M 353 2) ≤ v1) → ((0 ≤ v1 ∧ v1 < 800 → (e_W_byteAt_22 (Int32.ofInt (gi M 354 (v1).toNat) &&& Int32.ofInt 255).toInt M K))))
theorem E_W_byteAt {fz : Bool} {S : gS} {B : rf_M} {M : rf_M} {ls : rf_L} {n0 : Nat} {v1 : Int} {K : Int → rf_M → Prop} (hS : rl S) (hR : fl 353 406 B M) (iv1 : inr v1) (a0 : rf_ld ls 0 = some (.ref 353)) (a1 : rf_ld ls 1 = some (zv v1)) (h : e_W_byteAt v1 M K) : lx (cx0 fz) n0 133 0 ls [] (M, S) (vl_i 353 406 B S K) := by
  unfold e_W_byteAt at h
  refine l1 (n := 1) rfl rfl rfl (li_of a1) ?_
  refine l1 (n := 1) rfl rfl rfl (la_of a0) ?_
  refine l_gi rfl (ko_11 hS (List.Mem.head _)) rfl (fun _ => rfl) ?_
  refine l_ic rfl iv1 (inr_gi _ _ _) (fun c => ?_) (fun c => ?_)
  · replace h := h.1 c
    refine l1 (n := 1) rfl rfl rfl rfl ?_
    exact E_W_byteAt_22 hS hR ⟨by decide, by decide⟩ h
  · replace h := h.2 c
    refine l1 (n := 1) rfl rfl rfl (la_of a0) ?_
    refine l_gr rfl (ko_11 hS (List.Mem.head _)) rfl (fun _ => rfl) (kf_11_1 hR.2 (List.Mem.head _)) ?_
    refine l1 (n := 1) rfl rfl rfl (li_of a1) ?_
    refine b_ba rfl (kc_354 (fz := fz) hS).1 (Nat.le_of_ble_eq_true rfl) iv1 (fun q => ?_)
    replace h := h q
    refine l_si rfl (by decide) ?_
    refine l_op (T := (Int32.ofInt (gi M 354 (v1).toNat) &&& Int32.ofInt 255)) rfl rfl rfl ?_
    refine l3 rfl rfl rfl ?_
    exact E_W_byteAt_22 hS hR (inr_ti _) h
def em_W_byteAt (x1 : Int) (M : rf_M) (K : Int → rf_M → Prop) : Prop := e_W_byteAt x1 M K
theorem E_W_byteAt_m {fz : Bool} {S : gS} {B : rf_M} {M : rf_M} {n0 : Nat} {x1 : Int} {K : Int → rf_M → Prop} (hS : rl S) (hR : fl 353 406 B M) (ix1 : inr x1) (h : em_W_byteAt x1 M K) : lx (cx0 fz) n0 133 0 (lv_args 0 [.ref 353, zv x1]) [] (M, S) (vl_i 353 406 B S K) :=
  E_W_byteAt hS hR ix1 rfl rfl h
def e_W_isSmall_17 (s0 : Int) (M : rf_M) (K : Int → rf_M → Prop) : Prop := (s0 = 0 ∨ s0 = 1) ∧ K s0 M
theorem E_W_isSmall_17 {fz : Bool} {S : gS} {B : rf_M} {M : rf_M} {ls : rf_L} {n0 : Nat} {s0 : Int} {K : Int → rf_M → Prop} (hS : rl S) (hR : fl 353 406 B M) (is0 : inr s0) (h : e_W_isSmall_17 s0 M K) : lx (cx0 fz) n0 134 17 ls [zv s0] (M, S) (vl_i 353 406 B S K) := by
  unfold e_W_isSmall_17 at h
  exact l_rb rfl rfl h.1 hR h.2
def e_W_isSmall_16 (M : rf_M) (K : Int → rf_M → Prop) : Prop := e_W_isSmall_17 0 M K
theorem E_W_isSmall_16 {fz : Bool} {S : gS} {B : rf_M} {M : rf_M} {ls : rf_L} {n0 : Nat} {K : Int → rf_M → Prop} (hS : rl S) (hR : fl 353 406 B M) (h : e_W_isSmall_16 M K) : lx (cx0 fz) n0 134 16 ls [] (M, S) (vl_i 353 406 B S K) := by
  unfold e_W_isSmall_16 at h
  refine l1 (n := 1) rfl rfl rfl rfl ?_
  exact E_W_isSmall_17 hS hR ⟨by decide, by decide⟩ h
def e_W_isSmall (v0 : Int) (M : rf_M) (K : Int → rf_M → Prop) : Prop := (v0 < 97 → (e_W_isSmall_16 M K)) ∧ (¬ (v0 < 97) → ((122 < v0 → (e_W_isSmall_16 M K)) ∧ (¬ (122 < v0) → (e_W_isSmall_17 1 M K))))
theorem E_W_isSmall {fz : Bool} {S : gS} {B : rf_M} {M : rf_M} {ls : rf_L} {n0 : Nat} {v0 : Int} {K : Int → rf_M → Prop} (hS : rl S) (hR : fl 353 406 B M) (iv0 : inr v0) (a0 : rf_ld ls 0 = some (zv v0)) (h : e_W_isSmall v0 M K) : lx (cx0 fz) n0 134 0 ls [] (M, S) (vl_i 353 406 B S K) := by
  unfold e_W_isSmall at h
  refine l1 (n := 1) rfl rfl rfl (li_of a0) ?_
  refine l_bi rfl (by decide) ?_
  refine l_ic rfl iv0 ⟨by decide, by decide⟩ (fun c => ?_) (fun c => ?_)
  · replace h := h.1 c
    exact E_W_isSmall_16 hS hR  h
  · replace h := h.2 c
    refine l1 (n := 1) rfl rfl rfl (li_of a0) ?_
    refine l_bi rfl (by decide) ?_
    refine l_ic rfl iv0 ⟨by decide, by decide⟩ (fun c => ?_) (fun c => ?_)
    · replace h := h.1 c
      exact E_W_isSmall_16 hS hR  h
    · replace h := h.2 c
      refine l1 (n := 1) rfl rfl rfl rfl ?_
      refine l3 rfl rfl rfl ?_
      exact E_W_isSmall_17 hS hR ⟨by decide, by decide⟩ h
def em_W_isSmall (x0 : Int) (M : rf_M) (K : Int → rf_M → Prop) : Prop := e_W_isSmall x0 M K
theorem E_W_isSmall_m {fz : Bool} {S : gS} {B : rf_M} {M : rf_M} {n0 : Nat} {x0 : Int} {K : Int → rf_M → Prop} (hS : rl S) (hR : fl 353 406 B M) (ix0 : inr x0) (h : em_W_isSmall x0 M K) : lx (cx0 fz) n0 134 0 (lv_args 0 [zv x0]) [] (M, S) (vl_i 353 406 B S K) :=
  E_W_isSmall hS hR ix0 rfl h
def e_W_wordOf (v0 : Int64) (M : rf_M) (K : Int → rf_M → Prop) : Prop := ((lg_cmp v0 (Int64.ofNat 26982)).toInt = 0 → (K 0 M)) ∧ (¬ (lg_cmp v0 (Int64.ofNat 26982)).toInt = 0 → (((lg_cmp v0 (Int64.ofNat 1701606245)).toInt = 0 → (K 1 M)) ∧ (¬ (lg_cmp v0 (Int64.ofNat 1701606245)).toInt = 0 → (((lg_cmp v0 (Int64.ofNat 512852847717)).toInt = 0 → (K 2 M)) ∧ (¬ (lg_cmp v0 (Int64.ofNat 512852847717)).toInt = 0 → (((lg_cmp v0 (Int64.ofNat 491328402041)).toInt = 0 → (K 3 M)) ∧ (¬ (lg_cmp v0 (Int64.ofNat 491328402041)).toInt = 0 → (((lg_cmp v0 (Int64.ofNat 499968536439)).toInt = 0 → (K 4 M)) ∧ (¬ (lg_cmp v0 (Int64.ofNat 499968536439)).toInt = 0 → (((lg_cmp v0 (Int64.ofNat 111503598970226)).toInt = 0 → (K 5 M)) ∧ (¬ (lg_cmp v0 (Int64.ofNat 111503598970226)).toInt = 0 → (((lg_cmp v0 (Int64.ofNat 28530)).toInt = 0 → (K 6 M)) ∧ (¬ (lg_cmp v0 (Int64.ofNat 28530)).toInt = 0 → (((lg_cmp v0 (Int64.ofNat 7631481)).toInt = 0 → (K 7 M)) ∧ (¬ (lg_cmp v0 (Int64.ofNat 7631481)).toInt = 0 → (((lg_cmp v0 (Int64.ofNat 426836779880)).toInt = 0 → (K 8 M)) ∧ (¬ (lg_cmp v0 (Int64.ofNat 426836779880)).toInt = 0 → (((lg_cmp v0 (Int64.ofNat 107118487239027)).toInt = 0 → (K 9 M)) ∧ (¬ (lg_cmp v0 (Int64.ofNat 107118487239027)).toInt = 0 → (K (-1) M))))))))))))))))))))
theorem E_W_wordOf {fz : Bool} {S : gS} {B : rf_M} {M : rf_M} {ls : rf_L} {n0 : Nat} {v0 : Int64} {K : Int → rf_M → Prop} (hS : rl S) (hR : fl 353 406 B M) (a0 : rf_ld ls 0 = some (.long v0)) (h : e_W_wordOf v0 M K) : lx (cx0 fz) n0 135 0 ls [] (M, S) (vl_i 353 406 B S K) := by
  unfold e_W_wordOf at h
  refine l1 (n := 1) rfl rfl rfl (ll_of a0) ?_
  refine l7 (n := 3) rfl rfl rfl rfl ?_
  refine l_op (T := (lg_cmp v0 (Int64.ofNat 26982))) rfl rfl rfl ?_
  refine l_if rfl (inr_ti _) (fun c => ?_) (fun c => ?_)
  · replace h := h.2 c
    refine l1 (n := 1) rfl rfl rfl (ll_of a0) ?_
    refine l7 (n := 3) rfl rfl rfl rfl ?_
    refine l_op (T := (lg_cmp v0 (Int64.ofNat 1701606245))) rfl rfl rfl ?_
    refine l_if rfl (inr_ti _) (fun c => ?_) (fun c => ?_)
    · replace h := h.2 c
      refine l1 (n := 1) rfl rfl rfl (ll_of a0) ?_
      refine l7 (n := 3) rfl rfl rfl rfl ?_
      refine l_op (T := (lg_cmp v0 (Int64.ofNat 512852847717))) rfl rfl rfl ?_
      refine l_if rfl (inr_ti _) (fun c => ?_) (fun c => ?_)
      · replace h := h.2 c
        refine l1 (n := 1) rfl rfl rfl (ll_of a0) ?_
        refine l7 (n := 3) rfl rfl rfl rfl ?_
        refine l_op (T := (lg_cmp v0 (Int64.ofNat 491328402041))) rfl rfl rfl ?_
        refine l_if rfl (inr_ti _) (fun c => ?_) (fun c => ?_)
        · replace h := h.2 c
          refine l1 (n := 1) rfl rfl rfl (ll_of a0) ?_
          refine l7 (n := 3) rfl rfl rfl rfl ?_
          refine l_op (T := (lg_cmp v0 (Int64.ofNat 499968536439))) rfl rfl rfl ?_
          refine l_if rfl (inr_ti _) (fun c => ?_) (fun c => ?_)
          · replace h := h.2 c
            refine l1 (n := 1) rfl rfl rfl (ll_of a0) ?_
            refine l7 (n := 3) rfl rfl rfl rfl ?_
            refine l_op (T := (lg_cmp v0 (Int64.ofNat 111503598970226))) rfl rfl rfl ?_
            refine l_if rfl (inr_ti _) (fun c => ?_) (fun c => ?_)
            · replace h := h.2 c
              refine l1 (n := 1) rfl rfl rfl (ll_of a0) ?_
              refine l7 (n := 3) rfl rfl rfl rfl ?_
              refine l_op (T := (lg_cmp v0 (Int64.ofNat 28530))) rfl rfl rfl ?_
              refine l_if rfl (inr_ti _) (fun c => ?_) (fun c => ?_)
              · replace h := h.2 c
                refine l1 (n := 1) rfl rfl rfl (ll_of a0) ?_
                refine l7 (n := 3) rfl rfl rfl rfl ?_
                refine l_op (T := (lg_cmp v0 (Int64.ofNat 7631481))) rfl rfl rfl ?_
                refine l_if rfl (inr_ti _) (fun c => ?_) (fun c => ?_)
                · replace h := h.2 c
                  refine l1 (n := 1) rfl rfl rfl (ll_of a0) ?_
                  refine l7 (n := 3) rfl rfl rfl rfl ?_
                  refine l_op (T := (lg_cmp v0 (Int64.ofNat 426836779880))) rfl rfl rfl ?_
                  refine l_if rfl (inr_ti _) (fun c => ?_) (fun c => ?_)
                  · replace h := h.2 c
                    refine l1 (n := 1) rfl rfl rfl (ll_of a0) ?_
                    refine l7 (n := 3) rfl rfl rfl rfl ?_
                    refine l_op (T := (lg_cmp v0 (Int64.ofNat 107118487239027))) rfl rfl rfl ?_
                    refine l_if rfl (inr_ti _) (fun c => ?_) (fun c => ?_)
                    · replace h := h.2 c
                      refine l1 (n := 1) rfl rfl rfl rfl ?_
                      exact l_ri rfl rfl ⟨by decide, by decide⟩ hR h
                    · replace h := h.1 (Classical.not_not.mp c)
                      refine l_bi rfl (by decide) ?_
                      exact l_ri rfl rfl ⟨by decide, by decide⟩ hR h
                  · replace h := h.1 (Classical.not_not.mp c)
                    refine l_bi rfl (by decide) ?_
                    exact l_ri rfl rfl ⟨by decide, by decide⟩ hR h
                · replace h := h.1 (Classical.not_not.mp c)
                  refine l_bi rfl (by decide) ?_
                  exact l_ri rfl rfl ⟨by decide, by decide⟩ hR h
              · replace h := h.1 (Classical.not_not.mp c)
                refine l_bi rfl (by decide) ?_
                exact l_ri rfl rfl ⟨by decide, by decide⟩ hR h
            · replace h := h.1 (Classical.not_not.mp c)
              refine l1 (n := 1) rfl rfl rfl rfl ?_
              exact l_ri rfl rfl ⟨by decide, by decide⟩ hR h
          · replace h := h.1 (Classical.not_not.mp c)
            refine l1 (n := 1) rfl rfl rfl rfl ?_
            exact l_ri rfl rfl ⟨by decide, by decide⟩ hR h
        · replace h := h.1 (Classical.not_not.mp c)
          refine l1 (n := 1) rfl rfl rfl rfl ?_
          exact l_ri rfl rfl ⟨by decide, by decide⟩ hR h
      · replace h := h.1 (Classical.not_not.mp c)
        refine l1 (n := 1) rfl rfl rfl rfl ?_
        exact l_ri rfl rfl ⟨by decide, by decide⟩ hR h
    · replace h := h.1 (Classical.not_not.mp c)
      refine l1 (n := 1) rfl rfl rfl rfl ?_
      exact l_ri rfl rfl ⟨by decide, by decide⟩ hR h
  · replace h := h.1 (Classical.not_not.mp c)
    refine l1 (n := 1) rfl rfl rfl rfl ?_
    exact l_ri rfl rfl ⟨by decide, by decide⟩ hR h
def em_W_wordOf (x0 : Int64) (M : rf_M) (K : Int → rf_M → Prop) : Prop := e_W_wordOf x0 M K
theorem E_W_wordOf_m {fz : Bool} {S : gS} {B : rf_M} {M : rf_M} {n0 : Nat} {x0 : Int64} {K : Int → rf_M → Prop} (hS : rl S) (hR : fl 353 406 B M) (h : em_W_wordOf x0 M K) : lx (cx0 fz) n0 135 0 (lv_args 0 [.long x0]) [] (M, S) (vl_i 353 406 B S K) :=
  E_W_wordOf hS hR rfl h
def e_W_isFigure_17 (s0 : Int) (M : rf_M) (K : Int → rf_M → Prop) : Prop := (s0 = 0 ∨ s0 = 1) ∧ K s0 M
theorem E_W_isFigure_17 {fz : Bool} {S : gS} {B : rf_M} {M : rf_M} {ls : rf_L} {n0 : Nat} {s0 : Int} {K : Int → rf_M → Prop} (hS : rl S) (hR : fl 353 406 B M) (is0 : inr s0) (h : e_W_isFigure_17 s0 M K) : lx (cx0 fz) n0 136 17 ls [zv s0] (M, S) (vl_i 353 406 B S K) := by
  unfold e_W_isFigure_17 at h
  exact l_rb rfl rfl h.1 hR h.2
def e_W_isFigure_16 (M : rf_M) (K : Int → rf_M → Prop) : Prop := e_W_isFigure_17 0 M K
theorem E_W_isFigure_16 {fz : Bool} {S : gS} {B : rf_M} {M : rf_M} {ls : rf_L} {n0 : Nat} {K : Int → rf_M → Prop} (hS : rl S) (hR : fl 353 406 B M) (h : e_W_isFigure_16 M K) : lx (cx0 fz) n0 136 16 ls [] (M, S) (vl_i 353 406 B S K) := by
  unfold e_W_isFigure_16 at h
  refine l1 (n := 1) rfl rfl rfl rfl ?_
  exact E_W_isFigure_17 hS hR ⟨by decide, by decide⟩ h
def e_W_isFigure (v0 : Int) (M : rf_M) (K : Int → rf_M → Prop) : Prop := (v0 < 48 → (e_W_isFigure_16 M K)) ∧ (¬ (v0 < 48) → ((57 < v0 → (e_W_isFigure_16 M K)) ∧ (¬ (57 < v0) → (e_W_isFigure_17 1 M K))))
theorem E_W_isFigure {fz : Bool} {S : gS} {B : rf_M} {M : rf_M} {ls : rf_L} {n0 : Nat} {v0 : Int} {K : Int → rf_M → Prop} (hS : rl S) (hR : fl 353 406 B M) (iv0 : inr v0) (a0 : rf_ld ls 0 = some (zv v0)) (h : e_W_isFigure v0 M K) : lx (cx0 fz) n0 136 0 ls [] (M, S) (vl_i 353 406 B S K) := by
  unfold e_W_isFigure at h
  refine l1 (n := 1) rfl rfl rfl (li_of a0) ?_
  refine l_bi rfl (by decide) ?_
  refine l_ic rfl iv0 ⟨by decide, by decide⟩ (fun c => ?_) (fun c => ?_)
  · replace h := h.1 c
    exact E_W_isFigure_16 hS hR  h
  · replace h := h.2 c
    refine l1 (n := 1) rfl rfl rfl (li_of a0) ?_
    refine l_bi rfl (by decide) ?_
    refine l_ic rfl iv0 ⟨by decide, by decide⟩ (fun c => ?_) (fun c => ?_)
    · replace h := h.1 c
      exact E_W_isFigure_16 hS hR  h
    · replace h := h.2 c
      refine l1 (n := 1) rfl rfl rfl rfl ?_
      refine l3 rfl rfl rfl ?_
      exact E_W_isFigure_17 hS hR ⟨by decide, by decide⟩ h
def em_W_isFigure (x0 : Int) (M : rf_M) (K : Int → rf_M → Prop) : Prop := e_W_isFigure x0 M K
theorem E_W_isFigure_m {fz : Bool} {S : gS} {B : rf_M} {M : rf_M} {n0 : Nat} {x0 : Int} {K : Int → rf_M → Prop} (hS : rl S) (hR : fl 353 406 B M) (ix0 : inr x0) (h : em_W_isFigure x0 M K) : lx (cx0 fz) n0 136 0 (lv_args 0 [zv x0]) [] (M, S) (vl_i 353 406 B S K) :=
  E_W_isFigure hS hR ix0 rfl h
def e_W_isSignByte (v0 : Int) (M : rf_M) (K : Int → rf_M → Prop) : Prop := (v0 = 35 → (K 1 M)) ∧ (v0 = 37 → (K 1 M)) ∧ (v0 = 40 → (K 1 M)) ∧ (v0 = 41 → (K 1 M)) ∧ (v0 = 42 → (K 1 M)) ∧ (v0 = 43 → (K 1 M)) ∧ (v0 = 45 → (K 1 M)) ∧ (v0 = 47 → (K 1 M)) ∧ (v0 = 59 → (K 1 M)) ∧ (v0 = 60 → (K 1 M)) ∧ (v0 = 61 → (K 1 M)) ∧ (v0 = 123 → (K 1 M)) ∧ (v0 = 125 → (K 1 M)) ∧ (¬ v0 = 35 ∧ ¬ v0 = 37 ∧ ¬ v0 = 40 ∧ ¬ v0 = 41 ∧ ¬ v0 = 42 ∧ ¬ v0 = 43 ∧ ¬ v0 = 45 ∧ ¬ v0 = 47 ∧ ¬ v0 = 59 ∧ ¬ v0 = 60 ∧ ¬ v0 = 61 ∧ ¬ v0 = 123 ∧ ¬ v0 = 125 → (K 0 M))
theorem E_W_isSignByte {fz : Bool} {S : gS} {B : rf_M} {M : rf_M} {ls : rf_L} {n0 : Nat} {v0 : Int} {K : Int → rf_M → Prop} (hS : rl S) (hR : fl 353 406 B M) (iv0 : inr v0) (a0 : rf_ld ls 0 = some (zv v0)) (h : e_W_isSignByte v0 M K) : lx (cx0 fz) n0 137 0 ls [] (M, S) (vl_i 353 406 B S K) := by
  unfold e_W_isSignByte at h
  refine l1 (n := 1) rfl rfl rfl (li_of a0) ?_
  have ia : inr v0 := iv0
  obtain ⟨h1, h⟩ := h
  by_cases e35 : v0 = 35
  · replace h := h1 e35
    refine l_sw (pc' := 116) e35 rfl rfl rfl ?_
    refine l1 (n := 1) rfl rfl rfl rfl ?_
    exact l_rb rfl rfl (Or.inr rfl) hR h
  obtain ⟨h1, h⟩ := h
  by_cases e37 : v0 = 37
  · replace h := h1 e37
    refine l_sw (pc' := 116) e37 rfl rfl rfl ?_
    refine l1 (n := 1) rfl rfl rfl rfl ?_
    exact l_rb rfl rfl (Or.inr rfl) hR h
  obtain ⟨h1, h⟩ := h
  by_cases e40 : v0 = 40
  · replace h := h1 e40
    refine l_sw (pc' := 116) e40 rfl rfl rfl ?_
    refine l1 (n := 1) rfl rfl rfl rfl ?_
    exact l_rb rfl rfl (Or.inr rfl) hR h
  obtain ⟨h1, h⟩ := h
  by_cases e41 : v0 = 41
  · replace h := h1 e41
    refine l_sw (pc' := 116) e41 rfl rfl rfl ?_
    refine l1 (n := 1) rfl rfl rfl rfl ?_
    exact l_rb rfl rfl (Or.inr rfl) hR h
  obtain ⟨h1, h⟩ := h
  by_cases e42 : v0 = 42
  · replace h := h1 e42
    refine l_sw (pc' := 116) e42 rfl rfl rfl ?_
    refine l1 (n := 1) rfl rfl rfl rfl ?_
    exact l_rb rfl rfl (Or.inr rfl) hR h
  obtain ⟨h1, h⟩ := h
  by_cases e43 : v0 = 43
  · replace h := h1 e43
    refine l_sw (pc' := 116) e43 rfl rfl rfl ?_
    refine l1 (n := 1) rfl rfl rfl rfl ?_
    exact l_rb rfl rfl (Or.inr rfl) hR h
  obtain ⟨h1, h⟩ := h
  by_cases e45 : v0 = 45
  · replace h := h1 e45
    refine l_sw (pc' := 116) e45 rfl rfl rfl ?_
    refine l1 (n := 1) rfl rfl rfl rfl ?_
    exact l_rb rfl rfl (Or.inr rfl) hR h
  obtain ⟨h1, h⟩ := h
  by_cases e47 : v0 = 47
  · replace h := h1 e47
    refine l_sw (pc' := 116) e47 rfl rfl rfl ?_
    refine l1 (n := 1) rfl rfl rfl rfl ?_
    exact l_rb rfl rfl (Or.inr rfl) hR h
  obtain ⟨h1, h⟩ := h
  by_cases e59 : v0 = 59
  · replace h := h1 e59
    refine l_sw (pc' := 116) e59 rfl rfl rfl ?_
    refine l1 (n := 1) rfl rfl rfl rfl ?_
    exact l_rb rfl rfl (Or.inr rfl) hR h
  obtain ⟨h1, h⟩ := h
  by_cases e60 : v0 = 60
  · replace h := h1 e60
    refine l_sw (pc' := 116) e60 rfl rfl rfl ?_
    refine l1 (n := 1) rfl rfl rfl rfl ?_
    exact l_rb rfl rfl (Or.inr rfl) hR h
  obtain ⟨h1, h⟩ := h
  by_cases e61 : v0 = 61
  · replace h := h1 e61
    refine l_sw (pc' := 116) e61 rfl rfl rfl ?_
    refine l1 (n := 1) rfl rfl rfl rfl ?_
    exact l_rb rfl rfl (Or.inr rfl) hR h
  obtain ⟨h1, h⟩ := h
  by_cases e123 : v0 = 123
  · replace h := h1 e123
    refine l_sw (pc' := 116) e123 rfl rfl rfl ?_
    refine l1 (n := 1) rfl rfl rfl rfl ?_
    exact l_rb rfl rfl (Or.inr rfl) hR h
  obtain ⟨h1, h⟩ := h
  by_cases e125 : v0 = 125
  · replace h := h1 e125
    refine l_sw (pc' := 116) e125 rfl rfl rfl ?_
    refine l1 (n := 1) rfl rfl rfl rfl ?_
    exact l_rb rfl rfl (Or.inr rfl) hR h
  replace h := h ⟨e35, e37, e40, e41, e42, e43, e45, e47, e59, e60, e61, e123, e125⟩
  refine l_swl (t := 118) rfl ia (by simp only [List.tail_cons, rf_sw, if_neg (Ne.symm e35), if_neg (Ne.symm e37), if_neg (Ne.symm e40), if_neg (Ne.symm e41), if_neg (Ne.symm e42), if_neg (Ne.symm e43), if_neg (Ne.symm e45), if_neg (Ne.symm e47), if_neg (Ne.symm e59), if_neg (Ne.symm e60), if_neg (Ne.symm e61), if_neg (Ne.symm e123), if_neg (Ne.symm e125)]; rfl) ?_
  refine l1 (n := 1) rfl rfl rfl rfl ?_
  exact l_rb rfl rfl (Or.inl rfl) hR h
def em_W_isSignByte (x0 : Int) (M : rf_M) (K : Int → rf_M → Prop) : Prop := e_W_isSignByte x0 M K
theorem E_W_isSignByte_m {fz : Bool} {S : gS} {B : rf_M} {M : rf_M} {n0 : Nat} {x0 : Int} {K : Int → rf_M → Prop} (hS : rl S) (hR : fl 353 406 B M) (ix0 : inr x0) (h : em_W_isSignByte x0 M K) : lx (cx0 fz) n0 137 0 (lv_args 0 [zv x0]) [] (M, S) (vl_i 353 406 B S K) :=
  E_W_isSignByte hS hR ix0 rfl h
def e_W_next_26 (M : rf_M) (b0 : rf_M → Prop) (K : rf_M → Prop) : Prop := ∀ M1 : rf_M, M1 = wi M 353 3 ((gi M 353 3) + 1) → (b0 M1)
theorem E_W_next_26 {fz : Bool} {S : gS} {B : rf_M} {M : rf_M} {ls : rf_L} {n0 : Nat} {b0 : rf_M → Prop} {K : rf_M → Prop} (hS : rl S) (hR : fl 353 406 B M) (a0 : rf_ld ls 0 = some (.ref 353)) (hb0 : ∀ n', n' < n0 → ∀ (M : rf_M) (ls : rf_L), fl 353 406 B M → rf_ld ls 0 = some (.ref 353) → b0  M → lx (cx0 fz) n' 132 0 ls [] (M, S) (vl_v 353 406 B S K)) (h : e_W_next_26 M b0 K) : lx (cx0 fz) n0 132 26 ls [] (M, S) (vl_v 353 406 B S K) := by
  unfold e_W_next_26 at h
  rcases Nat.eq_zero_or_pos n0 with e0 | hp
  · rw [e0]; exact lx_zero
  refine l1 (n := 1) rfl rfl rfl (la_of a0) ?_
  refine l0 rfl rfl rfl ?_
  refine l_gi rfl (ko_11 hS (List.Mem.head _)) rfl (fun _ => rfl) ?_
  refine l1 (n := 1) rfl rfl rfl rfl ?_
  refine l_add rfl ?_
  refine l_pi rfl (ko_11 (fz := fz) hS (List.Mem.head _)) rfl (fun _ _ => rfl) (fun M1 e => ?_)
  replace h := h M1 e
  have r1 := hR.wi (Nat.le_of_ble_eq_true rfl) (Nat.le_of_ble_eq_true rfl) e
  refine l3 rfl rfl rfl ?_
  exact hb0 _ (by omega) _ _ r1 a0 h
def e_W_next_320 (M : rf_M) (K : rf_M → Prop) : Prop := K M
theorem E_W_next_320 {fz : Bool} {S : gS} {B : rf_M} {M : rf_M} {ls : rf_L} {n0 : Nat} {K : rf_M → Prop} (hS : rl S) (hR : fl 353 406 B M) (h : e_W_next_320 M K) : lx (cx0 fz) n0 132 320 ls [] (M, S) (vl_v 353 406 B S K) := by
  unfold e_W_next_320 at h
  exact l_rv rfl rfl hR h
def e_W_next_117 (v1 : Int) (v2 : Int) (s0 : Int64) (M : rf_M) (b79 : Int → Int → Int64 → rf_M → Prop) (K : rf_M → Prop) : Prop := ∀ M1 : rf_M, M1 = wi M 353 3 ((gi M 353 3) + 1) → (inr (v2 + 1) ∧ (b79 v1 (v2 + 1) s0 M1))
theorem E_W_next_117 {fz : Bool} {S : gS} {B : rf_M} {M : rf_M} {ls : rf_L} {n0 : Nat} {v1 : Int} {v2 : Int} {s0 : Int64} {b79 : Int → Int → Int64 → rf_M → Prop} {K : rf_M → Prop} (hS : rl S) (hR : fl 353 406 B M) (iv1 : inr v1) (iv2 : inr v2) (a0 : rf_ld ls 0 = some (.ref 353)) (a1 : rf_ld ls 1 = some (zv v1)) (a2 : rf_ld ls 2 = some (zv v2)) (hb79 : ∀ n', n' < n0 → ∀ (v1 : Int) (v2 : Int) (v3 : Int64) (M : rf_M) (ls : rf_L), fl 353 406 B M → inr v1 → inr v2 → rf_ld ls 0 = some (.ref 353) → rf_ld ls 1 = some (zv v1) → rf_ld ls 2 = some (zv v2) → rf_ld ls 3 = some (.long v3) → b79 v1 v2 v3 M → lx (cx0 fz) n' 132 79 ls [] (M, S) (vl_v 353 406 B S K)) (h : e_W_next_117 v1 v2 s0 M b79 K) : lx (cx0 fz) n0 132 117 ls [.long s0] (M, S) (vl_v 353 406 B S K) := by
  unfold e_W_next_117 at h
  rcases Nat.eq_zero_or_pos n0 with e0 | hp
  · rw [e0]; exact lx_zero
  refine l_s2 (n := 1) rfl rfl rfl rfl (fun ls y1 ho => ?_)
  have y2 := ho 0 _ (by decide) (by decide) (fun q => by cases q.2) a0
  have y3 := ho 1 _ (by decide) (by decide) (fun q => by cases q.2) a1
  have y4 := ho 2 _ (by decide) (by decide) (fun q => by cases q.2) a2
  refine l_ii rfl y4 (Nat.le_of_ble_eq_true rfl) (fun ls y5 ho => ?_)
  have y6 := ho 0 _ (by decide) (fun q => by cases q.2) y2
  have y7 := ho 1 _ (by decide) (fun q => by cases q.2) y3
  have y8 := ho 3 _ (by decide) (fun q => absurd q.1 (by decide)) y1
  refine l1 (n := 1) rfl rfl rfl (la_of y6) ?_
  refine l0 rfl rfl rfl ?_
  refine l_gi rfl (ko_11 hS (List.Mem.head _)) rfl (fun _ => rfl) ?_
  refine l1 (n := 1) rfl rfl rfl rfl ?_
  refine l_add rfl ?_
  refine l_pi rfl (ko_11 (fz := fz) hS (List.Mem.head _)) rfl (fun _ _ => rfl) (fun M1 e => ?_)
  replace h := h M1 e
  have r1 := hR.wi (Nat.le_of_ble_eq_true rfl) (Nat.le_of_ble_eq_true rfl) e
  refine l3 rfl rfl rfl ?_
  obtain ⟨i1, h⟩ := h
  exact hb79 _ (by omega) _ _ _ _ _ r1 iv1 i1 y6 y7 y5 y8 h
def e_W_next_182 (s1 : Int) (M : rf_M) (K : rf_M → Prop) : Prop := ∀ M1 : rf_M, M1 = wi M 353 4 s1 → (e_W_next_320 M1 K)
theorem E_W_next_182 {fz : Bool} {S : gS} {B : rf_M} {M : rf_M} {ls : rf_L} {n0 : Nat} {s1 : Int} {K : rf_M → Prop} (hS : rl S) (hR : fl 353 406 B M) (is1 : inr s1) (h : e_W_next_182 s1 M K) : lx (cx0 fz) n0 132 182 ls [zv s1, .ref 353] (M, S) (vl_v 353 406 B S K) := by
  unfold e_W_next_182 at h
  refine l_pi rfl (ko_11 (fz := fz) hS (List.Mem.head _)) rfl (fun _ _ => rfl) (fun M1 e => ?_)
  replace h := h M1 e
  have r1 := hR.wi (Nat.le_of_ble_eq_true rfl) (Nat.le_of_ble_eq_true rfl) e
  refine l3 rfl rfl rfl ?_
  exact E_W_next_320 hS r1  h
def e_W_next_156 (v2 : Int) (s0 : Int) (M : rf_M) (K : rf_M → Prop) : Prop := (v2 = 1 → (e_W_next_182 2 M K)) ∧ (¬ v2 = 1 → ((0 ≤ s0 → (inr (10 + s0) ∧ (e_W_next_182 (10 + s0) M K))) ∧ (¬ (0 ≤ s0) → (e_W_next_182 1 M K))))
theorem E_W_next_156 {fz : Bool} {S : gS} {B : rf_M} {M : rf_M} {ls : rf_L} {n0 : Nat} {v2 : Int} {s0 : Int} {K : rf_M → Prop} (hS : rl S) (hR : fl 353 406 B M) (iv2 : inr v2) (is0 : inr s0) (a0 : rf_ld ls 0 = some (.ref 353)) (a2 : rf_ld ls 2 = some (zv v2)) (h : e_W_next_156 v2 s0 M K) : lx (cx0 fz) n0 132 156 ls [zv s0] (M, S) (vl_v 353 406 B S K) := by
  unfold e_W_next_156 at h
  refine l_s1 (n := 2) rfl rfl rfl rfl (fun ls y1 ho => ?_)
  have y2 := ho 0 _ (by decide) (fun q => by cases q.2) a0
  have y3 := ho 2 _ (by decide) (fun q => by cases q.2) a2
  refine l1 (n := 1) rfl rfl rfl (la_of y2) ?_
  refine l1 (n := 1) rfl rfl rfl (li_of y3) ?_
  refine l1 (n := 1) rfl rfl rfl rfl ?_
  refine l_ic rfl iv2 ⟨by decide, by decide⟩ (fun c => ?_) (fun c => ?_)
  · replace h := h.2 c
    refine l1 (n := 2) rfl rfl rfl (li_of y1) ?_
    refine l_if rfl is0 (fun c => ?_) (fun c => ?_)
    · replace h := h.1 c
      refine l_bi rfl (by decide) ?_
      refine l1 (n := 2) rfl rfl rfl (li_of y1) ?_
      refine l_add rfl ?_
      obtain ⟨i1, h⟩ := h
      exact E_W_next_182 hS hR i1 h
    · replace h := h.2 c
      refine l1 (n := 1) rfl rfl rfl rfl ?_
      refine l3 rfl rfl rfl ?_
      exact E_W_next_182 hS hR ⟨by decide, by decide⟩ h
  · replace h := h.1 (Classical.not_not.mp c)
    refine l1 (n := 1) rfl rfl rfl rfl ?_
    refine l3 rfl rfl rfl ?_
    exact E_W_next_182 hS hR ⟨by decide, by decide⟩ h
def e_W_next_79b (v1 : Int) (v2 : Int) (v3 : Int64) (M : rf_M) (b79 : Int → Int → Int64 → rf_M → Prop) (K : rf_M → Prop) : Prop := em_W_byteAt (gi M 353 3) M (fun (z1 : Int) (M1 : rf_M) => em_W_isSmall z1 M1 (fun (z2 : Int) (M2 : rf_M) => (z2 = 0 → (∀ M3 : rf_M, M3 = wi M2 353 6 (v1 - 97) → ((7 ≤ v2 → (e_W_next_156 v2 (-1) M3 K)) ∧ (¬ (7 ≤ v2) → (em_W_wordOf v3 M3 (fun (z4 : Int) (M4 : rf_M) => e_W_next_156 v2 z4 M4 K)))))) ∧ (¬ (z2 = 0) → ((7 ≤ v2 → (e_W_next_117 v1 v2 v3 M2 b79 K)) ∧ (¬ (7 ≤ v2) → (em_W_byteAt (gi M2 353 3) M2 (fun (z5 : Int) (M5 : rf_M) => e_W_next_117 v1 v2 ((v3 <<< ((Int32.ofInt 8).toInt64 &&& 63)) ||| (Int32.ofInt z5).toInt64) M5 b79 K)))))))
theorem E_W_next_79b {fz : Bool} {S : gS} {B : rf_M} {M : rf_M} {ls : rf_L} {n0 : Nat} {v1 : Int} {v2 : Int} {v3 : Int64} {b79 : Int → Int → Int64 → rf_M → Prop} {K : rf_M → Prop} (hS : rl S) (hR : fl 353 406 B M) (iv1 : inr v1) (iv2 : inr v2) (a0 : rf_ld ls 0 = some (.ref 353)) (a1 : rf_ld ls 1 = some (zv v1)) (a2 : rf_ld ls 2 = some (zv v2)) (a3 : rf_ld ls 3 = some (.long v3)) (hb79 : ∀ n', n' < n0 → ∀ (v1 : Int) (v2 : Int) (v3 : Int64) (M : rf_M) (ls : rf_L), fl 353 406 B M → inr v1 → inr v2 → rf_ld ls 0 = some (.ref 353) → rf_ld ls 1 = some (zv v1) → rf_ld ls 2 = some (zv v2) → rf_ld ls 3 = some (.long v3) → b79 v1 v2 v3 M → lx (cx0 fz) n' 132 79 ls [] (M, S) (vl_v 353 406 B S K)) (h : e_W_next_79b v1 v2 v3 M b79 K) : lx (cx0 fz) n0 132 79 ls [] (M, S) (vl_v 353 406 B S K) := by
  unfold e_W_next_79b at h
  rcases Nat.eq_zero_or_pos n0 with e0 | hp
  · rw [e0]; exact lx_zero
  refine l1 (n := 1) rfl rfl rfl (la_of a0) ?_
  refine l1 (n := 1) rfl rfl rfl (la_of a0) ?_
  refine l_gi rfl (ko_11 hS (List.Mem.head _)) rfl (fun _ => rfl) ?_
  refine b_iv (c := 353) (as := [zv (gi M 353 3)]) (rest := []) rfl (by decide) (ko_11 hS (List.Mem.head _)) rfl rfl (Nat.le_of_ble_eq_true rfl) (fun hq => ?_)
  refine lx_mono (E_W_byteAt_m hS hR (inr_gi _ _ _) h) ?_
  rintro _ _ ⟨z1, M1, rfl, rfl, r1, iz1, h⟩
  refine b_st (as := [zv z1]) (rest := []) rfl (by decide) rfl (Nat.le_of_ble_eq_true rfl) (fun hq => ?_)
  refine lx_mono (E_W_isSmall_m hS r1 iz1 h) ?_
  rintro _ _ ⟨z2, M2, rfl, rfl, r2, iz2, h⟩
  refine l_if rfl iz2 (fun c => ?_) (fun c => ?_)
  · replace h := h.1 c
    refine l1 (n := 1) rfl rfl rfl (la_of a0) ?_
    refine l1 (n := 1) rfl rfl rfl (li_of a1) ?_
    refine l_bi rfl (by decide) ?_
    refine l_sub rfl ?_
    refine l_pi rfl (ko_11 (fz := fz) hS (List.Mem.head _)) rfl (fun _ _ => rfl) (fun M3 e => ?_)
    replace h := h M3 e
    have r3 := r2.wi (Nat.le_of_ble_eq_true rfl) (Nat.le_of_ble_eq_true rfl) e
    refine l1 (n := 1) rfl rfl rfl (li_of a2) ?_
    refine l_bi rfl (by decide) ?_
    refine l_ic rfl iv2 ⟨by decide, by decide⟩ (fun c => ?_) (fun c => ?_)
    · replace h := h.1 c
      refine l1 (n := 1) rfl rfl rfl rfl ?_
      exact E_W_next_156 hS r3 iv2 ⟨by decide, by decide⟩ a0 a2 h
    · replace h := h.2 c
      refine l1 (n := 1) rfl rfl rfl (ll_of a3) ?_
      refine b_st (as := [.long v3]) (rest := []) rfl (by decide) rfl (Nat.le_of_ble_eq_true rfl) (fun hq => ?_)
      refine lx_mono (E_W_wordOf_m hS r3 h) ?_
      rintro _ _ ⟨z4, M4, rfl, rfl, r4, iz4, h⟩
      refine l3 rfl rfl rfl ?_
      exact E_W_next_156 hS r4 iv2 iz4 a0 a2 h
  · replace h := h.2 c
    refine l1 (n := 1) rfl rfl rfl (li_of a2) ?_
    refine l_bi rfl (by decide) ?_
    refine l_ic rfl iv2 ⟨by decide, by decide⟩ (fun c => ?_) (fun c => ?_)
    · replace h := h.1 c
      refine l1 (n := 1) rfl rfl rfl (ll_of a3) ?_
      exact E_W_next_117 hS r2 iv1 iv2 a0 a1 a2 (fun n' hn' => hb79 n' (by omega)) h
    · replace h := h.2 c
      refine l1 (n := 1) rfl rfl rfl (ll_of a3) ?_
      refine l_bi rfl (by decide) ?_
      refine l0 rfl rfl rfl ?_
      refine l1 (n := 1) rfl rfl rfl (la_of a0) ?_
      refine l1 (n := 1) rfl rfl rfl (la_of a0) ?_
      refine l_gi rfl (ko_11 hS (List.Mem.head _)) rfl (fun _ => rfl) ?_
      refine b_iv (c := 353) (as := [zv (gi M2 353 3)]) (rest := [.long (v3 <<< ((Int32.ofInt 8).toInt64 &&& 63))]) rfl (by decide) (ko_11 hS (List.Mem.head _)) rfl rfl (Nat.le_of_ble_eq_true rfl) (fun hq => ?_)
      refine lx_mono (E_W_byteAt_m hS r2 (inr_gi _ _ _) h) ?_
      rintro _ _ ⟨z5, M5, rfl, rfl, r5, iz5, h⟩
      refine l0 rfl rfl rfl ?_
      refine l0 rfl rfl rfl ?_
      refine l3 rfl rfl rfl ?_
      exact E_W_next_117 hS r5 iv1 iv2 a0 a1 a2 (fun n' hn' => hb79 n' (by omega)) h
def e_W_next_79 (v1 : Int) (v2 : Int) (v3 : Int64) (M : rf_M) (K : rf_M → Prop) : Prop := ∃ Inv : Int → Int → Int64 → rf_M → Prop, Inv v1 v2 v3 M ∧ ∀ (v1 : Int) (v2 : Int) (v3 : Int64) (M : rf_M), inr v1 → inr v2 → Inv v1 v2 v3 M → e_W_next_79b v1 v2 v3 M Inv K
theorem E_W_next_79 {fz : Bool} {S : gS} {B : rf_M} {M : rf_M} {ls : rf_L} {n0 : Nat} {v1 : Int} {v2 : Int} {v3 : Int64} {K : rf_M → Prop} (hS : rl S) (hR : fl 353 406 B M) (iv1 : inr v1) (iv2 : inr v2) (a0 : rf_ld ls 0 = some (.ref 353)) (a1 : rf_ld ls 1 = some (zv v1)) (a2 : rf_ld ls 2 = some (zv v2)) (a3 : rf_ld ls 3 = some (.long v3)) (h : e_W_next_79 v1 v2 v3 M K) : lx (cx0 fz) n0 132 79 ls [] (M, S) (vl_v 353 406 B S K) := by
  obtain ⟨Inv, hm, hb⟩ := h
  induction n0 using Nat.strongRecOn generalizing ls M v1 v2 v3 with
  | _ n0 ih =>
    refine E_W_next_79b hS hR iv1 iv2 a0 a1 a2 a3 (fun n' hn' v1' v2' v3' M' ls' hR' f0 f1 f2 f3 f4 f5 q2 => ih n' hn' hR' f0 f1 f2 f3 f4 f5 q2) (hb v1 v2 v3 M iv1 iv2 hm)
def e_W_next_252 (v2 : Int) (s1 : Int64) (M : rf_M) (b202 : Int → rf_M → Prop) (K : rf_M → Prop) : Prop := ∀ M1 : rf_M, M1 = wl M 353 7 s1 → (∀ M2 : rf_M, M2 = wi M1 353 3 ((gi M1 353 3) + 1) → (inr (v2 + 1) ∧ (b202 (v2 + 1) M2)))
theorem E_W_next_252 {fz : Bool} {S : gS} {B : rf_M} {M : rf_M} {ls : rf_L} {n0 : Nat} {v2 : Int} {s1 : Int64} {b202 : Int → rf_M → Prop} {K : rf_M → Prop} (hS : rl S) (hR : fl 353 406 B M) (iv2 : inr v2) (a0 : rf_ld ls 0 = some (.ref 353)) (a2 : rf_ld ls 2 = some (zv v2)) (hb202 : ∀ n', n' < n0 → ∀ (v2 : Int) (M : rf_M) (ls : rf_L), fl 353 406 B M → inr v2 → rf_ld ls 0 = some (.ref 353) → rf_ld ls 2 = some (zv v2) → b202 v2 M → lx (cx0 fz) n' 132 202 ls [] (M, S) (vl_v 353 406 B S K)) (h : e_W_next_252 v2 s1 M b202 K) : lx (cx0 fz) n0 132 252 ls [.long s1, .ref 353] (M, S) (vl_v 353 406 B S K) := by
  unfold e_W_next_252 at h
  rcases Nat.eq_zero_or_pos n0 with e0 | hp
  · rw [e0]; exact lx_zero
  refine l_pl rfl (ko_11 (fz := fz) hS (List.Mem.head _)) rfl (fun _ _ => rfl) (fun M1 e => ?_)
  replace h := h M1 e
  have r1 := hR.wl (Nat.le_of_ble_eq_true rfl) (Nat.le_of_ble_eq_true rfl) e
  refine l_ii rfl a2 (Nat.le_of_ble_eq_true rfl) (fun ls y1 ho => ?_)
  have y2 := ho 0 _ (by decide) (fun q => by cases q.2) a0
  refine l1 (n := 1) rfl rfl rfl (la_of y2) ?_
  refine l0 rfl rfl rfl ?_
  refine l_gi rfl (ko_11 hS (List.Mem.head _)) rfl (fun _ => rfl) ?_
  refine l1 (n := 1) rfl rfl rfl rfl ?_
  refine l_add rfl ?_
  refine l_pi rfl (ko_11 (fz := fz) hS (List.Mem.head _)) rfl (fun _ _ => rfl) (fun M2 e => ?_)
  replace h := h M2 e
  have r2 := r1.wi (Nat.le_of_ble_eq_true rfl) (Nat.le_of_ble_eq_true rfl) e
  refine l3 rfl rfl rfl ?_
  obtain ⟨i1, h⟩ := h
  exact hb202 _ (by omega) _ _ _ r2 i1 y2 y1 h
def e_W_next_283 (s1 : Int) (M : rf_M) (K : rf_M → Prop) : Prop := ∀ M1 : rf_M, M1 = wi M 353 4 s1 → (e_W_next_320 M1 K)
theorem E_W_next_283 {fz : Bool} {S : gS} {B : rf_M} {M : rf_M} {ls : rf_L} {n0 : Nat} {s1 : Int} {K : rf_M → Prop} (hS : rl S) (hR : fl 353 406 B M) (is1 : inr s1) (h : e_W_next_283 s1 M K) : lx (cx0 fz) n0 132 283 ls [zv s1, .ref 353] (M, S) (vl_v 353 406 B S K) := by
  unfold e_W_next_283 at h
  refine l_pi rfl (ko_11 (fz := fz) hS (List.Mem.head _)) rfl (fun _ _ => rfl) (fun M1 e => ?_)
  replace h := h M1 e
  have r1 := hR.wi (Nat.le_of_ble_eq_true rfl) (Nat.le_of_ble_eq_true rfl) e
  refine l3 rfl rfl rfl ?_
  exact E_W_next_320 hS r1  h
def e_W_next_202b (v2 : Int) (M : rf_M) (b202 : Int → rf_M → Prop) (K : rf_M → Prop) : Prop := em_W_byteAt (gi M 353 3) M (fun (z1 : Int) (M1 : rf_M) => em_W_isFigure z1 M1 (fun (z2 : Int) (M2 : rf_M) => (z2 = 0 → ((v2 ≤ 9 → (e_W_next_283 3 M2 K)) ∧ (¬ (v2 ≤ 9) → (e_W_next_283 1 M2 K)))) ∧ (¬ (z2 = 0) → ((9 ≤ v2 → (e_W_next_252 v2 (gl M2 353 7) M2 b202 K)) ∧ (¬ (9 ≤ v2) → (em_W_byteAt (gi M2 353 3) M2 (fun (z3 : Int) (M3 : rf_M) => e_W_next_252 v2 ((((Int64.ofNat 10) * (gl M2 353 7)) + (Int32.ofInt z3).toInt64) - (Int64.ofNat 48)) M3 b202 K)))))))
theorem E_W_next_202b {fz : Bool} {S : gS} {B : rf_M} {M : rf_M} {ls : rf_L} {n0 : Nat} {v2 : Int} {b202 : Int → rf_M → Prop} {K : rf_M → Prop} (hS : rl S) (hR : fl 353 406 B M) (iv2 : inr v2) (a0 : rf_ld ls 0 = some (.ref 353)) (a2 : rf_ld ls 2 = some (zv v2)) (hb202 : ∀ n', n' < n0 → ∀ (v2 : Int) (M : rf_M) (ls : rf_L), fl 353 406 B M → inr v2 → rf_ld ls 0 = some (.ref 353) → rf_ld ls 2 = some (zv v2) → b202 v2 M → lx (cx0 fz) n' 132 202 ls [] (M, S) (vl_v 353 406 B S K)) (h : e_W_next_202b v2 M b202 K) : lx (cx0 fz) n0 132 202 ls [] (M, S) (vl_v 353 406 B S K) := by
  unfold e_W_next_202b at h
  rcases Nat.eq_zero_or_pos n0 with e0 | hp
  · rw [e0]; exact lx_zero
  refine l1 (n := 1) rfl rfl rfl (la_of a0) ?_
  refine l1 (n := 1) rfl rfl rfl (la_of a0) ?_
  refine l_gi rfl (ko_11 hS (List.Mem.head _)) rfl (fun _ => rfl) ?_
  refine b_iv (c := 353) (as := [zv (gi M 353 3)]) (rest := []) rfl (by decide) (ko_11 hS (List.Mem.head _)) rfl rfl (Nat.le_of_ble_eq_true rfl) (fun hq => ?_)
  refine lx_mono (E_W_byteAt_m hS hR (inr_gi _ _ _) h) ?_
  rintro _ _ ⟨z1, M1, rfl, rfl, r1, iz1, h⟩
  refine b_st (as := [zv z1]) (rest := []) rfl (by decide) rfl (Nat.le_of_ble_eq_true rfl) (fun hq => ?_)
  refine lx_mono (E_W_isFigure_m hS r1 iz1 h) ?_
  rintro _ _ ⟨z2, M2, rfl, rfl, r2, iz2, h⟩
  refine l_if rfl iz2 (fun c => ?_) (fun c => ?_)
  · replace h := h.1 c
    refine l1 (n := 1) rfl rfl rfl (la_of a0) ?_
    refine l1 (n := 1) rfl rfl rfl (li_of a2) ?_
    refine l_bi rfl (by decide) ?_
    refine l_ic rfl iv2 ⟨by decide, by decide⟩ (fun c => ?_) (fun c => ?_)
    · replace h := h.1 c
      refine l1 (n := 1) rfl rfl rfl rfl ?_
      exact E_W_next_283 hS r2 ⟨by decide, by decide⟩ h
    · replace h := h.2 c
      refine l1 (n := 1) rfl rfl rfl rfl ?_
      refine l3 rfl rfl rfl ?_
      exact E_W_next_283 hS r2 ⟨by decide, by decide⟩ h
  · replace h := h.2 c
    refine l1 (n := 1) rfl rfl rfl (la_of a0) ?_
    refine l1 (n := 1) rfl rfl rfl (li_of a2) ?_
    refine l_bi rfl (by decide) ?_
    refine l_ic rfl iv2 ⟨by decide, by decide⟩ (fun c => ?_) (fun c => ?_)
    · replace h := h.1 c
      refine l1 (n := 1) rfl rfl rfl (la_of a0) ?_
      refine l_gl rfl (ko_11 hS (List.Mem.head _)) rfl (fun _ => rfl) ?_
      exact E_W_next_252 hS r2 iv2 a0 a2 (fun n' hn' => hb202 n' (by omega)) h
    · replace h := h.2 c
      refine l7 (n := 3) rfl rfl rfl rfl ?_
      refine l1 (n := 1) rfl rfl rfl (la_of a0) ?_
      refine l_gl rfl (ko_11 hS (List.Mem.head _)) rfl (fun _ => rfl) ?_
      refine l0 rfl rfl rfl ?_
      refine l1 (n := 1) rfl rfl rfl (la_of a0) ?_
      refine l1 (n := 1) rfl rfl rfl (la_of a0) ?_
      refine l_gi rfl (ko_11 hS (List.Mem.head _)) rfl (fun _ => rfl) ?_
      refine b_iv (c := 353) (as := [zv (gi M2 353 3)]) (rest := [.long ((Int64.ofNat 10) * (gl M2 353 7)), .ref 353]) rfl (by decide) (ko_11 hS (List.Mem.head _)) rfl rfl (Nat.le_of_ble_eq_true rfl) (fun hq => ?_)
      refine lx_mono (E_W_byteAt_m hS r2 (inr_gi _ _ _) h) ?_
      rintro _ _ ⟨z3, M3, rfl, rfl, r3, iz3, h⟩
      refine l0 rfl rfl rfl ?_
      refine l0 rfl rfl rfl ?_
      refine l7 (n := 3) rfl rfl rfl rfl ?_
      refine l0 rfl rfl rfl ?_
      refine l3 rfl rfl rfl ?_
      exact E_W_next_252 hS r3 iv2 a0 a2 (fun n' hn' => hb202 n' (by omega)) h
def e_W_next_202 (v2 : Int) (M : rf_M) (K : rf_M → Prop) : Prop := ∃ Inv : Int → rf_M → Prop, Inv v2 M ∧ ∀ (v2 : Int) (M : rf_M), inr v2 → Inv v2 M → e_W_next_202b v2 M Inv K
theorem E_W_next_202 {fz : Bool} {S : gS} {B : rf_M} {M : rf_M} {ls : rf_L} {n0 : Nat} {v2 : Int} {K : rf_M → Prop} (hS : rl S) (hR : fl 353 406 B M) (iv2 : inr v2) (a0 : rf_ld ls 0 = some (.ref 353)) (a2 : rf_ld ls 2 = some (zv v2)) (h : e_W_next_202 v2 M K) : lx (cx0 fz) n0 132 202 ls [] (M, S) (vl_v 353 406 B S K) := by
  obtain ⟨Inv, hm, hb⟩ := h
  induction n0 using Nat.strongRecOn generalizing ls M v2 with
  | _ n0 ih =>
    refine E_W_next_202b hS hR iv2 a0 a2 (fun n' hn' v2' M' ls' hR' f0 f1 f2 q2 => ih n' hn' hR' f0 f1 f2 q2) (hb v2 M iv2 hm)
def e_W_next_307 (s1 : Int) (M : rf_M) (K : rf_M → Prop) : Prop := ∀ M1 : rf_M, M1 = wi M 353 4 s1 → (∀ M2 : rf_M, M2 = wi M1 353 3 ((gi M1 353 3) + 1) → (e_W_next_320 M2 K))
theorem E_W_next_307 {fz : Bool} {S : gS} {B : rf_M} {M : rf_M} {ls : rf_L} {n0 : Nat} {s1 : Int} {K : rf_M → Prop} (hS : rl S) (hR : fl 353 406 B M) (is1 : inr s1) (a0 : rf_ld ls 0 = some (.ref 353)) (h : e_W_next_307 s1 M K) : lx (cx0 fz) n0 132 307 ls [zv s1, .ref 353] (M, S) (vl_v 353 406 B S K) := by
  unfold e_W_next_307 at h
  refine l_pi rfl (ko_11 (fz := fz) hS (List.Mem.head _)) rfl (fun _ _ => rfl) (fun M1 e => ?_)
  replace h := h M1 e
  have r1 := hR.wi (Nat.le_of_ble_eq_true rfl) (Nat.le_of_ble_eq_true rfl) e
  refine l1 (n := 1) rfl rfl rfl (la_of a0) ?_
  refine l0 rfl rfl rfl ?_
  refine l_gi rfl (ko_11 hS (List.Mem.head _)) rfl (fun _ => rfl) ?_
  refine l1 (n := 1) rfl rfl rfl rfl ?_
  refine l_add rfl ?_
  refine l_pi rfl (ko_11 (fz := fz) hS (List.Mem.head _)) rfl (fun _ _ => rfl) (fun M2 e => ?_)
  replace h := h M2 e
  have r2 := r1.wi (Nat.le_of_ble_eq_true rfl) (Nat.le_of_ble_eq_true rfl) e
  exact E_W_next_320 hS r2  h
def e_W_next_0b (M : rf_M) (b0 : rf_M → Prop) (K : rf_M → Prop) : Prop := em_W_byteAt (gi M 353 3) M (fun (z1 : Int) (M1 : rf_M) => (z1 = 32 → (e_W_next_26 M1 b0 K)) ∧ (¬ (z1 = 32) → (em_W_byteAt (gi M1 353 3) M1 (fun (z2 : Int) (M2 : rf_M) => (z2 = 10 → (e_W_next_26 M2 b0 K)) ∧ (¬ z2 = 10 → (∀ M3 : rf_M, M3 = wi M2 353 5 (gi M2 353 3) → (em_W_byteAt (gi M3 353 3) M3 (fun (z4 : Int) (M4 : rf_M) => (0 ≤ z4 → (em_W_isSmall z4 M4 (fun (z5 : Int) (M5 : rf_M) => (z5 = 0 → (em_W_isFigure z4 M5 (fun (z6 : Int) (M6 : rf_M) => (z6 = 0 → (∀ M7 : rf_M, M7 = wi M6 353 8 z4 → (em_W_isSignByte z4 M7 (fun (z8 : Int) (M8 : rf_M) => (z8 = 0 → (e_W_next_307 1 M8 K)) ∧ (¬ (z8 = 0) → (e_W_next_307 4 M8 K)))))) ∧ (¬ (z6 = 0) → (∀ M9 : rf_M, M9 = wl M6 353 7 (Int64.ofNat 0) → (e_W_next_202 0 M9 K)))))) ∧ (¬ (z5 = 0) → (e_W_next_79 z4 0 (Int64.ofNat 0) M5 K))))) ∧ (¬ (0 ≤ z4) → (∀ M10 : rf_M, M10 = wi M4 353 4 0 → (e_W_next_320 M10 K)))))))))))
theorem E_W_next_0b {fz : Bool} {S : gS} {B : rf_M} {M : rf_M} {ls : rf_L} {n0 : Nat} {b0 : rf_M → Prop} {K : rf_M → Prop} (hS : rl S) (hR : fl 353 406 B M) (a0 : rf_ld ls 0 = some (.ref 353)) (hb0 : ∀ n', n' < n0 → ∀ (M : rf_M) (ls : rf_L), fl 353 406 B M → rf_ld ls 0 = some (.ref 353) → b0  M → lx (cx0 fz) n' 132 0 ls [] (M, S) (vl_v 353 406 B S K)) (h : e_W_next_0b M b0 K) : lx (cx0 fz) n0 132 0 ls [] (M, S) (vl_v 353 406 B S K) := by
  unfold e_W_next_0b at h
  rcases Nat.eq_zero_or_pos n0 with e0 | hp
  · rw [e0]; exact lx_zero
  refine l1 (n := 1) rfl rfl rfl (la_of a0) ?_
  refine l1 (n := 1) rfl rfl rfl (la_of a0) ?_
  refine l_gi rfl (ko_11 hS (List.Mem.head _)) rfl (fun _ => rfl) ?_
  refine b_iv (c := 353) (as := [zv (gi M 353 3)]) (rest := []) rfl (by decide) (ko_11 hS (List.Mem.head _)) rfl rfl (Nat.le_of_ble_eq_true rfl) (fun hq => ?_)
  refine lx_mono (E_W_byteAt_m hS hR (inr_gi _ _ _) h) ?_
  rintro _ _ ⟨z1, M1, rfl, rfl, r1, iz1, h⟩
  refine l_bi rfl (by decide) ?_
  refine l_ic rfl iz1 ⟨by decide, by decide⟩ (fun c => ?_) (fun c => ?_)
  · replace h := h.1 c
    exact E_W_next_26 hS r1 a0 (fun n' hn' => hb0 n' (by omega)) h
  · replace h := h.2 c
    refine l1 (n := 1) rfl rfl rfl (la_of a0) ?_
    refine l1 (n := 1) rfl rfl rfl (la_of a0) ?_
    refine l_gi rfl (ko_11 hS (List.Mem.head _)) rfl (fun _ => rfl) ?_
    refine b_iv (c := 353) (as := [zv (gi M1 353 3)]) (rest := []) rfl (by decide) (ko_11 hS (List.Mem.head _)) rfl rfl (Nat.le_of_ble_eq_true rfl) (fun hq => ?_)
    refine lx_mono (E_W_byteAt_m hS r1 (inr_gi _ _ _) h) ?_
    rintro _ _ ⟨z2, M2, rfl, rfl, r2, iz2, h⟩
    refine l_bi rfl (by decide) ?_
    refine l_ic rfl iz2 ⟨by decide, by decide⟩ (fun c => ?_) (fun c => ?_)
    · replace h := h.2 c
      refine l1 (n := 1) rfl rfl rfl (la_of a0) ?_
      refine l1 (n := 1) rfl rfl rfl (la_of a0) ?_
      refine l_gi rfl (ko_11 hS (List.Mem.head _)) rfl (fun _ => rfl) ?_
      refine l_pi rfl (ko_11 (fz := fz) hS (List.Mem.head _)) rfl (fun _ _ => rfl) (fun M3 e => ?_)
      replace h := h M3 e
      have r3 := r2.wi (Nat.le_of_ble_eq_true rfl) (Nat.le_of_ble_eq_true rfl) e
      refine l1 (n := 1) rfl rfl rfl (la_of a0) ?_
      refine l1 (n := 1) rfl rfl rfl (la_of a0) ?_
      refine l_gi rfl (ko_11 hS (List.Mem.head _)) rfl (fun _ => rfl) ?_
      refine b_iv (c := 353) (as := [zv (gi M3 353 3)]) (rest := []) rfl (by decide) (ko_11 hS (List.Mem.head _)) rfl rfl (Nat.le_of_ble_eq_true rfl) (fun hq => ?_)
      refine lx_mono (E_W_byteAt_m hS r3 (inr_gi _ _ _) h) ?_
      rintro _ _ ⟨z4, M4, rfl, rfl, r4, iz4, h⟩
      refine l_s1 (n := 1) rfl rfl rfl rfl (fun ls y1 ho => ?_)
      have y2 := ho 0 _ (by decide) (fun q => by cases q.2) a0
      refine l1 (n := 1) rfl rfl rfl (li_of y1) ?_
      refine l_if rfl iz4 (fun c => ?_) (fun c => ?_)
      · replace h := h.1 c
        refine l1 (n := 1) rfl rfl rfl (li_of y1) ?_
        refine b_st (as := [zv z4]) (rest := []) rfl (by decide) rfl (Nat.le_of_ble_eq_true rfl) (fun hq => ?_)
        refine lx_mono (E_W_isSmall_m hS r4 iz4 h) ?_
        rintro _ _ ⟨z5, M5, rfl, rfl, r5, iz5, h⟩
        refine l_if rfl iz5 (fun c => ?_) (fun c => ?_)
        · replace h := h.1 c
          refine l1 (n := 1) rfl rfl rfl (li_of y1) ?_
          refine b_st (as := [zv z4]) (rest := []) rfl (by decide) rfl (Nat.le_of_ble_eq_true rfl) (fun hq => ?_)
          refine lx_mono (E_W_isFigure_m hS r5 iz4 h) ?_
          rintro _ _ ⟨z6, M6, rfl, rfl, r6, iz6, h⟩
          refine l_if rfl iz6 (fun c => ?_) (fun c => ?_)
          · replace h := h.1 c
            refine l1 (n := 1) rfl rfl rfl (la_of y2) ?_
            refine l1 (n := 1) rfl rfl rfl (li_of y1) ?_
            refine l_pi rfl (ko_11 (fz := fz) hS (List.Mem.head _)) rfl (fun _ _ => rfl) (fun M7 e => ?_)
            replace h := h M7 e
            have r7 := r6.wi (Nat.le_of_ble_eq_true rfl) (Nat.le_of_ble_eq_true rfl) e
            refine l1 (n := 1) rfl rfl rfl (la_of y2) ?_
            refine l1 (n := 1) rfl rfl rfl (li_of y1) ?_
            refine b_st (as := [zv z4]) (rest := [.ref 353]) rfl (by decide) rfl (Nat.le_of_ble_eq_true rfl) (fun hq => ?_)
            refine lx_mono (E_W_isSignByte_m hS r7 iz4 h) ?_
            rintro _ _ ⟨z8, M8, rfl, rfl, r8, iz8, h⟩
            refine l_if rfl iz8 (fun c => ?_) (fun c => ?_)
            · replace h := h.1 c
              refine l1 (n := 1) rfl rfl rfl rfl ?_
              exact E_W_next_307 hS r8 ⟨by decide, by decide⟩ y2 h
            · replace h := h.2 c
              refine l1 (n := 1) rfl rfl rfl rfl ?_
              refine l3 rfl rfl rfl ?_
              exact E_W_next_307 hS r8 ⟨by decide, by decide⟩ y2 h
          · replace h := h.2 c
            refine l1 (n := 1) rfl rfl rfl rfl ?_
            refine l_s1 (n := 1) rfl rfl rfl rfl (fun ls y3 ho => ?_)
            have y4 := ho 0 _ (by decide) (fun q => by cases q.2) y2
            refine l1 (n := 1) rfl rfl rfl (la_of y4) ?_
            refine l1 (n := 1) rfl rfl rfl rfl ?_
            refine l_pl rfl (ko_11 (fz := fz) hS (List.Mem.head _)) rfl (fun _ _ => rfl) (fun M9 e => ?_)
            replace h := h M9 e
            have r9 := r6.wl (Nat.le_of_ble_eq_true rfl) (Nat.le_of_ble_eq_true rfl) e
            exact E_W_next_202 hS r9 ⟨by decide, by decide⟩ y4 y3 h
        · replace h := h.2 c
          refine l1 (n := 1) rfl rfl rfl rfl ?_
          refine l_s1 (n := 1) rfl rfl rfl rfl (fun ls y5 ho => ?_)
          have y6 := ho 0 _ (by decide) (fun q => by cases q.2) y2
          have y7 := ho 1 _ (by decide) (fun q => by cases q.2) y1
          refine l1 (n := 1) rfl rfl rfl rfl ?_
          refine l_s2 (n := 1) rfl rfl rfl rfl (fun ls y8 ho => ?_)
          have y9 := ho 0 _ (by decide) (by decide) (fun q => by cases q.2) y6
          have y10 := ho 1 _ (by decide) (by decide) (fun q => by cases q.2) y7
          have y11 := ho 2 _ (by decide) (by decide) (fun q => by cases q.2) y5
          exact E_W_next_79 hS r5 iz4 ⟨by decide, by decide⟩ y9 y10 y11 y8 h
      · replace h := h.2 c
        refine l1 (n := 1) rfl rfl rfl (la_of y2) ?_
        refine l1 (n := 1) rfl rfl rfl rfl ?_
        refine l_pi rfl (ko_11 (fz := fz) hS (List.Mem.head _)) rfl (fun _ _ => rfl) (fun M10 e => ?_)
        replace h := h M10 e
        have r10 := r4.wi (Nat.le_of_ble_eq_true rfl) (Nat.le_of_ble_eq_true rfl) e
        refine l3 rfl rfl rfl ?_
        exact E_W_next_320 hS r10  h
    · replace h := h.1 (Classical.not_not.mp c)
      exact E_W_next_26 hS r2 a0 (fun n' hn' => hb0 n' (by omega)) h
def e_W_next_0 (M : rf_M) (K : rf_M → Prop) : Prop := ∃ Inv : rf_M → Prop, Inv M ∧ ∀ (M : rf_M), Inv M → e_W_next_0b M Inv K
theorem E_W_next_0 {fz : Bool} {S : gS} {B : rf_M} {M : rf_M} {ls : rf_L} {n0 : Nat} {K : rf_M → Prop} (hS : rl S) (hR : fl 353 406 B M) (a0 : rf_ld ls 0 = some (.ref 353)) (h : e_W_next_0 M K) : lx (cx0 fz) n0 132 0 ls [] (M, S) (vl_v 353 406 B S K) := by
  obtain ⟨Inv, hm, hb⟩ := h
  induction n0 using Nat.strongRecOn generalizing ls M with
  | _ n0 ih =>
    refine E_W_next_0b hS hR a0 (fun n' hn' M' ls' hR' f0 q2 => ih n' hn' hR' f0 q2) (hb M  hm)
def em_W_next (M : rf_M) (K : rf_M → Prop) : Prop := e_W_next_0  M K
theorem E_W_next_m {fz : Bool} {S : gS} {B : rf_M} {M : rf_M} {n0 : Nat} {K : rf_M → Prop} (hS : rl S) (hR : fl 353 406 B M) (h : em_W_next  M K) : lx (cx0 fz) n0 132 0 (lv_args 0 [.ref 353]) [] (M, S) (vl_v 353 406 B S K) :=
  E_W_next_0 hS hR rfl h
def e_W_isSign_21 (s0 : Int) (M : rf_M) (K : Int → rf_M → Prop) : Prop := (s0 = 0 ∨ s0 = 1) ∧ K s0 M
theorem E_W_isSign_21 {fz : Bool} {S : gS} {B : rf_M} {M : rf_M} {ls : rf_L} {n0 : Nat} {s0 : Int} {K : Int → rf_M → Prop} (hS : rl S) (hR : fl 353 406 B M) (is0 : inr s0) (h : e_W_isSign_21 s0 M K) : lx (cx0 fz) n0 138 21 ls [zv s0] (M, S) (vl_i 353 406 B S K) := by
  unfold e_W_isSign_21 at h
  exact l_rb rfl rfl h.1 hR h.2
def e_W_isSign_20 (M : rf_M) (K : Int → rf_M → Prop) : Prop := e_W_isSign_21 0 M K
theorem E_W_isSign_20 {fz : Bool} {S : gS} {B : rf_M} {M : rf_M} {ls : rf_L} {n0 : Nat} {K : Int → rf_M → Prop} (hS : rl S) (hR : fl 353 406 B M) (h : e_W_isSign_20 M K) : lx (cx0 fz) n0 138 20 ls [] (M, S) (vl_i 353 406 B S K) := by
  unfold e_W_isSign_20 at h
  refine l1 (n := 1) rfl rfl rfl rfl ?_
  exact E_W_isSign_21 hS hR ⟨by decide, by decide⟩ h
def e_W_isSign (v1 : Int) (M : rf_M) (K : Int → rf_M → Prop) : Prop := ((gi M 353 4) = 4 → (((gi M 353 8) = v1 → (e_W_isSign_21 1 M K)) ∧ (¬ (gi M 353 8) = v1 → (e_W_isSign_20 M K)))) ∧ (¬ (gi M 353 4) = 4 → (e_W_isSign_20 M K))
theorem E_W_isSign {fz : Bool} {S : gS} {B : rf_M} {M : rf_M} {ls : rf_L} {n0 : Nat} {v1 : Int} {K : Int → rf_M → Prop} (hS : rl S) (hR : fl 353 406 B M) (iv1 : inr v1) (a0 : rf_ld ls 0 = some (.ref 353)) (a1 : rf_ld ls 1 = some (zv v1)) (h : e_W_isSign v1 M K) : lx (cx0 fz) n0 138 0 ls [] (M, S) (vl_i 353 406 B S K) := by
  unfold e_W_isSign at h
  refine l1 (n := 1) rfl rfl rfl (la_of a0) ?_
  refine l_gi rfl (ko_11 hS (List.Mem.head _)) rfl (fun _ => rfl) ?_
  refine l1 (n := 1) rfl rfl rfl rfl ?_
  refine l_ic rfl (inr_gi _ _ _) ⟨by decide, by decide⟩ (fun c => ?_) (fun c => ?_)
  · replace h := h.2 c
    exact E_W_isSign_20 hS hR  h
  · replace h := h.1 (Classical.not_not.mp c)
    refine l1 (n := 1) rfl rfl rfl (la_of a0) ?_
    refine l_gi rfl (ko_11 hS (List.Mem.head _)) rfl (fun _ => rfl) ?_
    refine l1 (n := 1) rfl rfl rfl (li_of a1) ?_
    refine l_ic rfl (inr_gi _ _ _) iv1 (fun c => ?_) (fun c => ?_)
    · replace h := h.2 c
      exact E_W_isSign_20 hS hR  h
    · replace h := h.1 (Classical.not_not.mp c)
      refine l1 (n := 1) rfl rfl rfl rfl ?_
      refine l3 rfl rfl rfl ?_
      exact E_W_isSign_21 hS hR ⟨by decide, by decide⟩ h
def em_W_isSign (x1 : Int) (M : rf_M) (K : Int → rf_M → Prop) : Prop := e_W_isSign x1 M K
theorem E_W_isSign_m {fz : Bool} {S : gS} {B : rf_M} {M : rf_M} {n0 : Nat} {x1 : Int} {K : Int → rf_M → Prop} (hS : rl S) (hR : fl 353 406 B M) (ix1 : inr x1) (h : em_W_isSign x1 M K) : lx (cx0 fz) n0 138 0 (lv_args 0 [.ref 353, zv x1]) [] (M, S) (vl_i 353 406 B S K) :=
  E_W_isSign hS hR ix1 rfl rfl h
def e_W_misplaced_20 (M : rf_M) (K : rf_M → Prop) : Prop := K M
theorem E_W_misplaced_20 {fz : Bool} {S : gS} {B : rf_M} {M : rf_M} {ls : rf_L} {n0 : Nat} {K : rf_M → Prop} (hS : rl S) (hR : fl 353 406 B M) (h : e_W_misplaced_20 M K) : lx (cx0 fz) n0 139 20 ls [] (M, S) (vl_v 353 406 B S K) := by
  unfold e_W_misplaced_20 at h
  exact l_rv rfl rfl hR h
def e_W_misplaced (M : rf_M) (K : rf_M → Prop) : Prop := ((gi M 353 9) = 0 → (∀ M1 : rf_M, M1 = wi M 353 9 1 → (∀ M2 : rf_M, M2 = wi M1 353 10 (gi M1 353 5) → (e_W_misplaced_20 M2 K)))) ∧ (¬ (gi M 353 9) = 0 → (e_W_misplaced_20 M K))
theorem E_W_misplaced {fz : Bool} {S : gS} {B : rf_M} {M : rf_M} {ls : rf_L} {n0 : Nat} {K : rf_M → Prop} (hS : rl S) (hR : fl 353 406 B M) (a0 : rf_ld ls 0 = some (.ref 353)) (h : e_W_misplaced M K) : lx (cx0 fz) n0 139 0 ls [] (M, S) (vl_v 353 406 B S K) := by
  unfold e_W_misplaced at h
  refine l1 (n := 1) rfl rfl rfl (la_of a0) ?_
  refine l_gi rfl (ko_11 hS (List.Mem.head _)) rfl (fun _ => rfl) ?_
  refine l_if rfl (inr_gi _ _ _) (fun c => ?_) (fun c => ?_)
  · replace h := h.2 c
    exact E_W_misplaced_20 hS hR  h
  · replace h := h.1 (Classical.not_not.mp c)
    refine l1 (n := 1) rfl rfl rfl (la_of a0) ?_
    refine l1 (n := 1) rfl rfl rfl rfl ?_
    refine l_pb rfl (ko_11 (fz := fz) hS (List.Mem.head _)) rfl rfl (Or.inr rfl) (fun M1 e => ?_)
    replace h := h M1 e
    have r1 := hR.wi (Nat.le_of_ble_eq_true rfl) (Nat.le_of_ble_eq_true rfl) e
    refine l1 (n := 1) rfl rfl rfl (la_of a0) ?_
    refine l1 (n := 1) rfl rfl rfl (la_of a0) ?_
    refine l_gi rfl (ko_11 hS (List.Mem.head _)) rfl (fun _ => rfl) ?_
    refine l_pi rfl (ko_11 (fz := fz) hS (List.Mem.head _)) rfl (fun _ _ => rfl) (fun M2 e => ?_)
    replace h := h M2 e
    have r2 := r1.wi (Nat.le_of_ble_eq_true rfl) (Nat.le_of_ble_eq_true rfl) e
    exact E_W_misplaced_20 hS r2  h
def em_W_misplaced (M : rf_M) (K : rf_M → Prop) : Prop := e_W_misplaced  M K
theorem E_W_misplaced_m {fz : Bool} {S : gS} {B : rf_M} {M : rf_M} {n0 : Nat} {K : rf_M → Prop} (hS : rl S) (hR : fl 353 406 B M) (h : em_W_misplaced  M K) : lx (cx0 fz) n0 139 0 (lv_args 0 [.ref 353]) [] (M, S) (vl_v 353 406 B S K) :=
  E_W_misplaced hS hR rfl h
def e_W_openBody_18 (M : rf_M) (K : rf_M → Prop) : Prop := em_W_misplaced  M (fun (M1 : rf_M) => K M1)
theorem E_W_openBody_18 {fz : Bool} {S : gS} {B : rf_M} {M : rf_M} {ls : rf_L} {n0 : Nat} {K : rf_M → Prop} (hS : rl S) (hR : fl 353 406 B M) (a0 : rf_ld ls 0 = some (.ref 353)) (h : e_W_openBody_18 M K) : lx (cx0 fz) n0 141 18 ls [] (M, S) (vl_v 353 406 B S K) := by
  unfold e_W_openBody_18 at h
  refine l1 (n := 1) rfl rfl rfl (la_of a0) ?_
  refine b_iv (c := 353) (as := []) (rest := []) rfl (by decide) (ko_11 hS (List.Mem.head _)) rfl rfl (Nat.le_of_ble_eq_true rfl) (fun hq => ?_)
  refine lx_mono (E_W_misplaced_m hS hR h) ?_
  rintro _ _ ⟨M1, rfl, rfl, r1, h⟩
  exact l_rv rfl rfl r1 h
def e_W_openBody_73 (v1 : Int) (v2 : Int) (s1 : Int) (s2 : Int) (M : rf_M) (K : rf_M → Prop) : Prop := (0 ≤ s1 ∧ s1 < 12 → (∀ M1 : rf_M, M1 = wi M 357 (s1).toNat s2 → ((0 ≤ (gi M1 353 37) ∧ (gi M1 353 37) < 10 → (∀ M2 : rf_M, M2 = wi M1 373 (gi M1 353 37).toNat v1 → ((0 ≤ (gi M2 353 37) ∧ (gi M2 353 37) < 10 → (∀ M3 : rf_M, M3 = wi M2 374 (gi M2 353 37).toNat v2 → ((0 ≤ (gi M3 353 37) ∧ (gi M3 353 37) < 10 → (∀ M4 : rf_M, M4 = wi M3 375 (gi M3 353 37).toNat (-1) → (em_W_next  M4 (fun (M5 : rf_M) => K M5)))))))))))))
theorem E_W_openBody_73 {fz : Bool} {S : gS} {B : rf_M} {M : rf_M} {ls : rf_L} {n0 : Nat} {v1 : Int} {v2 : Int} {s1 : Int} {s2 : Int} {K : rf_M → Prop} (hS : rl S) (hR : fl 353 406 B M) (iv1 : inr v1) (iv2 : inr v2) (is1 : inr s1) (is2 : inr s2) (a0 : rf_ld ls 0 = some (.ref 353)) (a1 : rf_ld ls 1 = some (zv v1)) (a2 : rf_ld ls 2 = some (zv v2)) (h : e_W_openBody_73 v1 v2 s1 s2 M K) : lx (cx0 fz) n0 141 73 ls [zv s2, zv s1, .ref 357] (M, S) (vl_v 353 406 B S K) := by
  unfold e_W_openBody_73 at h
  refine b_is rfl (kc_357 (fz := fz) hS).1 (Nat.le_of_ble_eq_true rfl) is1 (fun q M1 e => ?_)
  replace h := h q M1 e
  have r1 := hR.wi (Nat.le_of_ble_eq_true rfl) (Nat.le_of_ble_eq_true rfl) e
  refine l1 (n := 1) rfl rfl rfl (la_of a0) ?_
  refine l_gr rfl (ko_11 hS (List.Mem.head _)) rfl (fun _ => rfl) (kf_11_34 r1.2 (List.Mem.head _)) ?_
  refine l1 (n := 1) rfl rfl rfl (la_of a0) ?_
  refine l_gi rfl (ko_11 hS (List.Mem.head _)) rfl (fun _ => rfl) ?_
  refine l1 (n := 1) rfl rfl rfl (li_of a1) ?_
  refine b_is rfl (kc_373 (fz := fz) hS).1 (Nat.le_of_ble_eq_true rfl) (inr_gi _ _ _) (fun q M2 e => ?_)
  replace h := h q M2 e
  have r2 := r1.wi (Nat.le_of_ble_eq_true rfl) (Nat.le_of_ble_eq_true rfl) e
  refine l1 (n := 1) rfl rfl rfl (la_of a0) ?_
  refine l_gr rfl (ko_11 hS (List.Mem.head _)) rfl (fun _ => rfl) (kf_11_35 r2.2 (List.Mem.head _)) ?_
  refine l1 (n := 1) rfl rfl rfl (la_of a0) ?_
  refine l_gi rfl (ko_11 hS (List.Mem.head _)) rfl (fun _ => rfl) ?_
  refine l1 (n := 1) rfl rfl rfl (li_of a2) ?_
  refine b_is rfl (kc_374 (fz := fz) hS).1 (Nat.le_of_ble_eq_true rfl) (inr_gi _ _ _) (fun q M3 e => ?_)
  replace h := h q M3 e
  have r3 := r2.wi (Nat.le_of_ble_eq_true rfl) (Nat.le_of_ble_eq_true rfl) e
  refine l1 (n := 1) rfl rfl rfl (la_of a0) ?_
  refine l_gr rfl (ko_11 hS (List.Mem.head _)) rfl (fun _ => rfl) (kf_11_36 r3.2 (List.Mem.head _)) ?_
  refine l1 (n := 1) rfl rfl rfl (la_of a0) ?_
  refine l_gi rfl (ko_11 hS (List.Mem.head _)) rfl (fun _ => rfl) ?_
  refine l1 (n := 1) rfl rfl rfl rfl ?_
  refine b_is rfl (kc_375 (fz := fz) hS).1 (Nat.le_of_ble_eq_true rfl) (inr_gi _ _ _) (fun q M4 e => ?_)
  replace h := h q M4 e
  have r4 := r3.wi (Nat.le_of_ble_eq_true rfl) (Nat.le_of_ble_eq_true rfl) e
  refine l1 (n := 1) rfl rfl rfl (la_of a0) ?_
  refine b_iv (c := 353) (as := []) (rest := []) rfl (by decide) (ko_11 hS (List.Mem.head _)) rfl rfl (Nat.le_of_ble_eq_true rfl) (fun hq => ?_)
  refine lx_mono (E_W_next_m hS r4 h) ?_
  rintro _ _ ⟨M5, rfl, rfl, r5, h⟩
  exact l_rv rfl rfl r5 h
def e_W_openBody (v1 : Int) (v2 : Int) (M : rf_M) (K : rf_M → Prop) : Prop := em_W_isSign 123 M (fun (z1 : Int) (M1 : rf_M) => (z1 = 0 → (e_W_openBody_18 M1 K)) ∧ (¬ (z1 = 0) → (((gi M1 353 37) = 8 → (e_W_openBody_18 M1 K)) ∧ (¬ (gi M1 353 37) = 8 → (∀ M2 : rf_M, M2 = wi M1 353 37 ((gi M1 353 37) + 1) → ((0 ≤ (gi M2 353 28) ∧ (gi M2 353 28) < 12 → (((gi M2 353 37) ≤ (gi M2 357 (gi M2 353 28).toNat) → ((0 ≤ (gi M2 353 28) ∧ (gi M2 353 28) < 12 → (e_W_openBody_73 v1 v2 (gi M2 353 28) (gi M2 357 (gi M2 353 28).toNat) M2 K)))) ∧ (¬ ((gi M2 353 37) ≤ (gi M2 357 (gi M2 353 28).toNat)) → (e_W_openBody_73 v1 v2 (gi M2 353 28) (gi M2 353 37) M2 K))))))))))
theorem E_W_openBody {fz : Bool} {S : gS} {B : rf_M} {M : rf_M} {ls : rf_L} {n0 : Nat} {v1 : Int} {v2 : Int} {K : rf_M → Prop} (hS : rl S) (hR : fl 353 406 B M) (iv1 : inr v1) (iv2 : inr v2) (a0 : rf_ld ls 0 = some (.ref 353)) (a1 : rf_ld ls 1 = some (zv v1)) (a2 : rf_ld ls 2 = some (zv v2)) (h : e_W_openBody v1 v2 M K) : lx (cx0 fz) n0 141 0 ls [] (M, S) (vl_v 353 406 B S K) := by
  unfold e_W_openBody at h
  refine l1 (n := 1) rfl rfl rfl (la_of a0) ?_
  refine l_bi rfl (by decide) ?_
  refine b_iv (c := 353) (as := [zv 123]) (rest := []) rfl (by decide) (ko_11 hS (List.Mem.head _)) rfl rfl (Nat.le_of_ble_eq_true rfl) (fun hq => ?_)
  refine lx_mono (E_W_isSign_m hS hR ⟨by decide, by decide⟩ h) ?_
  rintro _ _ ⟨z1, M1, rfl, rfl, r1, iz1, h⟩
  refine l_if rfl iz1 (fun c => ?_) (fun c => ?_)
  · replace h := h.1 c
    exact E_W_openBody_18 hS r1 a0 h
  · replace h := h.2 c
    refine l1 (n := 1) rfl rfl rfl (la_of a0) ?_
    refine l_gi rfl (ko_11 hS (List.Mem.head _)) rfl (fun _ => rfl) ?_
    refine l_bi rfl (by decide) ?_
    refine l_ic rfl (inr_gi _ _ _) ⟨by decide, by decide⟩ (fun c => ?_) (fun c => ?_)
    · replace h := h.2 c
      refine l1 (n := 1) rfl rfl rfl (la_of a0) ?_
      refine l0 rfl rfl rfl ?_
      refine l_gi rfl (ko_11 hS (List.Mem.head _)) rfl (fun _ => rfl) ?_
      refine l1 (n := 1) rfl rfl rfl rfl ?_
      refine l_add rfl ?_
      refine l_pi rfl (ko_11 (fz := fz) hS (List.Mem.head _)) rfl (fun _ _ => rfl) (fun M2 e => ?_)
      replace h := h M2 e
      have r2 := r1.wi (Nat.le_of_ble_eq_true rfl) (Nat.le_of_ble_eq_true rfl) e
      refine l1 (n := 1) rfl rfl rfl (la_of a0) ?_
      refine l_gr rfl (ko_11 hS (List.Mem.head _)) rfl (fun _ => rfl) (kf_11_14 r2.2 (List.Mem.head _)) ?_
      refine l1 (n := 1) rfl rfl rfl (la_of a0) ?_
      refine l_gi rfl (ko_11 hS (List.Mem.head _)) rfl (fun _ => rfl) ?_
      refine l1 (n := 1) rfl rfl rfl (la_of a0) ?_
      refine l_gi rfl (ko_11 hS (List.Mem.head _)) rfl (fun _ => rfl) ?_
      refine l1 (n := 1) rfl rfl rfl (la_of a0) ?_
      refine l_gr rfl (ko_11 hS (List.Mem.head _)) rfl (fun _ => rfl) (kf_11_14 r2.2 (List.Mem.head _)) ?_
      refine l1 (n := 1) rfl rfl rfl (la_of a0) ?_
      refine l_gi rfl (ko_11 hS (List.Mem.head _)) rfl (fun _ => rfl) ?_
      refine b_ia rfl (kc_357 (fz := fz) hS).1 (Nat.le_of_ble_eq_true rfl) (inr_gi _ _ _) (fun q => ?_)
      replace h := h q
      refine l_ic rfl (inr_gi _ _ _) (inr_gi _ _ _) (fun c => ?_) (fun c => ?_)
      · replace h := h.1 c
        refine l1 (n := 1) rfl rfl rfl (la_of a0) ?_
        refine l_gr rfl (ko_11 hS (List.Mem.head _)) rfl (fun _ => rfl) (kf_11_14 r2.2 (List.Mem.head _)) ?_
        refine l1 (n := 1) rfl rfl rfl (la_of a0) ?_
        refine l_gi rfl (ko_11 hS (List.Mem.head _)) rfl (fun _ => rfl) ?_
        refine b_ia rfl (kc_357 (fz := fz) hS).1 (Nat.le_of_ble_eq_true rfl) (inr_gi _ _ _) (fun q => ?_)
        replace h := h q
        exact E_W_openBody_73 hS r2 iv1 iv2 (inr_gi _ _ _) (inr_gi _ _ _) a0 a1 a2 h
      · replace h := h.2 c
        refine l1 (n := 1) rfl rfl rfl (la_of a0) ?_
        refine l_gi rfl (ko_11 hS (List.Mem.head _)) rfl (fun _ => rfl) ?_
        refine l3 rfl rfl rfl ?_
        exact E_W_openBody_73 hS r2 iv1 iv2 (inr_gi _ _ _) (inr_gi _ _ _) a0 a1 a2 h
    · replace h := h.1 (Classical.not_not.mp c)
      exact E_W_openBody_18 hS r1 a0 h
def em_W_openBody (x1 : Int) (x2 : Int) (M : rf_M) (K : rf_M → Prop) : Prop := e_W_openBody x1 x2 M K
theorem E_W_openBody_m {fz : Bool} {S : gS} {B : rf_M} {M : rf_M} {n0 : Nat} {x1 : Int} {x2 : Int} {K : rf_M → Prop} (hS : rl S) (hR : fl 353 406 B M) (ix1 : inr x1) (ix2 : inr x2) (h : em_W_openBody x1 x2 M K) : lx (cx0 fz) n0 141 0 (lv_args 0 [.ref 353, zv x1, zv x2]) [] (M, S) (vl_v 353 406 B S K) :=
  E_W_openBody hS hR ix1 ix2 rfl rfl rfl h
def e_W_takeWord_26 (M : rf_M) (K : rf_M → Prop) : Prop := K M
theorem E_W_takeWord_26 {fz : Bool} {S : gS} {B : rf_M} {M : rf_M} {ls : rf_L} {n0 : Nat} {K : rf_M → Prop} (hS : rl S) (hR : fl 353 406 B M) (h : e_W_takeWord_26 M K) : lx (cx0 fz) n0 142 26 ls [] (M, S) (vl_v 353 406 B S K) := by
  unfold e_W_takeWord_26 at h
  exact l_rv rfl rfl hR h
def e_W_takeWord_15 (M : rf_M) (K : rf_M → Prop) : Prop := ((gi M 353 9) = 0 → (em_W_next  M (fun (M1 : rf_M) => e_W_takeWord_26 M1 K))) ∧ (¬ (gi M 353 9) = 0 → (e_W_takeWord_26 M K))
theorem E_W_takeWord_15 {fz : Bool} {S : gS} {B : rf_M} {M : rf_M} {ls : rf_L} {n0 : Nat} {K : rf_M → Prop} (hS : rl S) (hR : fl 353 406 B M) (a0 : rf_ld ls 0 = some (.ref 353)) (h : e_W_takeWord_15 M K) : lx (cx0 fz) n0 142 15 ls [] (M, S) (vl_v 353 406 B S K) := by
  unfold e_W_takeWord_15 at h
  refine l1 (n := 1) rfl rfl rfl (la_of a0) ?_
  refine l_gi rfl (ko_11 hS (List.Mem.head _)) rfl (fun _ => rfl) ?_
  refine l_if rfl (inr_gi _ _ _) (fun c => ?_) (fun c => ?_)
  · replace h := h.2 c
    exact E_W_takeWord_26 hS hR  h
  · replace h := h.1 (Classical.not_not.mp c)
    refine l1 (n := 1) rfl rfl rfl (la_of a0) ?_
    refine b_iv (c := 353) (as := []) (rest := []) rfl (by decide) (ko_11 hS (List.Mem.head _)) rfl rfl (Nat.le_of_ble_eq_true rfl) (fun hq => ?_)
    refine lx_mono (E_W_next_m hS hR h) ?_
    rintro _ _ ⟨M1, rfl, rfl, r1, h⟩
    exact E_W_takeWord_26 hS r1  h
def e_W_takeWord (v1 : Int) (M : rf_M) (K : rf_M → Prop) : Prop := inr (10 + v1) ∧ (((gi M 353 4) = (10 + v1) → (e_W_takeWord_15 M K)) ∧ (¬ ((gi M 353 4) = (10 + v1)) → (em_W_misplaced  M (fun (M1 : rf_M) => e_W_takeWord_15 M1 K))))
theorem E_W_takeWord {fz : Bool} {S : gS} {B : rf_M} {M : rf_M} {ls : rf_L} {n0 : Nat} {v1 : Int} {K : rf_M → Prop} (hS : rl S) (hR : fl 353 406 B M) (iv1 : inr v1) (a0 : rf_ld ls 0 = some (.ref 353)) (a1 : rf_ld ls 1 = some (zv v1)) (h : e_W_takeWord v1 M K) : lx (cx0 fz) n0 142 0 ls [] (M, S) (vl_v 353 406 B S K) := by
  unfold e_W_takeWord at h
  refine l1 (n := 1) rfl rfl rfl (la_of a0) ?_
  refine l_gi rfl (ko_11 hS (List.Mem.head _)) rfl (fun _ => rfl) ?_
  refine l_bi rfl (by decide) ?_
  refine l1 (n := 1) rfl rfl rfl (li_of a1) ?_
  refine l_add rfl ?_
  obtain ⟨i1, h⟩ := h
  refine l_ic rfl (inr_gi _ _ _) i1 (fun c => ?_) (fun c => ?_)
  · replace h := h.1 c
    exact E_W_takeWord_15 hS hR a0 h
  · replace h := h.2 c
    refine l1 (n := 1) rfl rfl rfl (la_of a0) ?_
    refine b_iv (c := 353) (as := []) (rest := []) rfl (by decide) (ko_11 hS (List.Mem.head _)) rfl rfl (Nat.le_of_ble_eq_true rfl) (fun hq => ?_)
    refine lx_mono (E_W_misplaced_m hS hR h) ?_
    rintro _ _ ⟨M1, rfl, rfl, r1, h⟩
    exact E_W_takeWord_15 hS r1 a0 h
def em_W_takeWord (x1 : Int) (M : rf_M) (K : rf_M → Prop) : Prop := e_W_takeWord x1 M K
theorem E_W_takeWord_m {fz : Bool} {S : gS} {B : rf_M} {M : rf_M} {n0 : Nat} {x1 : Int} {K : rf_M → Prop} (hS : rl S) (hR : fl 353 406 B M) (ix1 : inr x1) (h : em_W_takeWord x1 M K) : lx (cx0 fz) n0 142 0 (lv_args 0 [.ref 353, zv x1]) [] (M, S) (vl_v 353 406 B S K) :=
  E_W_takeWord hS hR ix1 rfl rfl h
def e_W_closeBody_49 (M : rf_M) (K : rf_M → Prop) : Prop := K M
theorem E_W_closeBody_49 {fz : Bool} {S : gS} {B : rf_M} {M : rf_M} {ls : rf_L} {n0 : Nat} {K : rf_M → Prop} (hS : rl S) (hR : fl 353 406 B M) (h : e_W_closeBody_49 M K) : lx (cx0 fz) n0 140 49 ls [] (M, S) (vl_v 353 406 B S K) := by
  unfold e_W_closeBody_49 at h
  exact l_rv rfl rfl hR h
def e_W_closeBody_78 (M : rf_M) (K : rf_M → Prop) : Prop := K M
theorem E_W_closeBody_78 {fz : Bool} {S : gS} {B : rf_M} {M : rf_M} {ls : rf_L} {n0 : Nat} {K : rf_M → Prop} (hS : rl S) (hR : fl 353 406 B M) (h : e_W_closeBody_78 M K) : lx (cx0 fz) n0 140 78 ls [] (M, S) (vl_v 353 406 B S K) := by
  unfold e_W_closeBody_78 at h
  exact l_rv rfl rfl hR h
def e_W_closeBody_135 (M : rf_M) (K : rf_M → Prop) : Prop := em_W_misplaced  M (fun (M1 : rf_M) => K M1)
theorem E_W_closeBody_135 {fz : Bool} {S : gS} {B : rf_M} {M : rf_M} {ls : rf_L} {n0 : Nat} {K : rf_M → Prop} (hS : rl S) (hR : fl 353 406 B M) (a0 : rf_ld ls 0 = some (.ref 353)) (h : e_W_closeBody_135 M K) : lx (cx0 fz) n0 140 135 ls [] (M, S) (vl_v 353 406 B S K) := by
  unfold e_W_closeBody_135 at h
  refine l1 (n := 1) rfl rfl rfl (la_of a0) ?_
  refine b_iv (c := 353) (as := []) (rest := []) rfl (by decide) (ko_11 hS (List.Mem.head _)) rfl rfl (Nat.le_of_ble_eq_true rfl) (fun hq => ?_)
  refine lx_mono (E_W_misplaced_m hS hR h) ?_
  rintro _ _ ⟨M1, rfl, rfl, r1, h⟩
  exact l_rv rfl rfl r1 h
def e_W_closeBody_167 (M : rf_M) (K : rf_M → Prop) : Prop := K M
theorem E_W_closeBody_167 {fz : Bool} {S : gS} {B : rf_M} {M : rf_M} {ls : rf_L} {n0 : Nat} {K : rf_M → Prop} (hS : rl S) (hR : fl 353 406 B M) (h : e_W_closeBody_167 M K) : lx (cx0 fz) n0 140 167 ls [] (M, S) (vl_v 353 406 B S K) := by
  unfold e_W_closeBody_167 at h
  exact l_rv rfl rfl hR h
def e_W_closeBody_154 (v1 : Int) (M : rf_M) (K : rf_M → Prop) : Prop := ((gi M 353 9) = 0 → (em_W_openBody v1 1 M (fun (M1 : rf_M) => e_W_closeBody_167 M1 K))) ∧ (¬ (gi M 353 9) = 0 → (e_W_closeBody_167 M K))
theorem E_W_closeBody_154 {fz : Bool} {S : gS} {B : rf_M} {M : rf_M} {ls : rf_L} {n0 : Nat} {v1 : Int} {K : rf_M → Prop} (hS : rl S) (hR : fl 353 406 B M) (iv1 : inr v1) (a0 : rf_ld ls 0 = some (.ref 353)) (a1 : rf_ld ls 1 = some (zv v1)) (h : e_W_closeBody_154 v1 M K) : lx (cx0 fz) n0 140 154 ls [] (M, S) (vl_v 353 406 B S K) := by
  unfold e_W_closeBody_154 at h
  refine l1 (n := 1) rfl rfl rfl (la_of a0) ?_
  refine l_gi rfl (ko_11 hS (List.Mem.head _)) rfl (fun _ => rfl) ?_
  refine l_if rfl (inr_gi _ _ _) (fun c => ?_) (fun c => ?_)
  · replace h := h.2 c
    exact E_W_closeBody_167 hS hR  h
  · replace h := h.1 (Classical.not_not.mp c)
    refine l1 (n := 1) rfl rfl rfl (la_of a0) ?_
    refine l1 (n := 1) rfl rfl rfl (li_of a1) ?_
    refine l1 (n := 1) rfl rfl rfl rfl ?_
    refine b_iv (c := 353) (as := [zv v1, zv 1]) (rest := []) rfl (by decide) (ko_11 hS (List.Mem.head _)) rfl rfl (Nat.le_of_ble_eq_true rfl) (fun hq => ?_)
    refine lx_mono (E_W_openBody_m hS hR iv1 ⟨by decide, by decide⟩ h) ?_
    rintro _ _ ⟨M1, rfl, rfl, r1, h⟩
    exact E_W_closeBody_167 hS r1  h
def e_W_closeBody_97 (v1 : Int) (s1 : Int) (M : rf_M) (K : rf_M → Prop) : Prop := em_W_takeWord s1 M (fun (M1 : rf_M) => (0 ≤ v1 ∧ v1 < 480 → (((gi M1 360 (v1).toNat) = 7 → (((gi M1 353 9) = 0 → (((gi M1 353 4) = 2 → ((16 ≤ (gi M1 353 6) → ((0 ≤ v1 ∧ v1 < 480 → (∀ M2 : rf_M, M2 = wi M1 367 (v1).toNat (gi M1 353 6) → (em_W_next  M2 (fun (M3 : rf_M) => e_W_closeBody_154 v1 M3 K)))))) ∧ (¬ (16 ≤ (gi M1 353 6)) → (e_W_closeBody_135 M1 K)))) ∧ (¬ (gi M1 353 4) = 2 → (e_W_closeBody_135 M1 K)))) ∧ (¬ (gi M1 353 9) = 0 → (e_W_closeBody_154 v1 M1 K)))) ∧ (¬ (gi M1 360 (v1).toNat) = 7 → (e_W_closeBody_154 v1 M1 K)))))
theorem E_W_closeBody_97 {fz : Bool} {S : gS} {B : rf_M} {M : rf_M} {ls : rf_L} {n0 : Nat} {v1 : Int} {s1 : Int} {K : rf_M → Prop} (hS : rl S) (hR : fl 353 406 B M) (iv1 : inr v1) (is1 : inr s1) (a0 : rf_ld ls 0 = some (.ref 353)) (a1 : rf_ld ls 1 = some (zv v1)) (h : e_W_closeBody_97 v1 s1 M K) : lx (cx0 fz) n0 140 97 ls [zv s1, .ref 353] (M, S) (vl_v 353 406 B S K) := by
  unfold e_W_closeBody_97 at h
  refine b_iv (c := 353) (as := [zv s1]) (rest := []) rfl (by decide) (ko_11 hS (List.Mem.head _)) rfl rfl (Nat.le_of_ble_eq_true rfl) (fun hq => ?_)
  refine lx_mono (E_W_takeWord_m hS hR is1 h) ?_
  rintro _ _ ⟨M1, rfl, rfl, r1, h⟩
  refine l1 (n := 1) rfl rfl rfl (la_of a0) ?_
  refine l_gr rfl (ko_11 hS (List.Mem.head _)) rfl (fun _ => rfl) (kf_11_17 r1.2 (List.Mem.head _)) ?_
  refine l1 (n := 1) rfl rfl rfl (li_of a1) ?_
  refine b_ia rfl (kc_360 (fz := fz) hS).1 (Nat.le_of_ble_eq_true rfl) iv1 (fun q => ?_)
  replace h := h q
  refine l_bi rfl (by decide) ?_
  refine l_ic rfl (inr_gi _ _ _) ⟨by decide, by decide⟩ (fun c => ?_) (fun c => ?_)
  · replace h := h.2 c
    exact E_W_closeBody_154 hS r1 iv1 a0 a1 h
  · replace h := h.1 (Classical.not_not.mp c)
    refine l1 (n := 1) rfl rfl rfl (la_of a0) ?_
    refine l_gi rfl (ko_11 hS (List.Mem.head _)) rfl (fun _ => rfl) ?_
    refine l_if rfl (inr_gi _ _ _) (fun c => ?_) (fun c => ?_)
    · replace h := h.2 c
      exact E_W_closeBody_154 hS r1 iv1 a0 a1 h
    · replace h := h.1 (Classical.not_not.mp c)
      refine l1 (n := 1) rfl rfl rfl (la_of a0) ?_
      refine l_gi rfl (ko_11 hS (List.Mem.head _)) rfl (fun _ => rfl) ?_
      refine l1 (n := 1) rfl rfl rfl rfl ?_
      refine l_ic rfl (inr_gi _ _ _) ⟨by decide, by decide⟩ (fun c => ?_) (fun c => ?_)
      · replace h := h.2 c
        exact E_W_closeBody_135 hS r1 a0 h
      · replace h := h.1 (Classical.not_not.mp c)
        refine l1 (n := 1) rfl rfl rfl (la_of a0) ?_
        refine l_gi rfl (ko_11 hS (List.Mem.head _)) rfl (fun _ => rfl) ?_
        refine l_bi rfl (by decide) ?_
        refine l_ic rfl (inr_gi _ _ _) ⟨by decide, by decide⟩ (fun c => ?_) (fun c => ?_)
        · replace h := h.1 c
          refine l1 (n := 1) rfl rfl rfl (la_of a0) ?_
          refine l_gr rfl (ko_11 hS (List.Mem.head _)) rfl (fun _ => rfl) (kf_11_24 r1.2 (List.Mem.head _)) ?_
          refine l1 (n := 1) rfl rfl rfl (li_of a1) ?_
          refine l1 (n := 1) rfl rfl rfl (la_of a0) ?_
          refine l_gi rfl (ko_11 hS (List.Mem.head _)) rfl (fun _ => rfl) ?_
          refine b_is rfl (kc_367 (fz := fz) hS).1 (Nat.le_of_ble_eq_true rfl) iv1 (fun q M2 e => ?_)
          replace h := h q M2 e
          have r2 := r1.wi (Nat.le_of_ble_eq_true rfl) (Nat.le_of_ble_eq_true rfl) e
          refine l1 (n := 1) rfl rfl rfl (la_of a0) ?_
          refine b_iv (c := 353) (as := []) (rest := []) rfl (by decide) (ko_11 hS (List.Mem.head _)) rfl rfl (Nat.le_of_ble_eq_true rfl) (fun hq => ?_)
          refine lx_mono (E_W_next_m hS r2 h) ?_
          rintro _ _ ⟨M3, rfl, rfl, r3, h⟩
          exact E_W_closeBody_154 hS r3 iv1 a0 a1 h
        · replace h := h.2 c
          exact E_W_closeBody_135 hS r1 a0 h
def e_W_closeBody (M : rf_M) (K : rf_M → Prop) : Prop := (0 ≤ (gi M 353 37) ∧ (gi M 353 37) < 10 → ((0 ≤ (gi M 353 37) ∧ (gi M 353 37) < 10 → (∀ M1 : rf_M, M1 = wi M 353 37 ((gi M 353 37) - 1) → (em_W_next  M1 (fun (M2 : rf_M) => ((gi M 374 (gi M 353 37).toNat) = 1 → (e_W_closeBody_49 M2 K)) ∧ (¬ ((gi M 374 (gi M 353 37).toNat) = 1) → ((0 ≤ (gi M 373 (gi M 353 37).toNat) ∧ (gi M 373 (gi M 353 37).toNat) < 480 → (((gi M2 360 (gi M 373 (gi M 353 37).toNat).toNat) = 2 → (e_W_closeBody_49 M2 K)) ∧ (¬ (gi M2 360 (gi M 373 (gi M 353 37).toNat).toNat) = 2 → ((0 ≤ (gi M 373 (gi M 353 37).toNat) ∧ (gi M 373 (gi M 353 37).toNat) < 480 → (((gi M2 360 (gi M 373 (gi M 353 37).toNat).toNat) = 0 → (((gi M2 353 4) = 11 → (em_W_next  M2 (fun (M3 : rf_M) => em_W_openBody (gi M 373 (gi M 353 37).toNat) 1 M3 (fun (M4 : rf_M) => e_W_closeBody_78 M4 K)))) ∧ (¬ (gi M2 353 4) = 11 → (e_W_closeBody_78 M2 K)))) ∧ (¬ (gi M2 360 (gi M 373 (gi M 353 37).toNat).toNat) = 0 → ((0 ≤ (gi M 373 (gi M 353 37).toNat) ∧ (gi M 373 (gi M 353 37).toNat) < 480 → (((gi M2 360 (gi M 373 (gi M 353 37).toNat).toNat) = 5 → (e_W_closeBody_97 (gi M 373 (gi M 353 37).toNat) 6 M2 K)) ∧ (¬ (gi M2 360 (gi M 373 (gi M 353 37).toNat).toNat) = 5 → (e_W_closeBody_97 (gi M 373 (gi M 353 37).toNat) 8 M2 K))))))))))))))))))))
theorem E_W_closeBody {fz : Bool} {S : gS} {B : rf_M} {M : rf_M} {ls : rf_L} {n0 : Nat} {K : rf_M → Prop} (hS : rl S) (hR : fl 353 406 B M) (a0 : rf_ld ls 0 = some (.ref 353)) (h : e_W_closeBody M K) : lx (cx0 fz) n0 140 0 ls [] (M, S) (vl_v 353 406 B S K) := by
  unfold e_W_closeBody at h
  refine l1 (n := 1) rfl rfl rfl (la_of a0) ?_
  refine l_gr rfl (ko_11 hS (List.Mem.head _)) rfl (fun _ => rfl) (kf_11_34 hR.2 (List.Mem.head _)) ?_
  refine l1 (n := 1) rfl rfl rfl (la_of a0) ?_
  refine l_gi rfl (ko_11 hS (List.Mem.head _)) rfl (fun _ => rfl) ?_
  refine b_ia rfl (kc_373 (fz := fz) hS).1 (Nat.le_of_ble_eq_true rfl) (inr_gi _ _ _) (fun q => ?_)
  replace h := h q
  refine l_s1 (n := 1) rfl rfl rfl rfl (fun ls y1 ho => ?_)
  have y2 := ho 0 _ (by decide) (fun q => by cases q.2) a0
  refine l1 (n := 1) rfl rfl rfl (la_of y2) ?_
  refine l_gr rfl (ko_11 hS (List.Mem.head _)) rfl (fun _ => rfl) (kf_11_35 hR.2 (List.Mem.head _)) ?_
  refine l1 (n := 1) rfl rfl rfl (la_of y2) ?_
  refine l_gi rfl (ko_11 hS (List.Mem.head _)) rfl (fun _ => rfl) ?_
  refine b_ia rfl (kc_374 (fz := fz) hS).1 (Nat.le_of_ble_eq_true rfl) (inr_gi _ _ _) (fun q => ?_)
  replace h := h q
  refine l_s1 (n := 1) rfl rfl rfl rfl (fun ls y3 ho => ?_)
  have y4 := ho 0 _ (by decide) (fun q => by cases q.2) y2
  have y5 := ho 1 _ (by decide) (fun q => by cases q.2) y1
  refine l1 (n := 1) rfl rfl rfl (la_of y4) ?_
  refine l0 rfl rfl rfl ?_
  refine l_gi rfl (ko_11 hS (List.Mem.head _)) rfl (fun _ => rfl) ?_
  refine l1 (n := 1) rfl rfl rfl rfl ?_
  refine l_sub rfl ?_
  refine l_pi rfl (ko_11 (fz := fz) hS (List.Mem.head _)) rfl (fun _ _ => rfl) (fun M1 e => ?_)
  replace h := h M1 e
  have r1 := hR.wi (Nat.le_of_ble_eq_true rfl) (Nat.le_of_ble_eq_true rfl) e
  refine l1 (n := 1) rfl rfl rfl (la_of y4) ?_
  refine b_iv (c := 353) (as := []) (rest := []) rfl (by decide) (ko_11 hS (List.Mem.head _)) rfl rfl (Nat.le_of_ble_eq_true rfl) (fun hq => ?_)
  refine lx_mono (E_W_next_m hS r1 h) ?_
  rintro _ _ ⟨M2, rfl, rfl, r2, h⟩
  refine l1 (n := 1) rfl rfl rfl (li_of y3) ?_
  refine l1 (n := 1) rfl rfl rfl rfl ?_
  refine l_ic rfl (inr_gi _ _ _) ⟨by decide, by decide⟩ (fun c => ?_) (fun c => ?_)
  · replace h := h.1 c
    exact E_W_closeBody_49 hS r2  h
  · replace h := h.2 c
    refine l1 (n := 1) rfl rfl rfl (la_of y4) ?_
    refine l_gr rfl (ko_11 hS (List.Mem.head _)) rfl (fun _ => rfl) (kf_11_17 r2.2 (List.Mem.head _)) ?_
    refine l1 (n := 1) rfl rfl rfl (li_of y5) ?_
    refine b_ia rfl (kc_360 (fz := fz) hS).1 (Nat.le_of_ble_eq_true rfl) (inr_gi _ _ _) (fun q => ?_)
    replace h := h q
    refine l1 (n := 1) rfl rfl rfl rfl ?_
    refine l_ic rfl (inr_gi _ _ _) ⟨by decide, by decide⟩ (fun c => ?_) (fun c => ?_)
    · replace h := h.2 c
      refine l1 (n := 1) rfl rfl rfl (la_of y4) ?_
      refine l_gr rfl (ko_11 hS (List.Mem.head _)) rfl (fun _ => rfl) (kf_11_17 r2.2 (List.Mem.head _)) ?_
      refine l1 (n := 1) rfl rfl rfl (li_of y5) ?_
      refine b_ia rfl (kc_360 (fz := fz) hS).1 (Nat.le_of_ble_eq_true rfl) (inr_gi _ _ _) (fun q => ?_)
      replace h := h q
      refine l_if rfl (inr_gi _ _ _) (fun c => ?_) (fun c => ?_)
      · replace h := h.2 c
        refine l1 (n := 1) rfl rfl rfl (la_of y4) ?_
        refine l1 (n := 1) rfl rfl rfl (la_of y4) ?_
        refine l_gr rfl (ko_11 hS (List.Mem.head _)) rfl (fun _ => rfl) (kf_11_17 r2.2 (List.Mem.head _)) ?_
        refine l1 (n := 1) rfl rfl rfl (li_of y5) ?_
        refine b_ia rfl (kc_360 (fz := fz) hS).1 (Nat.le_of_ble_eq_true rfl) (inr_gi _ _ _) (fun q => ?_)
        replace h := h q
        refine l1 (n := 1) rfl rfl rfl rfl ?_
        refine l_ic rfl (inr_gi _ _ _) ⟨by decide, by decide⟩ (fun c => ?_) (fun c => ?_)
        · replace h := h.2 c
          refine l_bi rfl (by decide) ?_
          exact E_W_closeBody_97 hS r2 (inr_gi _ _ _) ⟨by decide, by decide⟩ y4 y5 h
        · replace h := h.1 (Classical.not_not.mp c)
          refine l_bi rfl (by decide) ?_
          refine l3 rfl rfl rfl ?_
          exact E_W_closeBody_97 hS r2 (inr_gi _ _ _) ⟨by decide, by decide⟩ y4 y5 h
      · replace h := h.1 (Classical.not_not.mp c)
        refine l1 (n := 1) rfl rfl rfl (la_of y4) ?_
        refine l_gi rfl (ko_11 hS (List.Mem.head _)) rfl (fun _ => rfl) ?_
        refine l_bi rfl (by decide) ?_
        refine l_ic rfl (inr_gi _ _ _) ⟨by decide, by decide⟩ (fun c => ?_) (fun c => ?_)
        · replace h := h.2 c
          exact E_W_closeBody_78 hS r2  h
        · replace h := h.1 (Classical.not_not.mp c)
          refine l1 (n := 1) rfl rfl rfl (la_of y4) ?_
          refine b_iv (c := 353) (as := []) (rest := []) rfl (by decide) (ko_11 hS (List.Mem.head _)) rfl rfl (Nat.le_of_ble_eq_true rfl) (fun hq => ?_)
          refine lx_mono (E_W_next_m hS r2 h) ?_
          rintro _ _ ⟨M3, rfl, rfl, r3, h⟩
          refine l1 (n := 1) rfl rfl rfl (la_of y4) ?_
          refine l1 (n := 1) rfl rfl rfl (li_of y5) ?_
          refine l1 (n := 1) rfl rfl rfl rfl ?_
          refine b_iv (c := 353) (as := [zv (gi M 373 (gi M 353 37).toNat), zv 1]) (rest := []) rfl (by decide) (ko_11 hS (List.Mem.head _)) rfl rfl (Nat.le_of_ble_eq_true rfl) (fun hq => ?_)
          refine lx_mono (E_W_openBody_m hS r3 (inr_gi _ _ _) ⟨by decide, by decide⟩ h) ?_
          rintro _ _ ⟨M4, rfl, rfl, r4, h⟩
          exact E_W_closeBody_78 hS r4  h
    · replace h := h.1 (Classical.not_not.mp c)
      exact E_W_closeBody_49 hS r2  h
def em_W_closeBody (M : rf_M) (K : rf_M → Prop) : Prop := e_W_closeBody  M K
theorem E_W_closeBody_m {fz : Bool} {S : gS} {B : rf_M} {M : rf_M} {n0 : Nat} {K : rf_M → Prop} (hS : rl S) (hR : fl 353 406 B M) (h : em_W_closeBody  M K) : lx (cx0 fz) n0 140 0 (lv_args 0 [.ref 353]) [] (M, S) (vl_v 353 406 B S K) :=
  E_W_closeBody hS hR rfl h
def e_W_newStatement_176 (v1 : Int) (M : rf_M) (K : Int → rf_M → Prop) : Prop := (0 ≤ (gi M 353 37) ∧ (gi M 353 37) < 10 → (∀ M1 : rf_M, M1 = wi M 375 (gi M 353 37).toNat v1 → (K v1 M1)))
theorem E_W_newStatement_176 {fz : Bool} {S : gS} {B : rf_M} {M : rf_M} {ls : rf_L} {n0 : Nat} {v1 : Int} {K : Int → rf_M → Prop} (hS : rl S) (hR : fl 353 406 B M) (iv1 : inr v1) (a0 : rf_ld ls 0 = some (.ref 353)) (a1 : rf_ld ls 1 = some (zv v1)) (h : e_W_newStatement_176 v1 M K) : lx (cx0 fz) n0 144 176 ls [] (M, S) (vl_i 353 406 B S K) := by
  unfold e_W_newStatement_176 at h
  refine l1 (n := 1) rfl rfl rfl (la_of a0) ?_
  refine l_gr rfl (ko_11 hS (List.Mem.head _)) rfl (fun _ => rfl) (kf_11_36 hR.2 (List.Mem.head _)) ?_
  refine l1 (n := 1) rfl rfl rfl (la_of a0) ?_
  refine l_gi rfl (ko_11 hS (List.Mem.head _)) rfl (fun _ => rfl) ?_
  refine l1 (n := 1) rfl rfl rfl (li_of a1) ?_
  refine b_is rfl (kc_375 (fz := fz) hS).1 (Nat.le_of_ble_eq_true rfl) (inr_gi _ _ _) (fun q M1 e => ?_)
  replace h := h q M1 e
  have r1 := hR.wi (Nat.le_of_ble_eq_true rfl) (Nat.le_of_ble_eq_true rfl) e
  refine l1 (n := 1) rfl rfl rfl (li_of a1) ?_
  exact l_ri rfl rfl iv1 r1 h
def e_W_newStatement (M : rf_M) (K : Int → rf_M → Prop) : Prop := (0 ≤ (gi M 353 28) ∧ (gi M 353 28) < 12 → ((0 ≤ (gi M 353 28) ∧ (gi M 353 28) < 12 → ((0 ≤ (gi M 353 28) ∧ (gi M 353 28) < 12 → (∀ M1 : rf_M, M1 = wi M 355 (gi M 353 28).toNat ((gi M 355 (gi M 353 28).toNat) + 1) → (inr ((40 * (gi M 353 28)) + (gi M 355 (gi M 353 28).toNat)) ∧ ((0 ≤ ((40 * (gi M 353 28)) + (gi M 355 (gi M 353 28).toNat)) ∧ ((40 * (gi M 353 28)) + (gi M 355 (gi M 353 28).toNat)) < 480 → (∀ M2 : rf_M, M2 = wi M1 361 ((40 * (gi M 353 28)) + (gi M 355 (gi M 353 28).toNat)).toNat (-1) → ((0 ≤ (gi M2 353 37) ∧ (gi M2 353 37) < 10 → ((0 ≤ ((40 * (gi M 353 28)) + (gi M 355 (gi M 353 28).toNat)) ∧ ((40 * (gi M 353 28)) + (gi M 355 (gi M 353 28).toNat)) < 480 → (∀ M3 : rf_M, M3 = wi M2 362 ((40 * (gi M 353 28)) + (gi M 355 (gi M 353 28).toNat)).toNat (gi M2 373 (gi M2 353 37).toNat) → ((0 ≤ (gi M3 353 37) ∧ (gi M3 353 37) < 10 → ((0 ≤ ((40 * (gi M 353 28)) + (gi M 355 (gi M 353 28).toNat)) ∧ ((40 * (gi M 353 28)) + (gi M 355 (gi M 353 28).toNat)) < 480 → (∀ M4 : rf_M, M4 = wi M3 363 ((40 * (gi M 353 28)) + (gi M 355 (gi M 353 28).toNat)).toNat (gi M3 374 (gi M3 353 37).toNat) → ((0 ≤ ((40 * (gi M 353 28)) + (gi M 355 (gi M 353 28).toNat)) ∧ ((40 * (gi M 353 28)) + (gi M 355 (gi M 353 28).toNat)) < 480 → (∀ M5 : rf_M, M5 = wi M4 364 ((40 * (gi M 353 28)) + (gi M 355 (gi M 353 28).toNat)).toNat (-1) → ((0 ≤ ((40 * (gi M 353 28)) + (gi M 355 (gi M 353 28).toNat)) ∧ ((40 * (gi M 353 28)) + (gi M 355 (gi M 353 28).toNat)) < 480 → (∀ M6 : rf_M, M6 = wi M5 365 ((40 * (gi M 353 28)) + (gi M 355 (gi M 353 28).toNat)).toNat (-1) → ((0 ≤ ((40 * (gi M 353 28)) + (gi M 355 (gi M 353 28).toNat)) ∧ ((40 * (gi M 353 28)) + (gi M 355 (gi M 353 28).toNat)) < 480 → (∀ M7 : rf_M, M7 = wi M6 366 ((40 * (gi M 353 28)) + (gi M 355 (gi M 353 28).toNat)).toNat (-1) → ((0 ≤ ((40 * (gi M 353 28)) + (gi M 355 (gi M 353 28).toNat)) ∧ ((40 * (gi M 353 28)) + (gi M 355 (gi M 353 28).toNat)) < 480 → (∀ M8 : rf_M, M8 = wi M7 367 ((40 * (gi M 353 28)) + (gi M 355 (gi M 353 28).toNat)).toNat (-1) → ((0 ≤ (gi M8 353 37) ∧ (gi M8 353 37) < 10 → ((0 ≤ (gi M8 353 37) ∧ (gi M8 353 37) < 10 → (((gi M8 375 (gi M8 353 37).toNat) < 0 → ((0 ≤ (gi M8 373 (gi M8 353 37).toNat) → ((0 ≤ (gi M8 353 37) ∧ (gi M8 353 37) < 10 → (((gi M8 374 (gi M8 353 37).toNat) = 0 → ((0 ≤ (gi M8 373 (gi M8 353 37).toNat) ∧ (gi M8 373 (gi M8 353 37).toNat) < 480 → (∀ M10 : rf_M, M10 = wi M8 365 (gi M8 373 (gi M8 353 37).toNat).toNat ((40 * (gi M 353 28)) + (gi M 355 (gi M 353 28).toNat)) → (e_W_newStatement_176 ((40 * (gi M 353 28)) + (gi M 355 (gi M 353 28).toNat)) M10 K))))) ∧ (¬ (gi M8 374 (gi M8 353 37).toNat) = 0 → ((0 ≤ (gi M8 373 (gi M8 353 37).toNat) ∧ (gi M8 373 (gi M8 353 37).toNat) < 480 → (∀ M9 : rf_M, M9 = wi M8 366 (gi M8 373 (gi M8 353 37).toNat).toNat ((40 * (gi M 353 28)) + (gi M 355 (gi M 353 28).toNat)) → (e_W_newStatement_176 ((40 * (gi M 353 28)) + (gi M 355 (gi M 353 28).toNat)) M9 K))))))))) ∧ (¬ (0 ≤ (gi M8 373 (gi M8 353 37).toNat)) → ((0 ≤ (gi M8 353 28) ∧ (gi M8 353 28) < 12 → (∀ M11 : rf_M, M11 = wi M8 358 (gi M8 353 28).toNat ((40 * (gi M 353 28)) + (gi M 355 (gi M 353 28).toNat)) → (e_W_newStatement_176 ((40 * (gi M 353 28)) + (gi M 355 (gi M 353 28).toNat)) M11 K))))))) ∧ (¬ ((gi M8 375 (gi M8 353 37).toNat) < 0) → ((0 ≤ (gi M8 375 (gi M8 353 37).toNat) ∧ (gi M8 375 (gi M8 353 37).toNat) < 480 → (∀ M12 : rf_M, M12 = wi M8 361 (gi M8 375 (gi M8 353 37).toNat).toNat ((40 * (gi M 353 28)) + (gi M 355 (gi M 353 28).toNat)) → (e_W_newStatement_176 ((40 * (gi M 353 28)) + (gi M 355 (gi M 353 28).toNat)) M12 K))))))))))))))))))))))))))))))))))))))))))
theorem E_W_newStatement {fz : Bool} {S : gS} {B : rf_M} {M : rf_M} {ls : rf_L} {n0 : Nat} {K : Int → rf_M → Prop} (hS : rl S) (hR : fl 353 406 B M) (a0 : rf_ld ls 0 = some (.ref 353)) (h : e_W_newStatement M K) : lx (cx0 fz) n0 144 0 ls [] (M, S) (vl_i 353 406 B S K) := by
  unfold e_W_newStatement at h
  refine l_bi rfl (by decide) ?_
  refine l1 (n := 1) rfl rfl rfl (la_of a0) ?_
  refine l_gi rfl (ko_11 hS (List.Mem.head _)) rfl (fun _ => rfl) ?_
  refine l_mul rfl ?_
  refine l1 (n := 1) rfl rfl rfl (la_of a0) ?_
  refine l_gr rfl (ko_11 hS (List.Mem.head _)) rfl (fun _ => rfl) (kf_11_12 hR.2 (List.Mem.head _)) ?_
  refine l1 (n := 1) rfl rfl rfl (la_of a0) ?_
  refine l_gi rfl (ko_11 hS (List.Mem.head _)) rfl (fun _ => rfl) ?_
  refine b_ia rfl (kc_355 (fz := fz) hS).1 (Nat.le_of_ble_eq_true rfl) (inr_gi _ _ _) (fun q => ?_)
  replace h := h q
  refine l_add rfl ?_
  refine l_s1 (n := 1) rfl rfl rfl rfl (fun ls y1 ho => ?_)
  have y2 := ho 0 _ (by decide) (fun q => by cases q.2) a0
  refine l1 (n := 1) rfl rfl rfl (la_of y2) ?_
  refine l_gr rfl (ko_11 hS (List.Mem.head _)) rfl (fun _ => rfl) (kf_11_12 hR.2 (List.Mem.head _)) ?_
  refine l1 (n := 1) rfl rfl rfl (la_of y2) ?_
  refine l_gi rfl (ko_11 hS (List.Mem.head _)) rfl (fun _ => rfl) ?_
  refine l0 rfl rfl rfl ?_
  refine b_ia rfl (kc_355 (fz := fz) hS).1 (Nat.le_of_ble_eq_true rfl) (inr_gi _ _ _) (fun q => ?_)
  replace h := h q
  refine l1 (n := 1) rfl rfl rfl rfl ?_
  refine l_add rfl ?_
  refine b_is rfl (kc_355 (fz := fz) hS).1 (Nat.le_of_ble_eq_true rfl) (inr_gi _ _ _) (fun q M1 e => ?_)
  replace h := h q M1 e
  have r1 := hR.wi (Nat.le_of_ble_eq_true rfl) (Nat.le_of_ble_eq_true rfl) e
  refine l1 (n := 1) rfl rfl rfl (la_of y2) ?_
  refine l_gr rfl (ko_11 hS (List.Mem.head _)) rfl (fun _ => rfl) (kf_11_18 r1.2 (List.Mem.head _)) ?_
  refine l1 (n := 1) rfl rfl rfl (li_of y1) ?_
  refine l1 (n := 1) rfl rfl rfl rfl ?_
  obtain ⟨i1, h⟩ := h
  refine b_is rfl (kc_361 (fz := fz) hS).1 (Nat.le_of_ble_eq_true rfl) i1 (fun q M2 e => ?_)
  replace h := h q M2 e
  have r2 := r1.wi (Nat.le_of_ble_eq_true rfl) (Nat.le_of_ble_eq_true rfl) e
  refine l1 (n := 1) rfl rfl rfl (la_of y2) ?_
  refine l_gr rfl (ko_11 hS (List.Mem.head _)) rfl (fun _ => rfl) (kf_11_19 r2.2 (List.Mem.head _)) ?_
  refine l1 (n := 1) rfl rfl rfl (li_of y1) ?_
  refine l1 (n := 1) rfl rfl rfl (la_of y2) ?_
  refine l_gr rfl (ko_11 hS (List.Mem.head _)) rfl (fun _ => rfl) (kf_11_34 r2.2 (List.Mem.head _)) ?_
  refine l1 (n := 1) rfl rfl rfl (la_of y2) ?_
  refine l_gi rfl (ko_11 hS (List.Mem.head _)) rfl (fun _ => rfl) ?_
  refine b_ia rfl (kc_373 (fz := fz) hS).1 (Nat.le_of_ble_eq_true rfl) (inr_gi _ _ _) (fun q => ?_)
  replace h := h q
  refine b_is rfl (kc_362 (fz := fz) hS).1 (Nat.le_of_ble_eq_true rfl) i1 (fun q M3 e => ?_)
  replace h := h q M3 e
  have r3 := r2.wi (Nat.le_of_ble_eq_true rfl) (Nat.le_of_ble_eq_true rfl) e
  refine l1 (n := 1) rfl rfl rfl (la_of y2) ?_
  refine l_gr rfl (ko_11 hS (List.Mem.head _)) rfl (fun _ => rfl) (kf_11_20 r3.2 (List.Mem.head _)) ?_
  refine l1 (n := 1) rfl rfl rfl (li_of y1) ?_
  refine l1 (n := 1) rfl rfl rfl (la_of y2) ?_
  refine l_gr rfl (ko_11 hS (List.Mem.head _)) rfl (fun _ => rfl) (kf_11_35 r3.2 (List.Mem.head _)) ?_
  refine l1 (n := 1) rfl rfl rfl (la_of y2) ?_
  refine l_gi rfl (ko_11 hS (List.Mem.head _)) rfl (fun _ => rfl) ?_
  refine b_ia rfl (kc_374 (fz := fz) hS).1 (Nat.le_of_ble_eq_true rfl) (inr_gi _ _ _) (fun q => ?_)
  replace h := h q
  refine b_is rfl (kc_363 (fz := fz) hS).1 (Nat.le_of_ble_eq_true rfl) i1 (fun q M4 e => ?_)
  replace h := h q M4 e
  have r4 := r3.wi (Nat.le_of_ble_eq_true rfl) (Nat.le_of_ble_eq_true rfl) e
  refine l1 (n := 1) rfl rfl rfl (la_of y2) ?_
  refine l_gr rfl (ko_11 hS (List.Mem.head _)) rfl (fun _ => rfl) (kf_11_21 r4.2 (List.Mem.head _)) ?_
  refine l1 (n := 1) rfl rfl rfl (li_of y1) ?_
  refine l1 (n := 1) rfl rfl rfl rfl ?_
  refine b_is rfl (kc_364 (fz := fz) hS).1 (Nat.le_of_ble_eq_true rfl) i1 (fun q M5 e => ?_)
  replace h := h q M5 e
  have r5 := r4.wi (Nat.le_of_ble_eq_true rfl) (Nat.le_of_ble_eq_true rfl) e
  refine l1 (n := 1) rfl rfl rfl (la_of y2) ?_
  refine l_gr rfl (ko_11 hS (List.Mem.head _)) rfl (fun _ => rfl) (kf_11_22 r5.2 (List.Mem.head _)) ?_
  refine l1 (n := 1) rfl rfl rfl (li_of y1) ?_
  refine l1 (n := 1) rfl rfl rfl rfl ?_
  refine b_is rfl (kc_365 (fz := fz) hS).1 (Nat.le_of_ble_eq_true rfl) i1 (fun q M6 e => ?_)
  replace h := h q M6 e
  have r6 := r5.wi (Nat.le_of_ble_eq_true rfl) (Nat.le_of_ble_eq_true rfl) e
  refine l1 (n := 1) rfl rfl rfl (la_of y2) ?_
  refine l_gr rfl (ko_11 hS (List.Mem.head _)) rfl (fun _ => rfl) (kf_11_23 r6.2 (List.Mem.head _)) ?_
  refine l1 (n := 1) rfl rfl rfl (li_of y1) ?_
  refine l1 (n := 1) rfl rfl rfl rfl ?_
  refine b_is rfl (kc_366 (fz := fz) hS).1 (Nat.le_of_ble_eq_true rfl) i1 (fun q M7 e => ?_)
  replace h := h q M7 e
  have r7 := r6.wi (Nat.le_of_ble_eq_true rfl) (Nat.le_of_ble_eq_true rfl) e
  refine l1 (n := 1) rfl rfl rfl (la_of y2) ?_
  refine l_gr rfl (ko_11 hS (List.Mem.head _)) rfl (fun _ => rfl) (kf_11_24 r7.2 (List.Mem.head _)) ?_
  refine l1 (n := 1) rfl rfl rfl (li_of y1) ?_
  refine l1 (n := 1) rfl rfl rfl rfl ?_
  refine b_is rfl (kc_367 (fz := fz) hS).1 (Nat.le_of_ble_eq_true rfl) i1 (fun q M8 e => ?_)
  replace h := h q M8 e
  have r8 := r7.wi (Nat.le_of_ble_eq_true rfl) (Nat.le_of_ble_eq_true rfl) e
  refine l1 (n := 1) rfl rfl rfl (la_of y2) ?_
  refine l_gr rfl (ko_11 hS (List.Mem.head _)) rfl (fun _ => rfl) (kf_11_36 r8.2 (List.Mem.head _)) ?_
  refine l1 (n := 1) rfl rfl rfl (la_of y2) ?_
  refine l_gi rfl (ko_11 hS (List.Mem.head _)) rfl (fun _ => rfl) ?_
  refine b_ia rfl (kc_375 (fz := fz) hS).1 (Nat.le_of_ble_eq_true rfl) (inr_gi _ _ _) (fun q => ?_)
  replace h := h q
  refine l_s1 (n := 1) rfl rfl rfl rfl (fun ls y3 ho => ?_)
  have y4 := ho 0 _ (by decide) (fun q => by cases q.2) y2
  have y5 := ho 1 _ (by decide) (fun q => by cases q.2) y1
  refine l1 (n := 1) rfl rfl rfl (la_of y4) ?_
  refine l_gr rfl (ko_11 hS (List.Mem.head _)) rfl (fun _ => rfl) (kf_11_34 r8.2 (List.Mem.head _)) ?_
  refine l1 (n := 1) rfl rfl rfl (la_of y4) ?_
  refine l_gi rfl (ko_11 hS (List.Mem.head _)) rfl (fun _ => rfl) ?_
  refine b_ia rfl (kc_373 (fz := fz) hS).1 (Nat.le_of_ble_eq_true rfl) (inr_gi _ _ _) (fun q => ?_)
  replace h := h q
  refine l_s1 (n := 1) rfl rfl rfl rfl (fun ls y6 ho => ?_)
  have y7 := ho 0 _ (by decide) (fun q => by cases q.2) y4
  have y8 := ho 1 _ (by decide) (fun q => by cases q.2) y5
  have y9 := ho 2 _ (by decide) (fun q => by cases q.2) y3
  refine l1 (n := 1) rfl rfl rfl (li_of y9) ?_
  refine l_if rfl (inr_gi _ _ _) (fun c => ?_) (fun c => ?_)
  · replace h := h.1 c
    refine l1 (n := 1) rfl rfl rfl (li_of y6) ?_
    refine l_if rfl (inr_gi _ _ _) (fun c => ?_) (fun c => ?_)
    · replace h := h.1 c
      refine l1 (n := 1) rfl rfl rfl (la_of y7) ?_
      refine l_gr rfl (ko_11 hS (List.Mem.head _)) rfl (fun _ => rfl) (kf_11_35 r8.2 (List.Mem.head _)) ?_
      refine l1 (n := 1) rfl rfl rfl (la_of y7) ?_
      refine l_gi rfl (ko_11 hS (List.Mem.head _)) rfl (fun _ => rfl) ?_
      refine b_ia rfl (kc_374 (fz := fz) hS).1 (Nat.le_of_ble_eq_true rfl) (inr_gi _ _ _) (fun q => ?_)
      replace h := h q
      refine l_if rfl (inr_gi _ _ _) (fun c => ?_) (fun c => ?_)
      · replace h := h.2 c
        refine l1 (n := 1) rfl rfl rfl (la_of y7) ?_
        refine l_gr rfl (ko_11 hS (List.Mem.head _)) rfl (fun _ => rfl) (kf_11_23 r8.2 (List.Mem.head _)) ?_
        refine l1 (n := 1) rfl rfl rfl (li_of y6) ?_
        refine l1 (n := 1) rfl rfl rfl (li_of y8) ?_
        refine b_is rfl (kc_366 (fz := fz) hS).1 (Nat.le_of_ble_eq_true rfl) (inr_gi _ _ _) (fun q M9 e => ?_)
        replace h := h q M9 e
        have r9 := r8.wi (Nat.le_of_ble_eq_true rfl) (Nat.le_of_ble_eq_true rfl) e
        exact E_W_newStatement_176 hS r9 i1 y7 y8 h
      · replace h := h.1 (Classical.not_not.mp c)
        refine l1 (n := 1) rfl rfl rfl (la_of y7) ?_
        refine l_gr rfl (ko_11 hS (List.Mem.head _)) rfl (fun _ => rfl) (kf_11_22 r8.2 (List.Mem.head _)) ?_
        refine l1 (n := 1) rfl rfl rfl (li_of y6) ?_
        refine l1 (n := 1) rfl rfl rfl (li_of y8) ?_
        refine b_is rfl (kc_365 (fz := fz) hS).1 (Nat.le_of_ble_eq_true rfl) (inr_gi _ _ _) (fun q M10 e => ?_)
        replace h := h q M10 e
        have r10 := r8.wi (Nat.le_of_ble_eq_true rfl) (Nat.le_of_ble_eq_true rfl) e
        refine l3 rfl rfl rfl ?_
        exact E_W_newStatement_176 hS r10 i1 y7 y8 h
    · replace h := h.2 c
      refine l1 (n := 1) rfl rfl rfl (la_of y7) ?_
      refine l_gr rfl (ko_11 hS (List.Mem.head _)) rfl (fun _ => rfl) (kf_11_15 r8.2 (List.Mem.head _)) ?_
      refine l1 (n := 1) rfl rfl rfl (la_of y7) ?_
      refine l_gi rfl (ko_11 hS (List.Mem.head _)) rfl (fun _ => rfl) ?_
      refine l1 (n := 1) rfl rfl rfl (li_of y8) ?_
      refine b_is rfl (kc_358 (fz := fz) hS).1 (Nat.le_of_ble_eq_true rfl) (inr_gi _ _ _) (fun q M11 e => ?_)
      replace h := h q M11 e
      have r11 := r8.wi (Nat.le_of_ble_eq_true rfl) (Nat.le_of_ble_eq_true rfl) e
      refine l3 rfl rfl rfl ?_
      exact E_W_newStatement_176 hS r11 i1 y7 y8 h
  · replace h := h.2 c
    refine l1 (n := 1) rfl rfl rfl (la_of y7) ?_
    refine l_gr rfl (ko_11 hS (List.Mem.head _)) rfl (fun _ => rfl) (kf_11_18 r8.2 (List.Mem.head _)) ?_
    refine l1 (n := 1) rfl rfl rfl (li_of y9) ?_
    refine l1 (n := 1) rfl rfl rfl (li_of y8) ?_
    refine b_is rfl (kc_361 (fz := fz) hS).1 (Nat.le_of_ble_eq_true rfl) (inr_gi _ _ _) (fun q M12 e => ?_)
    replace h := h q M12 e
    have r12 := r8.wi (Nat.le_of_ble_eq_true rfl) (Nat.le_of_ble_eq_true rfl) e
    refine l3 rfl rfl rfl ?_
    exact E_W_newStatement_176 hS r12 i1 y7 y8 h
def em_W_newStatement (M : rf_M) (K : Int → rf_M → Prop) : Prop := e_W_newStatement  M K
theorem E_W_newStatement_m {fz : Bool} {S : gS} {B : rf_M} {M : rf_M} {n0 : Nat} {K : Int → rf_M → Prop} (hS : rl S) (hR : fl 353 406 B M) (h : em_W_newStatement  M K) : lx (cx0 fz) n0 144 0 (lv_args 0 [.ref 353]) [] (M, S) (vl_i 353 406 B S K) :=
  E_W_newStatement hS hR rfl h
def e_W_take_23 (M : rf_M) (K : rf_M → Prop) : Prop := K M
theorem E_W_take_23 {fz : Bool} {S : gS} {B : rf_M} {M : rf_M} {ls : rf_L} {n0 : Nat} {K : rf_M → Prop} (hS : rl S) (hR : fl 353 406 B M) (h : e_W_take_23 M K) : lx (cx0 fz) n0 145 23 ls [] (M, S) (vl_v 353 406 B S K) := by
  unfold e_W_take_23 at h
  exact l_rv rfl rfl hR h
def e_W_take_12 (M : rf_M) (K : rf_M → Prop) : Prop := ((gi M 353 9) = 0 → (em_W_next  M (fun (M1 : rf_M) => e_W_take_23 M1 K))) ∧ (¬ (gi M 353 9) = 0 → (e_W_take_23 M K))
theorem E_W_take_12 {fz : Bool} {S : gS} {B : rf_M} {M : rf_M} {ls : rf_L} {n0 : Nat} {K : rf_M → Prop} (hS : rl S) (hR : fl 353 406 B M) (a0 : rf_ld ls 0 = some (.ref 353)) (h : e_W_take_12 M K) : lx (cx0 fz) n0 145 12 ls [] (M, S) (vl_v 353 406 B S K) := by
  unfold e_W_take_12 at h
  refine l1 (n := 1) rfl rfl rfl (la_of a0) ?_
  refine l_gi rfl (ko_11 hS (List.Mem.head _)) rfl (fun _ => rfl) ?_
  refine l_if rfl (inr_gi _ _ _) (fun c => ?_) (fun c => ?_)
  · replace h := h.2 c
    exact E_W_take_23 hS hR  h
  · replace h := h.1 (Classical.not_not.mp c)
    refine l1 (n := 1) rfl rfl rfl (la_of a0) ?_
    refine b_iv (c := 353) (as := []) (rest := []) rfl (by decide) (ko_11 hS (List.Mem.head _)) rfl rfl (Nat.le_of_ble_eq_true rfl) (fun hq => ?_)
    refine lx_mono (E_W_next_m hS hR h) ?_
    rintro _ _ ⟨M1, rfl, rfl, r1, h⟩
    exact E_W_take_23 hS r1  h
def e_W_take (v1 : Int) (M : rf_M) (K : rf_M → Prop) : Prop := em_W_isSign v1 M (fun (z1 : Int) (M1 : rf_M) => (z1 = 0 → (em_W_misplaced  M1 (fun (M2 : rf_M) => e_W_take_12 M2 K))) ∧ (¬ z1 = 0 → (e_W_take_12 M1 K)))
theorem E_W_take {fz : Bool} {S : gS} {B : rf_M} {M : rf_M} {ls : rf_L} {n0 : Nat} {v1 : Int} {K : rf_M → Prop} (hS : rl S) (hR : fl 353 406 B M) (iv1 : inr v1) (a0 : rf_ld ls 0 = some (.ref 353)) (a1 : rf_ld ls 1 = some (zv v1)) (h : e_W_take v1 M K) : lx (cx0 fz) n0 145 0 ls [] (M, S) (vl_v 353 406 B S K) := by
  unfold e_W_take at h
  refine l1 (n := 1) rfl rfl rfl (la_of a0) ?_
  refine l1 (n := 1) rfl rfl rfl (li_of a1) ?_
  refine b_iv (c := 353) (as := [zv v1]) (rest := []) rfl (by decide) (ko_11 hS (List.Mem.head _)) rfl rfl (Nat.le_of_ble_eq_true rfl) (fun hq => ?_)
  refine lx_mono (E_W_isSign_m hS hR iv1 h) ?_
  rintro _ _ ⟨z1, M1, rfl, rfl, r1, iz1, h⟩
  refine l_if rfl iz1 (fun c => ?_) (fun c => ?_)
  · replace h := h.2 c
    exact E_W_take_12 hS r1 a0 h
  · replace h := h.1 (Classical.not_not.mp c)
    refine l1 (n := 1) rfl rfl rfl (la_of a0) ?_
    refine b_iv (c := 353) (as := []) (rest := []) rfl (by decide) (ko_11 hS (List.Mem.head _)) rfl rfl (Nat.le_of_ble_eq_true rfl) (fun hq => ?_)
    refine lx_mono (E_W_misplaced_m hS r1 h) ?_
    rintro _ _ ⟨M2, rfl, rfl, r2, h⟩
    exact E_W_take_12 hS r2 a0 h
def em_W_take (x1 : Int) (M : rf_M) (K : rf_M → Prop) : Prop := e_W_take x1 M K
theorem E_W_take_m {fz : Bool} {S : gS} {B : rf_M} {M : rf_M} {n0 : Nat} {x1 : Int} {K : rf_M → Prop} (hS : rl S) (hR : fl 353 406 B M) (ix1 : inr x1) (h : em_W_take x1 M K) : lx (cx0 fz) n0 145 0 (lv_args 0 [.ref 353, zv x1]) [] (M, S) (vl_v 353 406 B S K) :=
  E_W_take hS hR ix1 rfl rfl h
def e_W_act (v1 : Int) (v2 : Int) (v3 : Int64) (M : rf_M) (K : rf_M → Prop) : Prop := (0 ≤ (gi M 353 28) ∧ (gi M 353 28) < 12 → ((0 ≤ (gi M 353 28) ∧ (gi M 353 28) < 12 → ((0 ≤ (gi M 353 28) ∧ (gi M 353 28) < 12 → (∀ M1 : rf_M, M1 = wi M 359 (gi M 353 28).toNat ((gi M 359 (gi M 353 28).toNat) + 1) → (inr ((200 * (gi M 353 28)) + (gi M 359 (gi M 353 28).toNat)) ∧ ((0 ≤ ((200 * (gi M 353 28)) + (gi M 359 (gi M 353 28).toNat)) ∧ ((200 * (gi M 353 28)) + (gi M 359 (gi M 353 28).toNat)) < 2400 → (∀ M2 : rf_M, M2 = wi M1 368 ((200 * (gi M 353 28)) + (gi M 359 (gi M 353 28).toNat)).toNat v1 → ((0 ≤ ((200 * (gi M 353 28)) + (gi M 359 (gi M 353 28).toNat)) ∧ ((200 * (gi M 353 28)) + (gi M 359 (gi M 353 28).toNat)) < 2400 → (∀ M3 : rf_M, M3 = wi M2 369 ((200 * (gi M 353 28)) + (gi M 359 (gi M 353 28).toNat)).toNat v2 → ((0 ≤ ((200 * (gi M 353 28)) + (gi M 359 (gi M 353 28).toNat)) ∧ ((200 * (gi M 353 28)) + (gi M 359 (gi M 353 28).toNat)) < 2400 → (∀ M4 : rf_M, M4 = wl M3 370 ((200 * (gi M 353 28)) + (gi M 359 (gi M 353 28).toNat)).toNat v3 → (K M4)))))))))))))))))
theorem E_W_act {fz : Bool} {S : gS} {B : rf_M} {M : rf_M} {ls : rf_L} {n0 : Nat} {v1 : Int} {v2 : Int} {v3 : Int64} {K : rf_M → Prop} (hS : rl S) (hR : fl 353 406 B M) (iv1 : inr v1) (iv2 : inr v2) (a0 : rf_ld ls 0 = some (.ref 353)) (a1 : rf_ld ls 1 = some (zv v1)) (a2 : rf_ld ls 2 = some (zv v2)) (a3 : rf_ld ls 3 = some (.long v3)) (h : e_W_act v1 v2 v3 M K) : lx (cx0 fz) n0 148 0 ls [] (M, S) (vl_v 353 406 B S K) := by
  unfold e_W_act at h
  refine l_si rfl (by decide) ?_
  refine l1 (n := 1) rfl rfl rfl (la_of a0) ?_
  refine l_gi rfl (ko_11 hS (List.Mem.head _)) rfl (fun _ => rfl) ?_
  refine l_mul rfl ?_
  refine l1 (n := 1) rfl rfl rfl (la_of a0) ?_
  refine l_gr rfl (ko_11 hS (List.Mem.head _)) rfl (fun _ => rfl) (kf_11_16 hR.2 (List.Mem.head _)) ?_
  refine l1 (n := 1) rfl rfl rfl (la_of a0) ?_
  refine l_gi rfl (ko_11 hS (List.Mem.head _)) rfl (fun _ => rfl) ?_
  refine b_ia rfl (kc_359 (fz := fz) hS).1 (Nat.le_of_ble_eq_true rfl) (inr_gi _ _ _) (fun q => ?_)
  replace h := h q
  refine l_add rfl ?_
  refine l_s1 (n := 2) rfl rfl rfl rfl (fun ls y1 ho => ?_)
  have y2 := ho 0 _ (by decide) (fun q => by cases q.2) a0
  have y3 := ho 1 _ (by decide) (fun q => by cases q.2) a1
  have y4 := ho 2 _ (by decide) (fun q => by cases q.2) a2
  have y5 := ho 3 _ (by decide) (fun q => absurd q.1 (by decide)) a3
  refine l1 (n := 1) rfl rfl rfl (la_of y2) ?_
  refine l_gr rfl (ko_11 hS (List.Mem.head _)) rfl (fun _ => rfl) (kf_11_16 hR.2 (List.Mem.head _)) ?_
  refine l1 (n := 1) rfl rfl rfl (la_of y2) ?_
  refine l_gi rfl (ko_11 hS (List.Mem.head _)) rfl (fun _ => rfl) ?_
  refine l0 rfl rfl rfl ?_
  refine b_ia rfl (kc_359 (fz := fz) hS).1 (Nat.le_of_ble_eq_true rfl) (inr_gi _ _ _) (fun q => ?_)
  replace h := h q
  refine l1 (n := 1) rfl rfl rfl rfl ?_
  refine l_add rfl ?_
  refine b_is rfl (kc_359 (fz := fz) hS).1 (Nat.le_of_ble_eq_true rfl) (inr_gi _ _ _) (fun q M1 e => ?_)
  replace h := h q M1 e
  have r1 := hR.wi (Nat.le_of_ble_eq_true rfl) (Nat.le_of_ble_eq_true rfl) e
  refine l1 (n := 1) rfl rfl rfl (la_of y2) ?_
  refine l_gr rfl (ko_11 hS (List.Mem.head _)) rfl (fun _ => rfl) (kf_11_25 r1.2 (List.Mem.head _)) ?_
  refine l1 (n := 2) rfl rfl rfl (li_of y1) ?_
  refine l1 (n := 1) rfl rfl rfl (li_of y3) ?_
  obtain ⟨i1, h⟩ := h
  refine b_is rfl (kc_368 (fz := fz) hS).1 (Nat.le_of_ble_eq_true rfl) i1 (fun q M2 e => ?_)
  replace h := h q M2 e
  have r2 := r1.wi (Nat.le_of_ble_eq_true rfl) (Nat.le_of_ble_eq_true rfl) e
  refine l1 (n := 1) rfl rfl rfl (la_of y2) ?_
  refine l_gr rfl (ko_11 hS (List.Mem.head _)) rfl (fun _ => rfl) (kf_11_26 r2.2 (List.Mem.head _)) ?_
  refine l1 (n := 2) rfl rfl rfl (li_of y1) ?_
  refine l1 (n := 1) rfl rfl rfl (li_of y4) ?_
  refine b_is rfl (kc_369 (fz := fz) hS).1 (Nat.le_of_ble_eq_true rfl) i1 (fun q M3 e => ?_)
  replace h := h q M3 e
  have r3 := r2.wi (Nat.le_of_ble_eq_true rfl) (Nat.le_of_ble_eq_true rfl) e
  refine l1 (n := 1) rfl rfl rfl (la_of y2) ?_
  refine l_gr rfl (ko_11 hS (List.Mem.head _)) rfl (fun _ => rfl) (kf_11_27 r3.2 (List.Mem.head _)) ?_
  refine l1 (n := 2) rfl rfl rfl (li_of y1) ?_
  refine l1 (n := 1) rfl rfl rfl (ll_of y5) ?_
  refine b_ls rfl (kc_370 (fz := fz) hS).1 (Nat.le_of_ble_eq_true rfl) i1 (fun q M4 e => ?_)
  replace h := h q M4 e
  have r4 := r3.wl (Nat.le_of_ble_eq_true rfl) (Nat.le_of_ble_eq_true rfl) e
  exact l_rv rfl rfl r4 h
def em_W_act (x1 : Int) (x2 : Int) (x3 : Int64) (M : rf_M) (K : rf_M → Prop) : Prop := e_W_act x1 x2 x3 M K
theorem E_W_act_m {fz : Bool} {S : gS} {B : rf_M} {M : rf_M} {n0 : Nat} {x1 : Int} {x2 : Int} {x3 : Int64} {K : rf_M → Prop} (hS : rl S) (hR : fl 353 406 B M) (ix1 : inr x1) (ix2 : inr x2) (h : em_W_act x1 x2 x3 M K) : lx (cx0 fz) n0 148 0 (lv_args 0 [.ref 353, zv x1, zv x2, .long x3]) [] (M, S) (vl_v 353 406 B S K) :=
  E_W_act hS hR ix1 ix2 rfl rfl rfl rfl h
def e_W_operandIsThere_54 (M : rf_M) (K : rf_M → Prop) : Prop := K M
theorem E_W_operandIsThere_54 {fz : Bool} {S : gS} {B : rf_M} {M : rf_M} {ls : rf_L} {n0 : Nat} {K : rf_M → Prop} (hS : rl S) (hR : fl 353 406 B M) (h : e_W_operandIsThere_54 M K) : lx (cx0 fz) n0 149 54 ls [] (M, S) (vl_v 353 406 B S K) := by
  unfold e_W_operandIsThere_54 at h
  exact l_rv rfl rfl hR h
def e_W_operandIsThere_0b (M : rf_M) (b0 : rf_M → Prop) (K : rf_M → Prop) : Prop := ((gi M 353 30) ≤ 0 → (e_W_operandIsThere_54 M K)) ∧ (¬ ((gi M 353 30) ≤ 0) → (inr ((gi M 353 30) - 1) ∧ ((0 ≤ ((gi M 353 30) - 1) ∧ ((gi M 353 30) - 1) < 64 → (((gi M 371 ((gi M 353 30) - 1).toNat) = 1000 → (∀ M1 : rf_M, M1 = wi M 353 30 ((gi M 353 30) - 1) → (∀ M2 : rf_M, M2 = wi M1 353 31 ((gi M1 353 31) - 1) → (em_W_act 3 (-1) (Int64.ofNat 0) M2 (fun (M3 : rf_M) => b0 M3))))) ∧ (¬ (gi M 371 ((gi M 353 30) - 1).toNat) = 1000 → (e_W_operandIsThere_54 M K)))))))
theorem E_W_operandIsThere_0b {fz : Bool} {S : gS} {B : rf_M} {M : rf_M} {ls : rf_L} {n0 : Nat} {b0 : rf_M → Prop} {K : rf_M → Prop} (hS : rl S) (hR : fl 353 406 B M) (a0 : rf_ld ls 0 = some (.ref 353)) (hb0 : ∀ n', n' < n0 → ∀ (M : rf_M) (ls : rf_L), fl 353 406 B M → rf_ld ls 0 = some (.ref 353) → b0  M → lx (cx0 fz) n' 149 0 ls [] (M, S) (vl_v 353 406 B S K)) (h : e_W_operandIsThere_0b M b0 K) : lx (cx0 fz) n0 149 0 ls [] (M, S) (vl_v 353 406 B S K) := by
  unfold e_W_operandIsThere_0b at h
  rcases Nat.eq_zero_or_pos n0 with e0 | hp
  · rw [e0]; exact lx_zero
  refine l1 (n := 1) rfl rfl rfl (la_of a0) ?_
  refine l_gi rfl (ko_11 hS (List.Mem.head _)) rfl (fun _ => rfl) ?_
  refine l_if rfl (inr_gi _ _ _) (fun c => ?_) (fun c => ?_)
  · replace h := h.1 c
    exact E_W_operandIsThere_54 hS hR  h
  · replace h := h.2 c
    refine l1 (n := 1) rfl rfl rfl (la_of a0) ?_
    refine l_gr rfl (ko_11 hS (List.Mem.head _)) rfl (fun _ => rfl) (kf_11_29 hR.2 (List.Mem.head _)) ?_
    refine l1 (n := 1) rfl rfl rfl (la_of a0) ?_
    refine l_gi rfl (ko_11 hS (List.Mem.head _)) rfl (fun _ => rfl) ?_
    refine l1 (n := 1) rfl rfl rfl rfl ?_
    refine l_sub rfl ?_
    obtain ⟨i1, h⟩ := h
    refine b_ia rfl (kc_371 (fz := fz) hS).1 (Nat.le_of_ble_eq_true rfl) i1 (fun q => ?_)
    replace h := h q
    refine l_si rfl (by decide) ?_
    refine l_ic rfl (inr_gi _ _ _) ⟨by decide, by decide⟩ (fun c => ?_) (fun c => ?_)
    · replace h := h.2 c
      exact E_W_operandIsThere_54 hS hR  h
    · replace h := h.1 (Classical.not_not.mp c)
      refine l1 (n := 1) rfl rfl rfl (la_of a0) ?_
      refine l0 rfl rfl rfl ?_
      refine l_gi rfl (ko_11 hS (List.Mem.head _)) rfl (fun _ => rfl) ?_
      refine l1 (n := 1) rfl rfl rfl rfl ?_
      refine l_sub rfl ?_
      refine l_pi rfl (ko_11 (fz := fz) hS (List.Mem.head _)) rfl (fun _ _ => rfl) (fun M1 e => ?_)
      replace h := h M1 e
      have r1 := hR.wi (Nat.le_of_ble_eq_true rfl) (Nat.le_of_ble_eq_true rfl) e
      refine l1 (n := 1) rfl rfl rfl (la_of a0) ?_
      refine l0 rfl rfl rfl ?_
      refine l_gi rfl (ko_11 hS (List.Mem.head _)) rfl (fun _ => rfl) ?_
      refine l1 (n := 1) rfl rfl rfl rfl ?_
      refine l_sub rfl ?_
      refine l_pi rfl (ko_11 (fz := fz) hS (List.Mem.head _)) rfl (fun _ _ => rfl) (fun M2 e => ?_)
      replace h := h M2 e
      have r2 := r1.wi (Nat.le_of_ble_eq_true rfl) (Nat.le_of_ble_eq_true rfl) e
      refine l1 (n := 1) rfl rfl rfl (la_of a0) ?_
      refine l1 (n := 1) rfl rfl rfl rfl ?_
      refine l1 (n := 1) rfl rfl rfl rfl ?_
      refine l1 (n := 1) rfl rfl rfl rfl ?_
      refine b_iv (c := 353) (as := [zv 3, zv (-1), .long (Int64.ofNat 0)]) (rest := []) rfl (by decide) (ko_11 hS (List.Mem.head _)) rfl rfl (Nat.le_of_ble_eq_true rfl) (fun hq => ?_)
      refine lx_mono (E_W_act_m hS r2 ⟨by decide, by decide⟩ ⟨by decide, by decide⟩ h) ?_
      rintro _ _ ⟨M3, rfl, rfl, r3, h⟩
      refine l3 rfl rfl rfl ?_
      exact hb0 _ (by omega) _ _ r3 a0 h
def e_W_operandIsThere_0 (M : rf_M) (K : rf_M → Prop) : Prop := ∃ Inv : rf_M → Prop, Inv M ∧ ∀ (M : rf_M), Inv M → e_W_operandIsThere_0b M Inv K
theorem E_W_operandIsThere_0 {fz : Bool} {S : gS} {B : rf_M} {M : rf_M} {ls : rf_L} {n0 : Nat} {K : rf_M → Prop} (hS : rl S) (hR : fl 353 406 B M) (a0 : rf_ld ls 0 = some (.ref 353)) (h : e_W_operandIsThere_0 M K) : lx (cx0 fz) n0 149 0 ls [] (M, S) (vl_v 353 406 B S K) := by
  obtain ⟨Inv, hm, hb⟩ := h
  induction n0 using Nat.strongRecOn generalizing ls M with
  | _ n0 ih =>
    refine E_W_operandIsThere_0b hS hR a0 (fun n' hn' M' ls' hR' f0 q2 => ih n' hn' hR' f0 q2) (hb M  hm)
def em_W_operandIsThere (M : rf_M) (K : rf_M → Prop) : Prop := e_W_operandIsThere_0  M K
theorem E_W_operandIsThere_m {fz : Bool} {S : gS} {B : rf_M} {M : rf_M} {n0 : Nat} {K : rf_M → Prop} (hS : rl S) (hR : fl 353 406 B M) (h : em_W_operandIsThere  M K) : lx (cx0 fz) n0 149 0 (lv_args 0 [.ref 353]) [] (M, S) (vl_v 353 406 B S K) :=
  E_W_operandIsThere_0 hS hR rfl h
def e_W_readUnary_94 (M : rf_M) (K : Int → rf_M → Prop) : Prop := em_W_misplaced  M (fun (M1 : rf_M) => K 0 M1)
theorem E_W_readUnary_94 {fz : Bool} {S : gS} {B : rf_M} {M : rf_M} {ls : rf_L} {n0 : Nat} {K : Int → rf_M → Prop} (hS : rl S) (hR : fl 353 406 B M) (a0 : rf_ld ls 0 = some (.ref 353)) (h : e_W_readUnary_94 M K) : lx (cx0 fz) n0 147 94 ls [] (M, S) (vl_i 353 406 B S K) := by
  unfold e_W_readUnary_94 at h
  refine l1 (n := 1) rfl rfl rfl (la_of a0) ?_
  refine b_iv (c := 353) (as := []) (rest := []) rfl (by decide) (ko_11 hS (List.Mem.head _)) rfl rfl (Nat.le_of_ble_eq_true rfl) (fun hq => ?_)
  refine lx_mono (E_W_misplaced_m hS hR h) ?_
  rintro _ _ ⟨M1, rfl, rfl, r1, h⟩
  refine l1 (n := 1) rfl rfl rfl rfl ?_
  exact l_rb rfl rfl (Or.inl rfl) r1 h
def e_W_readUnary_192 (M : rf_M) (K : Int → rf_M → Prop) : Prop := em_W_next  M (fun (M1 : rf_M) => K 1 M1)
theorem E_W_readUnary_192 {fz : Bool} {S : gS} {B : rf_M} {M : rf_M} {ls : rf_L} {n0 : Nat} {K : Int → rf_M → Prop} (hS : rl S) (hR : fl 353 406 B M) (a0 : rf_ld ls 0 = some (.ref 353)) (h : e_W_readUnary_192 M K) : lx (cx0 fz) n0 147 192 ls [] (M, S) (vl_i 353 406 B S K) := by
  unfold e_W_readUnary_192 at h
  refine l1 (n := 1) rfl rfl rfl (la_of a0) ?_
  refine b_iv (c := 353) (as := []) (rest := []) rfl (by decide) (ko_11 hS (List.Mem.head _)) rfl rfl (Nat.le_of_ble_eq_true rfl) (fun hq => ?_)
  refine lx_mono (E_W_next_m hS hR h) ?_
  rintro _ _ ⟨M1, rfl, rfl, r1, h⟩
  refine l1 (n := 1) rfl rfl rfl rfl ?_
  exact l_rb rfl rfl (Or.inr rfl) r1 h
def e_W_readUnary_152 (s1 : Int) (s2 : Int) (M : rf_M) (K : Int → rf_M → Prop) : Prop := (0 ≤ s1 ∧ s1 < 64 → (∀ M1 : rf_M, M1 = wi M 371 (s1).toNat s2 → (∀ M2 : rf_M, M2 = wi M1 353 30 ((gi M1 353 30) + 1) → (em_W_isSign 40 M2 (fun (z3 : Int) (M3 : rf_M) => (z3 = 0 → (e_W_readUnary_192 M3 K)) ∧ (¬ (z3 = 0) → (∀ M4 : rf_M, M4 = wi M3 353 33 ((gi M3 353 33) + 1) → ((0 ≤ (gi M4 353 33) ∧ (gi M4 353 33) < 16 → (∀ M5 : rf_M, M5 = wi M4 372 (gi M4 353 33).toNat (Int32.ofInt 0 &&& 1).toInt → (e_W_readUnary_192 M5 K)))))))))))
theorem E_W_readUnary_152 {fz : Bool} {S : gS} {B : rf_M} {M : rf_M} {ls : rf_L} {n0 : Nat} {s1 : Int} {s2 : Int} {K : Int → rf_M → Prop} (hS : rl S) (hR : fl 353 406 B M) (is1 : inr s1) (is2 : inr s2) (a0 : rf_ld ls 0 = some (.ref 353)) (h : e_W_readUnary_152 s1 s2 M K) : lx (cx0 fz) n0 147 152 ls [zv s2, zv s1, .ref 371] (M, S) (vl_i 353 406 B S K) := by
  unfold e_W_readUnary_152 at h
  refine b_is rfl (kc_371 (fz := fz) hS).1 (Nat.le_of_ble_eq_true rfl) is1 (fun q M1 e => ?_)
  replace h := h q M1 e
  have r1 := hR.wi (Nat.le_of_ble_eq_true rfl) (Nat.le_of_ble_eq_true rfl) e
  refine l1 (n := 1) rfl rfl rfl (la_of a0) ?_
  refine l0 rfl rfl rfl ?_
  refine l_gi rfl (ko_11 hS (List.Mem.head _)) rfl (fun _ => rfl) ?_
  refine l1 (n := 1) rfl rfl rfl rfl ?_
  refine l_add rfl ?_
  refine l_pi rfl (ko_11 (fz := fz) hS (List.Mem.head _)) rfl (fun _ _ => rfl) (fun M2 e => ?_)
  replace h := h M2 e
  have r2 := r1.wi (Nat.le_of_ble_eq_true rfl) (Nat.le_of_ble_eq_true rfl) e
  refine l1 (n := 1) rfl rfl rfl (la_of a0) ?_
  refine l_bi rfl (by decide) ?_
  refine b_iv (c := 353) (as := [zv 40]) (rest := []) rfl (by decide) (ko_11 hS (List.Mem.head _)) rfl rfl (Nat.le_of_ble_eq_true rfl) (fun hq => ?_)
  refine lx_mono (E_W_isSign_m hS r2 ⟨by decide, by decide⟩ h) ?_
  rintro _ _ ⟨z3, M3, rfl, rfl, r3, iz3, h⟩
  refine l_if rfl iz3 (fun c => ?_) (fun c => ?_)
  · replace h := h.1 c
    exact E_W_readUnary_192 hS r3 a0 h
  · replace h := h.2 c
    refine l1 (n := 1) rfl rfl rfl (la_of a0) ?_
    refine l0 rfl rfl rfl ?_
    refine l_gi rfl (ko_11 hS (List.Mem.head _)) rfl (fun _ => rfl) ?_
    refine l1 (n := 1) rfl rfl rfl rfl ?_
    refine l_add rfl ?_
    refine l_pi rfl (ko_11 (fz := fz) hS (List.Mem.head _)) rfl (fun _ _ => rfl) (fun M4 e => ?_)
    replace h := h M4 e
    have r4 := r3.wi (Nat.le_of_ble_eq_true rfl) (Nat.le_of_ble_eq_true rfl) e
    refine l1 (n := 1) rfl rfl rfl (la_of a0) ?_
    refine l_gr rfl (ko_11 hS (List.Mem.head _)) rfl (fun _ => rfl) (kf_11_32 r4.2 (List.Mem.head _)) ?_
    refine l1 (n := 1) rfl rfl rfl (la_of a0) ?_
    refine l_gi rfl (ko_11 hS (List.Mem.head _)) rfl (fun _ => rfl) ?_
    refine l1 (n := 1) rfl rfl rfl rfl ?_
    refine b_zs rfl (kc_372 (fz := fz) hS).1 (Nat.le_of_ble_eq_true rfl) (inr_gi _ _ _) (fun q M5 e => ?_)
    replace h := h q M5 e
    have r5 := r4.wi (Nat.le_of_ble_eq_true rfl) (Nat.le_of_ble_eq_true rfl) e
    exact E_W_readUnary_192 hS r5 a0 h
def e_W_readUnary_244 (s1 : Int) (s2 : Int) (s3 : Int64) (M : rf_M) (K : Int → rf_M → Prop) : Prop := em_W_act s1 s2 s3 M (fun (M1 : rf_M) => em_W_next  M1 (fun (M2 : rf_M) => em_W_operandIsThere  M2 (fun (M3 : rf_M) => K 0 M3)))
theorem E_W_readUnary_244 {fz : Bool} {S : gS} {B : rf_M} {M : rf_M} {ls : rf_L} {n0 : Nat} {s1 : Int} {s2 : Int} {s3 : Int64} {K : Int → rf_M → Prop} (hS : rl S) (hR : fl 353 406 B M) (is1 : inr s1) (is2 : inr s2) (a0 : rf_ld ls 0 = some (.ref 353)) (h : e_W_readUnary_244 s1 s2 s3 M K) : lx (cx0 fz) n0 147 244 ls [.long s3, zv s2, zv s1, .ref 353] (M, S) (vl_i 353 406 B S K) := by
  unfold e_W_readUnary_244 at h
  refine b_iv (c := 353) (as := [zv s1, zv s2, .long s3]) (rest := []) rfl (by decide) (ko_11 hS (List.Mem.head _)) rfl rfl (Nat.le_of_ble_eq_true rfl) (fun hq => ?_)
  refine lx_mono (E_W_act_m hS hR is1 is2 h) ?_
  rintro _ _ ⟨M1, rfl, rfl, r1, h⟩
  refine l1 (n := 1) rfl rfl rfl (la_of a0) ?_
  refine b_iv (c := 353) (as := []) (rest := []) rfl (by decide) (ko_11 hS (List.Mem.head _)) rfl rfl (Nat.le_of_ble_eq_true rfl) (fun hq => ?_)
  refine lx_mono (E_W_next_m hS r1 h) ?_
  rintro _ _ ⟨M2, rfl, rfl, r2, h⟩
  refine l1 (n := 1) rfl rfl rfl (la_of a0) ?_
  refine b_iv (c := 353) (as := []) (rest := []) rfl (by decide) (ko_11 hS (List.Mem.head _)) rfl rfl (Nat.le_of_ble_eq_true rfl) (fun hq => ?_)
  refine lx_mono (E_W_operandIsThere_m hS r2 h) ?_
  rintro _ _ ⟨M3, rfl, rfl, r3, h⟩
  refine l1 (n := 1) rfl rfl rfl rfl ?_
  exact l_rb rfl rfl (Or.inl rfl) r3 h
def e_W_readUnary_228 (s1 : Int) (s2 : Int) (M : rf_M) (K : Int → rf_M → Prop) : Prop := ((gi M 353 4) = 3 → (e_W_readUnary_244 s1 s2 (gl M 353 7) M K)) ∧ (¬ (gi M 353 4) = 3 → (e_W_readUnary_244 s1 s2 (Int64.ofNat 0) M K))
theorem E_W_readUnary_228 {fz : Bool} {S : gS} {B : rf_M} {M : rf_M} {ls : rf_L} {n0 : Nat} {s1 : Int} {s2 : Int} {K : Int → rf_M → Prop} (hS : rl S) (hR : fl 353 406 B M) (is1 : inr s1) (is2 : inr s2) (a0 : rf_ld ls 0 = some (.ref 353)) (h : e_W_readUnary_228 s1 s2 M K) : lx (cx0 fz) n0 147 228 ls [zv s2, zv s1, .ref 353] (M, S) (vl_i 353 406 B S K) := by
  unfold e_W_readUnary_228 at h
  refine l1 (n := 1) rfl rfl rfl (la_of a0) ?_
  refine l_gi rfl (ko_11 hS (List.Mem.head _)) rfl (fun _ => rfl) ?_
  refine l1 (n := 1) rfl rfl rfl rfl ?_
  refine l_ic rfl (inr_gi _ _ _) ⟨by decide, by decide⟩ (fun c => ?_) (fun c => ?_)
  · replace h := h.2 c
    refine l1 (n := 1) rfl rfl rfl rfl ?_
    exact E_W_readUnary_244 hS hR is1 is2 a0 h
  · replace h := h.1 (Classical.not_not.mp c)
    refine l1 (n := 1) rfl rfl rfl (la_of a0) ?_
    refine l_gl rfl (ko_11 hS (List.Mem.head _)) rfl (fun _ => rfl) ?_
    refine l3 rfl rfl rfl ?_
    exact E_W_readUnary_244 hS hR is1 is2 a0 h
def e_W_readUnary_212 (s1 : Int) (M : rf_M) (K : Int → rf_M → Prop) : Prop := ((gi M 353 4) = 2 → (e_W_readUnary_228 s1 (gi M 353 6) M K)) ∧ (¬ (gi M 353 4) = 2 → (e_W_readUnary_228 s1 (-1) M K))
theorem E_W_readUnary_212 {fz : Bool} {S : gS} {B : rf_M} {M : rf_M} {ls : rf_L} {n0 : Nat} {s1 : Int} {K : Int → rf_M → Prop} (hS : rl S) (hR : fl 353 406 B M) (is1 : inr s1) (a0 : rf_ld ls 0 = some (.ref 353)) (h : e_W_readUnary_212 s1 M K) : lx (cx0 fz) n0 147 212 ls [zv s1, .ref 353] (M, S) (vl_i 353 406 B S K) := by
  unfold e_W_readUnary_212 at h
  refine l1 (n := 1) rfl rfl rfl (la_of a0) ?_
  refine l_gi rfl (ko_11 hS (List.Mem.head _)) rfl (fun _ => rfl) ?_
  refine l1 (n := 1) rfl rfl rfl rfl ?_
  refine l_ic rfl (inr_gi _ _ _) ⟨by decide, by decide⟩ (fun c => ?_) (fun c => ?_)
  · replace h := h.2 c
    refine l1 (n := 1) rfl rfl rfl rfl ?_
    exact E_W_readUnary_228 hS hR is1 ⟨by decide, by decide⟩ a0 h
  · replace h := h.1 (Classical.not_not.mp c)
    refine l1 (n := 1) rfl rfl rfl (la_of a0) ?_
    refine l_gi rfl (ko_11 hS (List.Mem.head _)) rfl (fun _ => rfl) ?_
    refine l3 rfl rfl rfl ?_
    exact E_W_readUnary_228 hS hR is1 (inr_gi _ _ _) a0 h
def e_W_readUnary_100 (v2 : Int) (M : rf_M) (K : Int → rf_M → Prop) : Prop := (0 ≤ (gi M 353 28) ∧ (gi M 353 28) < 12 → ((0 ≤ (gi M 353 28) ∧ (gi M 353 28) < 12 → (∀ M1 : rf_M, M1 = wi M 356 (gi M 353 28).toNat ((gi M 356 (gi M 353 28).toNat) + 1) → ((v2 = 0 → (((gi M1 353 4) = 3 → (e_W_readUnary_212 1 M1 K)) ∧ (¬ (gi M1 353 4) = 3 → (e_W_readUnary_212 2 M1 K)))) ∧ (¬ (v2 = 0) → (∀ M2 : rf_M, M2 = wi M1 353 31 ((gi M1 353 31) + 1) → (em_W_isSign 40 M2 (fun (z3 : Int) (M3 : rf_M) => (z3 = 0 → (e_W_readUnary_152 (gi M2 353 30) 1000 M3 K)) ∧ (¬ (z3 = 0) → (e_W_readUnary_152 (gi M2 353 30) 40 M3 K)))))))))))
theorem E_W_readUnary_100 {fz : Bool} {S : gS} {B : rf_M} {M : rf_M} {ls : rf_L} {n0 : Nat} {v2 : Int} {K : Int → rf_M → Prop} (hS : rl S) (hR : fl 353 406 B M) (iv2 : inr v2) (a0 : rf_ld ls 0 = some (.ref 353)) (a2 : rf_ld ls 2 = some (zv v2)) (h : e_W_readUnary_100 v2 M K) : lx (cx0 fz) n0 147 100 ls [] (M, S) (vl_i 353 406 B S K) := by
  unfold e_W_readUnary_100 at h
  refine l1 (n := 1) rfl rfl rfl (la_of a0) ?_
  refine l_gr rfl (ko_11 hS (List.Mem.head _)) rfl (fun _ => rfl) (kf_11_13 hR.2 (List.Mem.head _)) ?_
  refine l1 (n := 1) rfl rfl rfl (la_of a0) ?_
  refine l_gi rfl (ko_11 hS (List.Mem.head _)) rfl (fun _ => rfl) ?_
  refine l0 rfl rfl rfl ?_
  refine b_ia rfl (kc_356 (fz := fz) hS).1 (Nat.le_of_ble_eq_true rfl) (inr_gi _ _ _) (fun q => ?_)
  replace h := h q
  refine l1 (n := 1) rfl rfl rfl rfl ?_
  refine l_add rfl ?_
  refine b_is rfl (kc_356 (fz := fz) hS).1 (Nat.le_of_ble_eq_true rfl) (inr_gi _ _ _) (fun q M1 e => ?_)
  replace h := h q M1 e
  have r1 := hR.wi (Nat.le_of_ble_eq_true rfl) (Nat.le_of_ble_eq_true rfl) e
  refine l1 (n := 1) rfl rfl rfl (li_of a2) ?_
  refine l_if rfl iv2 (fun c => ?_) (fun c => ?_)
  · replace h := h.1 c
    refine l1 (n := 1) rfl rfl rfl (la_of a0) ?_
    refine l1 (n := 1) rfl rfl rfl (la_of a0) ?_
    refine l_gi rfl (ko_11 hS (List.Mem.head _)) rfl (fun _ => rfl) ?_
    refine l1 (n := 1) rfl rfl rfl rfl ?_
    refine l_ic rfl (inr_gi _ _ _) ⟨by decide, by decide⟩ (fun c => ?_) (fun c => ?_)
    · replace h := h.2 c
      refine l1 (n := 1) rfl rfl rfl rfl ?_
      exact E_W_readUnary_212 hS r1 ⟨by decide, by decide⟩ a0 h
    · replace h := h.1 (Classical.not_not.mp c)
      refine l1 (n := 1) rfl rfl rfl rfl ?_
      refine l3 rfl rfl rfl ?_
      exact E_W_readUnary_212 hS r1 ⟨by decide, by decide⟩ a0 h
  · replace h := h.2 c
    refine l1 (n := 1) rfl rfl rfl (la_of a0) ?_
    refine l0 rfl rfl rfl ?_
    refine l_gi rfl (ko_11 hS (List.Mem.head _)) rfl (fun _ => rfl) ?_
    refine l1 (n := 1) rfl rfl rfl rfl ?_
    refine l_add rfl ?_
    refine l_pi rfl (ko_11 (fz := fz) hS (List.Mem.head _)) rfl (fun _ _ => rfl) (fun M2 e => ?_)
    replace h := h M2 e
    have r2 := r1.wi (Nat.le_of_ble_eq_true rfl) (Nat.le_of_ble_eq_true rfl) e
    refine l1 (n := 1) rfl rfl rfl (la_of a0) ?_
    refine l_gr rfl (ko_11 hS (List.Mem.head _)) rfl (fun _ => rfl) (kf_11_29 r2.2 (List.Mem.head _)) ?_
    refine l1 (n := 1) rfl rfl rfl (la_of a0) ?_
    refine l_gi rfl (ko_11 hS (List.Mem.head _)) rfl (fun _ => rfl) ?_
    refine l1 (n := 1) rfl rfl rfl (la_of a0) ?_
    refine l_bi rfl (by decide) ?_
    refine b_iv (c := 353) (as := [zv 40]) (rest := [zv (gi M2 353 30), .ref 371]) rfl (by decide) (ko_11 hS (List.Mem.head _)) rfl rfl (Nat.le_of_ble_eq_true rfl) (fun hq => ?_)
    refine lx_mono (E_W_isSign_m hS r2 ⟨by decide, by decide⟩ h) ?_
    rintro _ _ ⟨z3, M3, rfl, rfl, r3, iz3, h⟩
    refine l_if rfl iz3 (fun c => ?_) (fun c => ?_)
    · replace h := h.1 c
      refine l_si rfl (by decide) ?_
      exact E_W_readUnary_152 hS r3 (inr_gi _ _ _) ⟨by decide, by decide⟩ a0 h
    · replace h := h.2 c
      refine l_bi rfl (by decide) ?_
      refine l3 rfl rfl rfl ?_
      exact E_W_readUnary_152 hS r3 (inr_gi _ _ _) ⟨by decide, by decide⟩ a0 h
def e_W_readUnary_62 (v2 : Int) (s0 : Int) (M : rf_M) (K : Int → rf_M → Prop) : Prop := (s0 = 0 → (e_W_readUnary_94 M K)) ∧ (¬ (s0 = 0) → ((0 ≤ (gi M 353 28) ∧ (gi M 353 28) < 12 → (((gi M 356 (gi M 353 28).toNat) = 60 → (e_W_readUnary_94 M K)) ∧ (¬ ((gi M 356 (gi M 353 28).toNat) = 60) → ((v2 = 0 → (e_W_readUnary_100 v2 M K)) ∧ (¬ (v2 = 0) → (((gi M 353 31) = 8 → (e_W_readUnary_94 M K)) ∧ (¬ (gi M 353 31) = 8 → (e_W_readUnary_100 v2 M K))))))))))
theorem E_W_readUnary_62 {fz : Bool} {S : gS} {B : rf_M} {M : rf_M} {ls : rf_L} {n0 : Nat} {v2 : Int} {s0 : Int} {K : Int → rf_M → Prop} (hS : rl S) (hR : fl 353 406 B M) (iv2 : inr v2) (is0 : inr s0) (a0 : rf_ld ls 0 = some (.ref 353)) (a2 : rf_ld ls 2 = some (zv v2)) (h : e_W_readUnary_62 v2 s0 M K) : lx (cx0 fz) n0 147 62 ls [zv s0] (M, S) (vl_i 353 406 B S K) := by
  unfold e_W_readUnary_62 at h
  refine l_s1 (n := 1) rfl rfl rfl rfl (fun ls y1 ho => ?_)
  have y2 := ho 0 _ (by decide) (fun q => by cases q.2) a0
  have y3 := ho 2 _ (by decide) (fun q => by cases q.2) a2
  refine l1 (n := 1) rfl rfl rfl (li_of y1) ?_
  refine l_if rfl is0 (fun c => ?_) (fun c => ?_)
  · replace h := h.1 c
    exact E_W_readUnary_94 hS hR y2 h
  · replace h := h.2 c
    refine l1 (n := 1) rfl rfl rfl (la_of y2) ?_
    refine l_gr rfl (ko_11 hS (List.Mem.head _)) rfl (fun _ => rfl) (kf_11_13 hR.2 (List.Mem.head _)) ?_
    refine l1 (n := 1) rfl rfl rfl (la_of y2) ?_
    refine l_gi rfl (ko_11 hS (List.Mem.head _)) rfl (fun _ => rfl) ?_
    refine b_ia rfl (kc_356 (fz := fz) hS).1 (Nat.le_of_ble_eq_true rfl) (inr_gi _ _ _) (fun q => ?_)
    replace h := h q
    refine l_bi rfl (by decide) ?_
    refine l_ic rfl (inr_gi _ _ _) ⟨by decide, by decide⟩ (fun c => ?_) (fun c => ?_)
    · replace h := h.1 c
      exact E_W_readUnary_94 hS hR y2 h
    · replace h := h.2 c
      refine l1 (n := 1) rfl rfl rfl (li_of y3) ?_
      refine l_if rfl iv2 (fun c => ?_) (fun c => ?_)
      · replace h := h.1 c
        exact E_W_readUnary_100 hS hR iv2 y2 y3 h
      · replace h := h.2 c
        refine l1 (n := 1) rfl rfl rfl (la_of y2) ?_
        refine l_gi rfl (ko_11 hS (List.Mem.head _)) rfl (fun _ => rfl) ?_
        refine l_bi rfl (by decide) ?_
        refine l_ic rfl (inr_gi _ _ _) ⟨by decide, by decide⟩ (fun c => ?_) (fun c => ?_)
        · replace h := h.2 c
          exact E_W_readUnary_100 hS hR iv2 y2 y3 h
        · replace h := h.1 (Classical.not_not.mp c)
          exact E_W_readUnary_94 hS hR y2 h
def e_W_readUnary_57 (v2 : Int) (M : rf_M) (K : Int → rf_M → Prop) : Prop := e_W_readUnary_62 v2 1 M K
theorem E_W_readUnary_57 {fz : Bool} {S : gS} {B : rf_M} {M : rf_M} {ls : rf_L} {n0 : Nat} {v2 : Int} {K : Int → rf_M → Prop} (hS : rl S) (hR : fl 353 406 B M) (iv2 : inr v2) (a0 : rf_ld ls 0 = some (.ref 353)) (a2 : rf_ld ls 2 = some (zv v2)) (h : e_W_readUnary_57 v2 M K) : lx (cx0 fz) n0 147 57 ls [] (M, S) (vl_i 353 406 B S K) := by
  unfold e_W_readUnary_57 at h
  refine l1 (n := 1) rfl rfl rfl rfl ?_
  refine l3 rfl rfl rfl ?_
  exact E_W_readUnary_62 hS hR iv2 ⟨by decide, by decide⟩ a0 a2 h
def e_W_readUnary_61 (v2 : Int) (M : rf_M) (K : Int → rf_M → Prop) : Prop := e_W_readUnary_62 v2 0 M K
theorem E_W_readUnary_61 {fz : Bool} {S : gS} {B : rf_M} {M : rf_M} {ls : rf_L} {n0 : Nat} {v2 : Int} {K : Int → rf_M → Prop} (hS : rl S) (hR : fl 353 406 B M) (iv2 : inr v2) (a0 : rf_ld ls 0 = some (.ref 353)) (a2 : rf_ld ls 2 = some (zv v2)) (h : e_W_readUnary_61 v2 M K) : lx (cx0 fz) n0 147 61 ls [] (M, S) (vl_i 353 406 B S K) := by
  unfold e_W_readUnary_61 at h
  refine l1 (n := 1) rfl rfl rfl rfl ?_
  exact E_W_readUnary_62 hS hR iv2 ⟨by decide, by decide⟩ a0 a2 h
def e_W_readUnary_23 (v1 : Int) (s0 : Int) (M : rf_M) (K : Int → rf_M → Prop) : Prop := (s0 = 0 → (((gi M 353 4) = 3 → (e_W_readUnary_57 s0 M K)) ∧ (¬ ((gi M 353 4) = 3) → (((gi M 353 4) = 2 → ((v1 = 0 → (e_W_readUnary_57 s0 M K)) ∧ (¬ (v1 = 0) → ((16 ≤ (gi M 353 6) → (e_W_readUnary_61 s0 M K)) ∧ (¬ (16 ≤ (gi M 353 6)) → (e_W_readUnary_57 s0 M K)))))) ∧ (¬ (gi M 353 4) = 2 → (e_W_readUnary_61 s0 M K)))))) ∧ (¬ s0 = 0 → (e_W_readUnary_57 s0 M K))
theorem E_W_readUnary_23 {fz : Bool} {S : gS} {B : rf_M} {M : rf_M} {ls : rf_L} {n0 : Nat} {v1 : Int} {s0 : Int} {K : Int → rf_M → Prop} (hS : rl S) (hR : fl 353 406 B M) (iv1 : inr v1) (is0 : inr s0) (a0 : rf_ld ls 0 = some (.ref 353)) (a1 : rf_ld ls 1 = some (zv v1)) (h : e_W_readUnary_23 v1 s0 M K) : lx (cx0 fz) n0 147 23 ls [zv s0] (M, S) (vl_i 353 406 B S K) := by
  unfold e_W_readUnary_23 at h
  refine l_s1 (n := 1) rfl rfl rfl rfl (fun ls y1 ho => ?_)
  have y2 := ho 0 _ (by decide) (fun q => by cases q.2) a0
  have y3 := ho 1 _ (by decide) (fun q => by cases q.2) a1
  refine l1 (n := 1) rfl rfl rfl (li_of y1) ?_
  refine l_if rfl is0 (fun c => ?_) (fun c => ?_)
  · replace h := h.2 c
    exact E_W_readUnary_57 hS hR is0 y2 y1 h
  · replace h := h.1 (Classical.not_not.mp c)
    refine l1 (n := 1) rfl rfl rfl (la_of y2) ?_
    refine l_gi rfl (ko_11 hS (List.Mem.head _)) rfl (fun _ => rfl) ?_
    refine l1 (n := 1) rfl rfl rfl rfl ?_
    refine l_ic rfl (inr_gi _ _ _) ⟨by decide, by decide⟩ (fun c => ?_) (fun c => ?_)
    · replace h := h.1 c
      exact E_W_readUnary_57 hS hR is0 y2 y1 h
    · replace h := h.2 c
      refine l1 (n := 1) rfl rfl rfl (la_of y2) ?_
      refine l_gi rfl (ko_11 hS (List.Mem.head _)) rfl (fun _ => rfl) ?_
      refine l1 (n := 1) rfl rfl rfl rfl ?_
      refine l_ic rfl (inr_gi _ _ _) ⟨by decide, by decide⟩ (fun c => ?_) (fun c => ?_)
      · replace h := h.2 c
        exact E_W_readUnary_61 hS hR is0 y2 y1 h
      · replace h := h.1 (Classical.not_not.mp c)
        refine l1 (n := 1) rfl rfl rfl (li_of y3) ?_
        refine l_if rfl iv1 (fun c => ?_) (fun c => ?_)
        · replace h := h.1 c
          exact E_W_readUnary_57 hS hR is0 y2 y1 h
        · replace h := h.2 c
          refine l1 (n := 1) rfl rfl rfl (la_of y2) ?_
          refine l_gi rfl (ko_11 hS (List.Mem.head _)) rfl (fun _ => rfl) ?_
          refine l_bi rfl (by decide) ?_
          refine l_ic rfl (inr_gi _ _ _) ⟨by decide, by decide⟩ (fun c => ?_) (fun c => ?_)
          · replace h := h.1 c
            exact E_W_readUnary_61 hS hR is0 y2 y1 h
          · replace h := h.2 c
            exact E_W_readUnary_57 hS hR is0 y2 y1 h
def e_W_readUnary_18 (v1 : Int) (M : rf_M) (K : Int → rf_M → Prop) : Prop := e_W_readUnary_23 v1 1 M K
theorem E_W_readUnary_18 {fz : Bool} {S : gS} {B : rf_M} {M : rf_M} {ls : rf_L} {n0 : Nat} {v1 : Int} {K : Int → rf_M → Prop} (hS : rl S) (hR : fl 353 406 B M) (iv1 : inr v1) (a0 : rf_ld ls 0 = some (.ref 353)) (a1 : rf_ld ls 1 = some (zv v1)) (h : e_W_readUnary_18 v1 M K) : lx (cx0 fz) n0 147 18 ls [] (M, S) (vl_i 353 406 B S K) := by
  unfold e_W_readUnary_18 at h
  refine l1 (n := 1) rfl rfl rfl rfl ?_
  refine l3 rfl rfl rfl ?_
  exact E_W_readUnary_23 hS hR iv1 ⟨by decide, by decide⟩ a0 a1 h
def e_W_readUnary (v1 : Int) (M : rf_M) (K : Int → rf_M → Prop) : Prop := em_W_isSign 45 M (fun (z1 : Int) (M1 : rf_M) => (z1 = 0 → (em_W_isSign 40 M1 (fun (z2 : Int) (M2 : rf_M) => (z2 = 0 → (e_W_readUnary_23 v1 0 M2 K)) ∧ (¬ (z2 = 0) → (e_W_readUnary_18 v1 M2 K))))) ∧ (¬ z1 = 0 → (e_W_readUnary_18 v1 M1 K)))
theorem E_W_readUnary {fz : Bool} {S : gS} {B : rf_M} {M : rf_M} {ls : rf_L} {n0 : Nat} {v1 : Int} {K : Int → rf_M → Prop} (hS : rl S) (hR : fl 353 406 B M) (iv1 : inr v1) (a0 : rf_ld ls 0 = some (.ref 353)) (a1 : rf_ld ls 1 = some (zv v1)) (h : e_W_readUnary v1 M K) : lx (cx0 fz) n0 147 0 ls [] (M, S) (vl_i 353 406 B S K) := by
  unfold e_W_readUnary at h
  refine l1 (n := 1) rfl rfl rfl (la_of a0) ?_
  refine l_bi rfl (by decide) ?_
  refine b_iv (c := 353) (as := [zv 45]) (rest := []) rfl (by decide) (ko_11 hS (List.Mem.head _)) rfl rfl (Nat.le_of_ble_eq_true rfl) (fun hq => ?_)
  refine lx_mono (E_W_isSign_m hS hR ⟨by decide, by decide⟩ h) ?_
  rintro _ _ ⟨z1, M1, rfl, rfl, r1, iz1, h⟩
  refine l_if rfl iz1 (fun c => ?_) (fun c => ?_)
  · replace h := h.2 c
    exact E_W_readUnary_18 hS r1 iv1 a0 a1 h
  · replace h := h.1 (Classical.not_not.mp c)
    refine l1 (n := 1) rfl rfl rfl (la_of a0) ?_
    refine l_bi rfl (by decide) ?_
    refine b_iv (c := 353) (as := [zv 40]) (rest := []) rfl (by decide) (ko_11 hS (List.Mem.head _)) rfl rfl (Nat.le_of_ble_eq_true rfl) (fun hq => ?_)
    refine lx_mono (E_W_isSign_m hS r1 ⟨by decide, by decide⟩ h) ?_
    rintro _ _ ⟨z2, M2, rfl, rfl, r2, iz2, h⟩
    refine l_if rfl iz2 (fun c => ?_) (fun c => ?_)
    · replace h := h.1 c
      refine l1 (n := 1) rfl rfl rfl rfl ?_
      exact E_W_readUnary_23 hS r2 iv1 ⟨by decide, by decide⟩ a0 a1 h
    · replace h := h.2 c
      exact E_W_readUnary_18 hS r2 iv1 a0 a1 h
def em_W_readUnary (x1 : Int) (M : rf_M) (K : Int → rf_M → Prop) : Prop := e_W_readUnary x1 M K
theorem E_W_readUnary_m {fz : Bool} {S : gS} {B : rf_M} {M : rf_M} {n0 : Nat} {x1 : Int} {K : Int → rf_M → Prop} (hS : rl S) (hR : fl 353 406 B M) (ix1 : inr x1) (h : em_W_readUnary x1 M K) : lx (cx0 fz) n0 147 0 (lv_args 0 [.ref 353, zv x1]) [] (M, S) (vl_i 353 406 B S K) :=
  E_W_readUnary hS hR ix1 rfl rfl h
def e_W_strength_61 (s0 : Int) (M : rf_M) (K : Int → rf_M → Prop) : Prop := K s0 M
theorem E_W_strength_61 {fz : Bool} {S : gS} {B : rf_M} {M : rf_M} {ls : rf_L} {n0 : Nat} {s0 : Int} {K : Int → rf_M → Prop} (hS : rl S) (hR : fl 353 406 B M) (is0 : inr s0) (h : e_W_strength_61 s0 M K) : lx (cx0 fz) n0 151 61 ls [zv s0] (M, S) (vl_i 353 406 B S K) := by
  unfold e_W_strength_61 at h
  exact l_ri rfl rfl is0 hR h
def e_W_strength_18 (M : rf_M) (K : Int → rf_M → Prop) : Prop := e_W_strength_61 3 M K
theorem E_W_strength_18 {fz : Bool} {S : gS} {B : rf_M} {M : rf_M} {ls : rf_L} {n0 : Nat} {K : Int → rf_M → Prop} (hS : rl S) (hR : fl 353 406 B M) (h : e_W_strength_18 M K) : lx (cx0 fz) n0 151 18 ls [] (M, S) (vl_i 353 406 B S K) := by
  unfold e_W_strength_18 at h
  refine l1 (n := 1) rfl rfl rfl rfl ?_
  refine l3 rfl rfl rfl ?_
  exact E_W_strength_61 hS hR ⟨by decide, by decide⟩ h
def e_W_strength_34 (M : rf_M) (K : Int → rf_M → Prop) : Prop := e_W_strength_61 2 M K
theorem E_W_strength_34 {fz : Bool} {S : gS} {B : rf_M} {M : rf_M} {ls : rf_L} {n0 : Nat} {K : Int → rf_M → Prop} (hS : rl S) (hR : fl 353 406 B M) (h : e_W_strength_34 M K) : lx (cx0 fz) n0 151 34 ls [] (M, S) (vl_i 353 406 B S K) := by
  unfold e_W_strength_34 at h
  refine l1 (n := 1) rfl rfl rfl rfl ?_
  refine l3 rfl rfl rfl ?_
  exact E_W_strength_61 hS hR ⟨by decide, by decide⟩ h
def e_W_strength_56 (M : rf_M) (K : Int → rf_M → Prop) : Prop := e_W_strength_61 1 M K
theorem E_W_strength_56 {fz : Bool} {S : gS} {B : rf_M} {M : rf_M} {ls : rf_L} {n0 : Nat} {K : Int → rf_M → Prop} (hS : rl S) (hR : fl 353 406 B M) (h : e_W_strength_56 M K) : lx (cx0 fz) n0 151 56 ls [] (M, S) (vl_i 353 406 B S K) := by
  unfold e_W_strength_56 at h
  refine l1 (n := 1) rfl rfl rfl rfl ?_
  refine l3 rfl rfl rfl ?_
  exact E_W_strength_61 hS hR ⟨by decide, by decide⟩ h
def e_W_strength (v0 : Int) (M : rf_M) (K : Int → rf_M → Prop) : Prop := (v0 = 42 → (e_W_strength_18 M K)) ∧ (¬ (v0 = 42) → ((v0 = 47 → (e_W_strength_18 M K)) ∧ (¬ (v0 = 47) → ((v0 = 37 → (e_W_strength_18 M K)) ∧ (¬ v0 = 37 → ((v0 = 43 → (e_W_strength_34 M K)) ∧ (¬ (v0 = 43) → ((v0 = 45 → (e_W_strength_34 M K)) ∧ (¬ v0 = 45 → ((v0 = 60 → (e_W_strength_56 M K)) ∧ (¬ (v0 = 60) → ((v0 = 61 → (e_W_strength_56 M K)) ∧ (¬ (v0 = 61) → ((v0 = 35 → (e_W_strength_56 M K)) ∧ (¬ v0 = 35 → (e_W_strength_61 0 M K))))))))))))))))
theorem E_W_strength {fz : Bool} {S : gS} {B : rf_M} {M : rf_M} {ls : rf_L} {n0 : Nat} {v0 : Int} {K : Int → rf_M → Prop} (hS : rl S) (hR : fl 353 406 B M) (iv0 : inr v0) (a0 : rf_ld ls 0 = some (zv v0)) (h : e_W_strength v0 M K) : lx (cx0 fz) n0 151 0 ls [] (M, S) (vl_i 353 406 B S K) := by
  unfold e_W_strength at h
  refine l1 (n := 1) rfl rfl rfl (li_of a0) ?_
  refine l_bi rfl (by decide) ?_
  refine l_ic rfl iv0 ⟨by decide, by decide⟩ (fun c => ?_) (fun c => ?_)
  · replace h := h.1 c
    exact E_W_strength_18 hS hR  h
  · replace h := h.2 c
    refine l1 (n := 1) rfl rfl rfl (li_of a0) ?_
    refine l_bi rfl (by decide) ?_
    refine l_ic rfl iv0 ⟨by decide, by decide⟩ (fun c => ?_) (fun c => ?_)
    · replace h := h.1 c
      exact E_W_strength_18 hS hR  h
    · replace h := h.2 c
      refine l1 (n := 1) rfl rfl rfl (li_of a0) ?_
      refine l_bi rfl (by decide) ?_
      refine l_ic rfl iv0 ⟨by decide, by decide⟩ (fun c => ?_) (fun c => ?_)
      · replace h := h.2 c
        refine l1 (n := 1) rfl rfl rfl (li_of a0) ?_
        refine l_bi rfl (by decide) ?_
        refine l_ic rfl iv0 ⟨by decide, by decide⟩ (fun c => ?_) (fun c => ?_)
        · replace h := h.1 c
          exact E_W_strength_34 hS hR  h
        · replace h := h.2 c
          refine l1 (n := 1) rfl rfl rfl (li_of a0) ?_
          refine l_bi rfl (by decide) ?_
          refine l_ic rfl iv0 ⟨by decide, by decide⟩ (fun c => ?_) (fun c => ?_)
          · replace h := h.2 c
            refine l1 (n := 1) rfl rfl rfl (li_of a0) ?_
            refine l_bi rfl (by decide) ?_
            refine l_ic rfl iv0 ⟨by decide, by decide⟩ (fun c => ?_) (fun c => ?_)
            · replace h := h.1 c
              exact E_W_strength_56 hS hR  h
            · replace h := h.2 c
              refine l1 (n := 1) rfl rfl rfl (li_of a0) ?_
              refine l_bi rfl (by decide) ?_
              refine l_ic rfl iv0 ⟨by decide, by decide⟩ (fun c => ?_) (fun c => ?_)
              · replace h := h.1 c
                exact E_W_strength_56 hS hR  h
              · replace h := h.2 c
                refine l1 (n := 1) rfl rfl rfl (li_of a0) ?_
                refine l_bi rfl (by decide) ?_
                refine l_ic rfl iv0 ⟨by decide, by decide⟩ (fun c => ?_) (fun c => ?_)
                · replace h := h.2 c
                  refine l1 (n := 1) rfl rfl rfl rfl ?_
                  exact E_W_strength_61 hS hR ⟨by decide, by decide⟩ h
                · replace h := h.1 (Classical.not_not.mp c)
                  exact E_W_strength_56 hS hR  h
          · replace h := h.1 (Classical.not_not.mp c)
            exact E_W_strength_34 hS hR  h
      · replace h := h.1 (Classical.not_not.mp c)
        exact E_W_strength_18 hS hR  h
def em_W_strength (x0 : Int) (M : rf_M) (K : Int → rf_M → Prop) : Prop := e_W_strength x0 M K
theorem E_W_strength_m {fz : Bool} {S : gS} {B : rf_M} {M : rf_M} {n0 : Nat} {x0 : Int} {K : Int → rf_M → Prop} (hS : rl S) (hR : fl 353 406 B M) (ix0 : inr x0) (h : em_W_strength x0 M K) : lx (cx0 fz) n0 151 0 (lv_args 0 [zv x0]) [] (M, S) (vl_i 353 406 B S K) :=
  E_W_strength hS hR ix0 rfl h
def e_W_reduce_86 (M : rf_M) (K : rf_M → Prop) : Prop := K M
theorem E_W_reduce_86 {fz : Bool} {S : gS} {B : rf_M} {M : rf_M} {ls : rf_L} {n0 : Nat} {K : rf_M → Prop} (hS : rl S) (hR : fl 353 406 B M) (h : e_W_reduce_86 M K) : lx (cx0 fz) n0 150 86 ls [] (M, S) (vl_v 353 406 B S K) := by
  unfold e_W_reduce_86 at h
  exact l_rv rfl rfl hR h
def e_W_reduce_0b (v1 : Int) (M : rf_M) (b0 : Int → rf_M → Prop) (K : rf_M → Prop) : Prop := ((gi M 353 30) ≤ 0 → (e_W_reduce_86 M K)) ∧ (¬ ((gi M 353 30) ≤ 0) → (inr ((gi M 353 30) - 1) ∧ ((0 ≤ ((gi M 353 30) - 1) ∧ ((gi M 353 30) - 1) < 64 → (((gi M 371 ((gi M 353 30) - 1).toNat) = 40 → (e_W_reduce_86 M K)) ∧ (¬ ((gi M 371 ((gi M 353 30) - 1).toNat) = 40) → (inr ((gi M 353 30) - 1) ∧ ((0 ≤ ((gi M 353 30) - 1) ∧ ((gi M 353 30) - 1) < 64 → (((gi M 371 ((gi M 353 30) - 1).toNat) = 1000 → (e_W_reduce_86 M K)) ∧ (¬ ((gi M 371 ((gi M 353 30) - 1).toNat) = 1000) → (inr ((gi M 353 30) - 1) ∧ ((0 ≤ ((gi M 353 30) - 1) ∧ ((gi M 353 30) - 1) < 64 → (em_W_strength (gi M 371 ((gi M 353 30) - 1).toNat) M (fun (z1 : Int) (M1 : rf_M) => (z1 < v1 → (e_W_reduce_86 M1 K)) ∧ (¬ (z1 < v1) → (∀ M2 : rf_M, M2 = wi M1 353 30 ((gi M1 353 30) - 1) → ((0 ≤ (gi M2 353 30) ∧ (gi M2 353 30) < 64 → (em_W_act (gi M2 371 (gi M2 353 30).toNat) (-1) (Int64.ofNat 0) M2 (fun (M3 : rf_M) => b0 v1 M3))))))))))))))))))))))
theorem E_W_reduce_0b {fz : Bool} {S : gS} {B : rf_M} {M : rf_M} {ls : rf_L} {n0 : Nat} {v1 : Int} {b0 : Int → rf_M → Prop} {K : rf_M → Prop} (hS : rl S) (hR : fl 353 406 B M) (iv1 : inr v1) (a0 : rf_ld ls 0 = some (.ref 353)) (a1 : rf_ld ls 1 = some (zv v1)) (hb0 : ∀ n', n' < n0 → ∀ (v1 : Int) (M : rf_M) (ls : rf_L), fl 353 406 B M → inr v1 → rf_ld ls 0 = some (.ref 353) → rf_ld ls 1 = some (zv v1) → b0 v1 M → lx (cx0 fz) n' 150 0 ls [] (M, S) (vl_v 353 406 B S K)) (h : e_W_reduce_0b v1 M b0 K) : lx (cx0 fz) n0 150 0 ls [] (M, S) (vl_v 353 406 B S K) := by
  unfold e_W_reduce_0b at h
  rcases Nat.eq_zero_or_pos n0 with e0 | hp
  · rw [e0]; exact lx_zero
  refine l1 (n := 1) rfl rfl rfl (la_of a0) ?_
  refine l_gi rfl (ko_11 hS (List.Mem.head _)) rfl (fun _ => rfl) ?_
  refine l_if rfl (inr_gi _ _ _) (fun c => ?_) (fun c => ?_)
  · replace h := h.1 c
    exact E_W_reduce_86 hS hR  h
  · replace h := h.2 c
    refine l1 (n := 1) rfl rfl rfl (la_of a0) ?_
    refine l_gr rfl (ko_11 hS (List.Mem.head _)) rfl (fun _ => rfl) (kf_11_29 hR.2 (List.Mem.head _)) ?_
    refine l1 (n := 1) rfl rfl rfl (la_of a0) ?_
    refine l_gi rfl (ko_11 hS (List.Mem.head _)) rfl (fun _ => rfl) ?_
    refine l1 (n := 1) rfl rfl rfl rfl ?_
    refine l_sub rfl ?_
    obtain ⟨i1, h⟩ := h
    refine b_ia rfl (kc_371 (fz := fz) hS).1 (Nat.le_of_ble_eq_true rfl) i1 (fun q => ?_)
    replace h := h q
    refine l_bi rfl (by decide) ?_
    refine l_ic rfl (inr_gi _ _ _) ⟨by decide, by decide⟩ (fun c => ?_) (fun c => ?_)
    · replace h := h.1 c
      exact E_W_reduce_86 hS hR  h
    · replace h := h.2 c
      refine l1 (n := 1) rfl rfl rfl (la_of a0) ?_
      refine l_gr rfl (ko_11 hS (List.Mem.head _)) rfl (fun _ => rfl) (kf_11_29 hR.2 (List.Mem.head _)) ?_
      refine l1 (n := 1) rfl rfl rfl (la_of a0) ?_
      refine l_gi rfl (ko_11 hS (List.Mem.head _)) rfl (fun _ => rfl) ?_
      refine l1 (n := 1) rfl rfl rfl rfl ?_
      refine l_sub rfl ?_
      obtain ⟨i2, h⟩ := h
      refine b_ia rfl (kc_371 (fz := fz) hS).1 (Nat.le_of_ble_eq_true rfl) i2 (fun q => ?_)
      replace h := h q
      refine l_si rfl (by decide) ?_
      refine l_ic rfl (inr_gi _ _ _) ⟨by decide, by decide⟩ (fun c => ?_) (fun c => ?_)
      · replace h := h.1 c
        exact E_W_reduce_86 hS hR  h
      · replace h := h.2 c
        refine l1 (n := 1) rfl rfl rfl (la_of a0) ?_
        refine l_gr rfl (ko_11 hS (List.Mem.head _)) rfl (fun _ => rfl) (kf_11_29 hR.2 (List.Mem.head _)) ?_
        refine l1 (n := 1) rfl rfl rfl (la_of a0) ?_
        refine l_gi rfl (ko_11 hS (List.Mem.head _)) rfl (fun _ => rfl) ?_
        refine l1 (n := 1) rfl rfl rfl rfl ?_
        refine l_sub rfl ?_
        obtain ⟨i3, h⟩ := h
        refine b_ia rfl (kc_371 (fz := fz) hS).1 (Nat.le_of_ble_eq_true rfl) i3 (fun q => ?_)
        replace h := h q
        refine b_st (as := [zv (gi M 371 ((gi M 353 30) - 1).toNat)]) (rest := []) rfl (by decide) rfl (Nat.le_of_ble_eq_true rfl) (fun hq => ?_)
        refine lx_mono (E_W_strength_m hS hR (inr_gi _ _ _) h) ?_
        rintro _ _ ⟨z1, M1, rfl, rfl, r1, iz1, h⟩
        refine l1 (n := 1) rfl rfl rfl (li_of a1) ?_
        refine l_ic rfl iz1 iv1 (fun c => ?_) (fun c => ?_)
        · replace h := h.1 c
          exact E_W_reduce_86 hS r1  h
        · replace h := h.2 c
          refine l1 (n := 1) rfl rfl rfl (la_of a0) ?_
          refine l0 rfl rfl rfl ?_
          refine l_gi rfl (ko_11 hS (List.Mem.head _)) rfl (fun _ => rfl) ?_
          refine l1 (n := 1) rfl rfl rfl rfl ?_
          refine l_sub rfl ?_
          refine l_pi rfl (ko_11 (fz := fz) hS (List.Mem.head _)) rfl (fun _ _ => rfl) (fun M2 e => ?_)
          replace h := h M2 e
          have r2 := r1.wi (Nat.le_of_ble_eq_true rfl) (Nat.le_of_ble_eq_true rfl) e
          refine l1 (n := 1) rfl rfl rfl (la_of a0) ?_
          refine l1 (n := 1) rfl rfl rfl (la_of a0) ?_
          refine l_gr rfl (ko_11 hS (List.Mem.head _)) rfl (fun _ => rfl) (kf_11_29 r2.2 (List.Mem.head _)) ?_
          refine l1 (n := 1) rfl rfl rfl (la_of a0) ?_
          refine l_gi rfl (ko_11 hS (List.Mem.head _)) rfl (fun _ => rfl) ?_
          refine b_ia rfl (kc_371 (fz := fz) hS).1 (Nat.le_of_ble_eq_true rfl) (inr_gi _ _ _) (fun q => ?_)
          replace h := h q
          refine l1 (n := 1) rfl rfl rfl rfl ?_
          refine l1 (n := 1) rfl rfl rfl rfl ?_
          refine b_iv (c := 353) (as := [zv (gi M2 371 (gi M2 353 30).toNat), zv (-1), .long (Int64.ofNat 0)]) (rest := []) rfl (by decide) (ko_11 hS (List.Mem.head _)) rfl rfl (Nat.le_of_ble_eq_true rfl) (fun hq => ?_)
          refine lx_mono (E_W_act_m hS r2 (inr_gi _ _ _) ⟨by decide, by decide⟩ h) ?_
          rintro _ _ ⟨M3, rfl, rfl, r3, h⟩
          refine l3 rfl rfl rfl ?_
          exact hb0 _ (by omega) _ _ _ r3 iv1 a0 a1 h
def e_W_reduce_0 (v1 : Int) (M : rf_M) (K : rf_M → Prop) : Prop := ∃ Inv : Int → rf_M → Prop, Inv v1 M ∧ ∀ (v1 : Int) (M : rf_M), inr v1 → Inv v1 M → e_W_reduce_0b v1 M Inv K
theorem E_W_reduce_0 {fz : Bool} {S : gS} {B : rf_M} {M : rf_M} {ls : rf_L} {n0 : Nat} {v1 : Int} {K : rf_M → Prop} (hS : rl S) (hR : fl 353 406 B M) (iv1 : inr v1) (a0 : rf_ld ls 0 = some (.ref 353)) (a1 : rf_ld ls 1 = some (zv v1)) (h : e_W_reduce_0 v1 M K) : lx (cx0 fz) n0 150 0 ls [] (M, S) (vl_v 353 406 B S K) := by
  obtain ⟨Inv, hm, hb⟩ := h
  induction n0 using Nat.strongRecOn generalizing ls M v1 with
  | _ n0 ih =>
    refine E_W_reduce_0b hS hR iv1 a0 a1 (fun n' hn' v1' M' ls' hR' f0 f1 f2 q2 => ih n' hn' hR' f0 f1 f2 q2) (hb v1 M iv1 hm)
def em_W_reduce (x1 : Int) (M : rf_M) (K : rf_M → Prop) : Prop := e_W_reduce_0 x1 M K
theorem E_W_reduce_m {fz : Bool} {S : gS} {B : rf_M} {M : rf_M} {n0 : Nat} {x1 : Int} {K : rf_M → Prop} (hS : rl S) (hR : fl 353 406 B M) (ix1 : inr x1) (h : em_W_reduce x1 M K) : lx (cx0 fz) n0 150 0 (lv_args 0 [.ref 353, zv x1]) [] (M, S) (vl_v 353 406 B S K) :=
  E_W_reduce_0 hS hR ix1 rfl rfl h
def e_W_exp_237 (v1 : Int) (v2 : Int) (v4 : Int) (s1 : Int) (M : rf_M) (b46 : Int → Int → Int → Int → rf_M → Prop) (K : Int → rf_M → Prop) : Prop := em_W_reduce s1 M (fun (M1 : rf_M) => (0 ≤ (gi M1 353 30) ∧ (gi M1 353 30) < 64 → (∀ M2 : rf_M, M2 = wi M1 371 (gi M1 353 30).toNat (gi M1 353 8) → (∀ M3 : rf_M, M3 = wi M2 353 30 ((gi M2 353 30) + 1) → (em_W_next  M3 (fun (M4 : rf_M) => b46 v1 v2 1 v4 M4))))))
theorem E_W_exp_237 {fz : Bool} {S : gS} {B : rf_M} {M : rf_M} {ls : rf_L} {n0 : Nat} {v1 : Int} {v2 : Int} {v4 : Int} {s1 : Int} {b46 : Int → Int → Int → Int → rf_M → Prop} {K : Int → rf_M → Prop} (hS : rl S) (hR : fl 353 406 B M) (iv1 : inr v1) (iv2 : inr v2) (iv4 : inr v4) (is1 : inr s1) (a0 : rf_ld ls 0 = some (.ref 353)) (a1 : rf_ld ls 1 = some (zv v1)) (a2 : rf_ld ls 2 = some (zv v2)) (a4 : rf_ld ls 4 = some (zv v4)) (hb46 : ∀ n', n' < n0 → ∀ (v1 : Int) (v2 : Int) (v3 : Int) (v4 : Int) (M : rf_M) (ls : rf_L), fl 353 406 B M → inr v1 → inr v2 → inr v3 → inr v4 → rf_ld ls 0 = some (.ref 353) → rf_ld ls 1 = some (zv v1) → rf_ld ls 2 = some (zv v2) → rf_ld ls 3 = some (zv v3) → rf_ld ls 4 = some (zv v4) → b46 v1 v2 v3 v4 M → lx (cx0 fz) n' 146 46 ls [] (M, S) (vl_i 353 406 B S K)) (h : e_W_exp_237 v1 v2 v4 s1 M b46 K) : lx (cx0 fz) n0 146 237 ls [zv s1, .ref 353] (M, S) (vl_i 353 406 B S K) := by
  unfold e_W_exp_237 at h
  rcases Nat.eq_zero_or_pos n0 with e0 | hp
  · rw [e0]; exact lx_zero
  refine b_iv (c := 353) (as := [zv s1]) (rest := []) rfl (by decide) (ko_11 hS (List.Mem.head _)) rfl rfl (Nat.le_of_ble_eq_true rfl) (fun hq => ?_)
  refine lx_mono (E_W_reduce_m hS hR is1 h) ?_
  rintro _ _ ⟨M1, rfl, rfl, r1, h⟩
  refine l1 (n := 1) rfl rfl rfl (la_of a0) ?_
  refine l_gr rfl (ko_11 hS (List.Mem.head _)) rfl (fun _ => rfl) (kf_11_29 r1.2 (List.Mem.head _)) ?_
  refine l1 (n := 1) rfl rfl rfl (la_of a0) ?_
  refine l_gi rfl (ko_11 hS (List.Mem.head _)) rfl (fun _ => rfl) ?_
  refine l1 (n := 1) rfl rfl rfl (la_of a0) ?_
  refine l_gi rfl (ko_11 hS (List.Mem.head _)) rfl (fun _ => rfl) ?_
  refine b_is rfl (kc_371 (fz := fz) hS).1 (Nat.le_of_ble_eq_true rfl) (inr_gi _ _ _) (fun q M2 e => ?_)
  replace h := h q M2 e
  have r2 := r1.wi (Nat.le_of_ble_eq_true rfl) (Nat.le_of_ble_eq_true rfl) e
  refine l1 (n := 1) rfl rfl rfl (la_of a0) ?_
  refine l0 rfl rfl rfl ?_
  refine l_gi rfl (ko_11 hS (List.Mem.head _)) rfl (fun _ => rfl) ?_
  refine l1 (n := 1) rfl rfl rfl rfl ?_
  refine l_add rfl ?_
  refine l_pi rfl (ko_11 (fz := fz) hS (List.Mem.head _)) rfl (fun _ _ => rfl) (fun M3 e => ?_)
  replace h := h M3 e
  have r3 := r2.wi (Nat.le_of_ble_eq_true rfl) (Nat.le_of_ble_eq_true rfl) e
  refine l1 (n := 1) rfl rfl rfl (la_of a0) ?_
  refine b_iv (c := 353) (as := []) (rest := []) rfl (by decide) (ko_11 hS (List.Mem.head _)) rfl rfl (Nat.le_of_ble_eq_true rfl) (fun hq => ?_)
  refine lx_mono (E_W_next_m hS r3 h) ?_
  rintro _ _ ⟨M4, rfl, rfl, r4, h⟩
  refine l1 (n := 1) rfl rfl rfl rfl ?_
  refine l_s1 (n := 1) rfl rfl rfl rfl (fun ls y1 ho => ?_)
  have y2 := ho 0 _ (by decide) (fun q => by cases q.2) a0
  have y3 := ho 1 _ (by decide) (fun q => by cases q.2) a1
  have y4 := ho 2 _ (by decide) (fun q => by cases q.2) a2
  have y5 := ho 4 _ (by decide) (fun q => by cases q.2) a4
  refine l3 rfl rfl rfl ?_
  exact hb46 _ (by omega) _ _ _ _ _ _ r4 iv1 iv2 ⟨by decide, by decide⟩ iv4 y2 y3 y4 y1 y5 h
def e_W_exp_223 (v1 : Int) (v2 : Int) (v4 : Int) (v5 : Int) (s1 : Int) (s2 : Int) (M : rf_M) (b46 : Int → Int → Int → Int → rf_M → Prop) (K : Int → rf_M → Prop) : Prop := (0 ≤ s1 ∧ s1 < 16 → (∀ M1 : rf_M, M1 = wi M 372 (s1).toNat (Int32.ofInt s2 &&& 1).toInt → ((v5 = 1 → (e_W_exp_237 v1 v2 v4 2 M1 b46 K)) ∧ (¬ v5 = 1 → (e_W_exp_237 v1 v2 v4 v5 M1 b46 K)))))
theorem E_W_exp_223 {fz : Bool} {S : gS} {B : rf_M} {M : rf_M} {ls : rf_L} {n0 : Nat} {v1 : Int} {v2 : Int} {v4 : Int} {v5 : Int} {s1 : Int} {s2 : Int} {b46 : Int → Int → Int → Int → rf_M → Prop} {K : Int → rf_M → Prop} (hS : rl S) (hR : fl 353 406 B M) (iv1 : inr v1) (iv2 : inr v2) (iv4 : inr v4) (iv5 : inr v5) (is1 : inr s1) (is2 : inr s2) (a0 : rf_ld ls 0 = some (.ref 353)) (a1 : rf_ld ls 1 = some (zv v1)) (a2 : rf_ld ls 2 = some (zv v2)) (a4 : rf_ld ls 4 = some (zv v4)) (a5 : rf_ld ls 5 = some (zv v5)) (hb46 : ∀ n', n' < n0 → ∀ (v1 : Int) (v2 : Int) (v3 : Int) (v4 : Int) (M : rf_M) (ls : rf_L), fl 353 406 B M → inr v1 → inr v2 → inr v3 → inr v4 → rf_ld ls 0 = some (.ref 353) → rf_ld ls 1 = some (zv v1) → rf_ld ls 2 = some (zv v2) → rf_ld ls 3 = some (zv v3) → rf_ld ls 4 = some (zv v4) → b46 v1 v2 v3 v4 M → lx (cx0 fz) n' 146 46 ls [] (M, S) (vl_i 353 406 B S K)) (h : e_W_exp_223 v1 v2 v4 v5 s1 s2 M b46 K) : lx (cx0 fz) n0 146 223 ls [zv s2, zv s1, .ref 372] (M, S) (vl_i 353 406 B S K) := by
  unfold e_W_exp_223 at h
  rcases Nat.eq_zero_or_pos n0 with e0 | hp
  · rw [e0]; exact lx_zero
  refine b_zs rfl (kc_372 (fz := fz) hS).1 (Nat.le_of_ble_eq_true rfl) is1 (fun q M1 e => ?_)
  replace h := h q M1 e
  have r1 := hR.wi (Nat.le_of_ble_eq_true rfl) (Nat.le_of_ble_eq_true rfl) e
  refine l1 (n := 1) rfl rfl rfl (la_of a0) ?_
  refine l1 (n := 2) rfl rfl rfl (li_of a5) ?_
  refine l1 (n := 1) rfl rfl rfl rfl ?_
  refine l_ic rfl iv5 ⟨by decide, by decide⟩ (fun c => ?_) (fun c => ?_)
  · replace h := h.2 c
    refine l1 (n := 2) rfl rfl rfl (li_of a5) ?_
    exact E_W_exp_237 hS r1 iv1 iv2 iv4 iv5 a0 a1 a2 a4 (fun n' hn' => hb46 n' (by omega)) h
  · replace h := h.1 (Classical.not_not.mp c)
    refine l1 (n := 1) rfl rfl rfl rfl ?_
    refine l3 rfl rfl rfl ?_
    exact E_W_exp_237 hS r1 iv1 iv2 iv4 ⟨by decide, by decide⟩ a0 a1 a2 a4 (fun n' hn' => hb46 n' (by omega)) h
def e_W_exp_218 (v1 : Int) (v2 : Int) (v4 : Int) (v5 : Int) (s1 : Int) (M : rf_M) (b46 : Int → Int → Int → Int → rf_M → Prop) (K : Int → rf_M → Prop) : Prop := e_W_exp_223 v1 v2 v4 v5 s1 1 M b46 K
theorem E_W_exp_218 {fz : Bool} {S : gS} {B : rf_M} {M : rf_M} {ls : rf_L} {n0 : Nat} {v1 : Int} {v2 : Int} {v4 : Int} {v5 : Int} {s1 : Int} {b46 : Int → Int → Int → Int → rf_M → Prop} {K : Int → rf_M → Prop} (hS : rl S) (hR : fl 353 406 B M) (iv1 : inr v1) (iv2 : inr v2) (iv4 : inr v4) (iv5 : inr v5) (is1 : inr s1) (a0 : rf_ld ls 0 = some (.ref 353)) (a1 : rf_ld ls 1 = some (zv v1)) (a2 : rf_ld ls 2 = some (zv v2)) (a4 : rf_ld ls 4 = some (zv v4)) (a5 : rf_ld ls 5 = some (zv v5)) (hb46 : ∀ n', n' < n0 → ∀ (v1 : Int) (v2 : Int) (v3 : Int) (v4 : Int) (M : rf_M) (ls : rf_L), fl 353 406 B M → inr v1 → inr v2 → inr v3 → inr v4 → rf_ld ls 0 = some (.ref 353) → rf_ld ls 1 = some (zv v1) → rf_ld ls 2 = some (zv v2) → rf_ld ls 3 = some (zv v3) → rf_ld ls 4 = some (zv v4) → b46 v1 v2 v3 v4 M → lx (cx0 fz) n' 146 46 ls [] (M, S) (vl_i 353 406 B S K)) (h : e_W_exp_218 v1 v2 v4 v5 s1 M b46 K) : lx (cx0 fz) n0 146 218 ls [zv s1, .ref 372] (M, S) (vl_i 353 406 B S K) := by
  unfold e_W_exp_218 at h
  rcases Nat.eq_zero_or_pos n0 with e0 | hp
  · rw [e0]; exact lx_zero
  refine l1 (n := 1) rfl rfl rfl rfl ?_
  refine l3 rfl rfl rfl ?_
  exact E_W_exp_223 hS hR iv1 iv2 iv4 iv5 is1 ⟨by decide, by decide⟩ a0 a1 a2 a4 a5 (fun n' hn' => hb46 n' (by omega)) h
def e_W_exp_183 (v1 : Int) (v2 : Int) (v4 : Int) (M : rf_M) (b46 : Int → Int → Int → Int → rf_M → Prop) (K : Int → rf_M → Prop) : Prop := em_W_strength (gi M 353 8) M (fun (z1 : Int) (M1 : rf_M) => (0 ≤ (gi M1 353 33) ∧ (gi M1 353 33) < 16 → (((gi M1 372 (gi M1 353 33).toNat) = 0 → ((z1 = 1 → (e_W_exp_218 v1 v2 v4 z1 (gi M1 353 33) M1 b46 K)) ∧ (¬ z1 = 1 → (e_W_exp_223 v1 v2 v4 z1 (gi M1 353 33) 0 M1 b46 K)))) ∧ (¬ (gi M1 372 (gi M1 353 33).toNat) = 0 → (e_W_exp_218 v1 v2 v4 z1 (gi M1 353 33) M1 b46 K)))))
theorem E_W_exp_183 {fz : Bool} {S : gS} {B : rf_M} {M : rf_M} {ls : rf_L} {n0 : Nat} {v1 : Int} {v2 : Int} {v4 : Int} {b46 : Int → Int → Int → Int → rf_M → Prop} {K : Int → rf_M → Prop} (hS : rl S) (hR : fl 353 406 B M) (iv1 : inr v1) (iv2 : inr v2) (iv4 : inr v4) (a0 : rf_ld ls 0 = some (.ref 353)) (a1 : rf_ld ls 1 = some (zv v1)) (a2 : rf_ld ls 2 = some (zv v2)) (a4 : rf_ld ls 4 = some (zv v4)) (hb46 : ∀ n', n' < n0 → ∀ (v1 : Int) (v2 : Int) (v3 : Int) (v4 : Int) (M : rf_M) (ls : rf_L), fl 353 406 B M → inr v1 → inr v2 → inr v3 → inr v4 → rf_ld ls 0 = some (.ref 353) → rf_ld ls 1 = some (zv v1) → rf_ld ls 2 = some (zv v2) → rf_ld ls 3 = some (zv v3) → rf_ld ls 4 = some (zv v4) → b46 v1 v2 v3 v4 M → lx (cx0 fz) n' 146 46 ls [] (M, S) (vl_i 353 406 B S K)) (h : e_W_exp_183 v1 v2 v4 M b46 K) : lx (cx0 fz) n0 146 183 ls [] (M, S) (vl_i 353 406 B S K) := by
  unfold e_W_exp_183 at h
  rcases Nat.eq_zero_or_pos n0 with e0 | hp
  · rw [e0]; exact lx_zero
  refine l1 (n := 1) rfl rfl rfl (la_of a0) ?_
  refine l_gi rfl (ko_11 hS (List.Mem.head _)) rfl (fun _ => rfl) ?_
  refine b_st (as := [zv (gi M 353 8)]) (rest := []) rfl (by decide) rfl (Nat.le_of_ble_eq_true rfl) (fun hq => ?_)
  refine lx_mono (E_W_strength_m hS hR (inr_gi _ _ _) h) ?_
  rintro _ _ ⟨z1, M1, rfl, rfl, r1, iz1, h⟩
  refine l_s1 (n := 2) rfl rfl rfl rfl (fun ls y1 ho => ?_)
  have y2 := ho 0 _ (by decide) (fun q => by cases q.2) a0
  have y3 := ho 1 _ (by decide) (fun q => by cases q.2) a1
  have y4 := ho 2 _ (by decide) (fun q => by cases q.2) a2
  have y5 := ho 4 _ (by decide) (fun q => by cases q.2) a4
  refine l1 (n := 1) rfl rfl rfl (la_of y2) ?_
  refine l_gr rfl (ko_11 hS (List.Mem.head _)) rfl (fun _ => rfl) (kf_11_32 r1.2 (List.Mem.head _)) ?_
  refine l1 (n := 1) rfl rfl rfl (la_of y2) ?_
  refine l_gi rfl (ko_11 hS (List.Mem.head _)) rfl (fun _ => rfl) ?_
  refine l1 (n := 1) rfl rfl rfl (la_of y2) ?_
  refine l_gr rfl (ko_11 hS (List.Mem.head _)) rfl (fun _ => rfl) (kf_11_32 r1.2 (List.Mem.head _)) ?_
  refine l1 (n := 1) rfl rfl rfl (la_of y2) ?_
  refine l_gi rfl (ko_11 hS (List.Mem.head _)) rfl (fun _ => rfl) ?_
  refine b_za rfl (kc_372 (fz := fz) hS).1 (Nat.le_of_ble_eq_true rfl) (inr_gi _ _ _) (fun q => ?_)
  replace h := h q
  refine l_if rfl (inr_gi _ _ _) (fun c => ?_) (fun c => ?_)
  · replace h := h.2 c
    exact E_W_exp_218 hS r1 iv1 iv2 iv4 iz1 (inr_gi _ _ _) y2 y3 y4 y5 y1 (fun n' hn' => hb46 n' (by omega)) h
  · replace h := h.1 (Classical.not_not.mp c)
    refine l1 (n := 2) rfl rfl rfl (li_of y1) ?_
    refine l1 (n := 1) rfl rfl rfl rfl ?_
    refine l_ic rfl iz1 ⟨by decide, by decide⟩ (fun c => ?_) (fun c => ?_)
    · replace h := h.2 c
      refine l1 (n := 1) rfl rfl rfl rfl ?_
      exact E_W_exp_223 hS r1 iv1 iv2 iv4 iz1 (inr_gi _ _ _) ⟨by decide, by decide⟩ y2 y3 y4 y5 y1 (fun n' hn' => hb46 n' (by omega)) h
    · replace h := h.1 (Classical.not_not.mp c)
      exact E_W_exp_218 hS r1 iv1 iv2 iv4 iz1 (inr_gi _ _ _) y2 y3 y4 y5 y1 (fun n' hn' => hb46 n' (by omega)) h
def e_W_exp_272 (v1 : Int) (v2 : Int) (v3 : Int) (M : rf_M) (b46 : Int → Int → Int → Int → rf_M → Prop) (K : Int → rf_M → Prop) : Prop := b46 v1 v2 v3 0 M
theorem E_W_exp_272 {fz : Bool} {S : gS} {B : rf_M} {M : rf_M} {ls : rf_L} {n0 : Nat} {v1 : Int} {v2 : Int} {v3 : Int} {b46 : Int → Int → Int → Int → rf_M → Prop} {K : Int → rf_M → Prop} (hS : rl S) (hR : fl 353 406 B M) (iv1 : inr v1) (iv2 : inr v2) (iv3 : inr v3) (a0 : rf_ld ls 0 = some (.ref 353)) (a1 : rf_ld ls 1 = some (zv v1)) (a2 : rf_ld ls 2 = some (zv v2)) (a3 : rf_ld ls 3 = some (zv v3)) (hb46 : ∀ n', n' < n0 → ∀ (v1 : Int) (v2 : Int) (v3 : Int) (v4 : Int) (M : rf_M) (ls : rf_L), fl 353 406 B M → inr v1 → inr v2 → inr v3 → inr v4 → rf_ld ls 0 = some (.ref 353) → rf_ld ls 1 = some (zv v1) → rf_ld ls 2 = some (zv v2) → rf_ld ls 3 = some (zv v3) → rf_ld ls 4 = some (zv v4) → b46 v1 v2 v3 v4 M → lx (cx0 fz) n' 146 46 ls [] (M, S) (vl_i 353 406 B S K)) (h : e_W_exp_272 v1 v2 v3 M b46 K) : lx (cx0 fz) n0 146 272 ls [] (M, S) (vl_i 353 406 B S K) := by
  unfold e_W_exp_272 at h
  rcases Nat.eq_zero_or_pos n0 with e0 | hp
  · rw [e0]; exact lx_zero
  refine l1 (n := 1) rfl rfl rfl rfl ?_
  refine l_s1 (n := 2) rfl rfl rfl rfl (fun ls y1 ho => ?_)
  have y2 := ho 0 _ (by decide) (fun q => by cases q.2) a0
  have y3 := ho 1 _ (by decide) (fun q => by cases q.2) a1
  have y4 := ho 2 _ (by decide) (fun q => by cases q.2) a2
  have y5 := ho 3 _ (by decide) (fun q => by cases q.2) a3
  refine l3 rfl rfl rfl ?_
  exact hb46 _ (by omega) _ _ _ _ _ _ hR iv1 iv2 iv3 ⟨by decide, by decide⟩ y2 y3 y4 y5 y1 h
def e_W_exp_152 (v1 : Int) (v2 : Int) (v3 : Int) (v4 : Int) (M : rf_M) (b46 : Int → Int → Int → Int → rf_M → Prop) (K : Int → rf_M → Prop) : Prop := ((gi M 353 4) = 4 → (em_W_strength (gi M 353 8) M (fun (z1 : Int) (M1 : rf_M) => (z1 = 1 → ((0 ≤ (gi M1 353 33) ∧ (gi M1 353 33) < 16 → (((gi M1 372 (gi M1 353 33).toNat) = 0 → (e_W_exp_183 v1 v2 v4 M1 b46 K)) ∧ (¬ (gi M1 372 (gi M1 353 33).toNat) = 0 → (e_W_exp_272 v1 v2 v3 M1 b46 K)))))) ∧ (¬ z1 = 1 → (e_W_exp_272 v1 v2 v3 M1 b46 K))))) ∧ (¬ (gi M 353 4) = 4 → (e_W_exp_272 v1 v2 v3 M b46 K))
theorem E_W_exp_152 {fz : Bool} {S : gS} {B : rf_M} {M : rf_M} {ls : rf_L} {n0 : Nat} {v1 : Int} {v2 : Int} {v3 : Int} {v4 : Int} {b46 : Int → Int → Int → Int → rf_M → Prop} {K : Int → rf_M → Prop} (hS : rl S) (hR : fl 353 406 B M) (iv1 : inr v1) (iv2 : inr v2) (iv3 : inr v3) (iv4 : inr v4) (a0 : rf_ld ls 0 = some (.ref 353)) (a1 : rf_ld ls 1 = some (zv v1)) (a2 : rf_ld ls 2 = some (zv v2)) (a3 : rf_ld ls 3 = some (zv v3)) (a4 : rf_ld ls 4 = some (zv v4)) (hb46 : ∀ n', n' < n0 → ∀ (v1 : Int) (v2 : Int) (v3 : Int) (v4 : Int) (M : rf_M) (ls : rf_L), fl 353 406 B M → inr v1 → inr v2 → inr v3 → inr v4 → rf_ld ls 0 = some (.ref 353) → rf_ld ls 1 = some (zv v1) → rf_ld ls 2 = some (zv v2) → rf_ld ls 3 = some (zv v3) → rf_ld ls 4 = some (zv v4) → b46 v1 v2 v3 v4 M → lx (cx0 fz) n' 146 46 ls [] (M, S) (vl_i 353 406 B S K)) (h : e_W_exp_152 v1 v2 v3 v4 M b46 K) : lx (cx0 fz) n0 146 152 ls [] (M, S) (vl_i 353 406 B S K) := by
  unfold e_W_exp_152 at h
  rcases Nat.eq_zero_or_pos n0 with e0 | hp
  · rw [e0]; exact lx_zero
  refine l1 (n := 1) rfl rfl rfl (la_of a0) ?_
  refine l_gi rfl (ko_11 hS (List.Mem.head _)) rfl (fun _ => rfl) ?_
  refine l1 (n := 1) rfl rfl rfl rfl ?_
  refine l_ic rfl (inr_gi _ _ _) ⟨by decide, by decide⟩ (fun c => ?_) (fun c => ?_)
  · replace h := h.2 c
    exact E_W_exp_272 hS hR iv1 iv2 iv3 a0 a1 a2 a3 (fun n' hn' => hb46 n' (by omega)) h
  · replace h := h.1 (Classical.not_not.mp c)
    refine l1 (n := 1) rfl rfl rfl (la_of a0) ?_
    refine l_gi rfl (ko_11 hS (List.Mem.head _)) rfl (fun _ => rfl) ?_
    refine b_st (as := [zv (gi M 353 8)]) (rest := []) rfl (by decide) rfl (Nat.le_of_ble_eq_true rfl) (fun hq => ?_)
    refine lx_mono (E_W_strength_m hS hR (inr_gi _ _ _) h) ?_
    rintro _ _ ⟨z1, M1, rfl, rfl, r1, iz1, h⟩
    refine l1 (n := 1) rfl rfl rfl rfl ?_
    refine l_ic rfl iz1 ⟨by decide, by decide⟩ (fun c => ?_) (fun c => ?_)
    · replace h := h.2 c
      exact E_W_exp_272 hS r1 iv1 iv2 iv3 a0 a1 a2 a3 (fun n' hn' => hb46 n' (by omega)) h
    · replace h := h.1 (Classical.not_not.mp c)
      refine l1 (n := 1) rfl rfl rfl (la_of a0) ?_
      refine l_gr rfl (ko_11 hS (List.Mem.head _)) rfl (fun _ => rfl) (kf_11_32 r1.2 (List.Mem.head _)) ?_
      refine l1 (n := 1) rfl rfl rfl (la_of a0) ?_
      refine l_gi rfl (ko_11 hS (List.Mem.head _)) rfl (fun _ => rfl) ?_
      refine b_za rfl (kc_372 (fz := fz) hS).1 (Nat.le_of_ble_eq_true rfl) (inr_gi _ _ _) (fun q => ?_)
      replace h := h q
      refine l_if rfl (inr_gi _ _ _) (fun c => ?_) (fun c => ?_)
      · replace h := h.2 c
        exact E_W_exp_272 hS r1 iv1 iv2 iv3 a0 a1 a2 a3 (fun n' hn' => hb46 n' (by omega)) h
      · replace h := h.1 (Classical.not_not.mp c)
        exact E_W_exp_183 hS r1 iv1 iv2 iv4 a0 a1 a2 a4 (fun n' hn' => hb46 n' (by omega)) h
def e_W_exp_133 (v1 : Int) (v2 : Int) (v3 : Int) (v4 : Int) (M : rf_M) (b46 : Int → Int → Int → Int → rf_M → Prop) (K : Int → rf_M → Prop) : Prop := ((gi M 353 4) = 4 → (em_W_strength (gi M 353 8) M (fun (z1 : Int) (M1 : rf_M) => (1 < z1 → (e_W_exp_183 v1 v2 v4 M1 b46 K)) ∧ (¬ (1 < z1) → (e_W_exp_152 v1 v2 v3 v4 M1 b46 K))))) ∧ (¬ (gi M 353 4) = 4 → (e_W_exp_152 v1 v2 v3 v4 M b46 K))
theorem E_W_exp_133 {fz : Bool} {S : gS} {B : rf_M} {M : rf_M} {ls : rf_L} {n0 : Nat} {v1 : Int} {v2 : Int} {v3 : Int} {v4 : Int} {b46 : Int → Int → Int → Int → rf_M → Prop} {K : Int → rf_M → Prop} (hS : rl S) (hR : fl 353 406 B M) (iv1 : inr v1) (iv2 : inr v2) (iv3 : inr v3) (iv4 : inr v4) (a0 : rf_ld ls 0 = some (.ref 353)) (a1 : rf_ld ls 1 = some (zv v1)) (a2 : rf_ld ls 2 = some (zv v2)) (a3 : rf_ld ls 3 = some (zv v3)) (a4 : rf_ld ls 4 = some (zv v4)) (hb46 : ∀ n', n' < n0 → ∀ (v1 : Int) (v2 : Int) (v3 : Int) (v4 : Int) (M : rf_M) (ls : rf_L), fl 353 406 B M → inr v1 → inr v2 → inr v3 → inr v4 → rf_ld ls 0 = some (.ref 353) → rf_ld ls 1 = some (zv v1) → rf_ld ls 2 = some (zv v2) → rf_ld ls 3 = some (zv v3) → rf_ld ls 4 = some (zv v4) → b46 v1 v2 v3 v4 M → lx (cx0 fz) n' 146 46 ls [] (M, S) (vl_i 353 406 B S K)) (h : e_W_exp_133 v1 v2 v3 v4 M b46 K) : lx (cx0 fz) n0 146 133 ls [] (M, S) (vl_i 353 406 B S K) := by
  unfold e_W_exp_133 at h
  rcases Nat.eq_zero_or_pos n0 with e0 | hp
  · rw [e0]; exact lx_zero
  refine l1 (n := 1) rfl rfl rfl (la_of a0) ?_
  refine l_gi rfl (ko_11 hS (List.Mem.head _)) rfl (fun _ => rfl) ?_
  refine l1 (n := 1) rfl rfl rfl rfl ?_
  refine l_ic rfl (inr_gi _ _ _) ⟨by decide, by decide⟩ (fun c => ?_) (fun c => ?_)
  · replace h := h.2 c
    exact E_W_exp_152 hS hR iv1 iv2 iv3 iv4 a0 a1 a2 a3 a4 (fun n' hn' => hb46 n' (by omega)) h
  · replace h := h.1 (Classical.not_not.mp c)
    refine l1 (n := 1) rfl rfl rfl (la_of a0) ?_
    refine l_gi rfl (ko_11 hS (List.Mem.head _)) rfl (fun _ => rfl) ?_
    refine b_st (as := [zv (gi M 353 8)]) (rest := []) rfl (by decide) rfl (Nat.le_of_ble_eq_true rfl) (fun hq => ?_)
    refine lx_mono (E_W_strength_m hS hR (inr_gi _ _ _) h) ?_
    rintro _ _ ⟨z1, M1, rfl, rfl, r1, iz1, h⟩
    refine l1 (n := 1) rfl rfl rfl rfl ?_
    refine l_ic rfl iz1 ⟨by decide, by decide⟩ (fun c => ?_) (fun c => ?_)
    · replace h := h.1 c
      exact E_W_exp_183 hS r1 iv1 iv2 iv4 a0 a1 a2 a4 (fun n' hn' => hb46 n' (by omega)) h
    · replace h := h.2 c
      exact E_W_exp_152 hS r1 iv1 iv2 iv3 iv4 a0 a1 a2 a3 a4 (fun n' hn' => hb46 n' (by omega)) h
def e_W_exp_289 (v2 : Int) (M : rf_M) (K : Int → rf_M → Prop) : Prop := em_W_reduce 1 M (fun (M1 : rf_M) => em_W_act 4 (-1) (Int64.ofNat 0) M1 (fun (M2 : rf_M) => K v2 M2))
theorem E_W_exp_289 {fz : Bool} {S : gS} {B : rf_M} {M : rf_M} {ls : rf_L} {n0 : Nat} {v2 : Int} {K : Int → rf_M → Prop} (hS : rl S) (hR : fl 353 406 B M) (iv2 : inr v2) (a0 : rf_ld ls 0 = some (.ref 353)) (a2 : rf_ld ls 2 = some (zv v2)) (h : e_W_exp_289 v2 M K) : lx (cx0 fz) n0 146 289 ls [] (M, S) (vl_i 353 406 B S K) := by
  unfold e_W_exp_289 at h
  refine l1 (n := 1) rfl rfl rfl (la_of a0) ?_
  refine l1 (n := 1) rfl rfl rfl rfl ?_
  refine b_iv (c := 353) (as := [zv 1]) (rest := []) rfl (by decide) (ko_11 hS (List.Mem.head _)) rfl rfl (Nat.le_of_ble_eq_true rfl) (fun hq => ?_)
  refine lx_mono (E_W_reduce_m hS hR ⟨by decide, by decide⟩ h) ?_
  rintro _ _ ⟨M1, rfl, rfl, r1, h⟩
  refine l1 (n := 1) rfl rfl rfl (la_of a0) ?_
  refine l1 (n := 1) rfl rfl rfl rfl ?_
  refine l1 (n := 1) rfl rfl rfl rfl ?_
  refine l1 (n := 1) rfl rfl rfl rfl ?_
  refine b_iv (c := 353) (as := [zv 4, zv (-1), .long (Int64.ofNat 0)]) (rest := []) rfl (by decide) (ko_11 hS (List.Mem.head _)) rfl rfl (Nat.le_of_ble_eq_true rfl) (fun hq => ?_)
  refine lx_mono (E_W_act_m hS r1 ⟨by decide, by decide⟩ ⟨by decide, by decide⟩ h) ?_
  rintro _ _ ⟨M2, rfl, rfl, r2, h⟩
  refine l1 (n := 1) rfl rfl rfl (li_of a2) ?_
  exact l_ri rfl rfl iv2 r2 h
def e_W_exp_278 (v2 : Int) (M : rf_M) (K : Int → rf_M → Prop) : Prop := ((gi M 353 33) ≤ 0 → (e_W_exp_289 v2 M K)) ∧ (¬ ((gi M 353 33) ≤ 0) → (em_W_misplaced  M (fun (M1 : rf_M) => e_W_exp_289 v2 M1 K)))
theorem E_W_exp_278 {fz : Bool} {S : gS} {B : rf_M} {M : rf_M} {ls : rf_L} {n0 : Nat} {v2 : Int} {K : Int → rf_M → Prop} (hS : rl S) (hR : fl 353 406 B M) (iv2 : inr v2) (a0 : rf_ld ls 0 = some (.ref 353)) (a2 : rf_ld ls 2 = some (zv v2)) (h : e_W_exp_278 v2 M K) : lx (cx0 fz) n0 146 278 ls [] (M, S) (vl_i 353 406 B S K) := by
  unfold e_W_exp_278 at h
  refine l1 (n := 1) rfl rfl rfl (la_of a0) ?_
  refine l_gi rfl (ko_11 hS (List.Mem.head _)) rfl (fun _ => rfl) ?_
  refine l_if rfl (inr_gi _ _ _) (fun c => ?_) (fun c => ?_)
  · replace h := h.1 c
    exact E_W_exp_289 hS hR iv2 a0 a2 h
  · replace h := h.2 c
    refine l1 (n := 1) rfl rfl rfl (la_of a0) ?_
    refine b_iv (c := 353) (as := []) (rest := []) rfl (by decide) (ko_11 hS (List.Mem.head _)) rfl rfl (Nat.le_of_ble_eq_true rfl) (fun hq => ?_)
    refine lx_mono (E_W_misplaced_m hS hR h) ?_
    rintro _ _ ⟨M1, rfl, rfl, r1, h⟩
    exact E_W_exp_289 hS r1 iv2 a0 a2 h
def e_W_exp_46b (v1 : Int) (v2 : Int) (v3 : Int) (v4 : Int) (M : rf_M) (b46 : Int → Int → Int → Int → rf_M → Prop) (K : Int → rf_M → Prop) : Prop := (v4 = 0 → (e_W_exp_278 v2 M K)) ∧ (¬ (v4 = 0) → (((gi M 353 9) = 0 → ((v3 = 0 → (em_W_isSign 41 M (fun (z1 : Int) (M1 : rf_M) => (z1 = 0 → (e_W_exp_133 v1 v2 v3 v4 M1 b46 K)) ∧ (¬ (z1 = 0) → (((gi M1 353 33) ≤ 0 → (e_W_exp_133 v1 v2 v3 v4 M1 b46 K)) ∧ (¬ ((gi M1 353 33) ≤ 0) → (em_W_reduce 1 M1 (fun (M2 : rf_M) => ∀ M3 : rf_M, M3 = wi M2 353 30 ((gi M2 353 30) - 1) → (∀ M4 : rf_M, M4 = wi M3 353 33 ((gi M3 353 33) - 1) → (∀ M5 : rf_M, M5 = wi M4 353 31 ((gi M4 353 31) - 1) → (em_W_next  M5 (fun (M6 : rf_M) => em_W_operandIsThere  M6 (fun (M7 : rf_M) => b46 v1 v2 v3 v4 M7))))))))))))) ∧ (¬ (v3 = 0) → (em_W_readUnary v1 M (fun (z8 : Int) (M8 : rf_M) => b46 v1 v2 z8 v4 M8))))) ∧ (¬ (gi M 353 9) = 0 → (e_W_exp_278 v2 M K))))
theorem E_W_exp_46b {fz : Bool} {S : gS} {B : rf_M} {M : rf_M} {ls : rf_L} {n0 : Nat} {v1 : Int} {v2 : Int} {v3 : Int} {v4 : Int} {b46 : Int → Int → Int → Int → rf_M → Prop} {K : Int → rf_M → Prop} (hS : rl S) (hR : fl 353 406 B M) (iv1 : inr v1) (iv2 : inr v2) (iv3 : inr v3) (iv4 : inr v4) (a0 : rf_ld ls 0 = some (.ref 353)) (a1 : rf_ld ls 1 = some (zv v1)) (a2 : rf_ld ls 2 = some (zv v2)) (a3 : rf_ld ls 3 = some (zv v3)) (a4 : rf_ld ls 4 = some (zv v4)) (hb46 : ∀ n', n' < n0 → ∀ (v1 : Int) (v2 : Int) (v3 : Int) (v4 : Int) (M : rf_M) (ls : rf_L), fl 353 406 B M → inr v1 → inr v2 → inr v3 → inr v4 → rf_ld ls 0 = some (.ref 353) → rf_ld ls 1 = some (zv v1) → rf_ld ls 2 = some (zv v2) → rf_ld ls 3 = some (zv v3) → rf_ld ls 4 = some (zv v4) → b46 v1 v2 v3 v4 M → lx (cx0 fz) n' 146 46 ls [] (M, S) (vl_i 353 406 B S K)) (h : e_W_exp_46b v1 v2 v3 v4 M b46 K) : lx (cx0 fz) n0 146 46 ls [] (M, S) (vl_i 353 406 B S K) := by
  unfold e_W_exp_46b at h
  rcases Nat.eq_zero_or_pos n0 with e0 | hp
  · rw [e0]; exact lx_zero
  refine l1 (n := 2) rfl rfl rfl (li_of a4) ?_
  refine l_if rfl iv4 (fun c => ?_) (fun c => ?_)
  · replace h := h.1 c
    exact E_W_exp_278 hS hR iv2 a0 a2 h
  · replace h := h.2 c
    refine l1 (n := 1) rfl rfl rfl (la_of a0) ?_
    refine l_gi rfl (ko_11 hS (List.Mem.head _)) rfl (fun _ => rfl) ?_
    refine l_if rfl (inr_gi _ _ _) (fun c => ?_) (fun c => ?_)
    · replace h := h.2 c
      exact E_W_exp_278 hS hR iv2 a0 a2 h
    · replace h := h.1 (Classical.not_not.mp c)
      refine l1 (n := 1) rfl rfl rfl (li_of a3) ?_
      refine l_if rfl iv3 (fun c => ?_) (fun c => ?_)
      · replace h := h.1 c
        refine l1 (n := 1) rfl rfl rfl (la_of a0) ?_
        refine l_bi rfl (by decide) ?_
        refine b_iv (c := 353) (as := [zv 41]) (rest := []) rfl (by decide) (ko_11 hS (List.Mem.head _)) rfl rfl (Nat.le_of_ble_eq_true rfl) (fun hq => ?_)
        refine lx_mono (E_W_isSign_m hS hR ⟨by decide, by decide⟩ h) ?_
        rintro _ _ ⟨z1, M1, rfl, rfl, r1, iz1, h⟩
        refine l_if rfl iz1 (fun c => ?_) (fun c => ?_)
        · replace h := h.1 c
          exact E_W_exp_133 hS r1 iv1 iv2 iv3 iv4 a0 a1 a2 a3 a4 (fun n' hn' => hb46 n' (by omega)) h
        · replace h := h.2 c
          refine l1 (n := 1) rfl rfl rfl (la_of a0) ?_
          refine l_gi rfl (ko_11 hS (List.Mem.head _)) rfl (fun _ => rfl) ?_
          refine l_if rfl (inr_gi _ _ _) (fun c => ?_) (fun c => ?_)
          · replace h := h.1 c
            exact E_W_exp_133 hS r1 iv1 iv2 iv3 iv4 a0 a1 a2 a3 a4 (fun n' hn' => hb46 n' (by omega)) h
          · replace h := h.2 c
            refine l1 (n := 1) rfl rfl rfl (la_of a0) ?_
            refine l1 (n := 1) rfl rfl rfl rfl ?_
            refine b_iv (c := 353) (as := [zv 1]) (rest := []) rfl (by decide) (ko_11 hS (List.Mem.head _)) rfl rfl (Nat.le_of_ble_eq_true rfl) (fun hq => ?_)
            refine lx_mono (E_W_reduce_m hS r1 ⟨by decide, by decide⟩ h) ?_
            rintro _ _ ⟨M2, rfl, rfl, r2, h⟩
            refine l1 (n := 1) rfl rfl rfl (la_of a0) ?_
            refine l0 rfl rfl rfl ?_
            refine l_gi rfl (ko_11 hS (List.Mem.head _)) rfl (fun _ => rfl) ?_
            refine l1 (n := 1) rfl rfl rfl rfl ?_
            refine l_sub rfl ?_
            refine l_pi rfl (ko_11 (fz := fz) hS (List.Mem.head _)) rfl (fun _ _ => rfl) (fun M3 e => ?_)
            replace h := h M3 e
            have r3 := r2.wi (Nat.le_of_ble_eq_true rfl) (Nat.le_of_ble_eq_true rfl) e
            refine l1 (n := 1) rfl rfl rfl (la_of a0) ?_
            refine l0 rfl rfl rfl ?_
            refine l_gi rfl (ko_11 hS (List.Mem.head _)) rfl (fun _ => rfl) ?_
            refine l1 (n := 1) rfl rfl rfl rfl ?_
            refine l_sub rfl ?_
            refine l_pi rfl (ko_11 (fz := fz) hS (List.Mem.head _)) rfl (fun _ _ => rfl) (fun M4 e => ?_)
            replace h := h M4 e
            have r4 := r3.wi (Nat.le_of_ble_eq_true rfl) (Nat.le_of_ble_eq_true rfl) e
            refine l1 (n := 1) rfl rfl rfl (la_of a0) ?_
            refine l0 rfl rfl rfl ?_
            refine l_gi rfl (ko_11 hS (List.Mem.head _)) rfl (fun _ => rfl) ?_
            refine l1 (n := 1) rfl rfl rfl rfl ?_
            refine l_sub rfl ?_
            refine l_pi rfl (ko_11 (fz := fz) hS (List.Mem.head _)) rfl (fun _ _ => rfl) (fun M5 e => ?_)
            replace h := h M5 e
            have r5 := r4.wi (Nat.le_of_ble_eq_true rfl) (Nat.le_of_ble_eq_true rfl) e
            refine l1 (n := 1) rfl rfl rfl (la_of a0) ?_
            refine b_iv (c := 353) (as := []) (rest := []) rfl (by decide) (ko_11 hS (List.Mem.head _)) rfl rfl (Nat.le_of_ble_eq_true rfl) (fun hq => ?_)
            refine lx_mono (E_W_next_m hS r5 h) ?_
            rintro _ _ ⟨M6, rfl, rfl, r6, h⟩
            refine l1 (n := 1) rfl rfl rfl (la_of a0) ?_
            refine b_iv (c := 353) (as := []) (rest := []) rfl (by decide) (ko_11 hS (List.Mem.head _)) rfl rfl (Nat.le_of_ble_eq_true rfl) (fun hq => ?_)
            refine lx_mono (E_W_operandIsThere_m hS r6 h) ?_
            rintro _ _ ⟨M7, rfl, rfl, r7, h⟩
            refine l3 rfl rfl rfl ?_
            exact hb46 _ (by omega) _ _ _ _ _ _ r7 iv1 iv2 iv3 iv4 a0 a1 a2 a3 a4 h
      · replace h := h.2 c
        refine l1 (n := 1) rfl rfl rfl (la_of a0) ?_
        refine l1 (n := 1) rfl rfl rfl (li_of a1) ?_
        refine b_iv (c := 353) (as := [zv v1]) (rest := []) rfl (by decide) (ko_11 hS (List.Mem.head _)) rfl rfl (Nat.le_of_ble_eq_true rfl) (fun hq => ?_)
        refine lx_mono (E_W_readUnary_m hS hR iv1 h) ?_
        rintro _ _ ⟨z8, M8, rfl, rfl, r8, iz8, h⟩
        refine l_s1 (n := 1) rfl rfl rfl rfl (fun ls y1 ho => ?_)
        have y2 := ho 0 _ (by decide) (fun q => by cases q.2) a0
        have y3 := ho 1 _ (by decide) (fun q => by cases q.2) a1
        have y4 := ho 2 _ (by decide) (fun q => by cases q.2) a2
        have y5 := ho 4 _ (by decide) (fun q => by cases q.2) a4
        refine l3 rfl rfl rfl ?_
        exact hb46 _ (by omega) _ _ _ _ _ _ r8 iv1 iv2 iz8 iv4 y2 y3 y4 y1 y5 h
def e_W_exp_46 (v1 : Int) (v2 : Int) (v3 : Int) (v4 : Int) (M : rf_M) (K : Int → rf_M → Prop) : Prop := ∃ Inv : Int → Int → Int → Int → rf_M → Prop, Inv v1 v2 v3 v4 M ∧ ∀ (v1 : Int) (v2 : Int) (v3 : Int) (v4 : Int) (M : rf_M), inr v1 → inr v2 → inr v3 → inr v4 → Inv v1 v2 v3 v4 M → e_W_exp_46b v1 v2 v3 v4 M Inv K
theorem E_W_exp_46 {fz : Bool} {S : gS} {B : rf_M} {M : rf_M} {ls : rf_L} {n0 : Nat} {v1 : Int} {v2 : Int} {v3 : Int} {v4 : Int} {K : Int → rf_M → Prop} (hS : rl S) (hR : fl 353 406 B M) (iv1 : inr v1) (iv2 : inr v2) (iv3 : inr v3) (iv4 : inr v4) (a0 : rf_ld ls 0 = some (.ref 353)) (a1 : rf_ld ls 1 = some (zv v1)) (a2 : rf_ld ls 2 = some (zv v2)) (a3 : rf_ld ls 3 = some (zv v3)) (a4 : rf_ld ls 4 = some (zv v4)) (h : e_W_exp_46 v1 v2 v3 v4 M K) : lx (cx0 fz) n0 146 46 ls [] (M, S) (vl_i 353 406 B S K) := by
  obtain ⟨Inv, hm, hb⟩ := h
  induction n0 using Nat.strongRecOn generalizing ls M v1 v2 v3 v4 with
  | _ n0 ih =>
    refine E_W_exp_46b hS hR iv1 iv2 iv3 iv4 a0 a1 a2 a3 a4 (fun n' hn' v1' v2' v3' v4' M' ls' hR' f0 f1 f2 f3 f4 f5 f6 f7 f8 q2 => ih n' hn' hR' f0 f1 f2 f3 f4 f5 f6 f7 f8 q2) (hb v1 v2 v3 v4 M iv1 iv2 iv3 iv4 hm)
def e_W_exp (v1 : Int) (M : rf_M) (K : Int → rf_M → Prop) : Prop := (0 ≤ (gi M 353 28) ∧ (gi M 353 28) < 12 → (∀ M1 : rf_M, M1 = wi M 353 30 0 → (∀ M2 : rf_M, M2 = wi M1 353 31 0 → (∀ M3 : rf_M, M3 = wi M2 353 33 0 → ((0 ≤ (0 : Int) ∧ (0 : Int) < 16 → (∀ M4 : rf_M, M4 = wi M3 372 0 (Int32.ofInt 0 &&& 1).toInt → (inr ((200 * (gi M 353 28)) + (gi M 359 (gi M 353 28).toNat)) ∧ (e_W_exp_46 v1 ((200 * (gi M 353 28)) + (gi M 359 (gi M 353 28).toNat)) 1 1 M4 K)))))))))
theorem E_W_exp {fz : Bool} {S : gS} {B : rf_M} {M : rf_M} {ls : rf_L} {n0 : Nat} {v1 : Int} {K : Int → rf_M → Prop} (hS : rl S) (hR : fl 353 406 B M) (iv1 : inr v1) (a0 : rf_ld ls 0 = some (.ref 353)) (a1 : rf_ld ls 1 = some (zv v1)) (h : e_W_exp v1 M K) : lx (cx0 fz) n0 146 0 ls [] (M, S) (vl_i 353 406 B S K) := by
  unfold e_W_exp at h
  refine l_si rfl (by decide) ?_
  refine l1 (n := 1) rfl rfl rfl (la_of a0) ?_
  refine l_gi rfl (ko_11 hS (List.Mem.head _)) rfl (fun _ => rfl) ?_
  refine l_mul rfl ?_
  refine l1 (n := 1) rfl rfl rfl (la_of a0) ?_
  refine l_gr rfl (ko_11 hS (List.Mem.head _)) rfl (fun _ => rfl) (kf_11_16 hR.2 (List.Mem.head _)) ?_
  refine l1 (n := 1) rfl rfl rfl (la_of a0) ?_
  refine l_gi rfl (ko_11 hS (List.Mem.head _)) rfl (fun _ => rfl) ?_
  refine b_ia rfl (kc_359 (fz := fz) hS).1 (Nat.le_of_ble_eq_true rfl) (inr_gi _ _ _) (fun q => ?_)
  replace h := h q
  refine l_add rfl ?_
  refine l_s1 (n := 1) rfl rfl rfl rfl (fun ls y1 ho => ?_)
  have y2 := ho 0 _ (by decide) (fun q => by cases q.2) a0
  have y3 := ho 1 _ (by decide) (fun q => by cases q.2) a1
  refine l1 (n := 1) rfl rfl rfl (la_of y2) ?_
  refine l1 (n := 1) rfl rfl rfl rfl ?_
  refine l_pi rfl (ko_11 (fz := fz) hS (List.Mem.head _)) rfl (fun _ _ => rfl) (fun M1 e => ?_)
  replace h := h M1 e
  have r1 := hR.wi (Nat.le_of_ble_eq_true rfl) (Nat.le_of_ble_eq_true rfl) e
  refine l1 (n := 1) rfl rfl rfl (la_of y2) ?_
  refine l1 (n := 1) rfl rfl rfl rfl ?_
  refine l_pi rfl (ko_11 (fz := fz) hS (List.Mem.head _)) rfl (fun _ _ => rfl) (fun M2 e => ?_)
  replace h := h M2 e
  have r2 := r1.wi (Nat.le_of_ble_eq_true rfl) (Nat.le_of_ble_eq_true rfl) e
  refine l1 (n := 1) rfl rfl rfl (la_of y2) ?_
  refine l1 (n := 1) rfl rfl rfl rfl ?_
  refine l_pi rfl (ko_11 (fz := fz) hS (List.Mem.head _)) rfl (fun _ _ => rfl) (fun M3 e => ?_)
  replace h := h M3 e
  have r3 := r2.wi (Nat.le_of_ble_eq_true rfl) (Nat.le_of_ble_eq_true rfl) e
  refine l1 (n := 1) rfl rfl rfl (la_of y2) ?_
  refine l_gr rfl (ko_11 hS (List.Mem.head _)) rfl (fun _ => rfl) (kf_11_32 r3.2 (List.Mem.head _)) ?_
  refine l1 (n := 1) rfl rfl rfl rfl ?_
  refine l1 (n := 1) rfl rfl rfl rfl ?_
  refine b_zs rfl (kc_372 (fz := fz) hS).1 (Nat.le_of_ble_eq_true rfl) ⟨by decide, by decide⟩ (fun q M4 e => ?_)
  replace h := h q M4 e
  have r4 := r3.wi (Nat.le_of_ble_eq_true rfl) (Nat.le_of_ble_eq_true rfl) e
  refine l1 (n := 1) rfl rfl rfl rfl ?_
  refine l_s1 (n := 1) rfl rfl rfl rfl (fun ls y4 ho => ?_)
  have y5 := ho 0 _ (by decide) (fun q => by cases q.2) y2
  have y6 := ho 1 _ (by decide) (fun q => by cases q.2) y3
  have y7 := ho 2 _ (by decide) (fun q => by cases q.2) y1
  refine l1 (n := 1) rfl rfl rfl rfl ?_
  refine l_s1 (n := 2) rfl rfl rfl rfl (fun ls y8 ho => ?_)
  have y9 := ho 0 _ (by decide) (fun q => by cases q.2) y5
  have y10 := ho 1 _ (by decide) (fun q => by cases q.2) y6
  have y11 := ho 2 _ (by decide) (fun q => by cases q.2) y7
  have y12 := ho 3 _ (by decide) (fun q => by cases q.2) y4
  obtain ⟨i1, h⟩ := h
  exact E_W_exp_46 hS r4 iv1 i1 ⟨by decide, by decide⟩ ⟨by decide, by decide⟩ y9 y10 y11 y12 y8 h
def em_W_exp (x1 : Int) (M : rf_M) (K : Int → rf_M → Prop) : Prop := e_W_exp x1 M K
theorem E_W_exp_m {fz : Bool} {S : gS} {B : rf_M} {M : rf_M} {n0 : Nat} {x1 : Int} {K : Int → rf_M → Prop} (hS : rl S) (hR : fl 353 406 B M) (ix1 : inr x1) (h : em_W_exp x1 M K) : lx (cx0 fz) n0 146 0 (lv_args 0 [.ref 353, zv x1]) [] (M, S) (vl_i 353 406 B S K) :=
  E_W_exp hS hR ix1 rfl rfl h
def e_W_readStatement_76 (M : rf_M) (K : rf_M → Prop) : Prop := em_W_misplaced  M (fun (M1 : rf_M) => K M1)
theorem E_W_readStatement_76 {fz : Bool} {S : gS} {B : rf_M} {M : rf_M} {ls : rf_L} {n0 : Nat} {K : rf_M → Prop} (hS : rl S) (hR : fl 353 406 B M) (a0 : rf_ld ls 0 = some (.ref 353)) (h : e_W_readStatement_76 M K) : lx (cx0 fz) n0 143 76 ls [] (M, S) (vl_v 353 406 B S K) := by
  unfold e_W_readStatement_76 at h
  refine l1 (n := 1) rfl rfl rfl (la_of a0) ?_
  refine b_iv (c := 353) (as := []) (rest := []) rfl (by decide) (ko_11 hS (List.Mem.head _)) rfl rfl (Nat.le_of_ble_eq_true rfl) (fun hq => ?_)
  refine lx_mono (E_W_misplaced_m hS hR h) ?_
  rintro _ _ ⟨M1, rfl, rfl, r1, h⟩
  exact l_rv rfl rfl r1 h
def e_W_readStatement_319 (M : rf_M) (K : rf_M → Prop) : Prop := K M
theorem E_W_readStatement_319 {fz : Bool} {S : gS} {B : rf_M} {M : rf_M} {ls : rf_L} {n0 : Nat} {K : rf_M → Prop} (hS : rl S) (hR : fl 353 406 B M) (h : e_W_readStatement_319 M K) : lx (cx0 fz) n0 143 319 ls [] (M, S) (vl_v 353 406 B S K) := by
  unfold e_W_readStatement_319 at h
  exact l_rv rfl rfl hR h
def e_W_readStatement_304 (v3 : Int) (M : rf_M) (K : rf_M → Prop) : Prop := em_W_openBody v3 0 M (fun (M1 : rf_M) => e_W_readStatement_319 M1 K)
theorem E_W_readStatement_304 {fz : Bool} {S : gS} {B : rf_M} {M : rf_M} {ls : rf_L} {n0 : Nat} {v3 : Int} {K : rf_M → Prop} (hS : rl S) (hR : fl 353 406 B M) (iv3 : inr v3) (a0 : rf_ld ls 0 = some (.ref 353)) (a3 : rf_ld ls 3 = some (zv v3)) (h : e_W_readStatement_304 v3 M K) : lx (cx0 fz) n0 143 304 ls [] (M, S) (vl_v 353 406 B S K) := by
  unfold e_W_readStatement_304 at h
  refine l1 (n := 1) rfl rfl rfl (la_of a0) ?_
  refine l1 (n := 1) rfl rfl rfl (li_of a3) ?_
  refine l1 (n := 1) rfl rfl rfl rfl ?_
  refine b_iv (c := 353) (as := [zv v3, zv 0]) (rest := []) rfl (by decide) (ko_11 hS (List.Mem.head _)) rfl rfl (Nat.le_of_ble_eq_true rfl) (fun hq => ?_)
  refine lx_mono (E_W_openBody_m hS hR iv3 ⟨by decide, by decide⟩ h) ?_
  rintro _ _ ⟨M1, rfl, rfl, r1, h⟩
  refine l3 rfl rfl rfl ?_
  exact E_W_readStatement_319 hS r1  h
def e_W_readStatement_256 (v3 : Int) (M : rf_M) (K : rf_M → Prop) : Prop := ((gi M 353 9) = 0 → ((0 ≤ v3 ∧ v3 < 480 → (((gi M 360 (v3).toNat) = 0 → (e_W_readStatement_304 v3 M K)) ∧ (¬ ((gi M 360 (v3).toNat) = 0) → ((0 ≤ v3 ∧ v3 < 480 → (((gi M 360 (v3).toNat) = 2 → (e_W_readStatement_304 v3 M K)) ∧ (¬ ((gi M 360 (v3).toNat) = 2) → ((0 ≤ v3 ∧ v3 < 480 → (((gi M 360 (v3).toNat) = 5 → (e_W_readStatement_304 v3 M K)) ∧ (¬ ((gi M 360 (v3).toNat) = 5) → ((0 ≤ v3 ∧ v3 < 480 → (((gi M 360 (v3).toNat) = 7 → (e_W_readStatement_304 v3 M K)) ∧ (¬ (gi M 360 (v3).toNat) = 7 → (em_W_take 59 M (fun (M1 : rf_M) => e_W_readStatement_319 M1 K))))))))))))))))))) ∧ (¬ ((gi M 353 9) = 0) → (K M))
theorem E_W_readStatement_256 {fz : Bool} {S : gS} {B : rf_M} {M : rf_M} {ls : rf_L} {n0 : Nat} {v3 : Int} {K : rf_M → Prop} (hS : rl S) (hR : fl 353 406 B M) (iv3 : inr v3) (a0 : rf_ld ls 0 = some (.ref 353)) (a3 : rf_ld ls 3 = some (zv v3)) (h : e_W_readStatement_256 v3 M K) : lx (cx0 fz) n0 143 256 ls [] (M, S) (vl_v 353 406 B S K) := by
  unfold e_W_readStatement_256 at h
  refine l1 (n := 1) rfl rfl rfl (la_of a0) ?_
  refine l_gi rfl (ko_11 hS (List.Mem.head _)) rfl (fun _ => rfl) ?_
  refine l_if rfl (inr_gi _ _ _) (fun c => ?_) (fun c => ?_)
  · replace h := h.1 c
    refine l1 (n := 1) rfl rfl rfl (la_of a0) ?_
    refine l_gr rfl (ko_11 hS (List.Mem.head _)) rfl (fun _ => rfl) (kf_11_17 hR.2 (List.Mem.head _)) ?_
    refine l1 (n := 1) rfl rfl rfl (li_of a3) ?_
    refine b_ia rfl (kc_360 (fz := fz) hS).1 (Nat.le_of_ble_eq_true rfl) iv3 (fun q => ?_)
    replace h := h q
    refine l_if rfl (inr_gi _ _ _) (fun c => ?_) (fun c => ?_)
    · replace h := h.1 c
      exact E_W_readStatement_304 hS hR iv3 a0 a3 h
    · replace h := h.2 c
      refine l1 (n := 1) rfl rfl rfl (la_of a0) ?_
      refine l_gr rfl (ko_11 hS (List.Mem.head _)) rfl (fun _ => rfl) (kf_11_17 hR.2 (List.Mem.head _)) ?_
      refine l1 (n := 1) rfl rfl rfl (li_of a3) ?_
      refine b_ia rfl (kc_360 (fz := fz) hS).1 (Nat.le_of_ble_eq_true rfl) iv3 (fun q => ?_)
      replace h := h q
      refine l1 (n := 1) rfl rfl rfl rfl ?_
      refine l_ic rfl (inr_gi _ _ _) ⟨by decide, by decide⟩ (fun c => ?_) (fun c => ?_)
      · replace h := h.1 c
        exact E_W_readStatement_304 hS hR iv3 a0 a3 h
      · replace h := h.2 c
        refine l1 (n := 1) rfl rfl rfl (la_of a0) ?_
        refine l_gr rfl (ko_11 hS (List.Mem.head _)) rfl (fun _ => rfl) (kf_11_17 hR.2 (List.Mem.head _)) ?_
        refine l1 (n := 1) rfl rfl rfl (li_of a3) ?_
        refine b_ia rfl (kc_360 (fz := fz) hS).1 (Nat.le_of_ble_eq_true rfl) iv3 (fun q => ?_)
        replace h := h q
        refine l1 (n := 1) rfl rfl rfl rfl ?_
        refine l_ic rfl (inr_gi _ _ _) ⟨by decide, by decide⟩ (fun c => ?_) (fun c => ?_)
        · replace h := h.1 c
          exact E_W_readStatement_304 hS hR iv3 a0 a3 h
        · replace h := h.2 c
          refine l1 (n := 1) rfl rfl rfl (la_of a0) ?_
          refine l_gr rfl (ko_11 hS (List.Mem.head _)) rfl (fun _ => rfl) (kf_11_17 hR.2 (List.Mem.head _)) ?_
          refine l1 (n := 1) rfl rfl rfl (li_of a3) ?_
          refine b_ia rfl (kc_360 (fz := fz) hS).1 (Nat.le_of_ble_eq_true rfl) iv3 (fun q => ?_)
          replace h := h q
          refine l_bi rfl (by decide) ?_
          refine l_ic rfl (inr_gi _ _ _) ⟨by decide, by decide⟩ (fun c => ?_) (fun c => ?_)
          · replace h := h.2 c
            refine l1 (n := 1) rfl rfl rfl (la_of a0) ?_
            refine l_bi rfl (by decide) ?_
            refine b_iv (c := 353) (as := [zv 59]) (rest := []) rfl (by decide) (ko_11 hS (List.Mem.head _)) rfl rfl (Nat.le_of_ble_eq_true rfl) (fun hq => ?_)
            refine lx_mono (E_W_take_m hS hR ⟨by decide, by decide⟩ h) ?_
            rintro _ _ ⟨M1, rfl, rfl, r1, h⟩
            exact E_W_readStatement_319 hS r1  h
          · replace h := h.1 (Classical.not_not.mp c)
            exact E_W_readStatement_304 hS hR iv3 a0 a3 h
  · replace h := h.2 c
    exact l_rv rfl rfl hR h
def e_W_readStatement_250 (v3 : Int) (M : rf_M) (K : rf_M → Prop) : Prop := em_W_take 41 M (fun (M1 : rf_M) => e_W_readStatement_256 v3 M1 K)
theorem E_W_readStatement_250 {fz : Bool} {S : gS} {B : rf_M} {M : rf_M} {ls : rf_L} {n0 : Nat} {v3 : Int} {K : rf_M → Prop} (hS : rl S) (hR : fl 353 406 B M) (iv3 : inr v3) (a0 : rf_ld ls 0 = some (.ref 353)) (a3 : rf_ld ls 3 = some (zv v3)) (h : e_W_readStatement_250 v3 M K) : lx (cx0 fz) n0 143 250 ls [] (M, S) (vl_v 353 406 B S K) := by
  unfold e_W_readStatement_250 at h
  refine l1 (n := 1) rfl rfl rfl (la_of a0) ?_
  refine l_bi rfl (by decide) ?_
  refine b_iv (c := 353) (as := [zv 41]) (rest := []) rfl (by decide) (ko_11 hS (List.Mem.head _)) rfl rfl (Nat.le_of_ble_eq_true rfl) (fun hq => ?_)
  refine lx_mono (E_W_take_m hS hR ⟨by decide, by decide⟩ h) ?_
  rintro _ _ ⟨M1, rfl, rfl, r1, h⟩
  exact E_W_readStatement_256 hS r1 iv3 a0 a3 h
def e_W_readStatement_231 (v3 : Int) (M : rf_M) (K : rf_M → Prop) : Prop := (0 ≤ v3 ∧ v3 < 480 → (((gi M 360 (v3).toNat) = 0 → (e_W_readStatement_250 v3 M K)) ∧ (¬ ((gi M 360 (v3).toNat) = 0) → ((0 ≤ v3 ∧ v3 < 480 → (((gi M 360 (v3).toNat) = 2 → (e_W_readStatement_250 v3 M K)) ∧ (¬ (gi M 360 (v3).toNat) = 2 → (e_W_readStatement_256 v3 M K))))))))
theorem E_W_readStatement_231 {fz : Bool} {S : gS} {B : rf_M} {M : rf_M} {ls : rf_L} {n0 : Nat} {v3 : Int} {K : rf_M → Prop} (hS : rl S) (hR : fl 353 406 B M) (iv3 : inr v3) (a0 : rf_ld ls 0 = some (.ref 353)) (a3 : rf_ld ls 3 = some (zv v3)) (h : e_W_readStatement_231 v3 M K) : lx (cx0 fz) n0 143 231 ls [] (M, S) (vl_v 353 406 B S K) := by
  unfold e_W_readStatement_231 at h
  refine l1 (n := 1) rfl rfl rfl (la_of a0) ?_
  refine l_gr rfl (ko_11 hS (List.Mem.head _)) rfl (fun _ => rfl) (kf_11_17 hR.2 (List.Mem.head _)) ?_
  refine l1 (n := 1) rfl rfl rfl (li_of a3) ?_
  refine b_ia rfl (kc_360 (fz := fz) hS).1 (Nat.le_of_ble_eq_true rfl) iv3 (fun q => ?_)
  replace h := h q
  refine l_if rfl (inr_gi _ _ _) (fun c => ?_) (fun c => ?_)
  · replace h := h.1 c
    exact E_W_readStatement_250 hS hR iv3 a0 a3 h
  · replace h := h.2 c
    refine l1 (n := 1) rfl rfl rfl (la_of a0) ?_
    refine l_gr rfl (ko_11 hS (List.Mem.head _)) rfl (fun _ => rfl) (kf_11_17 hR.2 (List.Mem.head _)) ?_
    refine l1 (n := 1) rfl rfl rfl (li_of a3) ?_
    refine b_ia rfl (kc_360 (fz := fz) hS).1 (Nat.le_of_ble_eq_true rfl) iv3 (fun q => ?_)
    replace h := h q
    refine l1 (n := 1) rfl rfl rfl rfl ?_
    refine l_ic rfl (inr_gi _ _ _) ⟨by decide, by decide⟩ (fun c => ?_) (fun c => ?_)
    · replace h := h.2 c
      exact E_W_readStatement_256 hS hR iv3 a0 a3 h
    · replace h := h.1 (Classical.not_not.mp c)
      exact E_W_readStatement_250 hS hR iv3 a0 a3 h
def e_W_readStatement_227 (v3 : Int) (s1 : Int) (s3 : Int) (M : rf_M) (K : rf_M → Prop) : Prop := em_W_exp s3 M (fun (z1 : Int) (M1 : rf_M) => (0 ≤ s1 ∧ s1 < 480 → (∀ M2 : rf_M, M2 = wi M1 364 (s1).toNat z1 → (e_W_readStatement_231 v3 M2 K))))
theorem E_W_readStatement_227 {fz : Bool} {S : gS} {B : rf_M} {M : rf_M} {ls : rf_L} {n0 : Nat} {v3 : Int} {s1 : Int} {s3 : Int} {K : rf_M → Prop} (hS : rl S) (hR : fl 353 406 B M) (iv3 : inr v3) (is1 : inr s1) (is3 : inr s3) (a0 : rf_ld ls 0 = some (.ref 353)) (a3 : rf_ld ls 3 = some (zv v3)) (h : e_W_readStatement_227 v3 s1 s3 M K) : lx (cx0 fz) n0 143 227 ls [zv s3, .ref 353, zv s1, .ref 364] (M, S) (vl_v 353 406 B S K) := by
  unfold e_W_readStatement_227 at h
  refine b_iv (c := 353) (as := [zv s3]) (rest := [zv s1, .ref 364]) rfl (by decide) (ko_11 hS (List.Mem.head _)) rfl rfl (Nat.le_of_ble_eq_true rfl) (fun hq => ?_)
  refine lx_mono (E_W_exp_m hS hR is3 h) ?_
  rintro _ _ ⟨z1, M1, rfl, rfl, r1, iz1, h⟩
  refine b_is rfl (kc_364 (fz := fz) hS).1 (Nat.le_of_ble_eq_true rfl) is1 (fun q M2 e => ?_)
  replace h := h q M2 e
  have r2 := r1.wi (Nat.le_of_ble_eq_true rfl) (Nat.le_of_ble_eq_true rfl) e
  exact E_W_readStatement_231 hS r2 iv3 a0 a3 h
def e_W_readStatement_167 (v3 : Int) (M : rf_M) (K : rf_M → Prop) : Prop := ((gi M 353 9) = 0 → ((0 ≤ v3 ∧ v3 < 480 → (((gi M 360 (v3).toNat) = 3 → (e_W_readStatement_231 v3 M K)) ∧ (¬ ((gi M 360 (v3).toNat) = 3) → ((0 ≤ v3 ∧ v3 < 480 → (((gi M 360 (v3).toNat) = 5 → (e_W_readStatement_231 v3 M K)) ∧ (¬ ((gi M 360 (v3).toNat) = 5) → ((0 ≤ v3 ∧ v3 < 480 → (((gi M 360 (v3).toNat) = 7 → (e_W_readStatement_231 v3 M K)) ∧ (¬ ((gi M 360 (v3).toNat) = 7) → ((0 ≤ v3 ∧ v3 < 480 → (((gi M 360 (v3).toNat) = 9 → (e_W_readStatement_227 v3 v3 1 M K)) ∧ (¬ (gi M 360 (v3).toNat) = 9 → (e_W_readStatement_227 v3 v3 0 M K)))))))))))))))))) ∧ (¬ (gi M 353 9) = 0 → (e_W_readStatement_231 v3 M K))
theorem E_W_readStatement_167 {fz : Bool} {S : gS} {B : rf_M} {M : rf_M} {ls : rf_L} {n0 : Nat} {v3 : Int} {K : rf_M → Prop} (hS : rl S) (hR : fl 353 406 B M) (iv3 : inr v3) (a0 : rf_ld ls 0 = some (.ref 353)) (a3 : rf_ld ls 3 = some (zv v3)) (h : e_W_readStatement_167 v3 M K) : lx (cx0 fz) n0 143 167 ls [] (M, S) (vl_v 353 406 B S K) := by
  unfold e_W_readStatement_167 at h
  refine l1 (n := 1) rfl rfl rfl (la_of a0) ?_
  refine l_gi rfl (ko_11 hS (List.Mem.head _)) rfl (fun _ => rfl) ?_
  refine l_if rfl (inr_gi _ _ _) (fun c => ?_) (fun c => ?_)
  · replace h := h.2 c
    exact E_W_readStatement_231 hS hR iv3 a0 a3 h
  · replace h := h.1 (Classical.not_not.mp c)
    refine l1 (n := 1) rfl rfl rfl (la_of a0) ?_
    refine l_gr rfl (ko_11 hS (List.Mem.head _)) rfl (fun _ => rfl) (kf_11_17 hR.2 (List.Mem.head _)) ?_
    refine l1 (n := 1) rfl rfl rfl (li_of a3) ?_
    refine b_ia rfl (kc_360 (fz := fz) hS).1 (Nat.le_of_ble_eq_true rfl) iv3 (fun q => ?_)
    replace h := h q
    refine l1 (n := 1) rfl rfl rfl rfl ?_
    refine l_ic rfl (inr_gi _ _ _) ⟨by decide, by decide⟩ (fun c => ?_) (fun c => ?_)
    · replace h := h.1 c
      exact E_W_readStatement_231 hS hR iv3 a0 a3 h
    · replace h := h.2 c
      refine l1 (n := 1) rfl rfl rfl (la_of a0) ?_
      refine l_gr rfl (ko_11 hS (List.Mem.head _)) rfl (fun _ => rfl) (kf_11_17 hR.2 (List.Mem.head _)) ?_
      refine l1 (n := 1) rfl rfl rfl (li_of a3) ?_
      refine b_ia rfl (kc_360 (fz := fz) hS).1 (Nat.le_of_ble_eq_true rfl) iv3 (fun q => ?_)
      replace h := h q
      refine l1 (n := 1) rfl rfl rfl rfl ?_
      refine l_ic rfl (inr_gi _ _ _) ⟨by decide, by decide⟩ (fun c => ?_) (fun c => ?_)
      · replace h := h.1 c
        exact E_W_readStatement_231 hS hR iv3 a0 a3 h
      · replace h := h.2 c
        refine l1 (n := 1) rfl rfl rfl (la_of a0) ?_
        refine l_gr rfl (ko_11 hS (List.Mem.head _)) rfl (fun _ => rfl) (kf_11_17 hR.2 (List.Mem.head _)) ?_
        refine l1 (n := 1) rfl rfl rfl (li_of a3) ?_
        refine b_ia rfl (kc_360 (fz := fz) hS).1 (Nat.le_of_ble_eq_true rfl) iv3 (fun q => ?_)
        replace h := h q
        refine l_bi rfl (by decide) ?_
        refine l_ic rfl (inr_gi _ _ _) ⟨by decide, by decide⟩ (fun c => ?_) (fun c => ?_)
        · replace h := h.1 c
          exact E_W_readStatement_231 hS hR iv3 a0 a3 h
        · replace h := h.2 c
          refine l1 (n := 1) rfl rfl rfl (la_of a0) ?_
          refine l_gr rfl (ko_11 hS (List.Mem.head _)) rfl (fun _ => rfl) (kf_11_21 hR.2 (List.Mem.head _)) ?_
          refine l1 (n := 1) rfl rfl rfl (li_of a3) ?_
          refine l1 (n := 1) rfl rfl rfl (la_of a0) ?_
          refine l1 (n := 1) rfl rfl rfl (la_of a0) ?_
          refine l_gr rfl (ko_11 hS (List.Mem.head _)) rfl (fun _ => rfl) (kf_11_17 hR.2 (List.Mem.head _)) ?_
          refine l1 (n := 1) rfl rfl rfl (li_of a3) ?_
          refine b_ia rfl (kc_360 (fz := fz) hS).1 (Nat.le_of_ble_eq_true rfl) iv3 (fun q => ?_)
          replace h := h q
          refine l_bi rfl (by decide) ?_
          refine l_ic rfl (inr_gi _ _ _) ⟨by decide, by decide⟩ (fun c => ?_) (fun c => ?_)
          · replace h := h.2 c
            refine l1 (n := 1) rfl rfl rfl rfl ?_
            exact E_W_readStatement_227 hS hR iv3 iv3 ⟨by decide, by decide⟩ a0 a3 h
          · replace h := h.1 (Classical.not_not.mp c)
            refine l1 (n := 1) rfl rfl rfl rfl ?_
            refine l3 rfl rfl rfl ?_
            exact E_W_readStatement_227 hS hR iv3 iv3 ⟨by decide, by decide⟩ a0 a3 h
def e_W_readStatement_161 (v3 : Int) (M : rf_M) (K : rf_M → Prop) : Prop := em_W_take 40 M (fun (M1 : rf_M) => e_W_readStatement_167 v3 M1 K)
theorem E_W_readStatement_161 {fz : Bool} {S : gS} {B : rf_M} {M : rf_M} {ls : rf_L} {n0 : Nat} {v3 : Int} {K : rf_M → Prop} (hS : rl S) (hR : fl 353 406 B M) (iv3 : inr v3) (a0 : rf_ld ls 0 = some (.ref 353)) (a3 : rf_ld ls 3 = some (zv v3)) (h : e_W_readStatement_161 v3 M K) : lx (cx0 fz) n0 143 161 ls [] (M, S) (vl_v 353 406 B S K) := by
  unfold e_W_readStatement_161 at h
  refine l1 (n := 1) rfl rfl rfl (la_of a0) ?_
  refine l_bi rfl (by decide) ?_
  refine b_iv (c := 353) (as := [zv 40]) (rest := []) rfl (by decide) (ko_11 hS (List.Mem.head _)) rfl rfl (Nat.le_of_ble_eq_true rfl) (fun hq => ?_)
  refine lx_mono (E_W_take_m hS hR ⟨by decide, by decide⟩ h) ?_
  rintro _ _ ⟨M1, rfl, rfl, r1, h⟩
  exact E_W_readStatement_167 hS r1 iv3 a0 a3 h
def e_W_readStatement_127 (v1 : Int) (v3 : Int) (s1 : Int) (s2 : Int) (M : rf_M) (K : rf_M → Prop) : Prop := (0 ≤ s1 ∧ s1 < 480 → (∀ M1 : rf_M, M1 = wi M 367 (s1).toNat s2 → (em_W_next  M1 (fun (M2 : rf_M) => (0 ≤ v3 ∧ v3 < 480 → (((gi M2 360 (v3).toNat) = 20 → (em_W_take 61 M2 (fun (M3 : rf_M) => e_W_readStatement_167 v3 M3 K))) ∧ (¬ (gi M2 360 (v3).toNat) = 20 → ((v1 = 0 → (e_W_readStatement_161 v3 M2 K)) ∧ (¬ (v1 = 0) → ((v1 = 2 → (e_W_readStatement_161 v3 M2 K)) ∧ (¬ v1 = 2 → (e_W_readStatement_167 v3 M2 K))))))))))))
theorem E_W_readStatement_127 {fz : Bool} {S : gS} {B : rf_M} {M : rf_M} {ls : rf_L} {n0 : Nat} {v1 : Int} {v3 : Int} {s1 : Int} {s2 : Int} {K : rf_M → Prop} (hS : rl S) (hR : fl 353 406 B M) (iv1 : inr v1) (iv3 : inr v3) (is1 : inr s1) (is2 : inr s2) (a0 : rf_ld ls 0 = some (.ref 353)) (a1 : rf_ld ls 1 = some (zv v1)) (a3 : rf_ld ls 3 = some (zv v3)) (h : e_W_readStatement_127 v1 v3 s1 s2 M K) : lx (cx0 fz) n0 143 127 ls [zv s2, zv s1, .ref 367] (M, S) (vl_v 353 406 B S K) := by
  unfold e_W_readStatement_127 at h
  refine b_is rfl (kc_367 (fz := fz) hS).1 (Nat.le_of_ble_eq_true rfl) is1 (fun q M1 e => ?_)
  replace h := h q M1 e
  have r1 := hR.wi (Nat.le_of_ble_eq_true rfl) (Nat.le_of_ble_eq_true rfl) e
  refine l1 (n := 1) rfl rfl rfl (la_of a0) ?_
  refine b_iv (c := 353) (as := []) (rest := []) rfl (by decide) (ko_11 hS (List.Mem.head _)) rfl rfl (Nat.le_of_ble_eq_true rfl) (fun hq => ?_)
  refine lx_mono (E_W_next_m hS r1 h) ?_
  rintro _ _ ⟨M2, rfl, rfl, r2, h⟩
  refine l1 (n := 1) rfl rfl rfl (la_of a0) ?_
  refine l_gr rfl (ko_11 hS (List.Mem.head _)) rfl (fun _ => rfl) (kf_11_17 r2.2 (List.Mem.head _)) ?_
  refine l1 (n := 1) rfl rfl rfl (li_of a3) ?_
  refine b_ia rfl (kc_360 (fz := fz) hS).1 (Nat.le_of_ble_eq_true rfl) iv3 (fun q => ?_)
  replace h := h q
  refine l_bi rfl (by decide) ?_
  refine l_ic rfl (inr_gi _ _ _) ⟨by decide, by decide⟩ (fun c => ?_) (fun c => ?_)
  · replace h := h.2 c
    refine l1 (n := 1) rfl rfl rfl (li_of a1) ?_
    refine l_if rfl iv1 (fun c => ?_) (fun c => ?_)
    · replace h := h.1 c
      exact E_W_readStatement_161 hS r2 iv3 a0 a3 h
    · replace h := h.2 c
      refine l1 (n := 1) rfl rfl rfl (li_of a1) ?_
      refine l1 (n := 1) rfl rfl rfl rfl ?_
      refine l_ic rfl iv1 ⟨by decide, by decide⟩ (fun c => ?_) (fun c => ?_)
      · replace h := h.2 c
        exact E_W_readStatement_167 hS r2 iv3 a0 a3 h
      · replace h := h.1 (Classical.not_not.mp c)
        exact E_W_readStatement_161 hS r2 iv3 a0 a3 h
  · replace h := h.1 (Classical.not_not.mp c)
    refine l1 (n := 1) rfl rfl rfl (la_of a0) ?_
    refine l_bi rfl (by decide) ?_
    refine b_iv (c := 353) (as := [zv 61]) (rest := []) rfl (by decide) (ko_11 hS (List.Mem.head _)) rfl rfl (Nat.le_of_ble_eq_true rfl) (fun hq => ?_)
    refine lx_mono (E_W_take_m hS r2 ⟨by decide, by decide⟩ h) ?_
    rintro _ _ ⟨M3, rfl, rfl, r3, h⟩
    refine l3 rfl rfl rfl ?_
    exact E_W_readStatement_167 hS r3 iv3 a0 a3 h
def e_W_readStatement_105 (v1 : Int) (v3 : Int) (s1 : Int) (s2 : Int) (M : rf_M) (K : rf_M → Prop) : Prop := (0 ≤ s1 ∧ s1 < 480 → (∀ M1 : rf_M, M1 = wi M 360 (s1).toNat s2 → (((gi M1 353 4) = 2 → (e_W_readStatement_127 v1 v3 v3 (gi M1 353 6) M1 K)) ∧ (¬ (gi M1 353 4) = 2 → (e_W_readStatement_127 v1 v3 v3 (-1) M1 K)))))
theorem E_W_readStatement_105 {fz : Bool} {S : gS} {B : rf_M} {M : rf_M} {ls : rf_L} {n0 : Nat} {v1 : Int} {v3 : Int} {s1 : Int} {s2 : Int} {K : rf_M → Prop} (hS : rl S) (hR : fl 353 406 B M) (iv1 : inr v1) (iv3 : inr v3) (is1 : inr s1) (is2 : inr s2) (a0 : rf_ld ls 0 = some (.ref 353)) (a1 : rf_ld ls 1 = some (zv v1)) (a3 : rf_ld ls 3 = some (zv v3)) (h : e_W_readStatement_105 v1 v3 s1 s2 M K) : lx (cx0 fz) n0 143 105 ls [zv s2, zv s1, .ref 360] (M, S) (vl_v 353 406 B S K) := by
  unfold e_W_readStatement_105 at h
  refine b_is rfl (kc_360 (fz := fz) hS).1 (Nat.le_of_ble_eq_true rfl) is1 (fun q M1 e => ?_)
  replace h := h q M1 e
  have r1 := hR.wi (Nat.le_of_ble_eq_true rfl) (Nat.le_of_ble_eq_true rfl) e
  refine l1 (n := 1) rfl rfl rfl (la_of a0) ?_
  refine l_gr rfl (ko_11 hS (List.Mem.head _)) rfl (fun _ => rfl) (kf_11_24 r1.2 (List.Mem.head _)) ?_
  refine l1 (n := 1) rfl rfl rfl (li_of a3) ?_
  refine l1 (n := 1) rfl rfl rfl (la_of a0) ?_
  refine l_gi rfl (ko_11 hS (List.Mem.head _)) rfl (fun _ => rfl) ?_
  refine l1 (n := 1) rfl rfl rfl rfl ?_
  refine l_ic rfl (inr_gi _ _ _) ⟨by decide, by decide⟩ (fun c => ?_) (fun c => ?_)
  · replace h := h.2 c
    refine l1 (n := 1) rfl rfl rfl rfl ?_
    exact E_W_readStatement_127 hS r1 iv1 iv3 iv3 ⟨by decide, by decide⟩ a0 a1 a3 h
  · replace h := h.1 (Classical.not_not.mp c)
    refine l1 (n := 1) rfl rfl rfl (la_of a0) ?_
    refine l_gi rfl (ko_11 hS (List.Mem.head _)) rfl (fun _ => rfl) ?_
    refine l3 rfl rfl rfl ?_
    exact E_W_readStatement_127 hS r1 iv1 iv3 iv3 (inr_gi _ _ _) a0 a1 a3 h
def e_W_readStatement_57 (v1 : Int) (s0 : Int) (M : rf_M) (K : rf_M → Prop) : Prop := (s0 = 0 → (e_W_readStatement_76 M K)) ∧ (¬ (s0 = 0) → ((0 ≤ (gi M 353 28) ∧ (gi M 353 28) < 12 → (((gi M 355 (gi M 353 28).toNat) = 40 → (e_W_readStatement_76 M K)) ∧ (¬ (gi M 355 (gi M 353 28).toNat) = 40 → (em_W_newStatement  M (fun (z1 : Int) (M1 : rf_M) => ((gi M1 353 4) = 2 → (e_W_readStatement_105 v1 z1 z1 20 M1 K)) ∧ (¬ (gi M1 353 4) = 2 → (e_W_readStatement_105 v1 z1 z1 v1 M1 K)))))))))
theorem E_W_readStatement_57 {fz : Bool} {S : gS} {B : rf_M} {M : rf_M} {ls : rf_L} {n0 : Nat} {v1 : Int} {s0 : Int} {K : rf_M → Prop} (hS : rl S) (hR : fl 353 406 B M) (iv1 : inr v1) (is0 : inr s0) (a0 : rf_ld ls 0 = some (.ref 353)) (a1 : rf_ld ls 1 = some (zv v1)) (h : e_W_readStatement_57 v1 s0 M K) : lx (cx0 fz) n0 143 57 ls [zv s0] (M, S) (vl_v 353 406 B S K) := by
  unfold e_W_readStatement_57 at h
  refine l_s1 (n := 1) rfl rfl rfl rfl (fun ls y1 ho => ?_)
  have y2 := ho 0 _ (by decide) (fun q => by cases q.2) a0
  have y3 := ho 1 _ (by decide) (fun q => by cases q.2) a1
  refine l1 (n := 1) rfl rfl rfl (li_of y1) ?_
  refine l_if rfl is0 (fun c => ?_) (fun c => ?_)
  · replace h := h.1 c
    exact E_W_readStatement_76 hS hR y2 h
  · replace h := h.2 c
    refine l1 (n := 1) rfl rfl rfl (la_of y2) ?_
    refine l_gr rfl (ko_11 hS (List.Mem.head _)) rfl (fun _ => rfl) (kf_11_12 hR.2 (List.Mem.head _)) ?_
    refine l1 (n := 1) rfl rfl rfl (la_of y2) ?_
    refine l_gi rfl (ko_11 hS (List.Mem.head _)) rfl (fun _ => rfl) ?_
    refine b_ia rfl (kc_355 (fz := fz) hS).1 (Nat.le_of_ble_eq_true rfl) (inr_gi _ _ _) (fun q => ?_)
    replace h := h q
    refine l_bi rfl (by decide) ?_
    refine l_ic rfl (inr_gi _ _ _) ⟨by decide, by decide⟩ (fun c => ?_) (fun c => ?_)
    · replace h := h.2 c
      refine l1 (n := 1) rfl rfl rfl (la_of y2) ?_
      refine b_iv (c := 353) (as := []) (rest := []) rfl (by decide) (ko_11 hS (List.Mem.head _)) rfl rfl (Nat.le_of_ble_eq_true rfl) (fun hq => ?_)
      refine lx_mono (E_W_newStatement_m hS hR h) ?_
      rintro _ _ ⟨z1, M1, rfl, rfl, r1, iz1, h⟩
      refine l_s1 (n := 1) rfl rfl rfl rfl (fun ls y4 ho => ?_)
      have y5 := ho 0 _ (by decide) (fun q => by cases q.2) y2
      have y6 := ho 1 _ (by decide) (fun q => by cases q.2) y3
      refine l1 (n := 1) rfl rfl rfl (la_of y5) ?_
      refine l_gr rfl (ko_11 hS (List.Mem.head _)) rfl (fun _ => rfl) (kf_11_17 r1.2 (List.Mem.head _)) ?_
      refine l1 (n := 1) rfl rfl rfl (li_of y4) ?_
      refine l1 (n := 1) rfl rfl rfl (la_of y5) ?_
      refine l_gi rfl (ko_11 hS (List.Mem.head _)) rfl (fun _ => rfl) ?_
      refine l1 (n := 1) rfl rfl rfl rfl ?_
      refine l_ic rfl (inr_gi _ _ _) ⟨by decide, by decide⟩ (fun c => ?_) (fun c => ?_)
      · replace h := h.2 c
        refine l1 (n := 1) rfl rfl rfl (li_of y6) ?_
        exact E_W_readStatement_105 hS r1 iv1 iz1 iz1 iv1 y5 y6 y4 h
      · replace h := h.1 (Classical.not_not.mp c)
        refine l_bi rfl (by decide) ?_
        refine l3 rfl rfl rfl ?_
        exact E_W_readStatement_105 hS r1 iv1 iz1 iz1 ⟨by decide, by decide⟩ y5 y6 y4 h
    · replace h := h.1 (Classical.not_not.mp c)
      exact E_W_readStatement_76 hS hR y2 h
def e_W_readStatement_52 (v1 : Int) (M : rf_M) (K : rf_M → Prop) : Prop := e_W_readStatement_57 v1 1 M K
theorem E_W_readStatement_52 {fz : Bool} {S : gS} {B : rf_M} {M : rf_M} {ls : rf_L} {n0 : Nat} {v1 : Int} {K : rf_M → Prop} (hS : rl S) (hR : fl 353 406 B M) (iv1 : inr v1) (a0 : rf_ld ls 0 = some (.ref 353)) (a1 : rf_ld ls 1 = some (zv v1)) (h : e_W_readStatement_52 v1 M K) : lx (cx0 fz) n0 143 52 ls [] (M, S) (vl_v 353 406 B S K) := by
  unfold e_W_readStatement_52 at h
  refine l1 (n := 1) rfl rfl rfl rfl ?_
  refine l3 rfl rfl rfl ?_
  exact E_W_readStatement_57 hS hR iv1 ⟨by decide, by decide⟩ a0 a1 h
def e_W_readStatement (M : rf_M) (K : rf_M → Prop) : Prop := ((gi M 353 4) = 2 → (inr ((gi M 353 4) - 10) ∧ (e_W_readStatement_52 ((gi M 353 4) - 10) M K))) ∧ (¬ ((gi M 353 4) = 2) → (inr ((gi M 353 4) - 10) ∧ ((((gi M 353 4) - 10) = 0 → (e_W_readStatement_52 ((gi M 353 4) - 10) M K)) ∧ (¬ (((gi M 353 4) - 10) = 0) → ((((gi M 353 4) - 10) = 2 → (e_W_readStatement_52 ((gi M 353 4) - 10) M K)) ∧ (¬ (((gi M 353 4) - 10) = 2) → ((((gi M 353 4) - 10) = 3 → (e_W_readStatement_52 ((gi M 353 4) - 10) M K)) ∧ (¬ (((gi M 353 4) - 10) = 3) → ((((gi M 353 4) - 10) = 4 → (e_W_readStatement_52 ((gi M 353 4) - 10) M K)) ∧ (¬ (((gi M 353 4) - 10) = 4) → ((((gi M 353 4) - 10) = 5 → (e_W_readStatement_52 ((gi M 353 4) - 10) M K)) ∧ (¬ (((gi M 353 4) - 10) = 5) → ((((gi M 353 4) - 10) = 7 → (e_W_readStatement_52 ((gi M 353 4) - 10) M K)) ∧ (¬ (((gi M 353 4) - 10) = 7) → ((((gi M 353 4) - 10) = 9 → (e_W_readStatement_52 ((gi M 353 4) - 10) M K)) ∧ (¬ ((gi M 353 4) - 10) = 9 → (e_W_readStatement_57 ((gi M 353 4) - 10) 0 M K)))))))))))))))))
theorem E_W_readStatement {fz : Bool} {S : gS} {B : rf_M} {M : rf_M} {ls : rf_L} {n0 : Nat} {K : rf_M → Prop} (hS : rl S) (hR : fl 353 406 B M) (a0 : rf_ld ls 0 = some (.ref 353)) (h : e_W_readStatement M K) : lx (cx0 fz) n0 143 0 ls [] (M, S) (vl_v 353 406 B S K) := by
  unfold e_W_readStatement at h
  refine l1 (n := 1) rfl rfl rfl (la_of a0) ?_
  refine l_gi rfl (ko_11 hS (List.Mem.head _)) rfl (fun _ => rfl) ?_
  refine l_bi rfl (by decide) ?_
  refine l_sub rfl ?_
  refine l_s1 (n := 1) rfl rfl rfl rfl (fun ls y1 ho => ?_)
  have y2 := ho 0 _ (by decide) (fun q => by cases q.2) a0
  refine l1 (n := 1) rfl rfl rfl (la_of y2) ?_
  refine l_gi rfl (ko_11 hS (List.Mem.head _)) rfl (fun _ => rfl) ?_
  refine l1 (n := 1) rfl rfl rfl rfl ?_
  refine l_ic rfl (inr_gi _ _ _) ⟨by decide, by decide⟩ (fun c => ?_) (fun c => ?_)
  · replace h := h.1 c
    obtain ⟨i1, h⟩ := h
    exact E_W_readStatement_52 hS hR i1 y2 y1 h
  · replace h := h.2 c
    refine l1 (n := 1) rfl rfl rfl (li_of y1) ?_
    obtain ⟨i2, h⟩ := h
    refine l_if rfl i2 (fun c => ?_) (fun c => ?_)
    · replace h := h.1 c
      exact E_W_readStatement_52 hS hR i2 y2 y1 h
    · replace h := h.2 c
      refine l1 (n := 1) rfl rfl rfl (li_of y1) ?_
      refine l1 (n := 1) rfl rfl rfl rfl ?_
      refine l_ic rfl i2 ⟨by decide, by decide⟩ (fun c => ?_) (fun c => ?_)
      · replace h := h.1 c
        exact E_W_readStatement_52 hS hR i2 y2 y1 h
      · replace h := h.2 c
        refine l1 (n := 1) rfl rfl rfl (li_of y1) ?_
        refine l1 (n := 1) rfl rfl rfl rfl ?_
        refine l_ic rfl i2 ⟨by decide, by decide⟩ (fun c => ?_) (fun c => ?_)
        · replace h := h.1 c
          exact E_W_readStatement_52 hS hR i2 y2 y1 h
        · replace h := h.2 c
          refine l1 (n := 1) rfl rfl rfl (li_of y1) ?_
          refine l1 (n := 1) rfl rfl rfl rfl ?_
          refine l_ic rfl i2 ⟨by decide, by decide⟩ (fun c => ?_) (fun c => ?_)
          · replace h := h.1 c
            exact E_W_readStatement_52 hS hR i2 y2 y1 h
          · replace h := h.2 c
            refine l1 (n := 1) rfl rfl rfl (li_of y1) ?_
            refine l1 (n := 1) rfl rfl rfl rfl ?_
            refine l_ic rfl i2 ⟨by decide, by decide⟩ (fun c => ?_) (fun c => ?_)
            · replace h := h.1 c
              exact E_W_readStatement_52 hS hR i2 y2 y1 h
            · replace h := h.2 c
              refine l1 (n := 1) rfl rfl rfl (li_of y1) ?_
              refine l_bi rfl (by decide) ?_
              refine l_ic rfl i2 ⟨by decide, by decide⟩ (fun c => ?_) (fun c => ?_)
              · replace h := h.1 c
                exact E_W_readStatement_52 hS hR i2 y2 y1 h
              · replace h := h.2 c
                refine l1 (n := 1) rfl rfl rfl (li_of y1) ?_
                refine l_bi rfl (by decide) ?_
                refine l_ic rfl i2 ⟨by decide, by decide⟩ (fun c => ?_) (fun c => ?_)
                · replace h := h.2 c
                  refine l1 (n := 1) rfl rfl rfl rfl ?_
                  exact E_W_readStatement_57 hS hR i2 ⟨by decide, by decide⟩ y2 y1 h
                · replace h := h.1 (Classical.not_not.mp c)
                  exact E_W_readStatement_52 hS hR i2 y2 y1 h
def em_W_readStatement (M : rf_M) (K : rf_M → Prop) : Prop := e_W_readStatement  M K
theorem E_W_readStatement_m {fz : Bool} {S : gS} {B : rf_M} {M : rf_M} {n0 : Nat} {K : rf_M → Prop} (hS : rl S) (hR : fl 353 406 B M) (h : em_W_readStatement  M K) : lx (cx0 fz) n0 143 0 (lv_args 0 [.ref 353]) [] (M, S) (vl_v 353 406 B S K) :=
  E_W_readStatement hS hR rfl h
def e_W_readText_84 (M : rf_M) (b40 : rf_M → Prop) (K : rf_M → Prop) : Prop := em_W_misplaced  M (fun (M1 : rf_M) => b40 M1)
theorem E_W_readText_84 {fz : Bool} {S : gS} {B : rf_M} {M : rf_M} {ls : rf_L} {n0 : Nat} {b40 : rf_M → Prop} {K : rf_M → Prop} (hS : rl S) (hR : fl 353 406 B M) (a0 : rf_ld ls 0 = some (.ref 353)) (hb40 : ∀ n', n' < n0 → ∀ (M : rf_M) (ls : rf_L), fl 353 406 B M → rf_ld ls 0 = some (.ref 353) → b40  M → lx (cx0 fz) n' 131 40 ls [] (M, S) (vl_v 353 406 B S K)) (h : e_W_readText_84 M b40 K) : lx (cx0 fz) n0 131 84 ls [] (M, S) (vl_v 353 406 B S K) := by
  unfold e_W_readText_84 at h
  rcases Nat.eq_zero_or_pos n0 with e0 | hp
  · rw [e0]; exact lx_zero
  refine l1 (n := 1) rfl rfl rfl (la_of a0) ?_
  refine b_iv (c := 353) (as := []) (rest := []) rfl (by decide) (ko_11 hS (List.Mem.head _)) rfl rfl (Nat.le_of_ble_eq_true rfl) (fun hq => ?_)
  refine lx_mono (E_W_misplaced_m hS hR h) ?_
  rintro _ _ ⟨M1, rfl, rfl, r1, h⟩
  refine l3 rfl rfl rfl ?_
  exact hb40 _ (by omega) _ _ r1 a0 h
def e_W_readText_91 (M : rf_M) (b40 : rf_M → Prop) (K : rf_M → Prop) : Prop := em_W_isSign 125 M (fun (z1 : Int) (M1 : rf_M) => (z1 = 0 → (em_W_readStatement  M1 (fun (M2 : rf_M) => b40 M2))) ∧ (¬ (z1 = 0) → (em_W_closeBody  M1 (fun (M3 : rf_M) => b40 M3))))
theorem E_W_readText_91 {fz : Bool} {S : gS} {B : rf_M} {M : rf_M} {ls : rf_L} {n0 : Nat} {b40 : rf_M → Prop} {K : rf_M → Prop} (hS : rl S) (hR : fl 353 406 B M) (a0 : rf_ld ls 0 = some (.ref 353)) (hb40 : ∀ n', n' < n0 → ∀ (M : rf_M) (ls : rf_L), fl 353 406 B M → rf_ld ls 0 = some (.ref 353) → b40  M → lx (cx0 fz) n' 131 40 ls [] (M, S) (vl_v 353 406 B S K)) (h : e_W_readText_91 M b40 K) : lx (cx0 fz) n0 131 91 ls [] (M, S) (vl_v 353 406 B S K) := by
  unfold e_W_readText_91 at h
  rcases Nat.eq_zero_or_pos n0 with e0 | hp
  · rw [e0]; exact lx_zero
  refine l1 (n := 1) rfl rfl rfl (la_of a0) ?_
  refine l_bi rfl (by decide) ?_
  refine b_iv (c := 353) (as := [zv 125]) (rest := []) rfl (by decide) (ko_11 hS (List.Mem.head _)) rfl rfl (Nat.le_of_ble_eq_true rfl) (fun hq => ?_)
  refine lx_mono (E_W_isSign_m hS hR ⟨by decide, by decide⟩ h) ?_
  rintro _ _ ⟨z1, M1, rfl, rfl, r1, iz1, h⟩
  refine l_if rfl iz1 (fun c => ?_) (fun c => ?_)
  · replace h := h.1 c
    refine l1 (n := 1) rfl rfl rfl (la_of a0) ?_
    refine b_iv (c := 353) (as := []) (rest := []) rfl (by decide) (ko_11 hS (List.Mem.head _)) rfl rfl (Nat.le_of_ble_eq_true rfl) (fun hq => ?_)
    refine lx_mono (E_W_readStatement_m hS r1 h) ?_
    rintro _ _ ⟨M2, rfl, rfl, r2, h⟩
    refine l3 rfl rfl rfl ?_
    exact hb40 _ (by omega) _ _ r2 a0 h
  · replace h := h.2 c
    refine l1 (n := 1) rfl rfl rfl (la_of a0) ?_
    refine b_iv (c := 353) (as := []) (rest := []) rfl (by decide) (ko_11 hS (List.Mem.head _)) rfl rfl (Nat.le_of_ble_eq_true rfl) (fun hq => ?_)
    refine lx_mono (E_W_closeBody_m hS r1 h) ?_
    rintro _ _ ⟨M3, rfl, rfl, r3, h⟩
    refine l3 rfl rfl rfl ?_
    exact hb40 _ (by omega) _ _ r3 a0 h
def e_W_readText_61 (M : rf_M) (b40 : rf_M → Prop) (K : rf_M → Prop) : Prop := ((gi M 353 4) = 0 → (e_W_readText_84 M b40 K)) ∧ (¬ ((gi M 353 4) = 0) → (em_W_isSign 125 M (fun (z1 : Int) (M1 : rf_M) => (z1 = 0 → (e_W_readText_91 M1 b40 K)) ∧ (¬ (z1 = 0) → (((gi M1 353 37) = 0 → (e_W_readText_84 M1 b40 K)) ∧ (¬ (gi M1 353 37) = 0 → (e_W_readText_91 M1 b40 K)))))))
theorem E_W_readText_61 {fz : Bool} {S : gS} {B : rf_M} {M : rf_M} {ls : rf_L} {n0 : Nat} {b40 : rf_M → Prop} {K : rf_M → Prop} (hS : rl S) (hR : fl 353 406 B M) (a0 : rf_ld ls 0 = some (.ref 353)) (hb40 : ∀ n', n' < n0 → ∀ (M : rf_M) (ls : rf_L), fl 353 406 B M → rf_ld ls 0 = some (.ref 353) → b40  M → lx (cx0 fz) n' 131 40 ls [] (M, S) (vl_v 353 406 B S K)) (h : e_W_readText_61 M b40 K) : lx (cx0 fz) n0 131 61 ls [] (M, S) (vl_v 353 406 B S K) := by
  unfold e_W_readText_61 at h
  rcases Nat.eq_zero_or_pos n0 with e0 | hp
  · rw [e0]; exact lx_zero
  refine l1 (n := 1) rfl rfl rfl (la_of a0) ?_
  refine l_gi rfl (ko_11 hS (List.Mem.head _)) rfl (fun _ => rfl) ?_
  refine l_if rfl (inr_gi _ _ _) (fun c => ?_) (fun c => ?_)
  · replace h := h.1 c
    exact E_W_readText_84 hS hR a0 (fun n' hn' => hb40 n' (by omega)) h
  · replace h := h.2 c
    refine l1 (n := 1) rfl rfl rfl (la_of a0) ?_
    refine l_bi rfl (by decide) ?_
    refine b_iv (c := 353) (as := [zv 125]) (rest := []) rfl (by decide) (ko_11 hS (List.Mem.head _)) rfl rfl (Nat.le_of_ble_eq_true rfl) (fun hq => ?_)
    refine lx_mono (E_W_isSign_m hS hR ⟨by decide, by decide⟩ h) ?_
    rintro _ _ ⟨z1, M1, rfl, rfl, r1, iz1, h⟩
    refine l_if rfl iz1 (fun c => ?_) (fun c => ?_)
    · replace h := h.1 c
      exact E_W_readText_91 hS r1 a0 (fun n' hn' => hb40 n' (by omega)) h
    · replace h := h.2 c
      refine l1 (n := 1) rfl rfl rfl (la_of a0) ?_
      refine l_gi rfl (ko_11 hS (List.Mem.head _)) rfl (fun _ => rfl) ?_
      refine l_if rfl (inr_gi _ _ _) (fun c => ?_) (fun c => ?_)
      · replace h := h.2 c
        exact E_W_readText_91 hS r1 a0 (fun n' hn' => hb40 n' (by omega)) h
      · replace h := h.1 (Classical.not_not.mp c)
        exact E_W_readText_84 hS r1 a0 (fun n' hn' => hb40 n' (by omega)) h
def e_W_readText_114 (M : rf_M) (K : rf_M → Prop) : Prop := K M
theorem E_W_readText_114 {fz : Bool} {S : gS} {B : rf_M} {M : rf_M} {ls : rf_L} {n0 : Nat} {K : rf_M → Prop} (hS : rl S) (hR : fl 353 406 B M) (h : e_W_readText_114 M K) : lx (cx0 fz) n0 131 114 ls [] (M, S) (vl_v 353 406 B S K) := by
  unfold e_W_readText_114 at h
  exact l_rv rfl rfl hR h
def e_W_readText_40b (M : rf_M) (b40 : rf_M → Prop) (K : rf_M → Prop) : Prop := ((gi M 353 9) = 0 → (((gi M 353 4) = 0 → (((gi M 353 37) = 0 → (e_W_readText_114 M K)) ∧ (¬ ((gi M 353 37) = 0) → (e_W_readText_61 M b40 K)))) ∧ (¬ (gi M 353 4) = 0 → (e_W_readText_61 M b40 K)))) ∧ (¬ (gi M 353 9) = 0 → (e_W_readText_114 M K))
theorem E_W_readText_40b {fz : Bool} {S : gS} {B : rf_M} {M : rf_M} {ls : rf_L} {n0 : Nat} {b40 : rf_M → Prop} {K : rf_M → Prop} (hS : rl S) (hR : fl 353 406 B M) (a0 : rf_ld ls 0 = some (.ref 353)) (hb40 : ∀ n', n' < n0 → ∀ (M : rf_M) (ls : rf_L), fl 353 406 B M → rf_ld ls 0 = some (.ref 353) → b40  M → lx (cx0 fz) n' 131 40 ls [] (M, S) (vl_v 353 406 B S K)) (h : e_W_readText_40b M b40 K) : lx (cx0 fz) n0 131 40 ls [] (M, S) (vl_v 353 406 B S K) := by
  unfold e_W_readText_40b at h
  rcases Nat.eq_zero_or_pos n0 with e0 | hp
  · rw [e0]; exact lx_zero
  refine l1 (n := 1) rfl rfl rfl (la_of a0) ?_
  refine l_gi rfl (ko_11 hS (List.Mem.head _)) rfl (fun _ => rfl) ?_
  refine l_if rfl (inr_gi _ _ _) (fun c => ?_) (fun c => ?_)
  · replace h := h.2 c
    exact E_W_readText_114 hS hR  h
  · replace h := h.1 (Classical.not_not.mp c)
    refine l1 (n := 1) rfl rfl rfl (la_of a0) ?_
    refine l_gi rfl (ko_11 hS (List.Mem.head _)) rfl (fun _ => rfl) ?_
    refine l_if rfl (inr_gi _ _ _) (fun c => ?_) (fun c => ?_)
    · replace h := h.2 c
      exact E_W_readText_61 hS hR a0 (fun n' hn' => hb40 n' (by omega)) h
    · replace h := h.1 (Classical.not_not.mp c)
      refine l1 (n := 1) rfl rfl rfl (la_of a0) ?_
      refine l_gi rfl (ko_11 hS (List.Mem.head _)) rfl (fun _ => rfl) ?_
      refine l_if rfl (inr_gi _ _ _) (fun c => ?_) (fun c => ?_)
      · replace h := h.1 c
        exact E_W_readText_114 hS hR  h
      · replace h := h.2 c
        exact E_W_readText_61 hS hR a0 (fun n' hn' => hb40 n' (by omega)) h
def e_W_readText_40 (M : rf_M) (K : rf_M → Prop) : Prop := ∃ Inv : rf_M → Prop, Inv M ∧ ∀ (M : rf_M), Inv M → e_W_readText_40b M Inv K
theorem E_W_readText_40 {fz : Bool} {S : gS} {B : rf_M} {M : rf_M} {ls : rf_L} {n0 : Nat} {K : rf_M → Prop} (hS : rl S) (hR : fl 353 406 B M) (a0 : rf_ld ls 0 = some (.ref 353)) (h : e_W_readText_40 M K) : lx (cx0 fz) n0 131 40 ls [] (M, S) (vl_v 353 406 B S K) := by
  obtain ⟨Inv, hm, hb⟩ := h
  induction n0 using Nat.strongRecOn generalizing ls M with
  | _ n0 ih =>
    refine E_W_readText_40b hS hR a0 (fun n' hn' M' ls' hR' f0 q2 => ih n' hn' hR' f0 q2) (hb M  hm)
def e_W_readText (M : rf_M) (K : rf_M → Prop) : Prop := ∀ M1 : rf_M, M1 = wi M 353 37 0 → ((0 ≤ (0 : Int) ∧ (0 : Int) < 10 → (∀ M2 : rf_M, M2 = wi M1 373 0 (-1) → ((0 ≤ (0 : Int) ∧ (0 : Int) < 10 → (∀ M3 : rf_M, M3 = wi M2 374 0 0 → ((0 ≤ (0 : Int) ∧ (0 : Int) < 10 → (∀ M4 : rf_M, M4 = wi M3 375 0 (-1) → ((0 ≤ (gi M4 353 28) ∧ (gi M4 353 28) < 12 → (∀ M5 : rf_M, M5 = wi M4 358 (gi M4 353 28).toNat (-1) → (em_W_next  M5 (fun (M6 : rf_M) => e_W_readText_40 M6 K))))))))))))))
theorem E_W_readText {fz : Bool} {S : gS} {B : rf_M} {M : rf_M} {ls : rf_L} {n0 : Nat} {K : rf_M → Prop} (hS : rl S) (hR : fl 353 406 B M) (a0 : rf_ld ls 0 = some (.ref 353)) (h : e_W_readText M K) : lx (cx0 fz) n0 131 0 ls [] (M, S) (vl_v 353 406 B S K) := by
  unfold e_W_readText at h
  refine l1 (n := 1) rfl rfl rfl (la_of a0) ?_
  refine l1 (n := 1) rfl rfl rfl rfl ?_
  refine l_pi rfl (ko_11 (fz := fz) hS (List.Mem.head _)) rfl (fun _ _ => rfl) (fun M1 e => ?_)
  replace h := h M1 e
  have r1 := hR.wi (Nat.le_of_ble_eq_true rfl) (Nat.le_of_ble_eq_true rfl) e
  refine l1 (n := 1) rfl rfl rfl (la_of a0) ?_
  refine l_gr rfl (ko_11 hS (List.Mem.head _)) rfl (fun _ => rfl) (kf_11_34 r1.2 (List.Mem.head _)) ?_
  refine l1 (n := 1) rfl rfl rfl rfl ?_
  refine l1 (n := 1) rfl rfl rfl rfl ?_
  refine b_is rfl (kc_373 (fz := fz) hS).1 (Nat.le_of_ble_eq_true rfl) ⟨by decide, by decide⟩ (fun q M2 e => ?_)
  replace h := h q M2 e
  have r2 := r1.wi (Nat.le_of_ble_eq_true rfl) (Nat.le_of_ble_eq_true rfl) e
  refine l1 (n := 1) rfl rfl rfl (la_of a0) ?_
  refine l_gr rfl (ko_11 hS (List.Mem.head _)) rfl (fun _ => rfl) (kf_11_35 r2.2 (List.Mem.head _)) ?_
  refine l1 (n := 1) rfl rfl rfl rfl ?_
  refine l1 (n := 1) rfl rfl rfl rfl ?_
  refine b_is rfl (kc_374 (fz := fz) hS).1 (Nat.le_of_ble_eq_true rfl) ⟨by decide, by decide⟩ (fun q M3 e => ?_)
  replace h := h q M3 e
  have r3 := r2.wi (Nat.le_of_ble_eq_true rfl) (Nat.le_of_ble_eq_true rfl) e
  refine l1 (n := 1) rfl rfl rfl (la_of a0) ?_
  refine l_gr rfl (ko_11 hS (List.Mem.head _)) rfl (fun _ => rfl) (kf_11_36 r3.2 (List.Mem.head _)) ?_
  refine l1 (n := 1) rfl rfl rfl rfl ?_
  refine l1 (n := 1) rfl rfl rfl rfl ?_
  refine b_is rfl (kc_375 (fz := fz) hS).1 (Nat.le_of_ble_eq_true rfl) ⟨by decide, by decide⟩ (fun q M4 e => ?_)
  replace h := h q M4 e
  have r4 := r3.wi (Nat.le_of_ble_eq_true rfl) (Nat.le_of_ble_eq_true rfl) e
  refine l1 (n := 1) rfl rfl rfl (la_of a0) ?_
  refine l_gr rfl (ko_11 hS (List.Mem.head _)) rfl (fun _ => rfl) (kf_11_15 r4.2 (List.Mem.head _)) ?_
  refine l1 (n := 1) rfl rfl rfl (la_of a0) ?_
  refine l_gi rfl (ko_11 hS (List.Mem.head _)) rfl (fun _ => rfl) ?_
  refine l1 (n := 1) rfl rfl rfl rfl ?_
  refine b_is rfl (kc_358 (fz := fz) hS).1 (Nat.le_of_ble_eq_true rfl) (inr_gi _ _ _) (fun q M5 e => ?_)
  replace h := h q M5 e
  have r5 := r4.wi (Nat.le_of_ble_eq_true rfl) (Nat.le_of_ble_eq_true rfl) e
  refine l1 (n := 1) rfl rfl rfl (la_of a0) ?_
  refine b_iv (c := 353) (as := []) (rest := []) rfl (by decide) (ko_11 hS (List.Mem.head _)) rfl rfl (Nat.le_of_ble_eq_true rfl) (fun hq => ?_)
  refine lx_mono (E_W_next_m hS r5 h) ?_
  rintro _ _ ⟨M6, rfl, rfl, r6, h⟩
  exact E_W_readText_40 hS r6 a0 h
def em_W_readText (M : rf_M) (K : rf_M → Prop) : Prop := e_W_readText  M K
theorem E_W_readText_m {fz : Bool} {S : gS} {B : rf_M} {M : rf_M} {n0 : Nat} {K : rf_M → Prop} (hS : rl S) (hR : fl 353 406 B M) (h : em_W_readText  M K) : lx (cx0 fz) n0 131 0 (lv_args 0 [.ref 353]) [] (M, S) (vl_v 353 406 B S K) :=
  E_W_readText hS hR rfl h
def e_W_text (M : rf_M) (K : Int → rf_M → Prop) : Prop := ∀ M1 : rf_M, M1 = wi M 353 0 0 → (((gi M1 353 11) = 12 → (K (-1) M1)) ∧ (¬ (gi M1 353 11) = 12 → (∀ M2 : rf_M, M2 = wi M1 353 10 (-1) → (∀ M3 : rf_M, M3 = wi M2 353 28 (gi M2 353 11) → ((0 ≤ (gi M3 353 28) ∧ (gi M3 353 28) < 12 → (∀ M4 : rf_M, M4 = wi M3 355 (gi M3 353 28).toNat 0 → ((0 ≤ (gi M4 353 28) ∧ (gi M4 353 28) < 12 → (∀ M5 : rf_M, M5 = wi M4 356 (gi M4 353 28).toNat 0 → ((0 ≤ (gi M5 353 28) ∧ (gi M5 353 28) < 12 → (∀ M6 : rf_M, M6 = wi M5 357 (gi M5 353 28).toNat 0 → ((0 ≤ (gi M6 353 28) ∧ (gi M6 353 28) < 12 → (∀ M7 : rf_M, M7 = wi M6 359 (gi M6 353 28).toNat 0 → (∀ M8 : rf_M, M8 = wi M7 353 3 0 → (∀ M9 : rf_M, M9 = wi M8 353 9 0 → (em_W_readText  M9 (fun (M10 : rf_M) => ∀ M11 : rf_M, M11 = wi M10 353 2 0 → (((gi M11 353 9) = 0 → (∀ M12 : rf_M, M12 = wi M11 353 11 ((gi M11 353 11) + 1) → (inr ((gi M12 353 11) - 1) ∧ (K ((gi M12 353 11) - 1) M12)))) ∧ (¬ ((gi M11 353 9) = 0) → (K (-2) M11)))))))))))))))))))))))
theorem E_W_text {fz : Bool} {S : gS} {B : rf_M} {M : rf_M} {ls : rf_L} {n0 : Nat} {K : Int → rf_M → Prop} (hS : rl S) (hR : fl 353 406 B M) (a0 : rf_ld ls 0 = some (.ref 353)) (h : e_W_text M K) : lx (cx0 fz) n0 130 0 ls [] (M, S) (vl_i 353 406 B S K) := by
  unfold e_W_text at h
  refine l1 (n := 1) rfl rfl rfl (la_of a0) ?_
  refine l1 (n := 1) rfl rfl rfl rfl ?_
  refine l_pi rfl (ko_11 (fz := fz) hS (List.Mem.head _)) rfl (fun _ _ => rfl) (fun M1 e => ?_)
  replace h := h M1 e
  have r1 := hR.wi (Nat.le_of_ble_eq_true rfl) (Nat.le_of_ble_eq_true rfl) e
  refine l1 (n := 1) rfl rfl rfl (la_of a0) ?_
  refine l_gi rfl (ko_11 hS (List.Mem.head _)) rfl (fun _ => rfl) ?_
  refine l_bi rfl (by decide) ?_
  refine l_ic rfl (inr_gi _ _ _) ⟨by decide, by decide⟩ (fun c => ?_) (fun c => ?_)
  · replace h := h.2 c
    refine l1 (n := 1) rfl rfl rfl (la_of a0) ?_
    refine l1 (n := 1) rfl rfl rfl rfl ?_
    refine l_pi rfl (ko_11 (fz := fz) hS (List.Mem.head _)) rfl (fun _ _ => rfl) (fun M2 e => ?_)
    replace h := h M2 e
    have r2 := r1.wi (Nat.le_of_ble_eq_true rfl) (Nat.le_of_ble_eq_true rfl) e
    refine l1 (n := 1) rfl rfl rfl (la_of a0) ?_
    refine l1 (n := 1) rfl rfl rfl (la_of a0) ?_
    refine l_gi rfl (ko_11 hS (List.Mem.head _)) rfl (fun _ => rfl) ?_
    refine l_pi rfl (ko_11 (fz := fz) hS (List.Mem.head _)) rfl (fun _ _ => rfl) (fun M3 e => ?_)
    replace h := h M3 e
    have r3 := r2.wi (Nat.le_of_ble_eq_true rfl) (Nat.le_of_ble_eq_true rfl) e
    refine l1 (n := 1) rfl rfl rfl (la_of a0) ?_
    refine l_gr rfl (ko_11 hS (List.Mem.head _)) rfl (fun _ => rfl) (kf_11_12 r3.2 (List.Mem.head _)) ?_
    refine l1 (n := 1) rfl rfl rfl (la_of a0) ?_
    refine l_gi rfl (ko_11 hS (List.Mem.head _)) rfl (fun _ => rfl) ?_
    refine l1 (n := 1) rfl rfl rfl rfl ?_
    refine b_is rfl (kc_355 (fz := fz) hS).1 (Nat.le_of_ble_eq_true rfl) (inr_gi _ _ _) (fun q M4 e => ?_)
    replace h := h q M4 e
    have r4 := r3.wi (Nat.le_of_ble_eq_true rfl) (Nat.le_of_ble_eq_true rfl) e
    refine l1 (n := 1) rfl rfl rfl (la_of a0) ?_
    refine l_gr rfl (ko_11 hS (List.Mem.head _)) rfl (fun _ => rfl) (kf_11_13 r4.2 (List.Mem.head _)) ?_
    refine l1 (n := 1) rfl rfl rfl (la_of a0) ?_
    refine l_gi rfl (ko_11 hS (List.Mem.head _)) rfl (fun _ => rfl) ?_
    refine l1 (n := 1) rfl rfl rfl rfl ?_
    refine b_is rfl (kc_356 (fz := fz) hS).1 (Nat.le_of_ble_eq_true rfl) (inr_gi _ _ _) (fun q M5 e => ?_)
    replace h := h q M5 e
    have r5 := r4.wi (Nat.le_of_ble_eq_true rfl) (Nat.le_of_ble_eq_true rfl) e
    refine l1 (n := 1) rfl rfl rfl (la_of a0) ?_
    refine l_gr rfl (ko_11 hS (List.Mem.head _)) rfl (fun _ => rfl) (kf_11_14 r5.2 (List.Mem.head _)) ?_
    refine l1 (n := 1) rfl rfl rfl (la_of a0) ?_
    refine l_gi rfl (ko_11 hS (List.Mem.head _)) rfl (fun _ => rfl) ?_
    refine l1 (n := 1) rfl rfl rfl rfl ?_
    refine b_is rfl (kc_357 (fz := fz) hS).1 (Nat.le_of_ble_eq_true rfl) (inr_gi _ _ _) (fun q M6 e => ?_)
    replace h := h q M6 e
    have r6 := r5.wi (Nat.le_of_ble_eq_true rfl) (Nat.le_of_ble_eq_true rfl) e
    refine l1 (n := 1) rfl rfl rfl (la_of a0) ?_
    refine l_gr rfl (ko_11 hS (List.Mem.head _)) rfl (fun _ => rfl) (kf_11_16 r6.2 (List.Mem.head _)) ?_
    refine l1 (n := 1) rfl rfl rfl (la_of a0) ?_
    refine l_gi rfl (ko_11 hS (List.Mem.head _)) rfl (fun _ => rfl) ?_
    refine l1 (n := 1) rfl rfl rfl rfl ?_
    refine b_is rfl (kc_359 (fz := fz) hS).1 (Nat.le_of_ble_eq_true rfl) (inr_gi _ _ _) (fun q M7 e => ?_)
    replace h := h q M7 e
    have r7 := r6.wi (Nat.le_of_ble_eq_true rfl) (Nat.le_of_ble_eq_true rfl) e
    refine l1 (n := 1) rfl rfl rfl (la_of a0) ?_
    refine l1 (n := 1) rfl rfl rfl rfl ?_
    refine l_pi rfl (ko_11 (fz := fz) hS (List.Mem.head _)) rfl (fun _ _ => rfl) (fun M8 e => ?_)
    replace h := h M8 e
    have r8 := r7.wi (Nat.le_of_ble_eq_true rfl) (Nat.le_of_ble_eq_true rfl) e
    refine l1 (n := 1) rfl rfl rfl (la_of a0) ?_
    refine l1 (n := 1) rfl rfl rfl rfl ?_
    refine l_pb rfl (ko_11 (fz := fz) hS (List.Mem.head _)) rfl rfl (Or.inl rfl) (fun M9 e => ?_)
    replace h := h M9 e
    have r9 := r8.wi (Nat.le_of_ble_eq_true rfl) (Nat.le_of_ble_eq_true rfl) e
    refine l1 (n := 1) rfl rfl rfl (la_of a0) ?_
    refine b_iv (c := 353) (as := []) (rest := []) rfl (by decide) (ko_11 hS (List.Mem.head _)) rfl rfl (Nat.le_of_ble_eq_true rfl) (fun hq => ?_)
    refine lx_mono (E_W_readText_m hS r9 h) ?_
    rintro _ _ ⟨M10, rfl, rfl, r10, h⟩
    refine l1 (n := 1) rfl rfl rfl (la_of a0) ?_
    refine l1 (n := 1) rfl rfl rfl rfl ?_
    refine l_pi rfl (ko_11 (fz := fz) hS (List.Mem.head _)) rfl (fun _ _ => rfl) (fun M11 e => ?_)
    replace h := h M11 e
    have r11 := r10.wi (Nat.le_of_ble_eq_true rfl) (Nat.le_of_ble_eq_true rfl) e
    refine l1 (n := 1) rfl rfl rfl (la_of a0) ?_
    refine l_gi rfl (ko_11 hS (List.Mem.head _)) rfl (fun _ => rfl) ?_
    refine l_if rfl (inr_gi _ _ _) (fun c => ?_) (fun c => ?_)
    · replace h := h.1 c
      refine l1 (n := 1) rfl rfl rfl (la_of a0) ?_
      refine l0 rfl rfl rfl ?_
      refine l_gi rfl (ko_11 hS (List.Mem.head _)) rfl (fun _ => rfl) ?_
      refine l1 (n := 1) rfl rfl rfl rfl ?_
      refine l_add rfl ?_
      refine l_pi rfl (ko_11 (fz := fz) hS (List.Mem.head _)) rfl (fun _ _ => rfl) (fun M12 e => ?_)
      replace h := h M12 e
      have r12 := r11.wi (Nat.le_of_ble_eq_true rfl) (Nat.le_of_ble_eq_true rfl) e
      refine l1 (n := 1) rfl rfl rfl (la_of a0) ?_
      refine l_gi rfl (ko_11 hS (List.Mem.head _)) rfl (fun _ => rfl) ?_
      refine l1 (n := 1) rfl rfl rfl rfl ?_
      refine l_sub rfl ?_
      obtain ⟨i1, h⟩ := h
      exact l_ri rfl rfl i1 r12 h
    · replace h := h.2 c
      refine l_bi rfl (by decide) ?_
      exact l_ri rfl rfl ⟨by decide, by decide⟩ r11 h
  · replace h := h.1 (Classical.not_not.mp c)
    refine l1 (n := 1) rfl rfl rfl rfl ?_
    exact l_ri rfl rfl ⟨by decide, by decide⟩ r1 h
def em_W_text (M : rf_M) (K : Int → rf_M → Prop) : Prop := e_W_text  M K
theorem E_W_text_m {fz : Bool} {S : gS} {B : rf_M} {M : rf_M} {n0 : Nat} {K : Int → rf_M → Prop} (hS : rl S) (hR : fl 353 406 B M) (h : em_W_text  M K) : lx (cx0 fz) n0 130 0 (lv_args 0 [.ref 353]) [] (M, S) (vl_i 353 406 B S K) :=
  E_W_text hS hR rfl h
