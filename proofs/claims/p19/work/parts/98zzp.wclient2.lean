/-! the reference's client() as a formula, for lx (printed by wip/tools/vl.py) -/
def e_W_client_23 (M : rf_M) (K : Int → rf_M → Prop) : Prop := K (-1) M
theorem E_W_client_23 {fz : Bool} {S : gS} {B : rf_M} {M : rf_M} {ls : rf_L} {n0 : Nat} {K : Int → rf_M → Prop} (hS : rl S) (hR : fl 353 406 B M) (h : e_W_client_23 M K) : lx (cx0 fz) n0 188 23 ls [] (M, S) (vl_i 353 406 B S K) := by
  unfold e_W_client_23 at h
  refine l1 (n := 1) rfl rfl rfl rfl ?_
  exact l_ri rfl rfl ⟨by decide, by decide⟩ hR h
def e_W_client_181 (s0 : Int) (M : rf_M) (K : Int → rf_M → Prop) : Prop := K s0 M
theorem E_W_client_181 {fz : Bool} {S : gS} {B : rf_M} {M : rf_M} {ls : rf_L} {n0 : Nat} {s0 : Int} {K : Int → rf_M → Prop} (hS : rl S) (hR : fl 353 406 B M) (is0 : inr s0) (h : e_W_client_181 s0 M K) : lx (cx0 fz) n0 188 181 ls [zv s0] (M, S) (vl_i 353 406 B S K) := by
  unfold e_W_client_181 at h
  exact l_ri rfl rfl is0 hR h
def e_W_client_145 (s0 : Int) (M : rf_M) (K : Int → rf_M → Prop) : Prop := K s0 M
theorem E_W_client_145 {fz : Bool} {S : gS} {B : rf_M} {M : rf_M} {ls : rf_L} {n0 : Nat} {s0 : Int} {K : Int → rf_M → Prop} (hS : rl S) (hR : fl 353 406 B M) (is0 : inr s0) (h : e_W_client_145 s0 M K) : lx (cx0 fz) n0 188 145 ls [zv s0] (M, S) (vl_i 353 406 B S K) := by
  unfold e_W_client_145 at h
  exact l_ri rfl rfl is0 hR h
def e_W_client_124 (s0 : Int) (M : rf_M) (K : Int → rf_M → Prop) : Prop := K s0 M
theorem E_W_client_124 {fz : Bool} {S : gS} {B : rf_M} {M : rf_M} {ls : rf_L} {n0 : Nat} {s0 : Int} {K : Int → rf_M → Prop} (hS : rl S) (hR : fl 353 406 B M) (is0 : inr s0) (h : e_W_client_124 s0 M K) : lx (cx0 fz) n0 188 124 ls [zv s0] (M, S) (vl_i 353 406 B S K) := by
  unfold e_W_client_124 at h
  exact l_ri rfl rfl is0 hR h
def e_W_client_211 (s0 : Int) (M : rf_M) (K : Int → rf_M → Prop) : Prop := K s0 M
theorem E_W_client_211 {fz : Bool} {S : gS} {B : rf_M} {M : rf_M} {ls : rf_L} {n0 : Nat} {s0 : Int} {K : Int → rf_M → Prop} (hS : rl S) (hR : fl 353 406 B M) (is0 : inr s0) (h : e_W_client_211 s0 M K) : lx (cx0 fz) n0 188 211 ls [zv s0] (M, S) (vl_i 353 406 B S K) := by
  unfold e_W_client_211 at h
  exact l_ri rfl rfl is0 hR h
def e_W_client_59 (v1 : Int) (v2 : Int) (v3 : Int) (s0 : Int) (M : rf_M) (K : Int → rf_M → Prop) : Prop := (v2 = 0 → ((v3 = 0 → ((0 ≤ v1 ∧ v1 < 8 → (inr ((gi M 382 (v1).toNat) + 1) ∧ (e_W_client_124 ((gi M 382 (v1).toNat) + 1) M K))))) ∧ (¬ (v3 = 0) → (e_W_client_124 0 M K)))) ∧ (v2 = 1 → ((0 ≤ v1 ∧ v1 < 8 → (K (gi M 381 (v1).toNat) M)))) ∧ (v2 = 2 → ((v3 = 0 → (em_W_firstOf v1 M (fun (z1 : Int) (M1 : rf_M) => e_W_client_145 z1 M1 K))) ∧ (¬ (v3 = 0) → (e_W_client_145 (-1) M K)))) ∧ (v2 = 3 → ((0 ≤ v1 ∧ v1 < 8 → (K (gi M 384 (v1).toNat) M)))) ∧ (v2 = 4 → ((0 ≤ v1 ∧ v1 < 8 → (K (gi M 383 (v1).toNat) M)))) ∧ (v2 = 5 → ((0 ≤ v1 ∧ v1 < 8 → (K (gi M 386 (v1).toNat) M)))) ∧ (v2 = 7 → ((0 ≤ v1 ∧ v1 < 8 → (((gi M 385 (v1).toNat) = 0 → (e_W_client_181 0 M K)) ∧ (¬ ((gi M 385 (v1).toNat) = 0) → (e_W_client_181 1 M K)))))) ∧ (¬ v2 = 0 ∧ ¬ v2 = 1 ∧ ¬ v2 = 2 ∧ ¬ v2 = 3 ∧ ¬ v2 = 4 ∧ ¬ v2 = 5 ∧ ¬ v2 = 7 → ((s0 = 0 → (K 0 M)) ∧ (¬ s0 = 0 → (em_W_walkAnew v1 M (fun (M2 : rf_M) => (v2 = 6 → (e_W_client_211 (gi M2 353 55) M2 K)) ∧ (¬ v2 = 6 → (e_W_client_211 (gi M2 353 58) M2 K)))))))
theorem E_W_client_59 {fz : Bool} {S : gS} {B : rf_M} {M : rf_M} {ls : rf_L} {n0 : Nat} {v1 : Int} {v2 : Int} {v3 : Int} {s0 : Int} {K : Int → rf_M → Prop} (hS : rl S) (hR : fl 353 406 B M) (iv1 : inr v1) (iv2 : inr v2) (iv3 : inr v3) (is0 : inr s0) (a0 : rf_ld ls 0 = some (.ref 353)) (a1 : rf_ld ls 1 = some (zv v1)) (a2 : rf_ld ls 2 = some (zv v2)) (a3 : rf_ld ls 3 = some (zv v3)) (h : e_W_client_59 v1 v2 v3 s0 M K) : lx (cx0 fz) n0 188 59 ls [zv s0] (M, S) (vl_i 353 406 B S K) := by
  unfold e_W_client_59 at h
  refine l_s1 (n := 2) rfl rfl rfl rfl (fun ls y1 ho => ?_)
  have y2 := ho 0 _ (by decide) (fun q => by cases q.2) a0
  have y3 := ho 1 _ (by decide) (fun q => by cases q.2) a1
  have y4 := ho 2 _ (by decide) (fun q => by cases q.2) a2
  have y5 := ho 3 _ (by decide) (fun q => by cases q.2) a3
  refine l1 (n := 1) rfl rfl rfl (li_of y4) ?_
  have ia : inr v2 := iv2
  obtain ⟨h1, h⟩ := h
  by_cases e0 : v2 = 0
  · replace h := h1 e0
    refine l_swh (t := 108) (v := 0) e0 rfl ia (by decide) (by decide) rfl ?_
    refine l1 (n := 1) rfl rfl rfl (li_of y5) ?_
    refine l_if rfl iv3 (fun c => ?_) (fun c => ?_)
    · replace h := h.1 c
      refine l1 (n := 1) rfl rfl rfl (la_of y2) ?_
      refine l_gr rfl (ko_11 hS (List.Mem.head _)) rfl (fun _ => rfl) (kf_11_45 hR.2 (List.Mem.head _)) ?_
      refine l1 (n := 1) rfl rfl rfl (li_of y3) ?_
      refine b_ia rfl (kc_382 (fz := fz) hS).1 (Nat.le_of_ble_eq_true rfl) iv1 (fun q => ?_)
      replace h := h q
      refine l1 (n := 1) rfl rfl rfl rfl ?_
      refine l_add rfl ?_
      obtain ⟨i1, h⟩ := h
      exact E_W_client_124 hS hR i1 h
    · replace h := h.2 c
      refine l1 (n := 1) rfl rfl rfl rfl ?_
      refine l3 rfl rfl rfl ?_
      exact E_W_client_124 hS hR ⟨by decide, by decide⟩ h
  obtain ⟨h1, h⟩ := h
  by_cases e1 : v2 = 1
  · replace h := h1 e1
    refine l_swh (t := 125) (v := 1) e1 rfl ia (by decide) (by decide) rfl ?_
    refine l1 (n := 1) rfl rfl rfl (la_of y2) ?_
    refine l_gr rfl (ko_11 hS (List.Mem.head _)) rfl (fun _ => rfl) (kf_11_44 hR.2 (List.Mem.head _)) ?_
    refine l1 (n := 1) rfl rfl rfl (li_of y3) ?_
    refine b_ia rfl (kc_381 (fz := fz) hS).1 (Nat.le_of_ble_eq_true rfl) iv1 (fun q => ?_)
    replace h := h q
    exact l_ri rfl rfl (inr_gi _ _ _) hR h
  obtain ⟨h1, h⟩ := h
  by_cases e2 : v2 = 2
  · replace h := h1 e2
    refine l_swh (t := 132) (v := 2) e2 rfl ia (by decide) (by decide) rfl ?_
    refine l1 (n := 1) rfl rfl rfl (li_of y5) ?_
    refine l_if rfl iv3 (fun c => ?_) (fun c => ?_)
    · replace h := h.1 c
      refine l1 (n := 1) rfl rfl rfl (la_of y2) ?_
      refine l1 (n := 1) rfl rfl rfl (li_of y3) ?_
      refine b_iv (c := 353) (as := [zv v1]) (rest := []) rfl (by decide) (ko_11 hS (List.Mem.head _)) rfl rfl (Nat.le_of_ble_eq_true rfl) (fun hq => ?_)
      refine lx_mono (E_W_firstOf_m hS hR iv1 h) ?_
      rintro _ _ ⟨z1, M1, rfl, rfl, r1, iz1, h⟩
      exact E_W_client_145 hS r1 iz1 h
    · replace h := h.2 c
      refine l1 (n := 1) rfl rfl rfl rfl ?_
      refine l3 rfl rfl rfl ?_
      exact E_W_client_145 hS hR ⟨by decide, by decide⟩ h
  obtain ⟨h1, h⟩ := h
  by_cases e3 : v2 = 3
  · replace h := h1 e3
    refine l_swh (t := 146) (v := 3) e3 rfl ia (by decide) (by decide) rfl ?_
    refine l1 (n := 1) rfl rfl rfl (la_of y2) ?_
    refine l_gr rfl (ko_11 hS (List.Mem.head _)) rfl (fun _ => rfl) (kf_11_47 hR.2 (List.Mem.head _)) ?_
    refine l1 (n := 1) rfl rfl rfl (li_of y3) ?_
    refine b_ia rfl (kc_384 (fz := fz) hS).1 (Nat.le_of_ble_eq_true rfl) iv1 (fun q => ?_)
    replace h := h q
    exact l_ri rfl rfl (inr_gi _ _ _) hR h
  obtain ⟨h1, h⟩ := h
  by_cases e4 : v2 = 4
  · replace h := h1 e4
    refine l_swh (t := 153) (v := 4) e4 rfl ia (by decide) (by decide) rfl ?_
    refine l1 (n := 1) rfl rfl rfl (la_of y2) ?_
    refine l_gr rfl (ko_11 hS (List.Mem.head _)) rfl (fun _ => rfl) (kf_11_46 hR.2 (List.Mem.head _)) ?_
    refine l1 (n := 1) rfl rfl rfl (li_of y3) ?_
    refine b_ia rfl (kc_383 (fz := fz) hS).1 (Nat.le_of_ble_eq_true rfl) iv1 (fun q => ?_)
    replace h := h q
    exact l_ri rfl rfl (inr_gi _ _ _) hR h
  obtain ⟨h1, h⟩ := h
  by_cases e5 : v2 = 5
  · replace h := h1 e5
    refine l_swh (t := 160) (v := 5) e5 rfl ia (by decide) (by decide) rfl ?_
    refine l1 (n := 1) rfl rfl rfl (la_of y2) ?_
    refine l_gr rfl (ko_11 hS (List.Mem.head _)) rfl (fun _ => rfl) (kf_11_49 hR.2 (List.Mem.head _)) ?_
    refine l1 (n := 1) rfl rfl rfl (li_of y3) ?_
    refine b_ia rfl (kc_386 (fz := fz) hS).1 (Nat.le_of_ble_eq_true rfl) iv1 (fun q => ?_)
    replace h := h q
    exact l_ri rfl rfl (inr_gi _ _ _) hR h
  obtain ⟨h1, h⟩ := h
  by_cases e7 : v2 = 7
  · replace h := h1 e7
    refine l_swh (t := 167) (v := 7) e7 rfl ia (by decide) (by decide) rfl ?_
    refine l1 (n := 1) rfl rfl rfl (la_of y2) ?_
    refine l_gr rfl (ko_11 hS (List.Mem.head _)) rfl (fun _ => rfl) (kf_11_48 hR.2 (List.Mem.head _)) ?_
    refine l1 (n := 1) rfl rfl rfl (li_of y3) ?_
    refine b_za rfl (kc_385 (fz := fz) hS).1 (Nat.le_of_ble_eq_true rfl) iv1 (fun q => ?_)
    replace h := h q
    refine l_if rfl (inr_gi _ _ _) (fun c => ?_) (fun c => ?_)
    · replace h := h.1 c
      refine l1 (n := 1) rfl rfl rfl rfl ?_
      exact E_W_client_181 hS hR ⟨by decide, by decide⟩ h
    · replace h := h.2 c
      refine l1 (n := 1) rfl rfl rfl rfl ?_
      refine l3 rfl rfl rfl ?_
      exact E_W_client_181 hS hR ⟨by decide, by decide⟩ h
  replace h := h ⟨e0, e1, e2, e3, e4, e5, e7⟩
  by_cases e6 : v2 = 6
  · refine l_swh (t := 182) (v := 6) e6 rfl ia (by decide) (by decide) rfl ?_
    refine l1 (n := 2) rfl rfl rfl (li_of y1) ?_
    refine l_if rfl is0 (fun c => ?_) (fun c => ?_)
    · replace h := h.2 c
      refine l1 (n := 1) rfl rfl rfl (la_of y2) ?_
      refine l1 (n := 1) rfl rfl rfl (li_of y3) ?_
      refine b_iv (c := 353) (as := [zv v1]) (rest := []) rfl (by decide) (ko_11 hS (List.Mem.head _)) rfl rfl (Nat.le_of_ble_eq_true rfl) (fun hq => ?_)
      refine lx_mono (E_W_walkAnew_m hS hR iv1 h) ?_
      rintro _ _ ⟨M2, rfl, rfl, r2, h⟩
      refine l1 (n := 1) rfl rfl rfl (li_of y4) ?_
      refine l_bi rfl (by decide) ?_
      refine l_ic rfl iv2 ⟨by decide, by decide⟩ (fun c => ?_) (fun c => ?_)
      · replace h := h.2 c
        refine l1 (n := 1) rfl rfl rfl (la_of y2) ?_
        refine l_gi rfl (ko_11 hS (List.Mem.head _)) rfl (fun _ => rfl) ?_
        exact E_W_client_211 hS r2 (inr_gi _ _ _) h
      · replace h := h.1 (Classical.not_not.mp c)
        refine l1 (n := 1) rfl rfl rfl (la_of y2) ?_
        refine l_gi rfl (ko_11 hS (List.Mem.head _)) rfl (fun _ => rfl) ?_
        refine l3 rfl rfl rfl ?_
        exact E_W_client_211 hS r2 (inr_gi _ _ _) h
    · replace h := h.1 (Classical.not_not.mp c)
      refine l1 (n := 1) rfl rfl rfl rfl ?_
      exact l_ri rfl rfl ⟨by decide, by decide⟩ hR h
  refine l_swt2 (a := v2) (t := 182) rfl ia (swo_0_7 e0 e1 e2 e3 e4 e5 e6 e7) rfl ?_
  refine l1 (n := 2) rfl rfl rfl (li_of y1) ?_
  refine l_if rfl is0 (fun c => ?_) (fun c => ?_)
  · replace h := h.2 c
    refine l1 (n := 1) rfl rfl rfl (la_of y2) ?_
    refine l1 (n := 1) rfl rfl rfl (li_of y3) ?_
    refine b_iv (c := 353) (as := [zv v1]) (rest := []) rfl (by decide) (ko_11 hS (List.Mem.head _)) rfl rfl (Nat.le_of_ble_eq_true rfl) (fun hq => ?_)
    refine lx_mono (E_W_walkAnew_m hS hR iv1 h) ?_
    rintro _ _ ⟨M2, rfl, rfl, r2, h⟩
    refine l1 (n := 1) rfl rfl rfl (li_of y4) ?_
    refine l_bi rfl (by decide) ?_
    refine l_ic rfl iv2 ⟨by decide, by decide⟩ (fun c => ?_) (fun c => ?_)
    · replace h := h.2 c
      refine l1 (n := 1) rfl rfl rfl (la_of y2) ?_
      refine l_gi rfl (ko_11 hS (List.Mem.head _)) rfl (fun _ => rfl) ?_
      exact E_W_client_211 hS r2 (inr_gi _ _ _) h
    · replace h := h.1 (Classical.not_not.mp c)
      refine l1 (n := 1) rfl rfl rfl (la_of y2) ?_
      refine l_gi rfl (ko_11 hS (List.Mem.head _)) rfl (fun _ => rfl) ?_
      refine l3 rfl rfl rfl ?_
      exact E_W_client_211 hS r2 (inr_gi _ _ _) h
  · replace h := h.1 (Classical.not_not.mp c)
    refine l1 (n := 1) rfl rfl rfl rfl ?_
    exact l_ri rfl rfl ⟨by decide, by decide⟩ hR h
def e_W_client_58 (v1 : Int) (v2 : Int) (v3 : Int) (M : rf_M) (K : Int → rf_M → Prop) : Prop := e_W_client_59 v1 v2 v3 0 M K
theorem E_W_client_58 {fz : Bool} {S : gS} {B : rf_M} {M : rf_M} {ls : rf_L} {n0 : Nat} {v1 : Int} {v2 : Int} {v3 : Int} {K : Int → rf_M → Prop} (hS : rl S) (hR : fl 353 406 B M) (iv1 : inr v1) (iv2 : inr v2) (iv3 : inr v3) (a0 : rf_ld ls 0 = some (.ref 353)) (a1 : rf_ld ls 1 = some (zv v1)) (a2 : rf_ld ls 2 = some (zv v2)) (a3 : rf_ld ls 3 = some (zv v3)) (h : e_W_client_58 v1 v2 v3 M K) : lx (cx0 fz) n0 188 58 ls [] (M, S) (vl_i 353 406 B S K) := by
  unfold e_W_client_58 at h
  refine l1 (n := 1) rfl rfl rfl rfl ?_
  exact E_W_client_59 hS hR iv1 iv2 iv3 ⟨by decide, by decide⟩ a0 a1 a2 a3 h
def e_W_client_39 (v1 : Int) (v2 : Int) (s0 : Int) (M : rf_M) (K : Int → rf_M → Prop) : Prop := (s0 = 0 → ((0 ≤ v1 ∧ v1 < 8 → (((gi M 382 (v1).toNat) = 1 → (e_W_client_59 v1 v2 s0 1 M K)) ∧ (¬ (gi M 382 (v1).toNat) = 1 → (e_W_client_58 v1 v2 s0 M K)))))) ∧ (¬ s0 = 0 → (e_W_client_58 v1 v2 s0 M K))
theorem E_W_client_39 {fz : Bool} {S : gS} {B : rf_M} {M : rf_M} {ls : rf_L} {n0 : Nat} {v1 : Int} {v2 : Int} {s0 : Int} {K : Int → rf_M → Prop} (hS : rl S) (hR : fl 353 406 B M) (iv1 : inr v1) (iv2 : inr v2) (is0 : inr s0) (a0 : rf_ld ls 0 = some (.ref 353)) (a1 : rf_ld ls 1 = some (zv v1)) (a2 : rf_ld ls 2 = some (zv v2)) (h : e_W_client_39 v1 v2 s0 M K) : lx (cx0 fz) n0 188 39 ls [zv s0] (M, S) (vl_i 353 406 B S K) := by
  unfold e_W_client_39 at h
  refine l_s1 (n := 1) rfl rfl rfl rfl (fun ls y1 ho => ?_)
  have y2 := ho 0 _ (by decide) (fun q => by cases q.2) a0
  have y3 := ho 1 _ (by decide) (fun q => by cases q.2) a1
  have y4 := ho 2 _ (by decide) (fun q => by cases q.2) a2
  refine l1 (n := 1) rfl rfl rfl (li_of y1) ?_
  refine l_if rfl is0 (fun c => ?_) (fun c => ?_)
  · replace h := h.2 c
    exact E_W_client_58 hS hR iv1 iv2 is0 y2 y3 y4 y1 h
  · replace h := h.1 (Classical.not_not.mp c)
    refine l1 (n := 1) rfl rfl rfl (la_of y2) ?_
    refine l_gr rfl (ko_11 hS (List.Mem.head _)) rfl (fun _ => rfl) (kf_11_45 hR.2 (List.Mem.head _)) ?_
    refine l1 (n := 1) rfl rfl rfl (li_of y3) ?_
    refine b_ia rfl (kc_382 (fz := fz) hS).1 (Nat.le_of_ble_eq_true rfl) iv1 (fun q => ?_)
    replace h := h q
    refine l1 (n := 1) rfl rfl rfl rfl ?_
    refine l_ic rfl (inr_gi _ _ _) ⟨by decide, by decide⟩ (fun c => ?_) (fun c => ?_)
    · replace h := h.2 c
      exact E_W_client_58 hS hR iv1 iv2 is0 y2 y3 y4 y1 h
    · replace h := h.1 (Classical.not_not.mp c)
      refine l1 (n := 1) rfl rfl rfl rfl ?_
      refine l3 rfl rfl rfl ?_
      exact E_W_client_59 hS hR iv1 iv2 is0 ⟨by decide, by decide⟩ y2 y3 y4 y1 h
def e_W_client (v1 : Int) (v2 : Int) (M : rf_M) (K : Int → rf_M → Prop) : Prop := ∀ M1 : rf_M, M1 = wi M 353 0 0 → (em_W_isClient v1 M1 (fun (z2 : Int) (M2 : rf_M) => (z2 = 0 → (e_W_client_23 M2 K)) ∧ (¬ (z2 = 0) → ((v2 < 0 → (e_W_client_23 M2 K)) ∧ (¬ (v2 < 0) → ((v2 ≤ 8 → ((0 ≤ v1 ∧ v1 < 8 → (((gi M2 381 (v1).toNat) = 0 → (e_W_client_39 v1 v2 1 M2 K)) ∧ (¬ (gi M2 381 (v1).toNat) = 0 → (e_W_client_39 v1 v2 0 M2 K)))))) ∧ (¬ (v2 ≤ 8) → (e_W_client_23 M2 K))))))))
theorem E_W_client {fz : Bool} {S : gS} {B : rf_M} {M : rf_M} {ls : rf_L} {n0 : Nat} {v1 : Int} {v2 : Int} {K : Int → rf_M → Prop} (hS : rl S) (hR : fl 353 406 B M) (iv1 : inr v1) (iv2 : inr v2) (a0 : rf_ld ls 0 = some (.ref 353)) (a1 : rf_ld ls 1 = some (zv v1)) (a2 : rf_ld ls 2 = some (zv v2)) (h : e_W_client v1 v2 M K) : lx (cx0 fz) n0 188 0 ls [] (M, S) (vl_i 353 406 B S K) := by
  unfold e_W_client at h
  refine l1 (n := 1) rfl rfl rfl (la_of a0) ?_
  refine l1 (n := 1) rfl rfl rfl rfl ?_
  refine l_pi rfl (ko_11 (fz := fz) hS (List.Mem.head _)) rfl (fun _ _ => rfl) (fun M1 e => ?_)
  replace h := h M1 e
  have r1 := hR.wi (Nat.le_of_ble_eq_true rfl) (Nat.le_of_ble_eq_true rfl) e
  refine l1 (n := 1) rfl rfl rfl (la_of a0) ?_
  refine l1 (n := 1) rfl rfl rfl (li_of a1) ?_
  refine b_iv (c := 353) (as := [zv v1]) (rest := []) rfl (by decide) (ko_11 hS (List.Mem.head _)) rfl rfl (Nat.le_of_ble_eq_true rfl) (fun hq => ?_)
  refine lx_mono (E_W_isClient_m hS r1 iv1 h) ?_
  rintro _ _ ⟨z2, M2, rfl, rfl, r2, iz2, h⟩
  refine l_if rfl iz2 (fun c => ?_) (fun c => ?_)
  · replace h := h.1 c
    exact E_W_client_23 hS r2  h
  · replace h := h.2 c
    refine l1 (n := 1) rfl rfl rfl (li_of a2) ?_
    refine l_if rfl iv2 (fun c => ?_) (fun c => ?_)
    · replace h := h.1 c
      exact E_W_client_23 hS r2  h
    · replace h := h.2 c
      refine l1 (n := 1) rfl rfl rfl (li_of a2) ?_
      refine l_bi rfl (by decide) ?_
      refine l_ic rfl iv2 ⟨by decide, by decide⟩ (fun c => ?_) (fun c => ?_)
      · replace h := h.1 c
        refine l1 (n := 1) rfl rfl rfl (la_of a0) ?_
        refine l_gr rfl (ko_11 hS (List.Mem.head _)) rfl (fun _ => rfl) (kf_11_44 r2.2 (List.Mem.head _)) ?_
        refine l1 (n := 1) rfl rfl rfl (li_of a1) ?_
        refine b_ia rfl (kc_381 (fz := fz) hS).1 (Nat.le_of_ble_eq_true rfl) iv1 (fun q => ?_)
        replace h := h q
        refine l_if rfl (inr_gi _ _ _) (fun c => ?_) (fun c => ?_)
        · replace h := h.2 c
          refine l1 (n := 1) rfl rfl rfl rfl ?_
          exact E_W_client_39 hS r2 iv1 iv2 ⟨by decide, by decide⟩ a0 a1 a2 h
        · replace h := h.1 (Classical.not_not.mp c)
          refine l1 (n := 1) rfl rfl rfl rfl ?_
          refine l3 rfl rfl rfl ?_
          exact E_W_client_39 hS r2 iv1 iv2 ⟨by decide, by decide⟩ a0 a1 a2 h
      · replace h := h.2 c
        exact E_W_client_23 hS r2  h
def em_W_client (x1 : Int) (x2 : Int) (M : rf_M) (K : Int → rf_M → Prop) : Prop := e_W_client x1 x2 M K
theorem E_W_client_m {fz : Bool} {S : gS} {B : rf_M} {M : rf_M} {n0 : Nat} {x1 : Int} {x2 : Int} {K : Int → rf_M → Prop} (hS : rl S) (hR : fl 353 406 B M) (ix1 : inr x1) (ix2 : inr x2) (h : em_W_client x1 x2 M K) : lx (cx0 fz) n0 188 0 (lv_args 0 [.ref 353, zv x1, zv x2]) [] (M, S) (vl_i 353 406 B S K) :=
  E_W_client hS hR ix1 ix2 rfl rfl rfl h
