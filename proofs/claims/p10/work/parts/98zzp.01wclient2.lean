theorem E_W_client_59 {fz : Bool} {S : gS} {B : rf_M} {M : rf_M} {ls : rf_L} {n0 : Nat} {v1 : Int} {v2 : Int} {v3 : Int} {s0 : Int} {K : Int → rf_M → Prop} (hS : rl S) (hR : fl 353 406 B M) (iv1 : inr v1) (iv2 : inr v2) (iv3 : inr v3) (is0 : inr s0) (a0 : rf_ld ls 0 = some (.ref 353)) (a1 : rf_ld ls 1 = some (zv v1)) (a2 : rf_ld ls 2 = some (zv v2)) (a3 : rf_ld ls 3 = some (zv v3)) (h : e_W_client_59 v1 v2 v3 s0 M K) : lx (cx0 fz) n0 188 59 ls [zv s0] (M, S) (vl_i 353 406 B S K) := by
  unfold e_W_client_59 at h
  refine l_s1 (n := 2) rfl rfl rfl rfl (fun ls y1 ho => ?_)
  have y2 := ho 0 _ (by decide) (fun q => by cases q.2) a0
  have y3 := ho 1 _ (by decide) (fun q => by cases q.2) a1
  have y4 := ho 2 _ (by decide) (fun q => by cases q.2) a2
  have y5 := ho 3 _ (by decide) (fun q => by cases q.2) a3
  refine l1 (n := 1) rfl rfl rfl (li_of y4) ?_
  have ia : inr v2 := iv2
  obtain ⟨h1, h⟩ := h
  by_cases e0 : v2 = 0
  · replace h := h1 e0
    refine l_swh (v := 0) e0 rfl ia (by decide) (by decide) rfl ?_
    refine l1 (n := 1) rfl rfl rfl (li_of y5) ?_
    refine l_if rfl iv3 (fun c => ?_) (fun c => ?_)
    · replace h := h.1 c
      refine l1 (n := 1) rfl rfl rfl (la_of y2) ?_
      refine l_gr rfl (ko_11 hS (List.Mem.head _)) rfl (fun _ => rfl) (kf_11_45 hR.2 (List.Mem.head _)) ?_
      refine l1 (n := 1) rfl rfl rfl (li_of y3) ?_
      refine b_ia rfl (kc_382 (fz := fz) hS).1 (Nat.le_of_ble_eq_true rfl) iv1 (fun q => ?_)
      replace h := h q
      refine l1 (n := 1) rfl rfl rfl rfl ?_
      refine l_add rfl ?_
      obtain ⟨i1, h⟩ := h
      exact E_W_client_124 hS hR i1 h
    · replace h := h.2 c
      refine l1 (n := 1) rfl rfl rfl rfl ?_
      refine l3 rfl rfl rfl ?_
      exact E_W_client_124 hS hR ⟨by decide, by decide⟩ h
  obtain ⟨h1, h⟩ := h
  by_cases e1 : v2 = 1
  · replace h := h1 e1
    refine l_swh (v := 1) e1 rfl ia (by decide) (by decide) rfl ?_
    refine l1 (n := 1) rfl rfl rfl (la_of y2) ?_
    refine l_gr rfl (ko_11 hS (List.Mem.head _)) rfl (fun _ => rfl) (kf_11_44 hR.2 (List.Mem.head _)) ?_
    refine l1 (n := 1) rfl rfl rfl (li_of y3) ?_
    refine b_ia rfl (kc_381 (fz := fz) hS).1 (Nat.le_of_ble_eq_true rfl) iv1 (fun q => ?_)
    replace h := h q
    exact l_ri rfl rfl (inr_gi _ _ _) hR h
  obtain ⟨h1, h⟩ := h
  by_cases e2 : v2 = 2
  · replace h := h1 e2
    refine l_swh (v := 2) e2 rfl ia (by decide) (by decide) rfl ?_
    refine l1 (n := 1) rfl rfl rfl (li_of y5) ?_
    refine l_if rfl iv3 (fun c => ?_) (fun c => ?_)
    · replace h := h.1 c
      refine l1 (n := 1) rfl rfl rfl (la_of y2) ?_
      refine l1 (n := 1) rfl rfl rfl (li_of y3) ?_
      refine b_iv (c := 353) (as := [zv v1]) (rest := []) rfl (by decide) (ko_11 hS (List.Mem.head _)) rfl rfl (Nat.le_of_ble_eq_true rfl) (fun hq => ?_)
      refine lx_mono (E_W_firstOf_m hS hR iv1 h) ?_
      rintro _ _ ⟨z1, M1, rfl, rfl, r1, iz1, h⟩
      exact E_W_client_145 hS r1 iz1 h
    · replace h := h.2 c
      refine l1 (n := 1) rfl rfl rfl rfl ?_
      refine l3 rfl rfl rfl ?_
      exact E_W_client_145 hS hR ⟨by decide, by decide⟩ h
  obtain ⟨h1, h⟩ := h
  by_cases e3 : v2 = 3
  · replace h := h1 e3
    refine l_swh (v := 3) e3 rfl ia (by decide) (by decide) rfl ?_
    refine l1 (n := 1) rfl rfl rfl (la_of y2) ?_
    refine l_gr rfl (ko_11 hS (List.Mem.head _)) rfl (fun _ => rfl) (kf_11_47 hR.2 (List.Mem.head _)) ?_
    refine l1 (n := 1) rfl rfl rfl (li_of y3) ?_
    refine b_ia rfl (kc_384 (fz := fz) hS).1 (Nat.le_of_ble_eq_true rfl) iv1 (fun q => ?_)
    replace h := h q
    exact l_ri rfl rfl (inr_gi _ _ _) hR h
  obtain ⟨h1, h⟩ := h
  by_cases e4 : v2 = 4
  · replace h := h1 e4
    refine l_swh (v := 4) e4 rfl ia (by decide) (by decide) rfl ?_
    refine l1 (n := 1) rfl rfl rfl (la_of y2) ?_
    refine l_gr rfl (ko_11 hS (List.Mem.head _)) rfl (fun _ => rfl) (kf_11_46 hR.2 (List.Mem.head _)) ?_
    refine l1 (n := 1) rfl rfl rfl (li_of y3) ?_
    refine b_ia rfl (kc_383 (fz := fz) hS).1 (Nat.le_of_ble_eq_true rfl) iv1 (fun q => ?_)
    replace h := h q
    exact l_ri rfl rfl (inr_gi _ _ _) hR h
  obtain ⟨h1, h⟩ := h
  by_cases e5 : v2 = 5
  · replace h := h1 e5
    refine l_swh (v := 5) e5 rfl ia (by decide) (by decide) rfl ?_
    refine l1 (n := 1) rfl rfl rfl (la_of y2) ?_
    refine l_gr rfl (ko_11 hS (List.Mem.head _)) rfl (fun _ => rfl) (kf_11_49 hR.2 (List.Mem.head _)) ?_
    refine l1 (n := 1) rfl rfl rfl (li_of y3) ?_
    refine b_ia rfl (kc_386 (fz := fz) hS).1 (Nat.le_of_ble_eq_true rfl) iv1 (fun q => ?_)
    replace h := h q
    exact l_ri rfl rfl (inr_gi _ _ _) hR h
  obtain ⟨h1, h⟩ := h
  by_cases e7 : v2 = 7
  · replace h := h1 e7
    refine l_swh (v := 7) e7 rfl ia (by decide) (by decide) rfl ?_
    refine l1 (n := 1) rfl rfl rfl (la_of y2) ?_
    refine l_gr rfl (ko_11 hS (List.Mem.head _)) rfl (fun _ => rfl) (kf_11_48 hR.2 (List.Mem.head _)) ?_
    refine l1 (n := 1) rfl rfl rfl (li_of y3) ?_
    refine b_za rfl (kc_385 (fz := fz) hS).1 (Nat.le_of_ble_eq_true rfl) iv1 (fun q => ?_)
    replace h := h q
    refine l_if rfl (inr_gi _ _ _) (fun c => ?_) (fun c => ?_)
    · replace h := h.1 c
      refine l1 (n := 1) rfl rfl rfl rfl ?_
      exact E_W_client_181 hS hR ⟨by decide, by decide⟩ h
    · replace h := h.2 c
      refine l1 (n := 1) rfl rfl rfl rfl ?_
      refine l3 rfl rfl rfl ?_
      exact E_W_client_181 hS hR ⟨by decide, by decide⟩ h
  replace h := h ⟨e0, e1, e2, e3, e4, e5, e7⟩
  by_cases e6 : v2 = 6
  · refine l_swh (v := 6) e6 rfl ia (by decide) (by decide) rfl ?_
    refine l1 (n := 2) rfl rfl rfl (li_of y1) ?_
    refine l_if rfl is0 (fun c => ?_) (fun c => ?_)
    · replace h := h.2 c
      refine l1 (n := 1) rfl rfl rfl (la_of y2) ?_
      refine l1 (n := 1) rfl rfl rfl (li_of y3) ?_
      refine b_iv (c := 353) (as := [zv v1]) (rest := []) rfl (by decide) (ko_11 hS (List.Mem.head _)) rfl rfl (Nat.le_of_ble_eq_true rfl) (fun hq => ?_)
      refine lx_mono (E_W_walkAnew_m hS hR iv1 h) ?_
      rintro _ _ ⟨M2, rfl, rfl, r2, h⟩
      refine l1 (n := 1) rfl rfl rfl (li_of y4) ?_
      refine l_bi rfl (by decide) ?_
      refine l_ic rfl iv2 ⟨by decide, by decide⟩ (fun c => ?_) (fun c => ?_)
      · replace h := h.2 c
        refine l1 (n := 1) rfl rfl rfl (la_of y2) ?_
        refine l_gi rfl (ko_11 hS (List.Mem.head _)) rfl (fun _ => rfl) ?_
        exact E_W_client_211 hS r2 (inr_gi _ _ _) h
      · replace h := h.1 (Classical.not_not.mp c)
        refine l1 (n := 1) rfl rfl rfl (la_of y2) ?_
        refine l_gi rfl (ko_11 hS (List.Mem.head _)) rfl (fun _ => rfl) ?_
        refine l3 rfl rfl rfl ?_
        exact E_W_client_211 hS r2 (inr_gi _ _ _) h
    · replace h := h.1 (Classical.not_not.mp c)
      refine l1 (n := 1) rfl rfl rfl rfl ?_
      exact l_ri rfl rfl ⟨by decide, by decide⟩ hR h
  refine l_swt2 (a := v2) (t := 182) rfl ia (by clear h; omega) rfl ?_
  refine l1 (n := 2) rfl rfl rfl (li_of y1) ?_
  refine l_if rfl is0 (fun c => ?_) (fun c => ?_)
  · replace h := h.2 c
    refine l1 (n := 1) rfl rfl rfl (la_of y2) ?_
    refine l1 (n := 1) rfl rfl rfl (li_of y3) ?_
    refine b_iv (c := 353) (as := [zv v1]) (rest := []) rfl (by decide) (ko_11 hS (List.Mem.head _)) rfl rfl (Nat.le_of_ble_eq_true rfl) (fun hq => ?_)
    refine lx_mono (E_W_walkAnew_m hS hR iv1 h) ?_
    rintro _ _ ⟨M2, rfl, rfl, r2, h⟩
    refine l1 (n := 1) rfl rfl rfl (li_of y4) ?_
    refine l_bi rfl (by decide) ?_
    refine l_ic rfl iv2 ⟨by decide, by decide⟩ (fun c => ?_) (fun c => ?_)
    · replace h := h.2 c
      refine l1 (n := 1) rfl rfl rfl (la_of y2) ?_
      refine l_gi rfl (ko_11 hS (List.Mem.head _)) rfl (fun _ => rfl) ?_
      exact E_W_client_211 hS r2 (inr_gi _ _ _) h
    · replace h := h.1 (Classical.not_not.mp c)
      refine l1 (n := 1) rfl rfl rfl (la_of y2) ?_
      refine l_gi rfl (ko_11 hS (List.Mem.head _)) rfl (fun _ => rfl) ?_
      refine l3 rfl rfl rfl ?_
      exact E_W_client_211 hS r2 (inr_gi _ _ _) h
  · replace h := h.1 (Classical.not_not.mp c)
    refine l1 (n := 1) rfl rfl rfl rfl ?_
    exact l_ri rfl rfl ⟨by decide, by decide⟩ hR h
