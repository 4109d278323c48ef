theorem E_W_client {fz : Bool} {S : gS} {B : rf_M} {M : rf_M} {ls : rf_L} {n0 : Nat} {v1 : Int} {v2 : Int} {K : Int → rf_M → Prop} (hS : rl S) (hR : fl 353 406 B M) (iv1 : inr v1) (iv2 : inr v2) (a0 : rf_ld ls 0 = some (.ref 353)) (a1 : rf_ld ls 1 = some (zv v1)) (a2 : rf_ld ls 2 = some (zv v2)) (h : e_W_client v1 v2 M K) : lx (cx0 fz) n0 188 0 ls [] (M, S) (vl_i 353 406 B S K) := by
  unfold e_W_client at h
  refine l1 (n := 1) rfl rfl rfl (la_of a0) ?_
  refine l1 (n := 1) rfl rfl rfl rfl ?_
  refine l_pi rfl (ko_11 (fz := fz) hS (List.Mem.head _)) rfl (fun _ _ => rfl) (fun M1 e => ?_)
  replace h := h M1 e
  have r1 := hR.wi (Nat.le_of_ble_eq_true rfl) (Nat.le_of_ble_eq_true rfl) e
  refine l1 (n := 1) rfl rfl rfl (la_of a0) ?_
  refine l1 (n := 1) rfl rfl rfl (li_of a1) ?_
  refine b_iv (c := 353) (as := [zv v1]) (rest := []) rfl (by decide) (ko_11 hS (List.Mem.head _)) rfl rfl (Nat.le_of_ble_eq_true rfl) (fun hq => ?_)
  refine lx_mono (E_W_isClient_m hS r1 iv1 h) ?_
  rintro _ _ ⟨z2, M2, rfl, rfl, r2, iz2, h⟩
  refine l_if rfl iz2 (fun c => ?_) (fun c => ?_)
  · replace h := h.1 c
    exact E_W_client_23 hS r2  h
  · replace h := h.2 c
    refine l1 (n := 1) rfl rfl rfl (li_of a2) ?_
    refine l_if rfl iv2 (fun c => ?_) (fun c => ?_)
    · replace h := h.1 c
      exact E_W_client_23 hS r2  h
    · replace h := h.2 c
      refine l1 (n := 1) rfl rfl rfl (li_of a2) ?_
      refine l_bi rfl (by decide) ?_
      refine l_ic rfl iv2 ⟨by decide, by decide⟩ (fun c => ?_) (fun c => ?_)
      · replace h := h.1 c
        refine l1 (n := 1) rfl rfl rfl (la_of a0) ?_
        refine l_gr rfl (ko_11 hS (List.Mem.head _)) rfl (fun _ => rfl) (kf_11_44 r2.2 (List.Mem.head _)) ?_
        refine l1 (n := 1) rfl rfl rfl (li_of a1) ?_
        refine b_ia rfl (kc_381 (fz := fz) hS).1 (Nat.le_of_ble_eq_true rfl) iv1 (fun q => ?_)
        replace h := h q
        refine l_if rfl (inr_gi _ _ _) (fun c => ?_) (fun c => ?_)
        · replace h := h.2 c
          refine l1 (n := 1) rfl rfl rfl rfl ?_
          exact E_W_client_39 hS r2 iv1 iv2 ⟨by decide, by decide⟩ a0 a1 a2 h
        · replace h := h.1 (Classical.not_not.mp c)
          refine l1 (n := 1) rfl rfl rfl rfl ?_
          refine l3 rfl rfl rfl ?_
          exact E_W_client_39 hS r2 iv1 iv2 ⟨by decide, by decide⟩ a0 a1 a2 h
      · replace h := h.2 c
        exact E_W_client_23 hS r2  h
def em_W_client (x1 : Int) (x2 : Int) (M : rf_M) (K : Int → rf_M → Prop) : Prop := e_W_client x1 x2 M K
theorem E_W_client_m {fz : Bool} {S : gS} {B : rf_M} {M : rf_M} {n0 : Nat} {x1 : Int} {x2 : Int} {K : Int → rf_M → Prop} (hS : rl S) (hR : fl 353 406 B M) (ix1 : inr x1) (ix2 : inr x2) (h : em_W_client x1 x2 M K) : lx (cx0 fz) n0 188 0 (lv_args 0 [.ref 353, zv x1, zv x2]) [] (M, S) (vl_i 353 406 B S K) :=
  E_W_client hS hR ix1 ix2 rfl rfl rfl h
