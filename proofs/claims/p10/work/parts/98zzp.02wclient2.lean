def e_W_client_58 (v1 : Int) (v2 : Int) (v3 : Int) (M : rf_M) (K : Int → rf_M → Prop) : Prop := e_W_client_59 v1 v2 v3 0 M K
theorem E_W_client_58 {fz : Bool} {S : gS} {B : rf_M} {M : rf_M} {ls : rf_L} {n0 : Nat} {v1 : Int} {v2 : Int} {v3 : Int} {K : Int → rf_M → Prop} (hS : rl S) (hR : fl 353 406 B M) (iv1 : inr v1) (iv2 : inr v2) (iv3 : inr v3) (a0 : rf_ld ls 0 = some (.ref 353)) (a1 : rf_ld ls 1 = some (zv v1)) (a2 : rf_ld ls 2 = some (zv v2)) (a3 : rf_ld ls 3 = some (zv v3)) (h : e_W_client_58 v1 v2 v3 M K) : lx (cx0 fz) n0 188 58 ls [] (M, S) (vl_i 353 406 B S K) := by
  unfold e_W_client_58 at h
  refine l1 (n := 1) rfl rfl rfl rfl ?_
  exact E_W_client_59 hS hR iv1 iv2 iv3 ⟨by decide, by decide⟩ a0 a1 a2 a3 h
def e_W_client_39 (v1 : Int) (v2 : Int) (s0 : Int) (M : rf_M) (K : Int → rf_M → Prop) : Prop := (s0 = 0 → ((0 ≤ v1 ∧ v1 < 8 → (((gi M 382 (v1).toNat) = 1 → (e_W_client_59 v1 v2 s0 1 M K)) ∧ (¬ (gi M 382 (v1).toNat) = 1 → (e_W_client_58 v1 v2 s0 M K)))))) ∧ (¬ s0 = 0 → (e_W_client_58 v1 v2 s0 M K))
theorem E_W_client_39 {fz : Bool} {S : gS} {B : rf_M} {M : rf_M} {ls : rf_L} {n0 : Nat} {v1 : Int} {v2 : Int} {s0 : Int} {K : Int → rf_M → Prop} (hS : rl S) (hR : fl 353 406 B M) (iv1 : inr v1) (iv2 : inr v2) (is0 : inr s0) (a0 : rf_ld ls 0 = some (.ref 353)) (a1 : rf_ld ls 1 = some (zv v1)) (a2 : rf_ld ls 2 = some (zv v2)) (h : e_W_client_39 v1 v2 s0 M K) : lx (cx0 fz) n0 188 39 ls [zv s0] (M, S) (vl_i 353 406 B S K) := by
  unfold e_W_client_39 at h
  refine l_s1 (n := 1) rfl rfl rfl rfl (fun ls y1 ho => ?_)
  have y2 := ho 0 _ (by decide) (fun q => by cases q.2) a0
  have y3 := ho 1 _ (by decide) (fun q => by cases q.2) a1
  have y4 := ho 2 _ (by decide) (fun q => by cases q.2) a2
  refine l1 (n := 1) rfl rfl rfl (li_of y1) ?_
  refine l_if rfl is0 (fun c => ?_) (fun c => ?_)
  · replace h := h.2 c
    exact E_W_client_58 hS hR iv1 iv2 is0 y2 y3 y4 y1 h
  · replace h := h.1 (Classical.not_not.mp c)
    refine l1 (n := 1) rfl rfl rfl (la_of y2) ?_
    refine l_gr rfl (ko_11 hS (List.Mem.head _)) rfl (fun _ => rfl) (kf_11_45 hR.2 (List.Mem.head _)) ?_
    refine l1 (n := 1) rfl rfl rfl (li_of y3) ?_
    refine b_ia rfl (kc_382 (fz := fz) hS).1 (Nat.le_of_ble_eq_true rfl) iv1 (fun q => ?_)
    replace h := h q
    refine l1 (n := 1) rfl rfl rfl rfl ?_
    refine l_ic rfl (inr_gi _ _ _) ⟨by decide, by decide⟩ (fun c => ?_) (fun c => ?_)
    · replace h := h.2 c
      exact E_W_client_58 hS hR iv1 iv2 is0 y2 y3 y4 y1 h
    · replace h := h.1 (Classical.not_not.mp c)
      refine l1 (n := 1) rfl rfl rfl rfl ?_
      refine l3 rfl rfl rfl ?_
      exact E_W_client_59 hS hR iv1 iv2 is0 ⟨by decide, by decide⟩ y2 y3 y4 y1 h
def e_W_client (v1 : Int) (v2 : Int) (M : rf_M) (K : Int → rf_M → Prop) : Prop := ∀ M1 : rf_M, M1 = wi M 353 0 0 → (em_W_isClient v1 M1 (fun (z2 : Int) (M2 : rf_M) => (z2 = 0 → (e_W_client_23 M2 K)) ∧ (¬ (z2 = 0) → ((v2 < 0 → (e_W_client_23 M2 K)) ∧ (¬ (v2 < 0) → ((v2 ≤ 8 → ((0 ≤ v1 ∧ v1 < 8 → (((gi M2 381 (v1).toNat) = 0 → (e_W_client_39 v1 v2 1 M2 K)) ∧ (¬ (gi M2 381 (v1).toNat) = 0 → (e_W_client_39 v1 v2 0 M2 K)))))) ∧ (¬ (v2 ≤ 8) → (e_W_client_23 M2 K))))))))
