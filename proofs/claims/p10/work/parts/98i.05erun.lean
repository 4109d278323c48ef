def e_R_hasRead (v0 : Nat) (v1 : Int) (M : rf_M) (K : Int → rf_M → Prop) : Prop := ((Int32.ofInt ((Int32.ofInt (gi M v0 2)).toUInt32 >>> ((Int32.ofInt v1).toUInt32 &&& Int32.toUInt32 31)).toInt32.toInt &&& Int32.ofInt 1).toInt = 0 → (e_R_hasRead_16 0 M K)) ∧ (¬ ((Int32.ofInt ((Int32.ofInt (gi M v0 2)).toUInt32 >>> ((Int32.ofInt v1).toUInt32 &&& Int32.toUInt32 31)).toInt32.toInt &&& Int32.ofInt 1).toInt = 0) → (e_R_hasRead_16 1 M K))
theorem E_R_hasRead {fz : Bool} {S : gS} {B : rf_M} {M : rf_M} {ls : rf_L} {n0 : Nat} {v0 : Nat} {v1 : Int} {K : Int → rf_M → Prop} (hS : rl S) (hR : fl 22 353 B M) (mv0 : v0 ∈ k7) (iv1 : inr v1) (a0 : rf_ld ls 0 = some (.ref v0)) (a1 : rf_ld ls 1 = some (zv v1)) (h : e_R_hasRead v0 v1 M K) : lx (cx0 fz) n0 69 0 ls [] (M, S) (vl_i 22 353 B S K) := by
  unfold e_R_hasRead at h
  refine l1 (n := 1) rfl rfl rfl (la_of a0) ?_
  refine l_gi rfl (ko_7 hS mv0) rfl (fun _ => rfl) ?_
  refine l1 (n := 1) rfl rfl rfl (li_of a1) ?_
  refine l_op (T := ((Int32.ofInt (gi M v0 2)).toUInt32 >>> ((Int32.ofInt v1).toUInt32 &&& Int32.toUInt32 31)).toInt32) rfl rfl rfl ?_
  refine l1 (n := 1) rfl rfl rfl rfl ?_
  refine l_op (T := (Int32.ofInt ((Int32.ofInt (gi M v0 2)).toUInt32 >>> ((Int32.ofInt v1).toUInt32 &&& Int32.toUInt32 31)).toInt32.toInt &&& Int32.ofInt 1)) rfl rfl rfl ?_
  refine l_if rfl (inr_ti _) (fun c => ?_) (fun c => ?_)
  · replace h := h.1 c
    refine l1 (n := 1) rfl rfl rfl rfl ?_
    exact E_R_hasRead_16 hS hR ⟨by decide, by decide⟩ h
  · replace h := h.2 c
    refine l1 (n := 1) rfl rfl rfl rfl ?_
    refine l3 rfl rfl rfl ?_
    exact E_R_hasRead_16 hS hR ⟨by decide, by decide⟩ h
def em_R_hasRead (x0 : Nat) (x1 : Int) (M : rf_M) (K : Int → rf_M → Prop) : Prop := e_R_hasRead x0 x1 M K
theorem E_R_hasRead_m {fz : Bool} {S : gS} {B : rf_M} {M : rf_M} {n0 : Nat} {x0 : Nat} {x1 : Int} {K : Int → rf_M → Prop} (hS : rl S) (hR : fl 22 353 B M) (mx0 : x0 ∈ k7) (ix1 : inr x1) (h : em_R_hasRead x0 x1 M K) : lx (cx0 fz) n0 69 0 (lv_args 0 [.ref x0, zv x1]) [] (M, S) (vl_i 22 353 B S K) :=
  E_R_hasRead hS hR mx0 ix1 rfl rfl h
def e_R_shows_81 (s0 : Int64) (M : rf_M) (K : Int64 → rf_M → Prop) : Prop := K s0 M
theorem E_R_shows_81 {fz : Bool} {S : gS} {B : rf_M} {M : rf_M} {ls : rf_L} {n0 : Nat} {s0 : Int64} {K : Int64 → rf_M → Prop} (hS : rl S) (hR : fl 22 353 B M) (h : e_R_shows_81 s0 M K) : lx (cx0 fz) n0 70 81 ls [.long s0] (M, S) (vl_l 22 353 B S K) := by
  unfold e_R_shows_81 at h
  exact l_rl rfl rfl hR h
def e_R_shows_25 (v0 : Nat) (v1 : Int) (M : rf_M) (K : Int64 → rf_M → Prop) : Prop := em_M_isCell v1 M (fun (z1 : Int) (M1 : rf_M) => (z1 = 0 → (K (Int64.ofNat 0) M1)) ∧ (¬ z1 = 0 → (em_D_hasWritten (v0 + 2) v1 M1 (fun (z2 : Int) (M2 : rf_M) => (z2 = 0 → (em_R_hasRead v0 v1 M2 (fun (z3 : Int) (M3 : rf_M) => (z3 = 0 → ((0 ≤ v1 ∧ v1 < 16 → (e_R_shows_81 (gl M3 ((stR v0) + 1) (v1).toNat) M3 K)))) ∧ (¬ (z3 = 0) → ((0 ≤ v1 ∧ v1 < 16 → (e_R_shows_81 (gl M3 (v0 + 10) (v1).toNat) M3 K))))))) ∧ (¬ (z2 = 0) → ((0 ≤ v1 ∧ v1 < 16 → (K (gl M2 (v0 + 3) (v1).toNat) M2))))))))
theorem E_R_shows_25 {fz : Bool} {S : gS} {B : rf_M} {M : rf_M} {ls : rf_L} {n0 : Nat} {v0 : Nat} {v1 : Int} {K : Int64 → rf_M → Prop} (hS : rl S) (hR : fl 22 353 B M) (mv0 : v0 ∈ k7) (iv1 : inr v1) (a0 : rf_ld ls 0 = some (.ref v0)) (a1 : rf_ld ls 1 = some (zv v1)) (h : e_R_shows_25 v0 v1 M K) : lx (cx0 fz) n0 70 25 ls [] (M, S) (vl_l 22 353 B S K) := by
  unfold e_R_shows_25 at h
  refine l1 (n := 1) rfl rfl rfl (li_of a1) ?_
  refine b_st (as := [zv v1]) (rest := []) rfl (by decide) rfl (Nat.le_of_ble_eq_true rfl) (fun hq => ?_)
  refine lx_mono (E_M_isCell_m hS hR iv1 h) ?_
  rintro _ _ ⟨z1, M1, rfl, rfl, r1, iz1, h⟩
  refine l_if rfl iz1 (fun c => ?_) (fun c => ?_)
  · replace h := h.2 c
    refine l1 (n := 1) rfl rfl rfl (la_of a0) ?_
    refine l_gr rfl (ko_7 hS mv0) rfl (fun _ => rfl) (kf_7_5 r1.2 mv0) ?_
    refine l1 (n := 1) rfl rfl rfl (li_of a1) ?_
    refine b_iv (c := (v0 + 2)) (as := [zv v1]) (rest := []) rfl (by decide) (ko_8 hS (kt_7_5 mv0)) rfl rfl (Nat.le_of_ble_eq_true rfl) (fun hq => ?_)
    refine lx_mono (E_D_hasWritten_m hS r1 (kt_7_5 mv0) iv1 h) ?_
    rintro _ _ ⟨z2, M2, rfl, rfl, r2, iz2, h⟩
    refine l_if rfl iz2 (fun c => ?_) (fun c => ?_)
    · replace h := h.1 c
      refine l1 (n := 1) rfl rfl rfl (la_of a0) ?_
      refine l1 (n := 1) rfl rfl rfl (li_of a1) ?_
      refine b_iv (c := v0) (as := [zv v1]) (rest := []) rfl (by decide) (ko_7 hS mv0) rfl rfl (Nat.le_of_ble_eq_true rfl) (fun hq => ?_)
      refine lx_mono (E_R_hasRead_m hS r2 mv0 iv1 h) ?_
      rintro _ _ ⟨z3, M3, rfl, rfl, r3, iz3, h⟩
      refine l_if rfl iz3 (fun c => ?_) (fun c => ?_)
      · replace h := h.1 c
        refine l1 (n := 1) rfl rfl rfl (la_of a0) ?_
        refine l_gr rfl (ko_7 hS mv0) rfl (fun _ => rfl) (kf_7_8 r3.2 mv0) ?_
        refine l_gr rfl (ko_4 hS (kt_7_8 mv0)) rfl (fun _ => rfl) (kf_4_0 r3.2 (kt_7_8 mv0)) ?_
        refine l1 (n := 1) rfl rfl rfl (li_of a1) ?_
        refine b_la rfl (kt_4_0 (fz := fz) hS (kt_7_8 mv0)).1 (Nat.le_of_ble_eq_true rfl) iv1 (fun q => ?_)
        replace h := h q
        exact E_R_shows_81 hS r3  h
      · replace h := h.2 c
        refine l1 (n := 1) rfl rfl rfl (la_of a0) ?_
        refine l_gr rfl (ko_7 hS mv0) rfl (fun _ => rfl) (kf_7_7 r3.2 mv0) ?_
        refine l1 (n := 1) rfl rfl rfl (li_of a1) ?_
        refine b_la rfl (kt_7_7 (fz := fz) hS mv0).1 (Nat.le_of_ble_eq_true rfl) iv1 (fun q => ?_)
        replace h := h q
        refine l3 rfl rfl rfl ?_
        exact E_R_shows_81 hS r3  h
    · replace h := h.2 c
      refine l1 (n := 1) rfl rfl rfl (la_of a0) ?_
      refine l_gr rfl (ko_7 hS mv0) rfl (fun _ => rfl) (kf_7_5 r2.2 mv0) ?_
      refine l_gr rfl (ko_8 hS (kt_7_5 mv0)) rfl (fun _ => rfl) (kf_8_1 r2.2 (kt_7_5 mv0)) ?_
      refine l1 (n := 1) rfl rfl rfl (li_of a1) ?_
      refine b_la rfl (kt_8_1 (fz := fz) hS (kt_7_5 mv0)).1 (Nat.le_of_ble_eq_true rfl) iv1 (fun q => ?_)
      replace h := h q
      exact l_rl rfl rfl r2 h
  · replace h := h.1 (Classical.not_not.mp c)
    refine l1 (n := 1) rfl rfl rfl rfl ?_
    exact l_rl rfl rfl r1 h
def e_R_shows (v0 : Nat) (v1 : Int) (M : rf_M) (K : Int64 → rf_M → Prop) : Prop := (v1 < 16 → (e_R_shows_25 v0 v1 M K)) ∧ (¬ (v1 < 16) → ((26 ≤ v1 → (e_R_shows_25 v0 v1 M K)) ∧ (¬ (26 ≤ v1) → (inr (v1 - 16) ∧ ((0 ≤ (v1 - 16) ∧ (v1 - 16) < 10 → (K (gl M (v0 + 4) (v1 - 16).toNat) M)))))))
theorem E_R_shows {fz : Bool} {S : gS} {B : rf_M} {M : rf_M} {ls : rf_L} {n0 : Nat} {v0 : Nat} {v1 : Int} {K : Int64 → rf_M → Prop} (hS : rl S) (hR : fl 22 353 B M) (mv0 : v0 ∈ k7) (iv1 : inr v1) (a0 : rf_ld ls 0 = some (.ref v0)) (a1 : rf_ld ls 1 = some (zv v1)) (h : e_R_shows v0 v1 M K) : lx (cx0 fz) n0 70 0 ls [] (M, S) (vl_l 22 353 B S K) := by
  unfold e_R_shows at h
  refine l1 (n := 1) rfl rfl rfl (li_of a1) ?_
  refine l_bi rfl (by decide) ?_
  refine l_ic rfl iv1 ⟨by decide, by decide⟩ (fun c => ?_) (fun c => ?_)
  · replace h := h.1 c
    exact E_R_shows_25 hS hR mv0 iv1 a0 a1 h
  · replace h := h.2 c
    refine l1 (n := 1) rfl rfl rfl (li_of a1) ?_
    refine l_bi rfl (by decide) ?_
    refine l_ic rfl iv1 ⟨by decide, by decide⟩ (fun c => ?_) (fun c => ?_)
    · replace h := h.1 c
      exact E_R_shows_25 hS hR mv0 iv1 a0 a1 h
    · replace h := h.2 c
      refine l1 (n := 1) rfl rfl rfl (la_of a0) ?_
      refine l_gr rfl (ko_7 hS mv0) rfl (fun _ => rfl) (kf_7_5 hR.2 mv0) ?_
      refine l_gr rfl (ko_8 hS (kt_7_5 mv0)) rfl (fun _ => rfl) (kf_8_2 hR.2 (kt_7_5 mv0)) ?_
      refine l1 (n := 1) rfl rfl rfl (li_of a1) ?_
      refine l_bi rfl (by decide) ?_
      refine l_sub rfl ?_
      obtain ⟨i1, h⟩ := h
      refine b_la rfl (kt_8_2 (fz := fz) hS (kt_7_5 mv0)).1 (Nat.le_of_ble_eq_true rfl) i1 (fun q => ?_)
      replace h := h q
      exact l_rl rfl rfl hR h
def em_R_shows (x0 : Nat) (x1 : Int) (M : rf_M) (K : Int64 → rf_M → Prop) : Prop := e_R_shows x0 x1 M K
theorem E_R_shows_m {fz : Bool} {S : gS} {B : rf_M} {M : rf_M} {n0 : Nat} {x0 : Nat} {x1 : Int} {K : Int64 → rf_M → Prop} (hS : rl S) (hR : fl 22 353 B M) (mx0 : x0 ∈ k7) (ix1 : inr x1) (h : em_R_shows x0 x1 M K) : lx (cx0 fz) n0 70 0 (lv_args 0 [.ref x0, zv x1]) [] (M, S) (vl_l 22 353 B S K) :=
  E_R_shows hS hR mx0 ix1 rfl rfl h
def e_R_isStale (v0 : Nat) (M : rf_M) (K : Int → rf_M → Prop) : Prop := em_S_differs (stR v0) (gi M v0 2) (v0 + 1) M (fun (z1 : Int) (M1 : rf_M) => (z1 = 0 ∨ z1 = 1) ∧ K z1 M1)
theorem E_R_isStale {fz : Bool} {S : gS} {B : rf_M} {M : rf_M} {ls : rf_L} {n0 : Nat} {v0 : Nat} {K : Int → rf_M → Prop} (hS : rl S) (hR : fl 22 353 B M) (mv0 : v0 ∈ k7) (a0 : rf_ld ls 0 = some (.ref v0)) (h : e_R_isStale v0 M K) : lx (cx0 fz) n0 71 0 ls [] (M, S) (vl_i 22 353 B S K) := by
  unfold e_R_isStale at h
  refine l1 (n := 1) rfl rfl rfl (la_of a0) ?_
  refine l_gr rfl (ko_7 hS mv0) rfl (fun _ => rfl) (kf_7_8 hR.2 mv0) ?_
  refine l1 (n := 1) rfl rfl rfl (la_of a0) ?_
  refine l_gi rfl (ko_7 hS mv0) rfl (fun _ => rfl) ?_
  refine l1 (n := 1) rfl rfl rfl (la_of a0) ?_
  refine l_gr rfl (ko_7 hS mv0) rfl (fun _ => rfl) (kf_7_4 hR.2 mv0) ?_
  refine b_iv (c := (stR v0)) (as := [zv (gi M v0 2), .ref (v0 + 1)]) (rest := []) rfl (by decide) (ko_4 hS (kt_7_8 mv0)) rfl rfl (Nat.le_of_ble_eq_true rfl) (fun hq => ?_)
  refine lx_mono (E_S_differs_m hS hR (kt_7_8 mv0) (inr_gi _ _ _) (kt_7_4 (fz := fz) hS mv0) h) ?_
  rintro _ _ ⟨z1, M1, rfl, rfl, r1, iz1, h⟩
  exact l_rb rfl rfl h.1 r1 h.2
def em_R_isStale (x0 : Nat) (M : rf_M) (K : Int → rf_M → Prop) : Prop := e_R_isStale x0 M K
theorem E_R_isStale_m {fz : Bool} {S : gS} {B : rf_M} {M : rf_M} {n0 : Nat} {x0 : Nat} {K : Int → rf_M → Prop} (hS : rl S) (hR : fl 22 353 B M) (mx0 : x0 ∈ k7) (h : em_R_isStale x0 M K) : lx (cx0 fz) n0 71 0 (lv_args 0 [.ref x0]) [] (M, S) (vl_i 22 353 B S K) :=
  E_R_isStale hS hR mx0 rfl h
def e_R_find_26 (v0 : Nat) (v1 : Int) (M : rf_M) (K : Int → rf_M → Prop) : Prop := em_R_shows v0 v1 M (fun (z1 : Int64) (M1 : rf_M) => ∀ M2 : rf_M, M2 = wl M1 v0 10 z1 → (K 1 M2))
theorem E_R_find_26 {fz : Bool} {S : gS} {B : rf_M} {M : rf_M} {ls : rf_L} {n0 : Nat} {v0 : Nat} {v1 : Int} {K : Int → rf_M → Prop} (hS : rl S) (hR : fl 22 353 B M) (mv0 : v0 ∈ k7) (iv1 : inr v1) (a0 : rf_ld ls 0 = some (.ref v0)) (a1 : rf_ld ls 1 = some (zv v1)) (h : e_R_find_26 v0 v1 M K) : lx (cx0 fz) n0 67 26 ls [] (M, S) (vl_i 22 353 B S K) := by
  unfold e_R_find_26 at h
  refine l1 (n := 1) rfl rfl rfl (la_of a0) ?_
  refine l1 (n := 1) rfl rfl rfl (la_of a0) ?_
  refine l1 (n := 1) rfl rfl rfl (li_of a1) ?_
  refine b_iv (c := v0) (as := [zv v1]) (rest := [.ref v0]) rfl (by decide) (ko_7 hS mv0) rfl rfl (Nat.le_of_ble_eq_true rfl) (fun hq => ?_)
  refine lx_mono (E_R_shows_m hS hR mv0 iv1 h) ?_
  rintro _ _ ⟨z1, M1, rfl, rfl, r1, h⟩
  refine l_pl rfl (ko_7 (fz := fz) hS mv0) rfl (fun _ _ => rfl) (fun M2 e => ?_)
  replace h := h M2 e
  have r2 := r1.wl (ko_7 (fz := fz) hS mv0).1 (kl_7 mv0) e
  refine l1 (n := 1) rfl rfl rfl rfl ?_
  exact l_rb rfl rfl (Or.inr rfl) r2 h
def e_R_find (v0 : Nat) (v1 : Int) (M : rf_M) (K : Int → rf_M → Prop) : Prop := em_M_isCell v1 M (fun (z1 : Int) (M1 : rf_M) => (z1 = 0 → (e_R_find_26 v0 v1 M1 K)) ∧ (¬ (z1 = 0) → (em_D_hasWritten (v0 + 2) v1 M1 (fun (z2 : Int) (M2 : rf_M) => (z2 = 0 → (em_R_hasRead v0 v1 M2 (fun (z3 : Int) (M3 : rf_M) => (z3 = 0 → (em_R_isStale v0 M3 (fun (z4 : Int) (M4 : rf_M) => (z4 = 0 → (∀ M5 : rf_M, M5 = wi M4 v0 2 (Int32.ofInt (gi M4 v0 2) ||| Int32.ofInt (Int32.ofInt 1 <<< (Int32.ofInt v1 &&& 31)).toInt).toInt → ((0 ≤ v1 ∧ v1 < 16 → ((0 ≤ v1 ∧ v1 < 16 → (∀ M6 : rf_M, M6 = wl M5 (v0 + 10) (v1).toNat (gl M5 ((stR v0) + 1) (v1).toNat) → ((0 ≤ v1 ∧ v1 < 16 → ((0 ≤ v1 ∧ v1 < 16 → (∀ M7 : rf_M, M7 = wi M6 (v0 + 1) (v1).toNat (gi M6 ((stR v0) + 2) (v1).toNat) → ((0 ≤ v1 ∧ v1 < 16 → (∀ M8 : rf_M, M8 = wl M7 v0 10 (gl M7 (v0 + 10) (v1).toNat) → (K 1 M8)))))))))))))))) ∧ (¬ (z4 = 0) → (K 0 M4))))) ∧ (¬ (z3 = 0) → (e_R_find_26 v0 v1 M3 K))))) ∧ (¬ z2 = 0 → (e_R_find_26 v0 v1 M2 K))))))
theorem E_R_find {fz : Bool} {S : gS} {B : rf_M} {M : rf_M} {ls : rf_L} {n0 : Nat} {v0 : Nat} {v1 : Int} {K : Int → rf_M → Prop} (hS : rl S) (hR : fl 22 353 B M) (mv0 : v0 ∈ k7) (iv1 : inr v1) (a0 : rf_ld ls 0 = some (.ref v0)) (a1 : rf_ld ls 1 = some (zv v1)) (h : e_R_find v0 v1 M K) : lx (cx0 fz) n0 67 0 ls [] (M, S) (vl_i 22 353 B S K) := by
  unfold e_R_find at h
  refine l1 (n := 1) rfl rfl rfl (li_of a1) ?_
  refine b_st (as := [zv v1]) (rest := []) rfl (by decide) rfl (Nat.le_of_ble_eq_true rfl) (fun hq => ?_)
  refine lx_mono (E_M_isCell_m hS hR iv1 h) ?_
  rintro _ _ ⟨z1, M1, rfl, rfl, r1, iz1, h⟩
  refine l_if rfl iz1 (fun c => ?_) (fun c => ?_)
  · replace h := h.1 c
    exact E_R_find_26 hS r1 mv0 iv1 a0 a1 h
  · replace h := h.2 c
    refine l1 (n := 1) rfl rfl rfl (la_of a0) ?_
    refine l_gr rfl (ko_7 hS mv0) rfl (fun _ => rfl) (kf_7_5 r1.2 mv0) ?_
    refine l1 (n := 1) rfl rfl rfl (li_of a1) ?_
    refine b_iv (c := (v0 + 2)) (as := [zv v1]) (rest := []) rfl (by decide) (ko_8 hS (kt_7_5 mv0)) rfl rfl (Nat.le_of_ble_eq_true rfl) (fun hq => ?_)
    refine lx_mono (E_D_hasWritten_m hS r1 (kt_7_5 mv0) iv1 h) ?_
    rintro _ _ ⟨z2, M2, rfl, rfl, r2, iz2, h⟩
    refine l_if rfl iz2 (fun c => ?_) (fun c => ?_)
    · replace h := h.2 c
      exact E_R_find_26 hS r2 mv0 iv1 a0 a1 h
    · replace h := h.1 (Classical.not_not.mp c)
      refine l1 (n := 1) rfl rfl rfl (la_of a0) ?_
      refine l1 (n := 1) rfl rfl rfl (li_of a1) ?_
      refine b_iv (c := v0) (as := [zv v1]) (rest := []) rfl (by decide) (ko_7 hS mv0) rfl rfl (Nat.le_of_ble_eq_true rfl) (fun hq => ?_)
      refine lx_mono (E_R_hasRead_m hS r2 mv0 iv1 h) ?_
      rintro _ _ ⟨z3, M3, rfl, rfl, r3, iz3, h⟩
      refine l_if rfl iz3 (fun c => ?_) (fun c => ?_)
      · replace h := h.1 c
        refine l1 (n := 1) rfl rfl rfl (la_of a0) ?_
        refine b_iv (c := v0) (as := []) (rest := []) rfl (by decide) (ko_7 hS mv0) rfl rfl (Nat.le_of_ble_eq_true rfl) (fun hq => ?_)
        refine lx_mono (E_R_isStale_m hS r3 mv0 h) ?_
        rintro _ _ ⟨z4, M4, rfl, rfl, r4, iz4, h⟩
        refine l_if rfl iz4 (fun c => ?_) (fun c => ?_)
        · replace h := h.1 c
          refine l1 (n := 1) rfl rfl rfl (la_of a0) ?_
          refine l0 rfl rfl rfl ?_
          refine l_gi rfl (ko_7 hS mv0) rfl (fun _ => rfl) ?_
          refine l1 (n := 1) rfl rfl rfl rfl ?_
          refine l1 (n := 1) rfl rfl rfl (li_of a1) ?_
          refine l_op (T := (Int32.ofInt 1 <<< (Int32.ofInt v1 &&& 31))) rfl rfl rfl ?_
          refine l_op (T := (Int32.ofInt (gi M4 v0 2) ||| Int32.ofInt (Int32.ofInt 1 <<< (Int32.ofInt v1 &&& 31)).toInt)) rfl rfl rfl ?_
          refine l_pi rfl (ko_7 (fz := fz) hS mv0) rfl (fun _ _ => rfl) (fun M5 e => ?_)
          replace h := h M5 e
          have r5 := r4.wi (ko_7 (fz := fz) hS mv0).1 (kl_7 mv0) e
          refine l1 (n := 1) rfl rfl rfl (la_of a0) ?_
          refine l_gr rfl (ko_7 hS mv0) rfl (fun _ => rfl) (kf_7_7 r5.2 mv0) ?_
          refine l1 (n := 1) rfl rfl rfl (li_of a1) ?_
          refine l1 (n := 1) rfl rfl rfl (la_of a0) ?_
          refine l_gr rfl (ko_7 hS mv0) rfl (fun _ => rfl) (kf_7_8 r5.2 mv0) ?_
          refine l_gr rfl (ko_4 hS (kt_7_8 mv0)) rfl (fun _ => rfl) (kf_4_0 r5.2 (kt_7_8 mv0)) ?_
          refine l1 (n := 1) rfl rfl rfl (li_of a1) ?_
          refine b_la rfl (kt_4_0 (fz := fz) hS (kt_7_8 mv0)).1 (Nat.le_of_ble_eq_true rfl) iv1 (fun q => ?_)
          replace h := h q
          refine b_ls rfl (kt_7_7 (fz := fz) hS mv0).1 (Nat.le_of_ble_eq_true rfl) iv1 (fun q M6 e => ?_)
          replace h := h q M6 e
          have r6 := r5.wl (kt_7_7 (fz := fz) hS mv0).1.1 (kt_7_7 (fz := fz) hS mv0).2 e
          refine l1 (n := 1) rfl rfl rfl (la_of a0) ?_
          refine l_gr rfl (ko_7 hS mv0) rfl (fun _ => rfl) (kf_7_4 r6.2 mv0) ?_
          refine l1 (n := 1) rfl rfl rfl (li_of a1) ?_
          refine l1 (n := 1) rfl rfl rfl (la_of a0) ?_
          refine l_gr rfl (ko_7 hS mv0) rfl (fun _ => rfl) (kf_7_8 r6.2 mv0) ?_
          refine l_gr rfl (ko_4 hS (kt_7_8 mv0)) rfl (fun _ => rfl) (kf_4_1 r6.2 (kt_7_8 mv0)) ?_
          refine l1 (n := 1) rfl rfl rfl (li_of a1) ?_
          refine b_ia rfl (kt_4_1 (fz := fz) hS (kt_7_8 mv0)).1 (Nat.le_of_ble_eq_true rfl) iv1 (fun q => ?_)
          replace h := h q
          refine b_is rfl (kt_7_4 (fz := fz) hS mv0).1 (Nat.le_of_ble_eq_true rfl) iv1 (fun q M7 e => ?_)
          replace h := h q M7 e
          have r7 := r6.wi (kt_7_4 (fz := fz) hS mv0).1.1 (kt_7_4 (fz := fz) hS mv0).2 e
          refine l1 (n := 1) rfl rfl rfl (la_of a0) ?_
          refine l1 (n := 1) rfl rfl rfl (la_of a0) ?_
          refine l_gr rfl (ko_7 hS mv0) rfl (fun _ => rfl) (kf_7_7 r7.2 mv0) ?_
          refine l1 (n := 1) rfl rfl rfl (li_of a1) ?_
          refine b_la rfl (kt_7_7 (fz := fz) hS mv0).1 (Nat.le_of_ble_eq_true rfl) iv1 (fun q => ?_)
          replace h := h q
          refine l_pl rfl (ko_7 (fz := fz) hS mv0) rfl (fun _ _ => rfl) (fun M8 e => ?_)
          replace h := h M8 e
          have r8 := r7.wl (ko_7 (fz := fz) hS mv0).1 (kl_7 mv0) e
          refine l1 (n := 1) rfl rfl rfl rfl ?_
          exact l_rb rfl rfl (Or.inr rfl) r8 h
        · replace h := h.2 c
          refine l1 (n := 1) rfl rfl rfl rfl ?_
          exact l_rb rfl rfl (Or.inl rfl) r4 h
      · replace h := h.2 c
        exact E_R_find_26 hS r3 mv0 iv1 a0 a1 h
def em_R_find (x0 : Nat) (x1 : Int) (M : rf_M) (K : Int → rf_M → Prop) : Prop := e_R_find x0 x1 M K
theorem E_R_find_m {fz : Bool} {S : gS} {B : rf_M} {M : rf_M} {n0 : Nat} {x0 : Nat} {x1 : Int} {K : Int → rf_M → Prop} (hS : rl S) (hR : fl 22 353 B M) (mx0 : x0 ∈ k7) (ix1 : inr x1) (h : em_R_find x0 x1 M K) : lx (cx0 fz) n0 67 0 (lv_args 0 [.ref x0, zv x1]) [] (M, S) (vl_i 22 353 B S K) :=
  E_R_find hS hR mx0 ix1 rfl rfl h
def e_A_workR_158 (v0 : Nat) (v1 : Nat) (v3 : Nat) (v4 : Int) (M : rf_M) (b8 : Nat → Nat → Nat → Int → rf_M → Prop) (K : Int → rf_M → Prop) : Prop := inr (v4 + 1) ∧ (b8 v0 v1 v3 (v4 + 1) M)
theorem E_A_workR_158 {fz : Bool} {S : gS} {B : rf_M} {M : rf_M} {ls : rf_L} {n0 : Nat} {v0 : Nat} {v1 : Nat} {v3 : Nat} {v4 : Int} {b8 : Nat → Nat → Nat → Int → rf_M → Prop} {K : Int → rf_M → Prop} (hS : rl S) (hR : fl 22 353 B M) (mv0 : v0 ∈ k5) (mv1 : v1 ∈ k1) (mv3 : v3 ∈ k7) (iv4 : inr v4) (a0 : rf_ld ls 0 = some (.ref v0)) (a1 : rf_ld ls 1 = some (.ref v1)) (a3 : rf_ld ls 3 = some (.ref v3)) (a4 : rf_ld ls 4 = some (zv v4)) (hb8 : ∀ n', n' < n0 → ∀ (v0 : Nat) (v1 : Nat) (v3 : Nat) (v4 : Int) (M : rf_M) (ls : rf_L), fl 22 353 B M → v0 ∈ k5 → v1 ∈ k1 → v3 ∈ k7 → inr v4 → rf_ld ls 0 = some (.ref v0) → rf_ld ls 1 = some (.ref v1) → rf_ld ls 3 = some (.ref v3) → rf_ld ls 4 = some (zv v4) → b8 v0 v1 v3 v4 M → lx (cx0 fz) n' 65 8 ls [] (M, S) (vl_i 22 353 B S K)) (h : e_A_workR_158 v0 v1 v3 v4 M b8 K) : lx (cx0 fz) n0 65 158 ls [] (M, S) (vl_i 22 353 B S K) := by
  unfold e_A_workR_158 at h
  rcases Nat.eq_zero_or_pos n0 with e0 | hp
  · rw [e0]; exact lx_zero
  refine l_ii rfl a4 (Nat.le_of_ble_eq_true rfl) (fun ls y1 ho => ?_)
  have y2 := ho 0 _ (by decide) (fun q => by cases q.2) a0
  have y3 := ho 1 _ (by decide) (fun q => by cases q.2) a1
  have y4 := ho 3 _ (by decide) (fun q => by cases q.2) a3
  refine l3 rfl rfl rfl ?_
  obtain ⟨i1, h⟩ := h
  exact hb8 _ (by omega) _ _ _ _ _ _ hR mv0 mv1 mv3 i1 y2 y3 y4 y1 h
def e_A_workR_143 (M : rf_M) (K : Int → rf_M → Prop) : Prop := K 2 M
theorem E_A_workR_143 {fz : Bool} {S : gS} {B : rf_M} {M : rf_M} {ls : rf_L} {n0 : Nat} {K : Int → rf_M → Prop} (hS : rl S) (hR : fl 22 353 B M) (h : e_A_workR_143 M K) : lx (cx0 fz) n0 65 143 ls [] (M, S) (vl_i 22 353 B S K) := by
  unfold e_A_workR_143 at h
  refine l1 (n := 1) rfl rfl rfl rfl ?_
  exact l_ri rfl rfl ⟨by decide, by decide⟩ hR h
def e_A_workR_145 (v0 : Nat) (v1 : Nat) (v3 : Nat) (v4 : Int) (v5 : Int) (v6 : Int64) (v8 : Int64) (M : rf_M) (b8 : Nat → Nat → Nat → Int → rf_M → Prop) (K : Int → rf_M → Prop) : Prop := em_A_join v5 v8 v6 M (fun (z1 : Int64) (M1 : rf_M) => em_A_push v0 z1 M1 (fun (M2 : rf_M) => e_A_workR_158 v0 v1 v3 v4 M2 b8 K))
theorem E_A_workR_145 {fz : Bool} {S : gS} {B : rf_M} {M : rf_M} {ls : rf_L} {n0 : Nat} {v0 : Nat} {v1 : Nat} {v3 : Nat} {v4 : Int} {v5 : Int} {v6 : Int64} {v8 : Int64} {b8 : Nat → Nat → Nat → Int → rf_M → Prop} {K : Int → rf_M → Prop} (hS : rl S) (hR : fl 22 353 B M) (mv0 : v0 ∈ k5) (mv1 : v1 ∈ k1) (mv3 : v3 ∈ k7) (iv4 : inr v4) (iv5 : inr v5) (a0 : rf_ld ls 0 = some (.ref v0)) (a1 : rf_ld ls 1 = some (.ref v1)) (a3 : rf_ld ls 3 = some (.ref v3)) (a4 : rf_ld ls 4 = some (zv v4)) (a5 : rf_ld ls 5 = some (zv v5)) (a6 : rf_ld ls 6 = some (.long v6)) (a8 : rf_ld ls 8 = some (.long v8)) (hb8 : ∀ n', n' < n0 → ∀ (v0 : Nat) (v1 : Nat) (v3 : Nat) (v4 : Int) (M : rf_M) (ls : rf_L), fl 22 353 B M → v0 ∈ k5 → v1 ∈ k1 → v3 ∈ k7 → inr v4 → rf_ld ls 0 = some (.ref v0) → rf_ld ls 1 = some (.ref v1) → rf_ld ls 3 = some (.ref v3) → rf_ld ls 4 = some (zv v4) → b8 v0 v1 v3 v4 M → lx (cx0 fz) n' 65 8 ls [] (M, S) (vl_i 22 353 B S K)) (h : e_A_workR_145 v0 v1 v3 v4 v5 v6 v8 M b8 K) : lx (cx0 fz) n0 65 145 ls [] (M, S) (vl_i 22 353 B S K) := by
  unfold e_A_workR_145 at h
  rcases Nat.eq_zero_or_pos n0 with e0 | hp
  · rw [e0]; exact lx_zero
  refine l1 (n := 1) rfl rfl rfl (la_of a0) ?_
  refine l1 (n := 2) rfl rfl rfl (li_of a5) ?_
  refine l1 (n := 2) rfl rfl rfl (ll_of a8) ?_
  refine l1 (n := 2) rfl rfl rfl (ll_of a6) ?_
  refine b_st (as := [zv v5, .long v8, .long v6]) (rest := [.ref v0]) rfl (by decide) rfl (Nat.le_of_ble_eq_true rfl) (fun hq => ?_)
  refine lx_mono (E_A_join_m hS hR iv5 h) ?_
  rintro _ _ ⟨z1, M1, rfl, rfl, r1, h⟩
  refine b_iv (c := v0) (as := [.long z1]) (rest := []) rfl (by decide) (ko_5 hS mv0) rfl rfl (Nat.le_of_ble_eq_true rfl) (fun hq => ?_)
  refine lx_mono (E_A_push_m hS r1 mv0 h) ?_
  rintro _ _ ⟨M2, rfl, rfl, r2, h⟩
  exact E_A_workR_158 hS r2 mv0 mv1 mv3 iv4 a0 a1 a3 a4 (fun n' hn' => hb8 n' (by omega)) h
def e_A_workR_164 (M : rf_M) (K : Int → rf_M → Prop) : Prop := K 0 M
theorem E_A_workR_164 {fz : Bool} {S : gS} {B : rf_M} {M : rf_M} {ls : rf_L} {n0 : Nat} {K : Int → rf_M → Prop} (hS : rl S) (hR : fl 22 353 B M) (h : e_A_workR_164 M K) : lx (cx0 fz) n0 65 164 ls [] (M, S) (vl_i 22 353 B S K) := by
  unfold e_A_workR_164 at h
  refine l1 (n := 1) rfl rfl rfl rfl ?_
  exact l_ri rfl rfl ⟨by decide, by decide⟩ hR h
def e_A_workR_8b (v0 : Nat) (v1 : Nat) (v3 : Nat) (v4 : Int) (M : rf_M) (b8 : Nat → Nat → Nat → Int → rf_M → Prop) (K : Int → rf_M → Prop) : Prop := (v4 < 0 → (e_A_workR_164 M K)) ∧ (¬ (v4 < 0) → (((gi M v1 3) ≤ v4 → (e_A_workR_164 M K)) ∧ (¬ ((gi M v1 3) ≤ v4) → ((0 ≤ v4 ∧ v4 < 160 → (((gi M (v1 + 10) (v4).toNat) = 0 → (K 0 M)) ∧ (¬ (gi M (v1 + 10) (v4).toNat) = 0 → (((gi M (v1 + 10) (v4).toNat) = 1 → ((0 ≤ v4 ∧ v4 < 160 → (em_A_push v0 (Int32.ofInt (gi M (v1 + 11) (v4).toNat)).toInt64 M (fun (M7 : rf_M) => e_A_workR_158 v0 v1 v3 v4 M7 b8 K))))) ∧ (¬ (gi M (v1 + 10) (v4).toNat) = 1 → (((gi M (v1 + 10) (v4).toNat) = 2 → ((0 ≤ v4 ∧ v4 < 160 → (em_R_find v3 (gi M (v1 + 11) (v4).toNat) M (fun (z5 : Int) (M5 : rf_M) => (z5 = 0 → (K 1 M5)) ∧ (¬ z5 = 0 → (em_A_push v0 (gl M5 v3 10) M5 (fun (M6 : rf_M) => e_A_workR_158 v0 v1 v3 v4 M6 b8 K)))))))) ∧ (¬ (gi M (v1 + 10) (v4).toNat) = 2 → (((gi M (v1 + 10) (v4).toNat) = 3 → (em_A_pop v0 M (fun (z3 : Int64) (M3 : rf_M) => em_A_push v0 (-z3) M3 (fun (M4 : rf_M) => e_A_workR_158 v0 v1 v3 v4 M4 b8 K)))) ∧ (¬ (gi M (v1 + 10) (v4).toNat) = 3 → (em_A_pop v0 M (fun (z1 : Int64) (M1 : rf_M) => em_A_pop v0 M1 (fun (z2 : Int64) (M2 : rf_M) => ((lg_cmp z1 (Int64.ofNat 0)).toInt = 0 → (((gi M (v1 + 10) (v4).toNat) = 47 → (e_A_workR_143 M2 K)) ∧ (¬ ((gi M (v1 + 10) (v4).toNat) = 47) → (((gi M (v1 + 10) (v4).toNat) = 37 → (e_A_workR_143 M2 K)) ∧ (¬ (gi M (v1 + 10) (v4).toNat) = 37 → (e_A_workR_145 v0 v1 v3 v4 (gi M (v1 + 10) (v4).toNat) z1 z2 M2 b8 K)))))) ∧ (¬ (lg_cmp z1 (Int64.ofNat 0)).toInt = 0 → (e_A_workR_145 v0 v1 v3 v4 (gi M (v1 + 10) (v4).toNat) z1 z2 M2 b8 K))))))))))))))))))
theorem E_A_workR_8b {fz : Bool} {S : gS} {B : rf_M} {M : rf_M} {ls : rf_L} {n0 : Nat} {v0 : Nat} {v1 : Nat} {v3 : Nat} {v4 : Int} {b8 : Nat → Nat → Nat → Int → rf_M → Prop} {K : Int → rf_M → Prop} (hS : rl S) (hR : fl 22 353 B M) (mv0 : v0 ∈ k5) (mv1 : v1 ∈ k1) (mv3 : v3 ∈ k7) (iv4 : inr v4) (a0 : rf_ld ls 0 = some (.ref v0)) (a1 : rf_ld ls 1 = some (.ref v1)) (a3 : rf_ld ls 3 = some (.ref v3)) (a4 : rf_ld ls 4 = some (zv v4)) (hb8 : ∀ n', n' < n0 → ∀ (v0 : Nat) (v1 : Nat) (v3 : Nat) (v4 : Int) (M : rf_M) (ls : rf_L), fl 22 353 B M → v0 ∈ k5 → v1 ∈ k1 → v3 ∈ k7 → inr v4 → rf_ld ls 0 = some (.ref v0) → rf_ld ls 1 = some (.ref v1) → rf_ld ls 3 = some (.ref v3) → rf_ld ls 4 = some (zv v4) → b8 v0 v1 v3 v4 M → lx (cx0 fz) n' 65 8 ls [] (M, S) (vl_i 22 353 B S K)) (h : e_A_workR_8b v0 v1 v3 v4 M b8 K) : lx (cx0 fz) n0 65 8 ls [] (M, S) (vl_i 22 353 B S K) := by
  unfold e_A_workR_8b at h
  rcases Nat.eq_zero_or_pos n0 with e0 | hp
  · rw [e0]; exact lx_zero
  refine l1 (n := 2) rfl rfl rfl (li_of a4) ?_
  refine l_if rfl iv4 (fun c => ?_) (fun c => ?_)
  · replace h := h.1 c
    exact E_A_workR_164 hS hR  h
  · replace h := h.2 c
    refine l1 (n := 2) rfl rfl rfl (li_of a4) ?_
    refine l1 (n := 1) rfl rfl rfl (la_of a1) ?_
    refine l_gi rfl (ko_1 hS mv1) rfl (fun _ => rfl) ?_
    refine l_ic rfl iv4 (inr_gi _ _ _) (fun c => ?_) (fun c => ?_)
    · replace h := h.1 c
      exact E_A_workR_164 hS hR  h
    · replace h := h.2 c
      refine l1 (n := 1) rfl rfl rfl (la_of a1) ?_
      refine l_gr rfl (ko_1 hS mv1) rfl (fun _ => rfl) (kf_1_14 hR.2 mv1) ?_
      refine l1 (n := 2) rfl rfl rfl (li_of a4) ?_
      refine b_ia rfl (kt_1_14 (fz := fz) hS mv1).1 (Nat.le_of_ble_eq_true rfl) iv4 (fun q => ?_)
      replace h := h q
      refine l_s1 (n := 2) rfl rfl rfl rfl (fun ls y1 ho => ?_)
      have y2 := ho 0 _ (by decide) (fun q => by cases q.2) a0
      have y3 := ho 1 _ (by decide) (fun q => by cases q.2) a1
      have y4 := ho 3 _ (by decide) (fun q => by cases q.2) a3
      have y5 := ho 4 _ (by decide) (fun q => by cases q.2) a4
      refine l1 (n := 2) rfl rfl rfl (li_of y1) ?_
      refine l_if rfl (inr_gi _ _ _) (fun c => ?_) (fun c => ?_)
      · replace h := h.2 c
        refine l1 (n := 2) rfl rfl rfl (li_of y1) ?_
        refine l1 (n := 1) rfl rfl rfl rfl ?_
        refine l_ic rfl (inr_gi _ _ _) ⟨by decide, by decide⟩ (fun c => ?_) (fun c => ?_)
        · replace h := h.2 c
          refine l1 (n := 2) rfl rfl rfl (li_of y1) ?_
          refine l1 (n := 1) rfl rfl rfl rfl ?_
          refine l_ic rfl (inr_gi _ _ _) ⟨by decide, by decide⟩ (fun c => ?_) (fun c => ?_)
          · replace h := h.2 c
            refine l1 (n := 2) rfl rfl rfl (li_of y1) ?_
            refine l1 (n := 1) rfl rfl rfl rfl ?_
            refine l_ic rfl (inr_gi _ _ _) ⟨by decide, by decide⟩ (fun c => ?_) (fun c => ?_)
            · replace h := h.2 c
              refine l1 (n := 1) rfl rfl rfl (la_of y2) ?_
              refine b_iv (c := v0) (as := []) (rest := []) rfl (by decide) (ko_5 hS mv0) rfl rfl (Nat.le_of_ble_eq_true rfl) (fun hq => ?_)
              refine lx_mono (E_A_pop_m hS hR mv0 h) ?_
              rintro _ _ ⟨z1, M1, rfl, rfl, r1, h⟩
              refine l_s2 (n := 2) rfl rfl rfl rfl (fun ls y6 ho => ?_)
              have y7 := ho 0 _ (by decide) (by decide) (fun q => by cases q.2) y2
              have y8 := ho 1 _ (by decide) (by decide) (fun q => by cases q.2) y3
              have y9 := ho 3 _ (by decide) (by decide) (fun q => by cases q.2) y4
              have y10 := ho 4 _ (by decide) (by decide) (fun q => by cases q.2) y5
              have y11 := ho 5 _ (by decide) (by decide) (fun q => by cases q.2) y1
              refine l1 (n := 1) rfl rfl rfl (la_of y7) ?_
              refine b_iv (c := v0) (as := []) (rest := []) rfl (by decide) (ko_5 hS mv0) rfl rfl (Nat.le_of_ble_eq_true rfl) (fun hq => ?_)
              refine lx_mono (E_A_pop_m hS r1 mv0 h) ?_
              rintro _ _ ⟨z2, M2, rfl, rfl, r2, h⟩
              refine l_s2 (n := 2) rfl rfl rfl rfl (fun ls y12 ho => ?_)
              have y13 := ho 0 _ (by decide) (by decide) (fun q => by cases q.2) y7
              have y14 := ho 1 _ (by decide) (by decide) (fun q => by cases q.2) y8
              have y15 := ho 3 _ (by decide) (by decide) (fun q => by cases q.2) y9
              have y16 := ho 4 _ (by decide) (by decide) (fun q => by cases q.2) y10
              have y17 := ho 5 _ (by decide) (by decide) (fun q => by cases q.2) y11
              have y18 := ho 6 _ (by decide) (by decide) (fun q => absurd q.1 (by decide)) y6
              refine l1 (n := 2) rfl rfl rfl (ll_of y18) ?_
              refine l1 (n := 1) rfl rfl rfl rfl ?_
              refine l_op (T := (lg_cmp z1 (Int64.ofNat 0))) rfl rfl rfl ?_
              refine l_if rfl (inr_ti _) (fun c => ?_) (fun c => ?_)
              · replace h := h.2 c
                exact E_A_workR_145 hS r2 mv0 mv1 mv3 iv4 (inr_gi _ _ _) y13 y14 y15 y16 y17 y18 y12 (fun n' hn' => hb8 n' (by omega)) h
              · replace h := h.1 (Classical.not_not.mp c)
                refine l1 (n := 2) rfl rfl rfl (li_of y17) ?_
                refine l_bi rfl (by decide) ?_
                refine l_ic rfl (inr_gi _ _ _) ⟨by decide, by decide⟩ (fun c => ?_) (fun c => ?_)
                · replace h := h.1 c
                  exact E_A_workR_143 hS r2  h
                · replace h := h.2 c
                  refine l1 (n := 2) rfl rfl rfl (li_of y17) ?_
                  refine l_bi rfl (by decide) ?_
                  refine l_ic rfl (inr_gi _ _ _) ⟨by decide, by decide⟩ (fun c => ?_) (fun c => ?_)
                  · replace h := h.2 c
                    exact E_A_workR_145 hS r2 mv0 mv1 mv3 iv4 (inr_gi _ _ _) y13 y14 y15 y16 y17 y18 y12 (fun n' hn' => hb8 n' (by omega)) h
                  · replace h := h.1 (Classical.not_not.mp c)
                    exact E_A_workR_143 hS r2  h
            · replace h := h.1 (Classical.not_not.mp c)
              refine l1 (n := 1) rfl rfl rfl (la_of y2) ?_
              refine l1 (n := 1) rfl rfl rfl (la_of y2) ?_
              refine b_iv (c := v0) (as := []) (rest := [.ref v0]) rfl (by decide) (ko_5 hS mv0) rfl rfl (Nat.le_of_ble_eq_true rfl) (fun hq => ?_)
              refine lx_mono (E_A_pop_m hS hR mv0 h) ?_
              rintro _ _ ⟨z3, M3, rfl, rfl, r3, h⟩
              refine l0 rfl rfl rfl ?_
              refine b_iv (c := v0) (as := [.long (-z3)]) (rest := []) rfl (by decide) (ko_5 hS mv0) rfl rfl (Nat.le_of_ble_eq_true rfl) (fun hq => ?_)
              refine lx_mono (E_A_push_m hS r3 mv0 h) ?_
              rintro _ _ ⟨M4, rfl, rfl, r4, h⟩
              refine l3 rfl rfl rfl ?_
              exact E_A_workR_158 hS r4 mv0 mv1 mv3 iv4 y2 y3 y4 y5 (fun n' hn' => hb8 n' (by omega)) h
          · replace h := h.1 (Classical.not_not.mp c)
            refine l1 (n := 1) rfl rfl rfl (la_of y4) ?_
            refine l1 (n := 1) rfl rfl rfl (la_of y3) ?_
            refine l_gr rfl (ko_1 hS mv1) rfl (fun _ => rfl) (kf_1_15 hR.2 mv1) ?_
            refine l1 (n := 2) rfl rfl rfl (li_of y5) ?_
            refine b_ia rfl (kt_1_15 (fz := fz) hS mv1).1 (Nat.le_of_ble_eq_true rfl) iv4 (fun q => ?_)
            replace h := h q
            refine b_iv (c := v3) (as := [zv (gi M (v1 + 11) (v4).toNat)]) (rest := []) rfl (by decide) (ko_7 hS mv3) rfl rfl (Nat.le_of_ble_eq_true rfl) (fun hq => ?_)
            refine lx_mono (E_R_find_m hS hR mv3 (inr_gi _ _ _) h) ?_
            rintro _ _ ⟨z5, M5, rfl, rfl, r5, iz5, h⟩
            refine l_if rfl iz5 (fun c => ?_) (fun c => ?_)
            · replace h := h.2 c
              refine l1 (n := 1) rfl rfl rfl (la_of y2) ?_
              refine l1 (n := 1) rfl rfl rfl (la_of y4) ?_
              refine l_gl rfl (ko_7 hS mv3) rfl (fun _ => rfl) ?_
              refine b_iv (c := v0) (as := [.long (gl M5 v3 10)]) (rest := []) rfl (by decide) (ko_5 hS mv0) rfl rfl (Nat.le_of_ble_eq_true rfl) (fun hq => ?_)
              refine lx_mono (E_A_push_m hS r5 mv0 h) ?_
              rintro _ _ ⟨M6, rfl, rfl, r6, h⟩
              refine l3 rfl rfl rfl ?_
              exact E_A_workR_158 hS r6 mv0 mv1 mv3 iv4 y2 y3 y4 y5 (fun n' hn' => hb8 n' (by omega)) h
            · replace h := h.1 (Classical.not_not.mp c)
              refine l1 (n := 1) rfl rfl rfl rfl ?_
              exact l_ri rfl rfl ⟨by decide, by decide⟩ r5 h
        · replace h := h.1 (Classical.not_not.mp c)
          refine l1 (n := 1) rfl rfl rfl (la_of y2) ?_
          refine l1 (n := 1) rfl rfl rfl (la_of y3) ?_
          refine l_gr rfl (ko_1 hS mv1) rfl (fun _ => rfl) (kf_1_15 hR.2 mv1) ?_
          refine l1 (n := 2) rfl rfl rfl (li_of y5) ?_
          refine b_ia rfl (kt_1_15 (fz := fz) hS mv1).1 (Nat.le_of_ble_eq_true rfl) iv4 (fun q => ?_)
          replace h := h q
          refine l0 rfl rfl rfl ?_
          refine b_iv (c := v0) (as := [.long (Int32.ofInt (gi M (v1 + 11) (v4).toNat)).toInt64]) (rest := []) rfl (by decide) (ko_5 hS mv0) rfl rfl (Nat.le_of_ble_eq_true rfl) (fun hq => ?_)
          refine lx_mono (E_A_push_m hS hR mv0 h) ?_
          rintro _ _ ⟨M7, rfl, rfl, r7, h⟩
          refine l3 rfl rfl rfl ?_
          exact E_A_workR_158 hS r7 mv0 mv1 mv3 iv4 y2 y3 y4 y5 (fun n' hn' => hb8 n' (by omega)) h
      · replace h := h.1 (Classical.not_not.mp c)
        refine l1 (n := 1) rfl rfl rfl rfl ?_
        exact l_ri rfl rfl ⟨by decide, by decide⟩ hR h
