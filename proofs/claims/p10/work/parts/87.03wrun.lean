def wm_keep (x0 : Int) (M : rf_M) (K : rf_M → Prop) : Prop := w_keep x0 M K
theorem W_keep_m {fz : Bool} {S : gS} {B : rf_M} {M : rf_M} {x0 : Int} {K : rf_M → Prop} (hS : rk fz S B.2.2) (hR : fq B M) (h : wm_keep x0 M K) : gx (cx0 fz) (0, 0) 172 0 (lv_args 0 [.ref 353, zv x0]) [] (M, S) (vq_v B S K) :=
  W_keep hS hR rfl rfl h
def w_step_346 (M : rf_M) (K : Int → rf_M → Prop) : Prop := K 0 M
theorem W_step_346 {fz : Bool} {S : gS} {B : rf_M} {M : rf_M} {ls : rf_L} {K : Int → rf_M → Prop} (hS : rk fz S B.2.2) (hR : fq B M) (h : w_step_346 M K) : gx (cx0 fz) (3, 67) 162 346 ls [] (M, S) (vq_i B S K) := by
  unfold w_step_346 at h
  refine g1 (n := 1) rfl rfl rfl rfl ?_
  exact gx_ret rfl rfl ⟨0, M, rfl, rfl, hR, h⟩
def w_step_198 (v1 : Int) (M : rf_M) (K : Int → rf_M → Prop) : Prop := wm_behind v1 M (fun (z1 : Int) (M1 : rf_M) => ∀ M2 : rf_M, M2 = wi M1 353 60 z1 → (w_step_346 M2 K))
theorem W_step_198 {fz : Bool} {S : gS} {B : rf_M} {M : rf_M} {ls : rf_L} {v1 : Int} {K : Int → rf_M → Prop} (hS : rk fz S B.2.2) (hR : fq B M) (a0 : rf_ld ls 0 = some (.ref 353)) (a1 : rf_ld ls 1 = some (zv v1)) (h : w_step_198 v1 M K) : gx (cx0 fz) (3, 67) 162 198 ls [] (M, S) (vq_i B S K) := by
  unfold w_step_198 at h
  refine g1 (n := 1) rfl rfl rfl (la_of a0) ?_
  refine g1 (n := 1) rfl rfl rfl (la_of a0) ?_
  refine g1 (n := 1) rfl rfl rfl (li_of a1) ?_
  refine m_iv (a := 353) (as := [zv v1]) (rest := [.ref 353]) rfl (by decide) hS.1 rfl rfl (Nat.le_of_ble_eq_true rfl) ⟨Nat.le_of_ble_eq_true rfl, Nat.le_of_ble_eq_true rfl, Nat.le_of_ble_eq_true rfl⟩ ?_
  refine gx_room (gx_mono (W_behind_m hS hR h) ?_) (Nat.le_of_ble_eq_true rfl) (Nat.le_of_ble_eq_true rfl)
  rintro _ _ ⟨z1, M1, rfl, rfl, r1, h⟩
  refine n_pi (Nat.le_of_ble_eq_true rfl) rfl hS.1 rfl (fun _ _ => rfl) (fun M2 e r => ?_)
  replace h := h M2 e
  have r2 := r1.trans r
  refine g3 rfl rfl rfl ?_
  exact W_step_346 hS r2  h
def w_step_51 (v1 : Int) (s0 : Int64) (M : rf_M) (K : Int → rf_M → Prop) : Prop := ((gi M 353 65) = 2 → (K 1 M)) ∧ (¬ (gi M 353 65) = 2 → (((gi M 353 65) = 1 → (wm_throwFrom v1 M (fun (z18 : Int) (M18 : rf_M) => K z18 M18))) ∧ (¬ (gi M 353 65) = 1 → ((0 ≤ v1 ∧ v1 < 480) ∧ (((gi M 360 (v1).toNat) = 0 → (((lg_cmp s0 (Int64.ofNat 0)).toInt = 0 → ((0 ≤ v1 ∧ v1 < 480) ∧ (wm_goIn v1 (gi M 366 (v1).toNat) M (fun (M1 : rf_M) => w_step_346 M1 K)))) ∧ (¬ ((lg_cmp s0 (Int64.ofNat 0)).toInt = 0) → ((0 ≤ v1 ∧ v1 < 480) ∧ (wm_goIn v1 (gi M 365 (v1).toNat) M (fun (M2 : rf_M) => w_step_346 M2 K)))))) ∧ ((gi M 360 (v1).toNat) = 2 → (((lg_cmp s0 (Int64.ofNat 0)).toInt = 0 → (wm_behind v1 M (fun (z3 : Int) (M3 : rf_M) => ∀ M4 : rf_M, M4 = wi M3 353 60 z3 → (w_step_346 M4 K)))) ∧ (¬ ((lg_cmp s0 (Int64.ofNat 0)).toInt = 0) → ((0 ≤ v1 ∧ v1 < 480) ∧ (wm_goIn v1 (gi M 365 (v1).toNat) M (fun (M5 : rf_M) => w_step_346 M5 K)))))) ∧ ((gi M 360 (v1).toNat) = 3 → (wm_retryFrom v1 M (fun (z6 : Int) (M6 : rf_M) => K z6 M6))) ∧ ((gi M 360 (v1).toNat) = 4 → (∀ M7 : rf_M, M7 = wl M 353 66 s0 → (wm_throwFrom v1 M7 (fun (z8 : Int) (M8 : rf_M) => K z8 M8)))) ∧ ((gi M 360 (v1).toNat) = 9 → ((0 ≤ v1 ∧ v1 < 480) ∧ ((0 ≤ (gi M 353 58) ∧ (gi M 353 58) < 400) ∧ (∀ M9 : rf_M, M9 = wi M 393 (gi M 353 58).toNat (gi M 364 (v1).toNat) → (∀ M10 : rf_M, M10 = wi M9 353 58 ((gi M9 353 58) + 1) → (wm_behind v1 M10 (fun (z11 : Int) (M11 : rf_M) => ∀ M12 : rf_M, M12 = wi M11 353 60 z11 → (w_step_346 M12 K)))))))) ∧ ((gi M 360 (v1).toNat) = 20 → ((0 ≤ v1 ∧ v1 < 480) ∧ (((gi M 367 (v1).toNat) < 16 → ((0 ≤ v1 ∧ v1 < 480) ∧ ((0 ≤ (gi M 367 (v1).toNat) ∧ (gi M 367 (v1).toNat) < 16) ∧ (∀ M13 : rf_M, M13 = wl M 391 (gi M 367 (v1).toNat).toNat s0 → ((0 ≤ v1 ∧ v1 < 480) ∧ (∀ M14 : rf_M, M14 = wi M13 353 55 (Int32.ofInt (gi M13 353 55) ||| Int32.ofInt (Int32.ofInt 1 <<< (Int32.ofInt (gi M13 367 (v1).toNat) &&& 31)).toInt).toInt → (w_step_198 v1 M14 K))))))) ∧ (¬ ((gi M 367 (v1).toNat) < 16) → ((0 ≤ v1 ∧ v1 < 480) ∧ ((0 ≤ ((gi M 367 (v1).toNat) - 16) ∧ ((gi M 367 (v1).toNat) - 16) < 10) ∧ (∀ M15 : rf_M, M15 = wl M 392 ((gi M 367 (v1).toNat) - 16).toNat s0 → (w_step_198 v1 M15 K)))))))) ∧ (¬ (gi M 360 (v1).toNat) = 0 ∧ ¬ (gi M 360 (v1).toNat) = 2 ∧ ¬ (gi M 360 (v1).toNat) = 3 ∧ ¬ (gi M 360 (v1).toNat) = 4 ∧ ¬ (gi M 360 (v1).toNat) = 9 ∧ ¬ (gi M 360 (v1).toNat) = 20 → (wm_keep v1 M (fun (M16 : rf_M) => (0 ≤ v1 ∧ v1 < 480) ∧ (wm_goIn v1 (gi M16 365 (v1).toNat) M16 (fun (M17 : rf_M) => w_step_346 M17 K))))))))))
theorem W_step_51 {fz : Bool} {S : gS} {B : rf_M} {M : rf_M} {ls : rf_L} {v1 : Int} {s0 : Int64} {K : Int → rf_M → Prop} (hS : rk fz S B.2.2) (hR : fq B M) (a0 : rf_ld ls 0 = some (.ref 353)) (a1 : rf_ld ls 1 = some (zv v1)) (h : w_step_51 v1 s0 M K) : gx (cx0 fz) (3, 67) 162 51 ls [.long s0] (M, S) (vq_i B S K) := by
  unfold w_step_51 at h
  refine n_s2 (n := 1) rfl rfl rfl rfl (fun ls l1 ho => ?_)
  replace a0 := ho 0 _ (by decide) (by decide) (fun q => by cases q.2) a0
  have l2 := ho 1 _ (by decide) (by decide) (fun q => by cases q.2) a1
  refine g1 (n := 1) rfl rfl rfl (la_of a0) ?_
  refine n_gi rfl hS.1 rfl (fun _ => rfl) ?_
  refine g1 (n := 1) rfl rfl rfl rfl ?_
  refine n_ic rfl (inr_gi _ _ _) ⟨by decide, by decide⟩ (fun c => ?_) (fun c => ?_)
  · replace h := h.2 c
    refine g1 (n := 1) rfl rfl rfl (la_of a0) ?_
    refine n_gi rfl hS.1 rfl (fun _ => rfl) ?_
    refine g1 (n := 1) rfl rfl rfl rfl ?_
    refine n_ic rfl (inr_gi _ _ _) ⟨by decide, by decide⟩ (fun c => ?_) (fun c => ?_)
    · replace h := h.2 c
      refine g1 (n := 1) rfl rfl rfl (la_of a0) ?_
      refine n_gr rfl hS.1 rfl (fun _ => rfl) hR (rk_360 hS).2 ?_
      refine g1 (n := 1) rfl rfl rfl (li_of l2) ?_
      obtain ⟨q, h⟩ := h
      refine n_ia rfl (rk_360 hS).1 (Nat.le_of_ble_eq_true rfl) q ?_
      have ia : inr (gi M 360 (v1).toNat) := inr_gi _ _ _
      obtain ⟨h1, h⟩ := h
      by_cases e0 : (gi M 360 (v1).toNat) = 0
      · replace h := h1 e0
        refine n_sw e0 rfl rfl rfl ?_
        refine g1 (n := 1) rfl rfl rfl (ll_of l1) ?_
        refine g1 (n := 1) rfl rfl rfl rfl ?_
        refine n_op (T := (lg_cmp s0 (Int64.ofNat 0))) rfl rfl rfl ?_
        refine n_if rfl (inr_ti _) (fun c => ?_) (fun c => ?_)
        · replace h := h.1 c
          refine g1 (n := 1) rfl rfl rfl (la_of a0) ?_
          refine g1 (n := 1) rfl rfl rfl (li_of l2) ?_
          refine g1 (n := 1) rfl rfl rfl (la_of a0) ?_
          refine n_gr rfl hS.1 rfl (fun _ => rfl) hR (rk_366 hS).2 ?_
          refine g1 (n := 1) rfl rfl rfl (li_of l2) ?_
          obtain ⟨q, h⟩ := h
          refine n_ia rfl (rk_366 hS).1 (Nat.le_of_ble_eq_true rfl) q ?_
          refine m_iv (a := 353) (as := [zv v1, zv (gi M 366 (v1).toNat)]) (rest := []) rfl (by decide) hS.1 rfl rfl (Nat.le_of_ble_eq_true rfl) ⟨Nat.le_of_ble_eq_true rfl, Nat.le_of_ble_eq_true rfl, Nat.le_of_ble_eq_true rfl⟩ ?_
          refine gx_room (gx_mono (W_goIn_m hS hR h) ?_) (Nat.le_of_ble_eq_true rfl) (Nat.le_of_ble_eq_true rfl)
          rintro _ _ ⟨M1, rfl, rfl, r1, h⟩
          refine g3 rfl rfl rfl ?_
          exact W_step_346 hS r1  h
        · replace h := h.2 c
          refine g1 (n := 1) rfl rfl rfl (la_of a0) ?_
          refine g1 (n := 1) rfl rfl rfl (li_of l2) ?_
          refine g1 (n := 1) rfl rfl rfl (la_of a0) ?_
          refine n_gr rfl hS.1 rfl (fun _ => rfl) hR (rk_365 hS).2 ?_
          refine g1 (n := 1) rfl rfl rfl (li_of l2) ?_
          obtain ⟨q, h⟩ := h
          refine n_ia rfl (rk_365 hS).1 (Nat.le_of_ble_eq_true rfl) q ?_
          refine m_iv (a := 353) (as := [zv v1, zv (gi M 365 (v1).toNat)]) (rest := []) rfl (by decide) hS.1 rfl rfl (Nat.le_of_ble_eq_true rfl) ⟨Nat.le_of_ble_eq_true rfl, Nat.le_of_ble_eq_true rfl, Nat.le_of_ble_eq_true rfl⟩ ?_
          refine gx_room (gx_mono (W_goIn_m hS hR h) ?_) (Nat.le_of_ble_eq_true rfl) (Nat.le_of_ble_eq_true rfl)
          rintro _ _ ⟨M2, rfl, rfl, r2, h⟩
          refine g3 rfl rfl rfl ?_
          exact W_step_346 hS r2  h
      obtain ⟨h1, h⟩ := h
      by_cases e2 : (gi M 360 (v1).toNat) = 2
      · replace h := h1 e2
        refine n_sw e2 rfl rfl rfl ?_
        refine g1 (n := 1) rfl rfl rfl (ll_of l1) ?_
        refine g1 (n := 1) rfl rfl rfl rfl ?_
        refine n_op (T := (lg_cmp s0 (Int64.ofNat 0))) rfl rfl rfl ?_
        refine n_if rfl (inr_ti _) (fun c => ?_) (fun c => ?_)
        · replace h := h.1 c
          refine g1 (n := 1) rfl rfl rfl (la_of a0) ?_
          refine g1 (n := 1) rfl rfl rfl (la_of a0) ?_
          refine g1 (n := 1) rfl rfl rfl (li_of l2) ?_
          refine m_iv (a := 353) (as := [zv v1]) (rest := [.ref 353]) rfl (by decide) hS.1 rfl rfl (Nat.le_of_ble_eq_true rfl) ⟨Nat.le_of_ble_eq_true rfl, Nat.le_of_ble_eq_true rfl, Nat.le_of_ble_eq_true rfl⟩ ?_
          refine gx_room (gx_mono (W_behind_m hS hR h) ?_) (Nat.le_of_ble_eq_true rfl) (Nat.le_of_ble_eq_true rfl)
          rintro _ _ ⟨z3, M3, rfl, rfl, r3, h⟩
          refine n_pi (Nat.le_of_ble_eq_true rfl) rfl hS.1 rfl (fun _ _ => rfl) (fun M4 e r => ?_)
          replace h := h M4 e
          have r4 := r3.trans r
          refine g3 rfl rfl rfl ?_
          exact W_step_346 hS r4  h
        · replace h := h.2 c
          refine g1 (n := 1) rfl rfl rfl (la_of a0) ?_
          refine g1 (n := 1) rfl rfl rfl (li_of l2) ?_
          refine g1 (n := 1) rfl rfl rfl (la_of a0) ?_
          refine n_gr rfl hS.1 rfl (fun _ => rfl) hR (rk_365 hS).2 ?_
          refine g1 (n := 1) rfl rfl rfl (li_of l2) ?_
          obtain ⟨q, h⟩ := h
          refine n_ia rfl (rk_365 hS).1 (Nat.le_of_ble_eq_true rfl) q ?_
          refine m_iv (a := 353) (as := [zv v1, zv (gi M 365 (v1).toNat)]) (rest := []) rfl (by decide) hS.1 rfl rfl (Nat.le_of_ble_eq_true rfl) ⟨Nat.le_of_ble_eq_true rfl, Nat.le_of_ble_eq_true rfl, Nat.le_of_ble_eq_true rfl⟩ ?_
          refine gx_room (gx_mono (W_goIn_m hS hR h) ?_) (Nat.le_of_ble_eq_true rfl) (Nat.le_of_ble_eq_true rfl)
          rintro _ _ ⟨M5, rfl, rfl, r5, h⟩
          refine g3 rfl rfl rfl ?_
          exact W_step_346 hS r5  h
      obtain ⟨h1, h⟩ := h
      by_cases e3 : (gi M 360 (v1).toNat) = 3
      · replace h := h1 e3
        refine n_sw e3 rfl rfl rfl ?_
        refine g1 (n := 1) rfl rfl rfl (la_of a0) ?_
        refine g1 (n := 1) rfl rfl rfl (li_of l2) ?_
        refine m_iv (a := 353) (as := [zv v1]) (rest := []) rfl (by decide) hS.1 rfl rfl (Nat.le_of_ble_eq_true rfl) ⟨Nat.le_of_ble_eq_true rfl, Nat.le_of_ble_eq_true rfl, Nat.le_of_ble_eq_true rfl⟩ ?_
        refine gx_room (gx_mono (W_retryFrom_m hS hR h) ?_) (Nat.le_of_ble_eq_true rfl) (Nat.le_of_ble_eq_true rfl)
        rintro _ _ ⟨z6, M6, rfl, rfl, r6, h⟩
        exact gx_ret rfl rfl ⟨z6, M6, rfl, rfl, r6, h⟩
      obtain ⟨h1, h⟩ := h
      by_cases e4 : (gi M 360 (v1).toNat) = 4
      · replace h := h1 e4
        refine n_sw e4 rfl rfl rfl ?_
        refine g1 (n := 1) rfl rfl rfl (la_of a0) ?_
        refine g1 (n := 1) rfl rfl rfl (ll_of l1) ?_
        refine n_pl (Nat.le_of_ble_eq_true rfl) rfl hS.1 rfl (fun _ _ => rfl) (fun M7 e r => ?_)
        replace h := h M7 e
        have r7 := hR.trans r
        refine g1 (n := 1) rfl rfl rfl (la_of a0) ?_
        refine g1 (n := 1) rfl rfl rfl (li_of l2) ?_
        refine m_iv (a := 353) (as := [zv v1]) (rest := []) rfl (by decide) hS.1 rfl rfl (Nat.le_of_ble_eq_true rfl) ⟨Nat.le_of_ble_eq_true rfl, Nat.le_of_ble_eq_true rfl, Nat.le_of_ble_eq_true rfl⟩ ?_
        refine gx_room (gx_mono (W_throwFrom_m hS r7 h) ?_) (Nat.le_of_ble_eq_true rfl) (Nat.le_of_ble_eq_true rfl)
        rintro _ _ ⟨z8, M8, rfl, rfl, r8, h⟩
        exact gx_ret rfl rfl ⟨z8, M8, rfl, rfl, r8, h⟩
      obtain ⟨h1, h⟩ := h
      by_cases e9 : (gi M 360 (v1).toNat) = 9
      · replace h := h1 e9
        refine n_sw e9 rfl rfl rfl ?_
        refine g1 (n := 1) rfl rfl rfl (la_of a0) ?_
        refine n_gr rfl hS.1 rfl (fun _ => rfl) hR (rk_393 hS).2 ?_
        refine g1 (n := 1) rfl rfl rfl (la_of a0) ?_
        refine n_gi rfl hS.1 rfl (fun _ => rfl) ?_
        refine g1 (n := 1) rfl rfl rfl (la_of a0) ?_
        refine n_gr rfl hS.1 rfl (fun _ => rfl) hR (rk_364 hS).2 ?_
        refine g1 (n := 1) rfl rfl rfl (li_of l2) ?_
        obtain ⟨q, h⟩ := h
        refine n_ia rfl (rk_364 hS).1 (Nat.le_of_ble_eq_true rfl) q ?_
        obtain ⟨q, h⟩ := h
        refine n_is (Nat.le_of_ble_eq_true rfl) rfl (rk_393 hS).1 (Nat.le_of_ble_eq_true rfl) q (fun M9 e r => ?_)
        replace h := h M9 e
        have r9 := hR.trans r
        refine g1 (n := 1) rfl rfl rfl (la_of a0) ?_
        refine g0 rfl rfl rfl ?_
        refine n_gi rfl hS.1 rfl (fun _ => rfl) ?_
        refine g1 (n := 1) rfl rfl rfl rfl ?_
        refine n_add rfl ?_
        refine n_pi (Nat.le_of_ble_eq_true rfl) rfl hS.1 rfl (fun _ _ => rfl) (fun M10 e r => ?_)
        replace h := h M10 e
        have r10 := r9.trans r
        refine g1 (n := 1) rfl rfl rfl (la_of a0) ?_
        refine g1 (n := 1) rfl rfl rfl (la_of a0) ?_
        refine g1 (n := 1) rfl rfl rfl (li_of l2) ?_
        refine m_iv (a := 353) (as := [zv v1]) (rest := [.ref 353]) rfl (by decide) hS.1 rfl rfl (Nat.le_of_ble_eq_true rfl) ⟨Nat.le_of_ble_eq_true rfl, Nat.le_of_ble_eq_true rfl, Nat.le_of_ble_eq_true rfl⟩ ?_
        refine gx_room (gx_mono (W_behind_m hS r10 h) ?_) (Nat.le_of_ble_eq_true rfl) (Nat.le_of_ble_eq_true rfl)
        rintro _ _ ⟨z11, M11, rfl, rfl, r11, h⟩
        refine n_pi (Nat.le_of_ble_eq_true rfl) rfl hS.1 rfl (fun _ _ => rfl) (fun M12 e r => ?_)
        replace h := h M12 e
        have r12 := r11.trans r
        refine g3 rfl rfl rfl ?_
        exact W_step_346 hS r12  h
      obtain ⟨h1, h⟩ := h
      by_cases e20 : (gi M 360 (v1).toNat) = 20
      · replace h := h1 e20
        refine n_sw e20 rfl rfl rfl ?_
        refine g1 (n := 1) rfl rfl rfl (la_of a0) ?_
        refine n_gr rfl hS.1 rfl (fun _ => rfl) hR (rk_367 hS).2 ?_
        refine g1 (n := 1) rfl rfl rfl (li_of l2) ?_
        obtain ⟨q, h⟩ := h
        refine n_ia rfl (rk_367 hS).1 (Nat.le_of_ble_eq_true rfl) q ?_
        refine n_bi rfl (by decide) ?_
        refine n_ic rfl (inr_gi _ _ _) ⟨by decide, by decide⟩ (fun c => ?_) (fun c => ?_)
        · replace h := h.1 c
          refine g1 (n := 1) rfl rfl rfl (la_of a0) ?_
          refine n_gr rfl hS.1 rfl (fun _ => rfl) hR (rk_391 hS).2 ?_
          refine g1 (n := 1) rfl rfl rfl (la_of a0) ?_
          refine n_gr rfl hS.1 rfl (fun _ => rfl) hR (rk_367 hS).2 ?_
          refine g1 (n := 1) rfl rfl rfl (li_of l2) ?_
          obtain ⟨q, h⟩ := h
          refine n_ia rfl (rk_367 hS).1 (Nat.le_of_ble_eq_true rfl) q ?_
          refine g1 (n := 1) rfl rfl rfl (ll_of l1) ?_
          obtain ⟨q, h⟩ := h
          refine n_ls (Nat.le_of_ble_eq_true rfl) rfl (rk_391 hS).1 (Nat.le_of_ble_eq_true rfl) q (fun M13 e r => ?_)
          replace h := h M13 e
          have r13 := hR.trans r
          refine g1 (n := 1) rfl rfl rfl (la_of a0) ?_
          refine g1 (n := 1) rfl rfl rfl (la_of a0) ?_
          refine n_gi rfl hS.1 rfl (fun _ => rfl) ?_
          refine g1 (n := 1) rfl rfl rfl rfl ?_
          refine g1 (n := 1) rfl rfl rfl (la_of a0) ?_
          refine n_gr rfl hS.1 rfl (fun _ => rfl) r13 (rk_367 hS).2 ?_
          refine g1 (n := 1) rfl rfl rfl (li_of l2) ?_
          obtain ⟨q, h⟩ := h
          refine n_ia rfl (rk_367 hS).1 (Nat.le_of_ble_eq_true rfl) q ?_
          refine n_op (T := (Int32.ofInt 1 <<< (Int32.ofInt (gi M13 367 (v1).toNat) &&& 31))) rfl rfl rfl ?_
          refine n_op (T := (Int32.ofInt (gi M13 353 55) ||| Int32.ofInt (Int32.ofInt 1 <<< (Int32.ofInt (gi M13 367 (v1).toNat) &&& 31)).toInt)) rfl rfl rfl ?_
          refine n_pi (Nat.le_of_ble_eq_true rfl) rfl hS.1 rfl (fun _ _ => rfl) (fun M14 e r => ?_)
          replace h := h M14 e
          have r14 := r13.trans r
          exact W_step_198 hS r14 a0 l2 h
        · replace h := h.2 c
          refine g1 (n := 1) rfl rfl rfl (la_of a0) ?_
          refine n_gr rfl hS.1 rfl (fun _ => rfl) hR (rk_392 hS).2 ?_
          refine g1 (n := 1) rfl rfl rfl (la_of a0) ?_
          refine n_gr rfl hS.1 rfl (fun _ => rfl) hR (rk_367 hS).2 ?_
          refine g1 (n := 1) rfl rfl rfl (li_of l2) ?_
          obtain ⟨q, h⟩ := h
          refine n_ia rfl (rk_367 hS).1 (Nat.le_of_ble_eq_true rfl) q ?_
          refine n_bi rfl (by decide) ?_
          refine n_sub rfl ?_
          refine g1 (n := 1) rfl rfl rfl (ll_of l1) ?_
          obtain ⟨q, h⟩ := h
          refine n_ls (Nat.le_of_ble_eq_true rfl) rfl (rk_392 hS).1 (Nat.le_of_ble_eq_true rfl) q (fun M15 e r => ?_)
          replace h := h M15 e
          have r15 := hR.trans r
          refine g3 rfl rfl rfl ?_
          exact W_step_198 hS r15 a0 l2 h
      replace h := h ⟨e0, e2, e3, e4, e9, e20⟩
      refine n_swl (t := 330) rfl ia (by simp only [List.tail_cons, rf_sw, if_neg (Ne.symm e0), if_neg (Ne.symm e2), if_neg (Ne.symm e3), if_neg (Ne.symm e4), if_neg (Ne.symm e9), if_neg (Ne.symm e20)]; rfl) ?_
      refine g1 (n := 1) rfl rfl rfl (la_of a0) ?_
      refine g1 (n := 1) rfl rfl rfl (li_of l2) ?_
      refine m_iv (a := 353) (as := [zv v1]) (rest := []) rfl (by decide) hS.1 rfl rfl (Nat.le_of_ble_eq_true rfl) ⟨Nat.le_of_ble_eq_true rfl, Nat.le_of_ble_eq_true rfl, Nat.le_of_ble_eq_true rfl⟩ ?_
      refine gx_room (gx_mono (W_keep_m hS hR h) ?_) (Nat.le_of_ble_eq_true rfl) (Nat.le_of_ble_eq_true rfl)
      rintro _ _ ⟨M16, rfl, rfl, r16, h⟩
      refine g1 (n := 1) rfl rfl rfl (la_of a0) ?_
      refine g1 (n := 1) rfl rfl rfl (li_of l2) ?_
      refine g1 (n := 1) rfl rfl rfl (la_of a0) ?_
      refine n_gr rfl hS.1 rfl (fun _ => rfl) r16 (rk_365 hS).2 ?_
      refine g1 (n := 1) rfl rfl rfl (li_of l2) ?_
      obtain ⟨q, h⟩ := h
      refine n_ia rfl (rk_365 hS).1 (Nat.le_of_ble_eq_true rfl) q ?_
      refine m_iv (a := 353) (as := [zv v1, zv (gi M16 365 (v1).toNat)]) (rest := []) rfl (by decide) hS.1 rfl rfl (Nat.le_of_ble_eq_true rfl) ⟨Nat.le_of_ble_eq_true rfl, Nat.le_of_ble_eq_true rfl, Nat.le_of_ble_eq_true rfl⟩ ?_
      refine gx_room (gx_mono (W_goIn_m hS r16 h) ?_) (Nat.le_of_ble_eq_true rfl) (Nat.le_of_ble_eq_true rfl)
      rintro _ _ ⟨M17, rfl, rfl, r17, h⟩
      exact W_step_346 hS r17  h
    · replace h := h.1 (Classical.not_not.mp c)
      refine g1 (n := 1) rfl rfl rfl (la_of a0) ?_
      refine g1 (n := 1) rfl rfl rfl (li_of l2) ?_
      refine m_iv (a := 353) (as := [zv v1]) (rest := []) rfl (by decide) hS.1 rfl rfl (Nat.le_of_ble_eq_true rfl) ⟨Nat.le_of_ble_eq_true rfl, Nat.le_of_ble_eq_true rfl, Nat.le_of_ble_eq_true rfl⟩ ?_
      refine gx_room (gx_mono (W_throwFrom_m hS hR h) ?_) (Nat.le_of_ble_eq_true rfl) (Nat.le_of_ble_eq_true rfl)
      rintro _ _ ⟨z18, M18, rfl, rfl, r18, h⟩
      exact gx_ret rfl rfl ⟨z18, M18, rfl, rfl, r18, h⟩
  · replace h := h.1 (Classical.not_not.mp c)
    refine g1 (n := 1) rfl rfl rfl rfl ?_
    exact gx_ret rfl rfl ⟨1, M, rfl, rfl, hR, h⟩
def w_step_50 (v1 : Int) (M : rf_M) (K : Int → rf_M → Prop) : Prop := w_step_51 v1 (Int64.ofNat 0) M K
theorem W_step_50 {fz : Bool} {S : gS} {B : rf_M} {M : rf_M} {ls : rf_L} {v1 : Int} {K : Int → rf_M → Prop} (hS : rk fz S B.2.2) (hR : fq B M) (a0 : rf_ld ls 0 = some (.ref 353)) (a1 : rf_ld ls 1 = some (zv v1)) (h : w_step_50 v1 M K) : gx (cx0 fz) (3, 67) 162 50 ls [] (M, S) (vq_i B S K) := by
  unfold w_step_50 at h
  refine g1 (n := 1) rfl rfl rfl rfl ?_
  exact W_step_51 hS hR a0 a1 h
def w_step (M : rf_M) (K : Int → rf_M → Prop) : Prop := (0 ≤ (gi M 353 60) → (∀ M1 : rf_M, M1 = wi M 353 65 0 → ((0 ≤ (gi M 353 60) ∧ (gi M 353 60) < 480) ∧ (((gi M1 364 (gi M 353 60).toNat) < 0 → (w_step_50 (gi M 353 60) M1 K)) ∧ (¬ ((gi M1 364 (gi M 353 60).toNat) < 0) → ((0 ≤ (gi M 353 60) ∧ (gi M 353 60) < 480) ∧ (((gi M1 360 (gi M 353 60).toNat) = 9 → (w_step_50 (gi M 353 60) M1 K)) ∧ (¬ ((gi M1 360 (gi M 353 60).toNat) = 9) → ((0 ≤ (gi M 353 60) ∧ (gi M 353 60) < 480) ∧ (wm_work (gi M1 364 (gi M 353 60).toNat) 0 M1 (fun (z2 : Int64) (M2 : rf_M) => w_step_51 (gi M 353 60) z2 M2 K))))))))))) ∧ (¬ (0 ≤ (gi M 353 60)) → (K 4 M))
theorem W_step {fz : Bool} {S : gS} {B : rf_M} {M : rf_M} {ls : rf_L} {K : Int → rf_M → Prop} (hS : rk fz S B.2.2) (hR : fq B M) (a0 : rf_ld ls 0 = some (.ref 353)) (h : w_step M K) : gx (cx0 fz) (3, 67) 162 0 ls [] (M, S) (vq_i B S K) := by
  unfold w_step at h
  refine g1 (n := 1) rfl rfl rfl (la_of a0) ?_
  refine n_gi rfl hS.1 rfl (fun _ => rfl) ?_
  refine n_s1 (n := 1) rfl rfl rfl rfl (fun ls l1 ho => ?_)
  replace a0 := ho 0 _ (by decide) (fun q => by cases q.2) a0
  refine g1 (n := 1) rfl rfl rfl (li_of l1) ?_
  refine n_if rfl (inr_gi _ _ _) (fun c => ?_) (fun c => ?_)
  · replace h := h.1 c
    refine g1 (n := 1) rfl rfl rfl (la_of a0) ?_
    refine g1 (n := 1) rfl rfl rfl rfl ?_
    refine n_pi (Nat.le_of_ble_eq_true rfl) rfl hS.1 rfl (fun _ _ => rfl) (fun M1 e r => ?_)
    replace h := h M1 e
    have r1 := hR.trans r
    refine g1 (n := 1) rfl rfl rfl (la_of a0) ?_
    refine n_gr rfl hS.1 rfl (fun _ => rfl) r1 (rk_364 hS).2 ?_
    refine g1 (n := 1) rfl rfl rfl (li_of l1) ?_
    obtain ⟨q, h⟩ := h
    refine n_ia rfl (rk_364 hS).1 (Nat.le_of_ble_eq_true rfl) q ?_
    refine n_if rfl (inr_gi _ _ _) (fun c => ?_) (fun c => ?_)
    · replace h := h.1 c
      exact W_step_50 hS r1 a0 l1 h
    · replace h := h.2 c
      refine g1 (n := 1) rfl rfl rfl (la_of a0) ?_
      refine n_gr rfl hS.1 rfl (fun _ => rfl) r1 (rk_360 hS).2 ?_
      refine g1 (n := 1) rfl rfl rfl (li_of l1) ?_
      obtain ⟨q, h⟩ := h
      refine n_ia rfl (rk_360 hS).1 (Nat.le_of_ble_eq_true rfl) q ?_
      refine n_bi rfl (by decide) ?_
      refine n_ic rfl (inr_gi _ _ _) ⟨by decide, by decide⟩ (fun c => ?_) (fun c => ?_)
      · replace h := h.1 c
        exact W_step_50 hS r1 a0 l1 h
      · replace h := h.2 c
        refine g1 (n := 1) rfl rfl rfl (la_of a0) ?_
        refine g1 (n := 1) rfl rfl rfl (la_of a0) ?_
        refine n_gr rfl hS.1 rfl (fun _ => rfl) r1 (rk_364 hS).2 ?_
        refine g1 (n := 1) rfl rfl rfl (li_of l1) ?_
        obtain ⟨q, h⟩ := h
        refine n_ia rfl (rk_364 hS).1 (Nat.le_of_ble_eq_true rfl) q ?_
        refine g1 (n := 1) rfl rfl rfl rfl ?_
        refine m_iv (a := 353) (as := [zv (gi M1 364 (gi M 353 60).toNat), zv 0]) (rest := []) rfl (by decide) hS.1 rfl rfl (Nat.le_of_ble_eq_true rfl) ⟨Nat.le_of_ble_eq_true rfl, Nat.le_of_ble_eq_true rfl, Nat.le_of_ble_eq_true rfl⟩ ?_
        refine gx_room (gx_mono (W_work_m hS r1 h) ?_) (Nat.le_of_ble_eq_true rfl) (Nat.le_of_ble_eq_true rfl)
        rintro _ _ ⟨z2, M2, rfl, rfl, r2, h⟩
        refine g3 rfl rfl rfl ?_
        exact W_step_51 hS r2 a0 l1 h
  · replace h := h.2 c
    refine g1 (n := 1) rfl rfl rfl rfl ?_
    exact gx_ret rfl rfl ⟨4, M, rfl, rfl, hR, h⟩
def wm_step (M : rf_M) (K : Int → rf_M → Prop) : Prop := w_step  M K
theorem W_step_m {fz : Bool} {S : gS} {B : rf_M} {M : rf_M} {K : Int → rf_M → Prop} (hS : rk fz S B.2.2) (hR : fq B M) (h : wm_step  M K) : gx (cx0 fz) (3, 67) 162 0 (lv_args 0 [.ref 353]) [] (M, S) (vq_i B S K) :=
  W_step hS hR rfl h
def w_walkAnew_21b (v1 : Int) (v2 : Int) (M : rf_M) (b21 : Int → Int → rf_M → Prop) (K : rf_M → Prop) : Prop := (0 ≤ v1 ∧ v1 < 8) ∧ (inr v2 ∧ (((gi M 383 (v1).toNat) ≤ v2 → (K M)) ∧ (¬ ((gi M 383 (v1).toNat) ≤ v2) → (wm_step  M (fun (z1 : Int) (M1 : rf_M) => b21 v1 (v2 + 1) M1)))))
theorem W_walkAnew_21b {fz : Bool} {S : gS} {B : rf_M} {M : rf_M} {ls : rf_L} {v1 : Int} {v2 : Int} {b21 : Int → Int → rf_M → Prop} {K : rf_M → Prop} (hS : rk fz S B.2.2) (hR : fq B M) (a0 : rf_ld ls 0 = some (.ref 353)) (a1 : rf_ld ls 1 = some (zv v1)) (a2 : rf_ld ls 2 = some (zv v2)) (hb21 : ∀ (v1 : Int) (v2 : Int) (M : rf_M) (ls : rf_L), fq B M → rf_ld ls 0 = some (.ref 353) → rf_ld ls 1 = some (zv v1) → rf_ld ls 2 = some (zv v2) → b21 v1 v2 M → gx (cx0 fz) (4, 90) 159 21 ls [] (M, S) (vq_v B S K)) (h : w_walkAnew_21b v1 v2 M b21 K) : gx (cx0 fz) (4, 90) 159 21 ls [] (M, S) (vq_v B S K) := by
  unfold w_walkAnew_21b at h
  refine g1 (n := 1) rfl rfl rfl (li_of a2) ?_
  refine g1 (n := 1) rfl rfl rfl (la_of a0) ?_
  refine n_gr rfl hS.1 rfl (fun _ => rfl) hR (rk_383 hS).2 ?_
  refine g1 (n := 1) rfl rfl rfl (li_of a1) ?_
  obtain ⟨q, h⟩ := h
  refine n_ia rfl (rk_383 hS).1 (Nat.le_of_ble_eq_true rfl) q ?_
  obtain ⟨i1, h⟩ := h
  refine n_ic rfl i1 (inr_gi _ _ _) (fun c => ?_) (fun c => ?_)
  · replace h := h.1 c
    exact gx_ret rfl rfl ⟨M, rfl, rfl, hR, h⟩
  · replace h := h.2 c
    refine g1 (n := 1) rfl rfl rfl (la_of a0) ?_
    refine m_iv (a := 353) (as := []) (rest := []) rfl (by decide) hS.1 rfl rfl (Nat.le_of_ble_eq_true rfl) ⟨Nat.le_of_ble_eq_true rfl, Nat.le_of_ble_eq_true rfl, Nat.le_of_ble_eq_true rfl⟩ ?_
    refine gx_room (gx_mono (W_step_m hS hR h) ?_) (Nat.le_of_ble_eq_true rfl) (Nat.le_of_ble_eq_true rfl)
    rintro _ _ ⟨z1, M1, rfl, rfl, r1, h⟩
    refine n_s1 (n := 1) rfl rfl rfl rfl (fun ls l1 ho => ?_)
    replace a0 := ho 0 _ (by decide) (fun q => by cases q.2) a0
    have l2 := ho 1 _ (by decide) (fun q => by cases q.2) a1
    have l3 := ho 2 _ (by decide) (fun q => by cases q.2) a2
    refine n_ii rfl l3 (Nat.le_of_ble_eq_true rfl) (fun ls l4 ho => ?_)
    replace a0 := ho 0 _ (by decide) (fun q => by cases q.2) a0
    have l5 := ho 1 _ (by decide) (fun q => by cases q.2) l2
    refine g3 rfl rfl rfl ?_
    exact hb21 _ _ _ _ r1 a0 l5 l4 h
def w_walkAnew_21 (v1 : Int) (v2 : Int) (M : rf_M) (K : rf_M → Prop) : Prop := ∃ Inv : Nat → Int → Int → rf_M → Prop, (∃ m, Inv m v1 v2 M) ∧ ∀ (m : Nat) (v1 : Int) (v2 : Int) (M : rf_M), Inv m v1 v2 M → w_walkAnew_21b v1 v2 M (fun (v1' : Int) (v2' : Int) (M' : rf_M) => ∃ m', m' < m ∧ Inv m' v1' v2' M') K
theorem W_walkAnew_21 {fz : Bool} {S : gS} {B : rf_M} {M : rf_M} {ls : rf_L} {v1 : Int} {v2 : Int} {K : rf_M → Prop} (hS : rk fz S B.2.2) (hR : fq B M) (a0 : rf_ld ls 0 = some (.ref 353)) (a1 : rf_ld ls 1 = some (zv v1)) (a2 : rf_ld ls 2 = some (zv v2)) (h : w_walkAnew_21 v1 v2 M K) : gx (cx0 fz) (4, 90) 159 21 ls [] (M, S) (vq_v B S K) := by
  obtain ⟨Inv, ⟨m, hm⟩, hb⟩ := h
  induction m using Nat.strongRecOn generalizing ls M v1 v2 with
  | _ m ih =>
    refine W_walkAnew_21b hS hR a0 a1 a2 (fun v1' v2' M' ls' hR' f0 f1 f2 ⟨m', q1, q2⟩ => ih m' q1 hR' f0 f1 f2 q2) (hb m v1 v2 M hm)
def w_walkAnew (v1 : Int) (M : rf_M) (K : rf_M → Prop) : Prop := ∀ M1 : rf_M, M1 = wi M 353 42 0 → (wm_bringRead v1 M1 (fun (M2 : rf_M) => wm_firstOf v1 M2 (fun (z3 : Int) (M3 : rf_M) => wm_beginWalk z3 M3 (fun (M4 : rf_M) => w_walkAnew_21 v1 0 M4 K))))
theorem W_walkAnew {fz : Bool} {S : gS} {B : rf_M} {M : rf_M} {ls : rf_L} {v1 : Int} {K : rf_M → Prop} (hS : rk fz S B.2.2) (hR : fq B M) (a0 : rf_ld ls 0 = some (.ref 353)) (a1 : rf_ld ls 1 = some (zv v1)) (h : w_walkAnew v1 M K) : gx (cx0 fz) (4, 90) 159 0 ls [] (M, S) (vq_v B S K) := by
  unfold w_walkAnew at h
  refine g1 (n := 1) rfl rfl rfl (la_of a0) ?_
  refine g1 (n := 1) rfl rfl rfl rfl ?_
  refine n_pi (Nat.le_of_ble_eq_true rfl) rfl hS.1 rfl (fun _ _ => rfl) (fun M1 e r => ?_)
  replace h := h M1 e
  have r1 := hR.trans r
  refine g1 (n := 1) rfl rfl rfl (la_of a0) ?_
  refine g1 (n := 1) rfl rfl rfl (li_of a1) ?_
  refine m_iv (a := 353) (as := [zv v1]) (rest := []) rfl (by decide) hS.1 rfl rfl (Nat.le_of_ble_eq_true rfl) ⟨Nat.le_of_ble_eq_true rfl, Nat.le_of_ble_eq_true rfl, Nat.le_of_ble_eq_true rfl⟩ ?_
  refine gx_room (gx_mono (W_bringRead_m hS r1 h) ?_) (Nat.le_of_ble_eq_true rfl) (Nat.le_of_ble_eq_true rfl)
  rintro _ _ ⟨M2, rfl, rfl, r2, h⟩
  refine g1 (n := 1) rfl rfl rfl (la_of a0) ?_
  refine g1 (n := 1) rfl rfl rfl (la_of a0) ?_
  refine g1 (n := 1) rfl rfl rfl (li_of a1) ?_
  refine m_iv (a := 353) (as := [zv v1]) (rest := [.ref 353]) rfl (by decide) hS.1 rfl rfl (Nat.le_of_ble_eq_true rfl) ⟨Nat.le_of_ble_eq_true rfl, Nat.le_of_ble_eq_true rfl, Nat.le_of_ble_eq_true rfl⟩ ?_
  refine gx_room (gx_mono (W_firstOf_m hS r2 h) ?_) (Nat.le_of_ble_eq_true rfl) (Nat.le_of_ble_eq_true rfl)
  rintro _ _ ⟨z3, M3, rfl, rfl, r3, h⟩
  refine m_iv (a := 353) (as := [zv z3]) (rest := []) rfl (by decide) hS.1 rfl rfl (Nat.le_of_ble_eq_true rfl) ⟨Nat.le_of_ble_eq_true rfl, Nat.le_of_ble_eq_true rfl, Nat.le_of_ble_eq_true rfl⟩ ?_
  refine gx_room (gx_mono (W_beginWalk_m hS r3 h) ?_) (Nat.le_of_ble_eq_true rfl) (Nat.le_of_ble_eq_true rfl)
  rintro _ _ ⟨M4, rfl, rfl, r4, h⟩
  refine g1 (n := 1) rfl rfl rfl rfl ?_
  refine n_s1 (n := 1) rfl rfl rfl rfl (fun ls l1 ho => ?_)
  replace a0 := ho 0 _ (by decide) (fun q => by cases q.2) a0
  have l2 := ho 1 _ (by decide) (fun q => by cases q.2) a1
  exact W_walkAnew_21 hS r4 a0 l2 l1 h
def wm_walkAnew (x0 : Int) (M : rf_M) (K : rf_M → Prop) : Prop := w_walkAnew x0 M K
theorem W_walkAnew_m {fz : Bool} {S : gS} {B : rf_M} {M : rf_M} {x0 : Int} {K : rf_M → Prop} (hS : rk fz S B.2.2) (hR : fq B M) (h : wm_walkAnew x0 M K) : gx (cx0 fz) (4, 90) 159 0 (lv_args 0 [.ref 353, zv x0]) [] (M, S) (vq_v B S K) :=
  W_walkAnew hS hR rfl rfl h
def w_keepRead_12b (v1 : Int) (v2 : Int) (M : rf_M) (b12 : Int → Int → rf_M → Prop) (K : rf_M → Prop) : Prop := inr v2 ∧ ((16 ≤ v2 → (K M)) ∧ (¬ (16 ≤ v2) → ((0 ≤ v2 ∧ v2 < 16) ∧ ((0 ≤ ((16 * v1) + v2) ∧ ((16 * v1) + v2) < 128) ∧ (∀ M1 : rf_M, M1 = wl M 387 ((16 * v1) + v2).toNat (gl M 389 (v2).toNat) → ((0 ≤ v2 ∧ v2 < 16) ∧ ((0 ≤ ((16 * v1) + v2) ∧ ((16 * v1) + v2) < 128) ∧ (∀ M2 : rf_M, M2 = wi M1 388 ((16 * v1) + v2).toNat (gi M1 390 (v2).toNat) → (b12 v1 (v2 + 1) M2)))))))))
theorem W_keepRead_12b {fz : Bool} {S : gS} {B : rf_M} {M : rf_M} {ls : rf_L} {v1 : Int} {v2 : Int} {b12 : Int → Int → rf_M → Prop} {K : rf_M → Prop} (hS : rk fz S B.2.2) (hR : fq B M) (a0 : rf_ld ls 0 = some (.ref 353)) (a1 : rf_ld ls 1 = some (zv v1)) (a2 : rf_ld ls 2 = some (zv v2)) (hb12 : ∀ (v1 : Int) (v2 : Int) (M : rf_M) (ls : rf_L), fq B M → rf_ld ls 0 = some (.ref 353) → rf_ld ls 1 = some (zv v1) → rf_ld ls 2 = some (zv v2) → b12 v1 v2 M → gx (cx0 fz) (0, 0) 173 12 ls [] (M, S) (vq_v B S K)) (h : w_keepRead_12b v1 v2 M b12 K) : gx (cx0 fz) (0, 0) 173 12 ls [] (M, S) (vq_v B S K) := by
  unfold w_keepRead_12b at h
  refine g1 (n := 1) rfl rfl rfl (li_of a2) ?_
  refine n_bi rfl (by decide) ?_
  obtain ⟨i1, h⟩ := h
  refine n_ic rfl i1 ⟨by decide, by decide⟩ (fun c => ?_) (fun c => ?_)
  · replace h := h.1 c
    exact gx_ret rfl rfl ⟨M, rfl, rfl, hR, h⟩
  · replace h := h.2 c
    refine g1 (n := 1) rfl rfl rfl (la_of a0) ?_
    refine n_gr rfl hS.1 rfl (fun _ => rfl) hR (rk_387 hS).2 ?_
    refine n_bi rfl (by decide) ?_
    refine g1 (n := 1) rfl rfl rfl (li_of a1) ?_
    refine n_mul rfl ?_
    refine g1 (n := 1) rfl rfl rfl (li_of a2) ?_
    refine n_add rfl ?_
    refine g1 (n := 1) rfl rfl rfl (la_of a0) ?_
    refine n_gr rfl hS.1 rfl (fun _ => rfl) hR (rk_389 hS).2 ?_
    refine g1 (n := 1) rfl rfl rfl (li_of a2) ?_
    obtain ⟨q, h⟩ := h
    refine n_la rfl (rk_389 hS).1 (Nat.le_of_ble_eq_true rfl) q ?_
    obtain ⟨q, h⟩ := h
    refine n_ls (Nat.le_of_ble_eq_true rfl) rfl (rk_387 hS).1 (Nat.le_of_ble_eq_true rfl) q (fun M1 e r => ?_)
    replace h := h M1 e
    have r1 := hR.trans r
    refine g1 (n := 1) rfl rfl rfl (la_of a0) ?_
    refine n_gr rfl hS.1 rfl (fun _ => rfl) r1 (rk_388 hS).2 ?_
    refine n_bi rfl (by decide) ?_
    refine g1 (n := 1) rfl rfl rfl (li_of a1) ?_
    refine n_mul rfl ?_
    refine g1 (n := 1) rfl rfl rfl (li_of a2) ?_
    refine n_add rfl ?_
    refine g1 (n := 1) rfl rfl rfl (la_of a0) ?_
    refine n_gr rfl hS.1 rfl (fun _ => rfl) r1 (rk_390 hS).2 ?_
    refine g1 (n := 1) rfl rfl rfl (li_of a2) ?_
    obtain ⟨q, h⟩ := h
    refine n_ia rfl (rk_390 hS).1 (Nat.le_of_ble_eq_true rfl) q ?_
    obtain ⟨q, h⟩ := h
    refine n_is (Nat.le_of_ble_eq_true rfl) rfl (rk_388 hS).1 (Nat.le_of_ble_eq_true rfl) q (fun M2 e r => ?_)
    replace h := h M2 e
    have r2 := r1.trans r
    refine n_ii rfl a2 (Nat.le_of_ble_eq_true rfl) (fun ls l1 ho => ?_)
    replace a0 := ho 0 _ (by decide) (fun q => by cases q.2) a0
    have l2 := ho 1 _ (by decide) (fun q => by cases q.2) a1
    refine g3 rfl rfl rfl ?_
    exact hb12 _ _ _ _ r2 a0 l2 l1 h
