def em_R_walkExp (x0 : Nat) (M : rf_M) (K : Int → rf_M → Prop) : Prop := e_R_walkExp x0 M K
theorem E_R_walkExp_m {fz : Bool} {S : gS} {B : rf_M} {M : rf_M} {n0 : Nat} {x0 : Nat} {K : Int → rf_M → Prop} (hS : rl S) (hR : fl 22 353 B M) (mx0 : x0 ∈ k7) (h : em_R_walkExp x0 M K) : lx (cx0 fz) n0 98 0 (lv_args 0 [.ref x0]) [] (M, S) (vl_i 22 353 B S K) :=
  E_R_walkExp hS hR mx0 rfl h
def e_R_step_197 (v1 : Int) (M : rf_M) (K : Int → rf_M → Prop) : Prop := K v1 M
theorem E_R_step_197 {fz : Bool} {S : gS} {B : rf_M} {M : rf_M} {ls : rf_L} {n0 : Nat} {v1 : Int} {K : Int → rf_M → Prop} (hS : rl S) (hR : fl 22 353 B M) (iv1 : inr v1) (a1 : rf_ld ls 1 = some (zv v1)) (h : e_R_step_197 v1 M K) : lx (cx0 fz) n0 90 197 ls [] (M, S) (vl_i 22 353 B S K) := by
  unfold e_R_step_197 at h
  refine l1 (n := 1) rfl rfl rfl (li_of a1) ?_
  exact l_ri rfl rfl iv1 hR h
def e_R_step_183 (v0 : Nat) (v1 : Int) (M : rf_M) (K : Int → rf_M → Prop) : Prop := (v1 = 0 → (∀ M1 : rf_M, M1 = wi M v0 1 ((gi M v0 1) + 1) → (e_R_step_197 v1 M1 K))) ∧ (¬ v1 = 0 → (e_R_step_197 v1 M K))
theorem E_R_step_183 {fz : Bool} {S : gS} {B : rf_M} {M : rf_M} {ls : rf_L} {n0 : Nat} {v0 : Nat} {v1 : Int} {K : Int → rf_M → Prop} (hS : rl S) (hR : fl 22 353 B M) (mv0 : v0 ∈ k7) (iv1 : inr v1) (a0 : rf_ld ls 0 = some (.ref v0)) (a1 : rf_ld ls 1 = some (zv v1)) (h : e_R_step_183 v0 v1 M K) : lx (cx0 fz) n0 90 183 ls [] (M, S) (vl_i 22 353 B S K) := by
  unfold e_R_step_183 at h
  refine l1 (n := 1) rfl rfl rfl (li_of a1) ?_
  refine l_if rfl iv1 (fun c => ?_) (fun c => ?_)
  · replace h := h.2 c
    exact E_R_step_197 hS hR iv1 a1 h
  · replace h := h.1 (Classical.not_not.mp c)
    refine l1 (n := 1) rfl rfl rfl (la_of a0) ?_
    refine l0 rfl rfl rfl ?_
    refine l_gi rfl (ko_7 hS mv0) rfl (fun _ => rfl) ?_
    refine l1 (n := 1) rfl rfl rfl rfl ?_
    refine l_add rfl ?_
    refine l_pi rfl (ko_7 (fz := fz) hS mv0) rfl (fun _ _ => rfl) (fun M1 e => ?_)
    replace h := h M1 e
    have r1 := hR.wi (ko_7 (fz := fz) hS mv0).1 (kl_7 mv0) e
    exact E_R_step_197 hS r1 iv1 a1 h
def e_R_step (v0 : Nat) (M : rf_M) (K : Int → rf_M → Prop) : Prop := ((gi M v0 1) < 300 → (isP M v0 0 ∧ (em_P_has (gr M v0 0) (gi M v0 6) M (fun (z1 : Int) (M1 : rf_M) => (z1 = 0 → (K 1 M1)) ∧ (¬ z1 = 0 → (isP M1 v0 0 ∧ ((0 ≤ (gi M1 v0 6) ∧ (gi M1 v0 6) < 40 → (((gi M1 ((gr M1 v0 0) + 1) (gi M1 v0 6).toNat) = 13 → (em_R_retry v0 M1 (fun (z2 : Int) (M2 : rf_M) => e_R_step_183 v0 z2 M2 K))) ∧ ((gi M1 ((gr M1 v0 0) + 1) (gi M1 v0 6).toNat) = 15 → (isP M1 v0 0 ∧ ((0 ≤ (gi M1 v0 6) ∧ (gi M1 v0 6) < 40 → (em_D_mark (v0 + 2) (gi M1 ((gr M1 v0 0) + 6) (gi M1 v0 6).toNat) M1 (fun (M3 : rf_M) => isP M3 v0 0 ∧ (isP M3 v0 0 ∧ ((0 ≤ (gi M3 v0 6) ∧ (gi M3 v0 6) < 40 → (em_P_into (gr M3 v0 0) (gi M3 v0 6) (gi M3 ((gr M3 v0 0) + 8) (gi M3 v0 6).toNat) M3 (fun (z4 : Int) (M4 : rf_M) => ∀ M5 : rf_M, M5 = wi M4 v0 6 z4 → (e_R_step_183 v0 0 M5 K)))))))))))) ∧ ((gi M1 ((gr M1 v0 0) + 1) (gi M1 v0 6).toNat) = 17 → (isP M1 v0 0 ∧ ((0 ≤ (gi M1 v0 6) ∧ (gi M1 v0 6) < 40 → (em_D_mark (v0 + 2) (gi M1 ((gr M1 v0 0) + 6) (gi M1 v0 6).toNat) M1 (fun (M6 : rf_M) => isP M6 v0 0 ∧ (isP M6 v0 0 ∧ ((0 ≤ (gi M6 v0 6) ∧ (gi M6 v0 6) < 40 → (em_P_into (gr M6 v0 0) (gi M6 v0 6) (gi M6 ((gr M6 v0 0) + 8) (gi M6 v0 6).toNat) M6 (fun (z7 : Int) (M7 : rf_M) => ∀ M8 : rf_M, M8 = wi M7 v0 6 z7 → (e_R_step_183 v0 0 M8 K)))))))))))) ∧ ((gi M1 ((gr M1 v0 0) + 1) (gi M1 v0 6).toNat) = 19 → (em_D_addRule (v0 + 2) (gi M1 v0 6) M1 (fun (M9 : rf_M) => isP M9 v0 0 ∧ (em_P_behind (gr M9 v0 0) (gi M9 v0 6) M9 (fun (z10 : Int) (M10 : rf_M) => ∀ M11 : rf_M, M11 = wi M10 v0 6 z10 → (e_R_step_183 v0 0 M11 K)))))) ∧ (¬ (gi M1 ((gr M1 v0 0) + 1) (gi M1 v0 6).toNat) = 13 ∧ ¬ (gi M1 ((gr M1 v0 0) + 1) (gi M1 v0 6).toNat) = 15 ∧ ¬ (gi M1 ((gr M1 v0 0) + 1) (gi M1 v0 6).toNat) = 17 ∧ ¬ (gi M1 ((gr M1 v0 0) + 1) (gi M1 v0 6).toNat) = 19 → (em_R_walkExp v0 M1 (fun (z12 : Int) (M12 : rf_M) => e_R_step_183 v0 z12 M12 K)))))))))))) ∧ (¬ ((gi M v0 1) < 300) → (∀ M13 : rf_M, M13 = wl M v0 3 (Int64.ofNat 18446744073709551613) → (K 2 M13)))
theorem E_R_step {fz : Bool} {S : gS} {B : rf_M} {M : rf_M} {ls : rf_L} {n0 : Nat} {v0 : Nat} {K : Int → rf_M → Prop} (hS : rl S) (hR : fl 22 353 B M) (mv0 : v0 ∈ k7) (a0 : rf_ld ls 0 = some (.ref v0)) (h : e_R_step v0 M K) : lx (cx0 fz) n0 90 0 ls [] (M, S) (vl_i 22 353 B S K) := by
  unfold e_R_step at h
  refine l1 (n := 1) rfl rfl rfl (la_of a0) ?_
  refine l_gi rfl (ko_7 hS mv0) rfl (fun _ => rfl) ?_
  refine l_si rfl (by decide) ?_
  refine l_ic rfl (inr_gi _ _ _) ⟨by decide, by decide⟩ (fun c => ?_) (fun c => ?_)
  · replace h := h.1 c
    refine l1 (n := 1) rfl rfl rfl (la_of a0) ?_
    obtain ⟨q1, h⟩ := h
    refine l_gr rfl (ko_7 hS mv0) rfl (fun _ => rfl) q1.1 ?_
    refine l1 (n := 1) rfl rfl rfl (la_of a0) ?_
    refine l_gi rfl (ko_7 hS mv0) rfl (fun _ => rfl) ?_
    refine b_iv (c := (gr M v0 0)) (as := [zv (gi M v0 6)]) (rest := []) rfl (by decide) (ko_1 hS q1.2) rfl rfl (Nat.le_of_ble_eq_true rfl) (fun hq => ?_)
    refine lx_mono (E_P_has_m hS hR q1.2 (inr_gi _ _ _) h) ?_
    rintro _ _ ⟨z1, M1, rfl, rfl, r1, iz1, h⟩
    refine l_if rfl iz1 (fun c => ?_) (fun c => ?_)
    · replace h := h.2 c
      refine l1 (n := 1) rfl rfl rfl rfl ?_
      refine l_s1 (n := 1) rfl rfl rfl rfl (fun ls y1 ho => ?_)
      have y2 := ho 0 _ (by decide) (fun q => by cases q.2) a0
      refine l1 (n := 1) rfl rfl rfl (la_of y2) ?_
      obtain ⟨q2, h⟩ := h
      refine l_gr rfl (ko_7 hS mv0) rfl (fun _ => rfl) q2.1 ?_
      refine l_gr rfl (ko_1 hS q2.2) rfl (fun _ => rfl) (kf_1_5 r1.2 q2.2) ?_
      refine l1 (n := 1) rfl rfl rfl (la_of y2) ?_
      refine l_gi rfl (ko_7 hS mv0) rfl (fun _ => rfl) ?_
      refine b_ia rfl (kt_1_5 (fz := fz) hS q2.2).1 (Nat.le_of_ble_eq_true rfl) (inr_gi _ _ _) (fun q => ?_)
      replace h := h q
      have ia : inr (gi M1 ((gr M1 v0 0) + 1) (gi M1 v0 6).toNat) := (inr_gi _ _ _)
      obtain ⟨h1, h⟩ := h
      by_cases e13 : (gi M1 ((gr M1 v0 0) + 1) (gi M1 v0 6).toNat) = 13
      · replace h := h1 e13
        refine l_sw e13 rfl rfl rfl ?_
        refine l1 (n := 1) rfl rfl rfl (la_of y2) ?_
        refine b_iv (c := v0) (as := []) (rest := []) rfl (by decide) (ko_7 hS mv0) rfl rfl (Nat.le_of_ble_eq_true rfl) (fun hq => ?_)
        refine lx_mono (E_R_retry_m hS r1 mv0 h) ?_
        rintro _ _ ⟨z2, M2, rfl, rfl, r2, iz2, h⟩
        refine l_s1 (n := 1) rfl rfl rfl rfl (fun ls y3 ho => ?_)
        have y4 := ho 0 _ (by decide) (fun q => by cases q.2) y2
        refine l3 rfl rfl rfl ?_
        exact E_R_step_183 hS r2 mv0 iz2 y4 y3 h
      obtain ⟨h1, h⟩ := h
      by_cases e15 : (gi M1 ((gr M1 v0 0) + 1) (gi M1 v0 6).toNat) = 15
      · replace h := h1 e15
        refine l_sw e15 rfl rfl rfl ?_
        refine l1 (n := 1) rfl rfl rfl (la_of y2) ?_
        refine l_gr rfl (ko_7 hS mv0) rfl (fun _ => rfl) (kf_7_5 r1.2 mv0) ?_
        refine l1 (n := 1) rfl rfl rfl (la_of y2) ?_
        obtain ⟨q3, h⟩ := h
        refine l_gr rfl (ko_7 hS mv0) rfl (fun _ => rfl) q3.1 ?_
        refine l_gr rfl (ko_1 hS q3.2) rfl (fun _ => rfl) (kf_1_10 r1.2 q3.2) ?_
        refine l1 (n := 1) rfl rfl rfl (la_of y2) ?_
        refine l_gi rfl (ko_7 hS mv0) rfl (fun _ => rfl) ?_
        refine b_ia rfl (kt_1_10 (fz := fz) hS q3.2).1 (Nat.le_of_ble_eq_true rfl) (inr_gi _ _ _) (fun q => ?_)
        replace h := h q
        refine b_iv (c := (v0 + 2)) (as := [zv (gi M1 ((gr M1 v0 0) + 6) (gi M1 v0 6).toNat)]) (rest := []) rfl (by decide) (ko_8 hS (kt_7_5 mv0)) rfl rfl (Nat.le_of_ble_eq_true rfl) (fun hq => ?_)
        refine lx_mono (E_D_mark_m hS r1 (kt_7_5 mv0) (inr_gi _ _ _) h) ?_
        rintro _ _ ⟨M3, rfl, rfl, r3, h⟩
        refine l1 (n := 1) rfl rfl rfl (la_of y2) ?_
        refine l1 (n := 1) rfl rfl rfl (la_of y2) ?_
        obtain ⟨q4, h⟩ := h
        refine l_gr rfl (ko_7 hS mv0) rfl (fun _ => rfl) q4.1 ?_
        refine l1 (n := 1) rfl rfl rfl (la_of y2) ?_
        refine l_gi rfl (ko_7 hS mv0) rfl (fun _ => rfl) ?_
        refine l1 (n := 1) rfl rfl rfl (la_of y2) ?_
        obtain ⟨q5, h⟩ := h
        refine l_gr rfl (ko_7 hS mv0) rfl (fun _ => rfl) q5.1 ?_
        refine l_gr rfl (ko_1 hS q5.2) rfl (fun _ => rfl) (kf_1_12 r3.2 q5.2) ?_
        refine l1 (n := 1) rfl rfl rfl (la_of y2) ?_
        refine l_gi rfl (ko_7 hS mv0) rfl (fun _ => rfl) ?_
        refine b_ia rfl (kt_1_12 (fz := fz) hS q5.2).1 (Nat.le_of_ble_eq_true rfl) (inr_gi _ _ _) (fun q => ?_)
        replace h := h q
        refine b_iv (c := (gr M3 v0 0)) (as := [zv (gi M3 v0 6), zv (gi M3 ((gr M3 v0 0) + 8) (gi M3 v0 6).toNat)]) (rest := [.ref v0]) rfl (by decide) (ko_1 hS q4.2) rfl rfl (Nat.le_of_ble_eq_true rfl) (fun hq => ?_)
        refine lx_mono (E_P_into_m hS r3 q4.2 (inr_gi _ _ _) (inr_gi _ _ _) h) ?_
        rintro _ _ ⟨z4, M4, rfl, rfl, r4, iz4, h⟩
        refine l_pi rfl (ko_7 (fz := fz) hS mv0) rfl (fun _ _ => rfl) (fun M5 e => ?_)
        replace h := h M5 e
        have r5 := r4.wi (ko_7 (fz := fz) hS mv0).1 (kl_7 mv0) e
        refine l3 rfl rfl rfl ?_
        exact E_R_step_183 hS r5 mv0 ⟨by decide, by decide⟩ y2 y1 h
      obtain ⟨h1, h⟩ := h
      by_cases e17 : (gi M1 ((gr M1 v0 0) + 1) (gi M1 v0 6).toNat) = 17
      · replace h := h1 e17
        refine l_sw e17 rfl rfl rfl ?_
        refine l1 (n := 1) rfl rfl rfl (la_of y2) ?_
        refine l_gr rfl (ko_7 hS mv0) rfl (fun _ => rfl) (kf_7_5 r1.2 mv0) ?_
        refine l1 (n := 1) rfl rfl rfl (la_of y2) ?_
        obtain ⟨q6, h⟩ := h
        refine l_gr rfl (ko_7 hS mv0) rfl (fun _ => rfl) q6.1 ?_
        refine l_gr rfl (ko_1 hS q6.2) rfl (fun _ => rfl) (kf_1_10 r1.2 q6.2) ?_
        refine l1 (n := 1) rfl rfl rfl (la_of y2) ?_
        refine l_gi rfl (ko_7 hS mv0) rfl (fun _ => rfl) ?_
        refine b_ia rfl (kt_1_10 (fz := fz) hS q6.2).1 (Nat.le_of_ble_eq_true rfl) (inr_gi _ _ _) (fun q => ?_)
        replace h := h q
        refine b_iv (c := (v0 + 2)) (as := [zv (gi M1 ((gr M1 v0 0) + 6) (gi M1 v0 6).toNat)]) (rest := []) rfl (by decide) (ko_8 hS (kt_7_5 mv0)) rfl rfl (Nat.le_of_ble_eq_true rfl) (fun hq => ?_)
        refine lx_mono (E_D_mark_m hS r1 (kt_7_5 mv0) (inr_gi _ _ _) h) ?_
        rintro _ _ ⟨M6, rfl, rfl, r6, h⟩
        refine l1 (n := 1) rfl rfl rfl (la_of y2) ?_
        refine l1 (n := 1) rfl rfl rfl (la_of y2) ?_
        obtain ⟨q7, h⟩ := h
        refine l_gr rfl (ko_7 hS mv0) rfl (fun _ => rfl) q7.1 ?_
        refine l1 (n := 1) rfl rfl rfl (la_of y2) ?_
        refine l_gi rfl (ko_7 hS mv0) rfl (fun _ => rfl) ?_
        refine l1 (n := 1) rfl rfl rfl (la_of y2) ?_
        obtain ⟨q8, h⟩ := h
        refine l_gr rfl (ko_7 hS mv0) rfl (fun _ => rfl) q8.1 ?_
        refine l_gr rfl (ko_1 hS q8.2) rfl (fun _ => rfl) (kf_1_12 r6.2 q8.2) ?_
        refine l1 (n := 1) rfl rfl rfl (la_of y2) ?_
        refine l_gi rfl (ko_7 hS mv0) rfl (fun _ => rfl) ?_
        refine b_ia rfl (kt_1_12 (fz := fz) hS q8.2).1 (Nat.le_of_ble_eq_true rfl) (inr_gi _ _ _) (fun q => ?_)
        replace h := h q
        refine b_iv (c := (gr M6 v0 0)) (as := [zv (gi M6 v0 6), zv (gi M6 ((gr M6 v0 0) + 8) (gi M6 v0 6).toNat)]) (rest := [.ref v0]) rfl (by decide) (ko_1 hS q7.2) rfl rfl (Nat.le_of_ble_eq_true rfl) (fun hq => ?_)
        refine lx_mono (E_P_into_m hS r6 q7.2 (inr_gi _ _ _) (inr_gi _ _ _) h) ?_
        rintro _ _ ⟨z7, M7, rfl, rfl, r7, iz7, h⟩
        refine l_pi rfl (ko_7 (fz := fz) hS mv0) rfl (fun _ _ => rfl) (fun M8 e => ?_)
        replace h := h M8 e
        have r8 := r7.wi (ko_7 (fz := fz) hS mv0).1 (kl_7 mv0) e
        refine l3 rfl rfl rfl ?_
        exact E_R_step_183 hS r8 mv0 ⟨by decide, by decide⟩ y2 y1 h
      obtain ⟨h1, h⟩ := h
      by_cases e19 : (gi M1 ((gr M1 v0 0) + 1) (gi M1 v0 6).toNat) = 19
      · replace h := h1 e19
        refine l_sw e19 rfl rfl rfl ?_
        refine l1 (n := 1) rfl rfl rfl (la_of y2) ?_
        refine l_gr rfl (ko_7 hS mv0) rfl (fun _ => rfl) (kf_7_5 r1.2 mv0) ?_
        refine l1 (n := 1) rfl rfl rfl (la_of y2) ?_
        refine l_gi rfl (ko_7 hS mv0) rfl (fun _ => rfl) ?_
        refine b_iv (c := (v0 + 2)) (as := [zv (gi M1 v0 6)]) (rest := []) rfl (by decide) (ko_8 hS (kt_7_5 mv0)) rfl rfl (Nat.le_of_ble_eq_true rfl) (fun hq => ?_)
        refine lx_mono (E_D_addRule_m hS r1 (kt_7_5 mv0) (inr_gi _ _ _) h) ?_
        rintro _ _ ⟨M9, rfl, rfl, r9, h⟩
        refine l1 (n := 1) rfl rfl rfl (la_of y2) ?_
        refine l1 (n := 1) rfl rfl rfl (la_of y2) ?_
        obtain ⟨q9, h⟩ := h
        refine l_gr rfl (ko_7 hS mv0) rfl (fun _ => rfl) q9.1 ?_
        refine l1 (n := 1) rfl rfl rfl (la_of y2) ?_
        refine l_gi rfl (ko_7 hS mv0) rfl (fun _ => rfl) ?_
        refine b_iv (c := (gr M9 v0 0)) (as := [zv (gi M9 v0 6)]) (rest := [.ref v0]) rfl (by decide) (ko_1 hS q9.2) rfl rfl (Nat.le_of_ble_eq_true rfl) (fun hq => ?_)
        refine lx_mono (E_P_behind_m hS r9 q9.2 (inr_gi _ _ _) h) ?_
        rintro _ _ ⟨z10, M10, rfl, rfl, r10, iz10, h⟩
        refine l_pi rfl (ko_7 (fz := fz) hS mv0) rfl (fun _ _ => rfl) (fun M11 e => ?_)
        replace h := h M11 e
        have r11 := r10.wi (ko_7 (fz := fz) hS mv0).1 (kl_7 mv0) e
        refine l3 rfl rfl rfl ?_
        exact E_R_step_183 hS r11 mv0 ⟨by decide, by decide⟩ y2 y1 h
      replace h := h ⟨e13, e15, e17, e19⟩
      by_cases e14 : (gi M1 ((gr M1 v0 0) + 1) (gi M1 v0 6).toNat) = 14
      · refine l_sw e14 rfl rfl rfl ?_
        refine l1 (n := 1) rfl rfl rfl (la_of y2) ?_
        refine b_iv (c := v0) (as := []) (rest := []) rfl (by decide) (ko_7 hS mv0) rfl rfl (Nat.le_of_ble_eq_true rfl) (fun hq => ?_)
        refine lx_mono (E_R_walkExp_m hS r1 mv0 h) ?_
        rintro _ _ ⟨z12, M12, rfl, rfl, r12, iz12, h⟩
        refine l_s1 (n := 1) rfl rfl rfl rfl (fun ls y5 ho => ?_)
        have y6 := ho 0 _ (by decide) (fun q => by cases q.2) y2
        exact E_R_step_183 hS r12 mv0 iz12 y6 y5 h
      by_cases e16 : (gi M1 ((gr M1 v0 0) + 1) (gi M1 v0 6).toNat) = 16
      · refine l_sw e16 rfl rfl rfl ?_
        refine l1 (n := 1) rfl rfl rfl (la_of y2) ?_
        refine b_iv (c := v0) (as := []) (rest := []) rfl (by decide) (ko_7 hS mv0) rfl rfl (Nat.le_of_ble_eq_true rfl) (fun hq => ?_)
        refine lx_mono (E_R_walkExp_m hS r1 mv0 h) ?_
        rintro _ _ ⟨z12, M12, rfl, rfl, r12, iz12, h⟩
        refine l_s1 (n := 1) rfl rfl rfl rfl (fun ls y5 ho => ?_)
        have y6 := ho 0 _ (by decide) (fun q => by cases q.2) y2
        exact E_R_step_183 hS r12 mv0 iz12 y6 y5 h
      by_cases e18 : (gi M1 ((gr M1 v0 0) + 1) (gi M1 v0 6).toNat) = 18
      · refine l_sw e18 rfl rfl rfl ?_
        refine l1 (n := 1) rfl rfl rfl (la_of y2) ?_
        refine b_iv (c := v0) (as := []) (rest := []) rfl (by decide) (ko_7 hS mv0) rfl rfl (Nat.le_of_ble_eq_true rfl) (fun hq => ?_)
        refine lx_mono (E_R_walkExp_m hS r1 mv0 h) ?_
        rintro _ _ ⟨z12, M12, rfl, rfl, r12, iz12, h⟩
        refine l_s1 (n := 1) rfl rfl rfl rfl (fun ls y5 ho => ?_)
        have y6 := ho 0 _ (by decide) (fun q => by cases q.2) y2
        exact E_R_step_183 hS r12 mv0 iz12 y6 y5 h
      refine l_swt (a := (gi M1 ((gr M1 v0 0) + 1) (gi M1 v0 6).toNat)) rfl ia (by omega) ?_
      refine l1 (n := 1) rfl rfl rfl (la_of y2) ?_
      refine b_iv (c := v0) (as := []) (rest := []) rfl (by decide) (ko_7 hS mv0) rfl rfl (Nat.le_of_ble_eq_true rfl) (fun hq => ?_)
      refine lx_mono (E_R_walkExp_m hS r1 mv0 h) ?_
      rintro _ _ ⟨z12, M12, rfl, rfl, r12, iz12, h⟩
      refine l_s1 (n := 1) rfl rfl rfl rfl (fun ls y5 ho => ?_)
      have y6 := ho 0 _ (by decide) (fun q => by cases q.2) y2
      exact E_R_step_183 hS r12 mv0 iz12 y6 y5 h
    · replace h := h.1 (Classical.not_not.mp c)
      refine l1 (n := 1) rfl rfl rfl rfl ?_
      exact l_ri rfl rfl ⟨by decide, by decide⟩ r1 h
  · replace h := h.2 c
    refine l1 (n := 1) rfl rfl rfl (la_of a0) ?_
    refine l7 (n := 3) rfl rfl rfl rfl ?_
    refine l_pl rfl (ko_7 (fz := fz) hS mv0) rfl (fun _ _ => rfl) (fun M13 e => ?_)
    replace h := h M13 e
    have r13 := hR.wl (ko_7 (fz := fz) hS mv0).1 (kl_7 mv0) e
    refine l1 (n := 1) rfl rfl rfl rfl ?_
    exact l_ri rfl rfl ⟨by decide, by decide⟩ r13 h
def em_R_step (x0 : Nat) (M : rf_M) (K : Int → rf_M → Prop) : Prop := e_R_step x0 M K
theorem E_R_step_m {fz : Bool} {S : gS} {B : rf_M} {M : rf_M} {n0 : Nat} {x0 : Nat} {K : Int → rf_M → Prop} (hS : rl S) (hR : fl 22 353 B M) (mx0 : x0 ∈ k7) (h : em_R_step x0 M K) : lx (cx0 fz) n0 90 0 (lv_args 0 [.ref x0]) [] (M, S) (vl_i 22 353 B S K) :=
  E_R_step hS hR mx0 rfl h
def e_C_cut_29 (s0 : Nat) (s1 : Int) (M : rf_M) (K : rf_M → Prop) : Prop := (s1 = 0 ∨ s1 = 1) ∧ (∀ M1 : rf_M, M1 = wi M s0 2 s1 → (K M1))
def e_C_cut (v0 : Nat) (M : rf_M) (K : rf_M → Prop) : Prop := ∀ M1 : rf_M, M1 = wi M v0 0 1 → (∀ M2 : rf_M, M2 = wi M1 v0 1 ((gi M1 v0 1) + 1) → (((gi M2 v0 1) < 4 → (e_C_cut_29 v0 0 M2 K)) ∧ (¬ ((gi M2 v0 1) < 4) → (e_C_cut_29 v0 1 M2 K))))
def em_C_cut (x0 : Nat) (M : rf_M) (K : rf_M → Prop) : Prop := e_C_cut x0 M K
def e_C_rest (v0 : Nat) (M : rf_M) (K : rf_M → Prop) : Prop := ∀ M1 : rf_M, M1 = wi M v0 0 3 → (∀ M2 : rf_M, M2 = wi M1 v0 2 0 → (∀ M3 : rf_M, M3 = wi M2 v0 6 (gi M2 (v0 + 3) 2) → (((0 ≤ (0 : Int) ∧ 0 ≤ (0 : Int) ∧ 0 ≤ (16 : Int)) ∧ (0 : Int) + (16 : Int) ≤ 16 ∧ (0 : Int) + (16 : Int) ≤ 16 → (∀ M4 : rf_M, M4 = cpi M3 (v0 + 4) 0 (v0 + 2) 0 16 → (K M4))))))
def em_C_rest (x0 : Nat) (M : rf_M) (K : rf_M → Prop) : Prop := e_C_rest x0 M K
def e_M_isHeld_16b (v2 : Int) (M : rf_M) (b16 : Int → rf_M → Prop) (K : Int → rf_M → Prop) : Prop := (8 ≤ v2 → (K 0 M)) ∧ (¬ (8 ≤ v2) → ((0 ≤ v2 ∧ v2 < 8 → (((gi M (clA v2) 2) = 0 → (inr (v2 + 1) ∧ (b16 (v2 + 1) M))) ∧ (¬ ((gi M (clA v2) 2) = 0) → (K 1 M))))))
def e_M_isHeld_16 (v2 : Int) (M : rf_M) (K : Int → rf_M → Prop) : Prop := ∃ Inv : Int → rf_M → Prop, Inv v2 M ∧ ∀ (v2 : Int) (M : rf_M), inr v2 → Inv v2 M → e_M_isHeld_16b v2 M Inv K
def e_M_isHeld (v1 : Int) (M : rf_M) (K : Int → rf_M → Prop) : Prop := (0 ≤ v1 ∧ v1 < 8 → (((gi M (clA v1) 2) = 0 → (e_M_isHeld_16 0 M K)) ∧ (¬ ((gi M (clA v1) 2) = 0) → (K 0 M))))
def em_M_isHeld (x1 : Int) (M : rf_M) (K : Int → rf_M → Prop) : Prop := e_M_isHeld x1 M K
def e_S_takes_43 (v0 : Nat) (v1 : Nat) (v2 : Nat) (v3 : Int) (M : rf_M) (b17 : Nat → Nat → Nat → Int → rf_M → Prop) (K : Int → rf_M → Prop) : Prop := inr (v3 + 1) ∧ (b17 v0 v1 v2 (v3 + 1) M)
theorem E_S_takes_43 {fz : Bool} {S : gS} {B : rf_M} {M : rf_M} {ls : rf_L} {n0 : Nat} {v0 : Nat} {v1 : Nat} {v2 : Nat} {v3 : Int} {b17 : Nat → Nat → Nat → Int → rf_M → Prop} {K : Int → rf_M → Prop} (hS : rl S) (hR : fl 22 353 B M) (mv0 : v0 ∈ k4) (mv1 : v1 ∈ k1) (mv2 : v2 ∈ k8) (iv3 : inr v3) (a0 : rf_ld ls 0 = some (.ref v0)) (a1 : rf_ld ls 1 = some (.ref v1)) (a2 : rf_ld ls 2 = some (.ref v2)) (a3 : rf_ld ls 3 = some (zv v3)) (hb17 : ∀ n', n' < n0 → ∀ (v0 : Nat) (v1 : Nat) (v2 : Nat) (v3 : Int) (M : rf_M) (ls : rf_L), fl 22 353 B M → v0 ∈ k4 → v1 ∈ k1 → v2 ∈ k8 → inr v3 → rf_ld ls 0 = some (.ref v0) → rf_ld ls 1 = some (.ref v1) → rf_ld ls 2 = some (.ref v2) → rf_ld ls 3 = some (zv v3) → b17 v0 v1 v2 v3 M → lx (cx0 fz) n' 105 17 ls [] (M, S) (vl_i 22 353 B S K)) (h : e_S_takes_43 v0 v1 v2 v3 M b17 K) : lx (cx0 fz) n0 105 43 ls [] (M, S) (vl_i 22 353 B S K) := by
  unfold e_S_takes_43 at h
  rcases Nat.eq_zero_or_pos n0 with e0 | hp
  · rw [e0]; exact lx_zero
  refine l_ii rfl a3 (Nat.le_of_ble_eq_true rfl) (fun ls y1 ho => ?_)
  have y2 := ho 0 _ (by decide) (fun q => by cases q.2) a0
  have y3 := ho 1 _ (by decide) (fun q => by cases q.2) a1
  have y4 := ho 2 _ (by decide) (fun q => by cases q.2) a2
  refine l3 rfl rfl rfl ?_
  obtain ⟨i1, h⟩ := h
  exact hb17 _ (by omega) _ _ _ _ _ _ hR mv0 mv1 mv2 i1 y2 y3 y4 y1 h
def e_S_takes_70 (M : rf_M) (K : Int → rf_M → Prop) : Prop := K 0 M
theorem E_S_takes_70 {fz : Bool} {S : gS} {B : rf_M} {M : rf_M} {ls : rf_L} {n0 : Nat} {K : Int → rf_M → Prop} (hS : rl S) (hR : fl 22 353 B M) (h : e_S_takes_70 M K) : lx (cx0 fz) n0 105 70 ls [] (M, S) (vl_i 22 353 B S K) := by
  unfold e_S_takes_70 at h
  refine l1 (n := 1) rfl rfl rfl rfl ?_
  exact l_rb rfl rfl (Or.inl rfl) hR h
def e_S_takes_131 (v0 : Nat) (v1 : Nat) (v2 : Nat) (v3 : Int) (M : rf_M) (b106 : Nat → Nat → Nat → Int → rf_M → Prop) (K : Int → rf_M → Prop) : Prop := inr (v3 + 1) ∧ (b106 v0 v1 v2 (v3 + 1) M)
theorem E_S_takes_131 {fz : Bool} {S : gS} {B : rf_M} {M : rf_M} {ls : rf_L} {n0 : Nat} {v0 : Nat} {v1 : Nat} {v2 : Nat} {v3 : Int} {b106 : Nat → Nat → Nat → Int → rf_M → Prop} {K : Int → rf_M → Prop} (hS : rl S) (hR : fl 22 353 B M) (mv0 : v0 ∈ k4) (mv1 : v1 ∈ k1) (mv2 : v2 ∈ k8) (iv3 : inr v3) (a0 : rf_ld ls 0 = some (.ref v0)) (a1 : rf_ld ls 1 = some (.ref v1)) (a2 : rf_ld ls 2 = some (.ref v2)) (a3 : rf_ld ls 3 = some (zv v3)) (hb106 : ∀ n', n' < n0 → ∀ (v0 : Nat) (v1 : Nat) (v2 : Nat) (v3 : Int) (M : rf_M) (ls : rf_L), fl 22 353 B M → v0 ∈ k4 → v1 ∈ k1 → v2 ∈ k8 → inr v3 → rf_ld ls 0 = some (.ref v0) → rf_ld ls 1 = some (.ref v1) → rf_ld ls 2 = some (.ref v2) → rf_ld ls 3 = some (zv v3) → b106 v0 v1 v2 v3 M → lx (cx0 fz) n' 105 106 ls [] (M, S) (vl_i 22 353 B S K)) (h : e_S_takes_131 v0 v1 v2 v3 M b106 K) : lx (cx0 fz) n0 105 131 ls [] (M, S) (vl_i 22 353 B S K) := by
  unfold e_S_takes_131 at h
  rcases Nat.eq_zero_or_pos n0 with e0 | hp
  · rw [e0]; exact lx_zero
  refine l_ii rfl a3 (Nat.le_of_ble_eq_true rfl) (fun ls y1 ho => ?_)
  have y2 := ho 0 _ (by decide) (fun q => by cases q.2) a0
  have y3 := ho 1 _ (by decide) (fun q => by cases q.2) a1
  have y4 := ho 2 _ (by decide) (fun q => by cases q.2) a2
  refine l3 rfl rfl rfl ?_
  obtain ⟨i1, h⟩ := h
  exact hb106 _ (by omega) _ _ _ _ _ _ hR mv0 mv1 mv2 i1 y2 y3 y4 y1 h
def e_S_takes_197 (M : rf_M) (K : Int → rf_M → Prop) : Prop := K 1 M
theorem E_S_takes_197 {fz : Bool} {S : gS} {B : rf_M} {M : rf_M} {ls : rf_L} {n0 : Nat} {K : Int → rf_M → Prop} (hS : rl S) (hR : fl 22 353 B M) (h : e_S_takes_197 M K) : lx (cx0 fz) n0 105 197 ls [] (M, S) (vl_i 22 353 B S K) := by
  unfold e_S_takes_197 at h
  refine l1 (n := 1) rfl rfl rfl rfl ?_
  exact l_rb rfl rfl (Or.inr rfl) hR h
def e_S_takes_139b (v0 : Nat) (v1 : Nat) (v2 : Nat) (v3 : Int) (M : rf_M) (b139 : Nat → Nat → Nat → Int → rf_M → Prop) (K : Int → rf_M → Prop) : Prop := ((gi M v2 3) ≤ v3 → (e_S_takes_197 M K)) ∧ (¬ ((gi M v2 3) ≤ v3) → ((32 ≤ (gi M v0 2) → (e_S_takes_197 M K)) ∧ (¬ (32 ≤ (gi M v0 2)) → ((0 ≤ (gi M v0 2) ∧ (gi M v0 2) < 32 → (∀ M1 : rf_M, M1 = wq M (v0 + 3) (gi M v0 2).toNat v1 → ((0 ≤ v3 ∧ v3 < 300 → ((0 ≤ (gi M1 v0 2) ∧ (gi M1 v0 2) < 32 → (∀ M2 : rf_M, M2 = wi M1 (v0 + 4) (gi M1 v0 2).toNat (gi M1 (v2 + 3) (v3).toNat) → (∀ M3 : rf_M, M3 = wi M2 v0 2 ((gi M2 v0 2) + 1) → (inr (v3 + 1) ∧ (b139 v0 v1 v2 (v3 + 1) M3))))))))))))))
theorem E_S_takes_139b {fz : Bool} {S : gS} {B : rf_M} {M : rf_M} {ls : rf_L} {n0 : Nat} {v0 : Nat} {v1 : Nat} {v2 : Nat} {v3 : Int} {b139 : Nat → Nat → Nat → Int → rf_M → Prop} {K : Int → rf_M → Prop} (hS : rl S) (hR : fl 22 353 B M) (mv0 : v0 ∈ k4) (mv1 : v1 ∈ k1) (mv2 : v2 ∈ k8) (iv3 : inr v3) (a0 : rf_ld ls 0 = some (.ref v0)) (a1 : rf_ld ls 1 = some (.ref v1)) (a2 : rf_ld ls 2 = some (.ref v2)) (a3 : rf_ld ls 3 = some (zv v3)) (hb139 : ∀ n', n' < n0 → ∀ (v0 : Nat) (v1 : Nat) (v2 : Nat) (v3 : Int) (M : rf_M) (ls : rf_L), fl 22 353 B M → v0 ∈ k4 → v1 ∈ k1 → v2 ∈ k8 → inr v3 → rf_ld ls 0 = some (.ref v0) → rf_ld ls 1 = some (.ref v1) → rf_ld ls 2 = some (.ref v2) → rf_ld ls 3 = some (zv v3) → b139 v0 v1 v2 v3 M → lx (cx0 fz) n' 105 139 ls [] (M, S) (vl_i 22 353 B S K)) (h : e_S_takes_139b v0 v1 v2 v3 M b139 K) : lx (cx0 fz) n0 105 139 ls [] (M, S) (vl_i 22 353 B S K) := by
  unfold e_S_takes_139b at h
  rcases Nat.eq_zero_or_pos n0 with e0 | hp
  · rw [e0]; exact lx_zero
  refine l1 (n := 1) rfl rfl rfl (li_of a3) ?_
  refine l1 (n := 1) rfl rfl rfl (la_of a2) ?_
  refine l_gi rfl (ko_8 hS mv2) rfl (fun _ => rfl) ?_
  refine l_ic rfl iv3 (inr_gi _ _ _) (fun c => ?_) (fun c => ?_)
  · replace h := h.1 c
    exact E_S_takes_197 hS hR  h
  · replace h := h.2 c
    refine l1 (n := 1) rfl rfl rfl (la_of a0) ?_
    refine l_gi rfl (ko_4 hS mv0) rfl (fun _ => rfl) ?_
    refine l_bi rfl (by decide) ?_
    refine l_ic rfl (inr_gi _ _ _) ⟨by decide, by decide⟩ (fun c => ?_) (fun c => ?_)
    · replace h := h.1 c
      exact E_S_takes_197 hS hR  h
    · replace h := h.2 c
      refine l1 (n := 1) rfl rfl rfl (la_of a0) ?_
      refine l_gr rfl (ko_4 hS mv0) rfl (fun _ => rfl) (kf_4_3 hR.2 mv0) ?_
      refine l1 (n := 1) rfl rfl rfl (la_of a0) ?_
      refine l_gi rfl (ko_4 hS mv0) rfl (fun _ => rfl) ?_
      refine l1 (n := 1) rfl rfl rfl (la_of a1) ?_
      refine b_as rfl (kt_4_3 (fz := fz) hS mv0).1 (ko_1 hS mv1) rfl (Nat.le_of_ble_eq_true rfl) (inr_gi _ _ _) (fun q M1 e => ?_)
      replace h := h q M1 e
      have r1 := hR.wqS mv0 e
      refine l1 (n := 1) rfl rfl rfl (la_of a0) ?_
      refine l_gr rfl (ko_4 hS mv0) rfl (fun _ => rfl) (kf_4_4 r1.2 mv0) ?_
      refine l1 (n := 1) rfl rfl rfl (la_of a0) ?_
      refine l_gi rfl (ko_4 hS mv0) rfl (fun _ => rfl) ?_
      refine l1 (n := 1) rfl rfl rfl (la_of a2) ?_
      refine l_gr rfl (ko_8 hS mv2) rfl (fun _ => rfl) (kf_8_4 r1.2 mv2) ?_
      refine l1 (n := 1) rfl rfl rfl (li_of a3) ?_
      refine b_ia rfl (kt_8_4 (fz := fz) hS mv2).1 (Nat.le_of_ble_eq_true rfl) iv3 (fun q => ?_)
      replace h := h q
      refine b_is rfl (kt_4_4 (fz := fz) hS mv0).1 (Nat.le_of_ble_eq_true rfl) (inr_gi _ _ _) (fun q M2 e => ?_)
      replace h := h q M2 e
      have r2 := r1.wi (kt_4_4 (fz := fz) hS mv0).1.1 (kt_4_4 (fz := fz) hS mv0).2 e
      refine l1 (n := 1) rfl rfl rfl (la_of a0) ?_
      refine l0 rfl rfl rfl ?_
      refine l_gi rfl (ko_4 hS mv0) rfl (fun _ => rfl) ?_
      refine l1 (n := 1) rfl rfl rfl rfl ?_
      refine l_add rfl ?_
      refine l_pi rfl (ko_4 (fz := fz) hS mv0) rfl (fun _ _ => rfl) (fun M3 e => ?_)
      replace h := h M3 e
      have r3 := r2.wi (ko_4 (fz := fz) hS mv0).1 (kl_4 mv0) e
      refine l_ii rfl a3 (Nat.le_of_ble_eq_true rfl) (fun ls y1 ho => ?_)
      have y2 := ho 0 _ (by decide) (fun q => by cases q.2) a0
      have y3 := ho 1 _ (by decide) (fun q => by cases q.2) a1
      have y4 := ho 2 _ (by decide) (fun q => by cases q.2) a2
      refine l3 rfl rfl rfl ?_
      obtain ⟨i1, h⟩ := h
      exact hb139 _ (by omega) _ _ _ _ _ _ r3 mv0 mv1 mv2 i1 y2 y3 y4 y1 h
