def w_bringIn_2 (v1 : Int) (M : rf_M) (K : rf_M → Prop) : Prop := ∃ Inv : Nat → Int → rf_M → Prop, (∃ m, Inv m v1 M) ∧ ∀ (m : Nat) (v1 : Int) (M : rf_M), Inv m v1 M → w_bringIn_2b v1 M (fun (v1' : Int) (M' : rf_M) => ∃ m', m' < m ∧ Inv m' v1' M') K
theorem W_bringIn_2 {fz : Bool} {S : gS} {B : rf_M} {M : rf_M} {ls : rf_L} {v1 : Int} {K : rf_M → Prop} (hS : rk fz S B.2.2) (hR : fq B M) (a0 : rf_ld ls 0 = some (.ref 353)) (a1 : rf_ld ls 1 = some (zv v1)) (h : w_bringIn_2 v1 M K) : gx (cx0 fz) (0, 0) 182 2 ls [] (M, S) (vq_v B S K) := by
  obtain ⟨Inv, ⟨m, hm⟩, hb⟩ := h
  induction m using Nat.strongRecOn generalizing ls M v1 with
  | _ m ih =>
    refine W_bringIn_2b hS hR a0 a1 (fun v1' M' ls' hR' f0 f1 ⟨m', q1, q2⟩ => ih m' q1 hR' f0 f1 q2) (hb m v1 M hm)
def w_bringIn (M : rf_M) (K : rf_M → Prop) : Prop := w_bringIn_2 0 M K
theorem W_bringIn {fz : Bool} {S : gS} {B : rf_M} {M : rf_M} {ls : rf_L} {K : rf_M → Prop} (hS : rk fz S B.2.2) (hR : fq B M) (a0 : rf_ld ls 0 = some (.ref 353)) (h : w_bringIn M K) : gx (cx0 fz) (0, 0) 182 0 ls [] (M, S) (vq_v B S K) := by
  unfold w_bringIn at h
  refine g1 (n := 1) rfl rfl rfl rfl ?_
  refine n_s1 (n := 1) rfl rfl rfl rfl (fun ls l1 ho => ?_)
  replace a0 := ho 0 _ (by decide) (fun q => by cases q.2) a0
  exact W_bringIn_2 hS hR a0 l1 h
def wm_bringIn (M : rf_M) (K : rf_M → Prop) : Prop := w_bringIn  M K
theorem W_bringIn_m {fz : Bool} {S : gS} {B : rf_M} {M : rf_M} {K : rf_M → Prop} (hS : rk fz S B.2.2) (hR : fq B M) (h : wm_bringIn  M K) : gx (cx0 fz) (0, 0) 182 0 (lv_args 0 [.ref 353]) [] (M, S) (vq_v B S K) :=
  W_bringIn hS hR rfl h
def w_turnOf_144 (v1 : Int) (M : rf_M) (K : Int → rf_M → Prop) : Prop := wm_cutRun v1 M (fun (z1 : Int) (M1 : rf_M) => K z1 M1)
theorem W_turnOf_144 {fz : Bool} {S : gS} {B : rf_M} {M : rf_M} {ls : rf_L} {v1 : Int} {K : Int → rf_M → Prop} (hS : rk fz S B.2.2) (hR : fq B M) (a0 : rf_ld ls 0 = some (.ref 353)) (a1 : rf_ld ls 1 = some (zv v1)) (h : w_turnOf_144 v1 M K) : gx (cx0 fz) (6, 134) 156 144 ls [] (M, S) (vq_i B S K) := by
  unfold w_turnOf_144 at h
  refine g1 (n := 1) rfl rfl rfl (la_of a0) ?_
  refine g1 (n := 1) rfl rfl rfl (li_of a1) ?_
  refine m_iv (a := 353) (as := [zv v1]) (rest := []) rfl (by decide) hS.1 rfl rfl (Nat.le_of_ble_eq_true rfl) ⟨Nat.le_of_ble_eq_true rfl, Nat.le_of_ble_eq_true rfl, Nat.le_of_ble_eq_true rfl⟩ ?_
  refine gx_room (gx_mono (W_cutRun_m hS hR h) ?_) (Nat.le_of_ble_eq_true rfl) (Nat.le_of_ble_eq_true rfl)
  rintro _ _ ⟨z1, M1, rfl, rfl, r1, h⟩
  exact gx_ret rfl rfl ⟨z1, M1, rfl, rfl, r1, h⟩
def w_turnOf_111 (v1 : Int) (v2 : Int) (M : rf_M) (K : Int → rf_M → Prop) : Prop := inr v2 ∧ ((v2 = 0 → ((0 ≤ v1 ∧ v1 < 8) ∧ ((0 ≤ v1 ∧ v1 < 8) ∧ (∀ M14 : rf_M, M14 = wi M 383 (v1).toNat ((gi M 383 (v1).toNat) + 1) → (wm_keepRead v1 M14 (fun (M15 : rf_M) => K 0 M15)))))) ∧ (¬ v2 = 0 → (inr v2 ∧ ((v2 = 1 → (w_turnOf_144 v1 M K)) ∧ (¬ (v2 = 1) → (wm_isChanged  M (fun (z1 : Int) (M1 : rf_M) => inr z1 ∧ ((z1 = 0 → (inr v2 ∧ ((v2 = 3 → ((0 ≤ v1 ∧ v1 < 8) ∧ (∀ M10 : rf_M, M10 = wi M1 382 (v1).toNat 2 → ((0 ≤ v1 ∧ v1 < 8) ∧ (∀ M11 : rf_M, M11 = wi M10 383 (v1).toNat 0 → ((0 ≤ v1 ∧ v1 < 8) ∧ (∀ M12 : rf_M, M12 = wi M11 385 (v1).toNat (Int32.ofInt 0 &&& 1).toInt → (wm_keepRead v1 M12 (fun (M13 : rf_M) => K 4 M13))))))))) ∧ (¬ v2 = 3 → (wm_isHeld v1 M1 (fun (z2 : Int) (M2 : rf_M) => inr z2 ∧ ((z2 = 0 → (inr v2 ∧ ((v2 = 2 → (wm_endThrown v1 (gl M2 353 66) M2 (fun (z9 : Int) (M9 : rf_M) => K z9 M9))) ∧ (¬ v2 = 2 → (wm_isWell  M2 (fun (z3 : Int) (M3 : rf_M) => inr z3 ∧ ((z3 = 0 → (wm_endThrown v1 (Int64.ofNat 18446744073709551614) M3 (fun (z8 : Int) (M8 : rf_M) => K z8 M8))) ∧ (¬ z3 = 0 → (((gi M3 353 69) = 300 → (K (-1) M3)) ∧ (¬ (gi M3 353 69) = 300 → (wm_bringIn  M3 (fun (M4 : rf_M) => wm_firstOf v1 M4 (fun (z5 : Int) (M5 : rf_M) => (0 ≤ v1 ∧ v1 < 8) ∧ ((0 ≤ v1 ∧ v1 < 8) ∧ (wm_addRow 1 v1 z5 ((gi M5 383 (v1).toNat) + 1) (gi M5 384 (v1).toNat) (Int64.ofNat 0) M5 (fun (M6 : rf_M) => wm_over v1 M6 (fun (M7 : rf_M) => K 1 M7))))))))))))))))) ∧ (¬ (z2 = 0) → (K 6 M2))))))))) ∧ (¬ (z1 = 0) → (w_turnOf_144 v1 M1 K))))))))))
theorem W_turnOf_111 {fz : Bool} {S : gS} {B : rf_M} {M : rf_M} {ls : rf_L} {v1 : Int} {v2 : Int} {K : Int → rf_M → Prop} (hS : rk fz S B.2.2) (hR : fq B M) (a0 : rf_ld ls 0 = some (.ref 353)) (a1 : rf_ld ls 1 = some (zv v1)) (a2 : rf_ld ls 2 = some (zv v2)) (h : w_turnOf_111 v1 v2 M K) : gx (cx0 fz) (6, 134) 156 111 ls [] (M, S) (vq_i B S K) := by
  unfold w_turnOf_111 at h
  refine g1 (n := 1) rfl rfl rfl (li_of a2) ?_
  obtain ⟨i1, h⟩ := h
  refine n_if rfl i1 (fun c => ?_) (fun c => ?_)
  · replace h := h.2 c
    refine g1 (n := 1) rfl rfl rfl (li_of a2) ?_
    refine g1 (n := 1) rfl rfl rfl rfl ?_
    obtain ⟨i2, h⟩ := h
    refine n_ic rfl i2 ⟨by decide, by decide⟩ (fun c => ?_) (fun c => ?_)
    · replace h := h.1 c
      exact W_turnOf_144 hS hR a0 a1 h
    · replace h := h.2 c
      refine g1 (n := 1) rfl rfl rfl (la_of a0) ?_
      refine m_iv (a := 353) (as := []) (rest := []) rfl (by decide) hS.1 rfl rfl (Nat.le_of_ble_eq_true rfl) ⟨Nat.le_of_ble_eq_true rfl, Nat.le_of_ble_eq_true rfl, Nat.le_of_ble_eq_true rfl⟩ ?_
      refine gx_room (gx_mono (W_isChanged_m hS hR h) ?_) (Nat.le_of_ble_eq_true rfl) (Nat.le_of_ble_eq_true rfl)
      rintro _ _ ⟨z1, M1, rfl, rfl, r1, h⟩
      obtain ⟨i3, h⟩ := h
      refine n_if rfl i3 (fun c => ?_) (fun c => ?_)
      · replace h := h.1 c
        refine g1 (n := 1) rfl rfl rfl (li_of a2) ?_
        refine g1 (n := 1) rfl rfl rfl rfl ?_
        obtain ⟨i4, h⟩ := h
        refine n_ic rfl i4 ⟨by decide, by decide⟩ (fun c => ?_) (fun c => ?_)
        · replace h := h.2 c
          refine g1 (n := 1) rfl rfl rfl (la_of a0) ?_
          refine g1 (n := 1) rfl rfl rfl (li_of a1) ?_
          refine m_iv (a := 353) (as := [zv v1]) (rest := []) rfl (by decide) hS.1 rfl rfl (Nat.le_of_ble_eq_true rfl) ⟨Nat.le_of_ble_eq_true rfl, Nat.le_of_ble_eq_true rfl, Nat.le_of_ble_eq_true rfl⟩ ?_
          refine gx_room (gx_mono (W_isHeld_m hS r1 h) ?_) (Nat.le_of_ble_eq_true rfl) (Nat.le_of_ble_eq_true rfl)
          rintro _ _ ⟨z2, M2, rfl, rfl, r2, h⟩
          obtain ⟨i5, h⟩ := h
          refine n_if rfl i5 (fun c => ?_) (fun c => ?_)
          · replace h := h.1 c
            refine g1 (n := 1) rfl rfl rfl (li_of a2) ?_
            refine g1 (n := 1) rfl rfl rfl rfl ?_
            obtain ⟨i6, h⟩ := h
            refine n_ic rfl i6 ⟨by decide, by decide⟩ (fun c => ?_) (fun c => ?_)
            · replace h := h.2 c
              refine g1 (n := 1) rfl rfl rfl (la_of a0) ?_
              refine m_iv (a := 353) (as := []) (rest := []) rfl (by decide) hS.1 rfl rfl (Nat.le_of_ble_eq_true rfl) ⟨Nat.le_of_ble_eq_true rfl, Nat.le_of_ble_eq_true rfl, Nat.le_of_ble_eq_true rfl⟩ ?_
              refine gx_room (gx_mono (W_isWell_m hS r2 h) ?_) (Nat.le_of_ble_eq_true rfl) (Nat.le_of_ble_eq_true rfl)
              rintro _ _ ⟨z3, M3, rfl, rfl, r3, h⟩
              obtain ⟨i7, h⟩ := h
              refine n_if rfl i7 (fun c => ?_) (fun c => ?_)
              · replace h := h.2 c
                refine g1 (n := 1) rfl rfl rfl (la_of a0) ?_
                refine n_gi rfl hS.1 rfl (fun _ => rfl) ?_
                refine n_si rfl (by decide) ?_
                refine n_ic rfl (inr_gi _ _ _) ⟨by decide, by decide⟩ (fun c => ?_) (fun c => ?_)
                · replace h := h.2 c
                  refine g1 (n := 1) rfl rfl rfl (la_of a0) ?_
                  refine m_iv (a := 353) (as := []) (rest := []) rfl (by decide) hS.1 rfl rfl (Nat.le_of_ble_eq_true rfl) ⟨Nat.le_of_ble_eq_true rfl, Nat.le_of_ble_eq_true rfl, Nat.le_of_ble_eq_true rfl⟩ ?_
                  refine gx_room (gx_mono (W_bringIn_m hS r3 h) ?_) (Nat.le_of_ble_eq_true rfl) (Nat.le_of_ble_eq_true rfl)
                  rintro _ _ ⟨M4, rfl, rfl, r4, h⟩
                  refine g1 (n := 1) rfl rfl rfl (la_of a0) ?_
                  refine g1 (n := 1) rfl rfl rfl rfl ?_
                  refine g1 (n := 1) rfl rfl rfl (li_of a1) ?_
                  refine g1 (n := 1) rfl rfl rfl (la_of a0) ?_
                  refine g1 (n := 1) rfl rfl rfl (li_of a1) ?_
                  refine m_iv (a := 353) (as := [zv v1]) (rest := [zv v1, zv 1, .ref 353]) rfl (by decide) hS.1 rfl rfl (Nat.le_of_ble_eq_true rfl) ⟨Nat.le_of_ble_eq_true rfl, Nat.le_of_ble_eq_true rfl, Nat.le_of_ble_eq_true rfl⟩ ?_
                  refine gx_room (gx_mono (W_firstOf_m hS r4 h) ?_) (Nat.le_of_ble_eq_true rfl) (Nat.le_of_ble_eq_true rfl)
                  rintro _ _ ⟨z5, M5, rfl, rfl, r5, h⟩
                  refine g1 (n := 1) rfl rfl rfl (la_of a0) ?_
                  refine n_gr rfl hS.1 rfl (fun _ => rfl) r5 (rk_383 hS).2 ?_
                  refine g1 (n := 1) rfl rfl rfl (li_of a1) ?_
                  obtain ⟨q, h⟩ := h
                  refine n_ia rfl (rk_383 hS).1 (Nat.le_of_ble_eq_true rfl) q ?_
                  refine g1 (n := 1) rfl rfl rfl rfl ?_
                  refine n_add rfl ?_
                  refine g1 (n := 1) rfl rfl rfl (la_of a0) ?_
                  refine n_gr rfl hS.1 rfl (fun _ => rfl) r5 (rk_384 hS).2 ?_
                  refine g1 (n := 1) rfl rfl rfl (li_of a1) ?_
                  obtain ⟨q, h⟩ := h
                  refine n_ia rfl (rk_384 hS).1 (Nat.le_of_ble_eq_true rfl) q ?_
                  refine g1 (n := 1) rfl rfl rfl rfl ?_
                  refine m_iv (a := 353) (as := [zv 1, zv v1, zv z5, zv ((gi M5 383 (v1).toNat) + 1), zv (gi M5 384 (v1).toNat), .long (Int64.ofNat 0)]) (rest := []) rfl (by decide) hS.1 rfl rfl (Nat.le_of_ble_eq_true rfl) ⟨Nat.le_of_ble_eq_true rfl, Nat.le_of_ble_eq_true rfl, Nat.le_of_ble_eq_true rfl⟩ ?_
                  refine gx_room (gx_mono (W_addRow_m hS r5 h) ?_) (Nat.le_of_ble_eq_true rfl) (Nat.le_of_ble_eq_true rfl)
                  rintro _ _ ⟨M6, rfl, rfl, r6, h⟩
                  refine g1 (n := 1) rfl rfl rfl (la_of a0) ?_
                  refine g1 (n := 1) rfl rfl rfl (li_of a1) ?_
                  refine m_iv (a := 353) (as := [zv v1]) (rest := []) rfl (by decide) hS.1 rfl rfl (Nat.le_of_ble_eq_true rfl) ⟨Nat.le_of_ble_eq_true rfl, Nat.le_of_ble_eq_true rfl, Nat.le_of_ble_eq_true rfl⟩ ?_
                  refine gx_room (gx_mono (W_over_m hS r6 h) ?_) (Nat.le_of_ble_eq_true rfl) (Nat.le_of_ble_eq_true rfl)
                  rintro _ _ ⟨M7, rfl, rfl, r7, h⟩
                  refine g1 (n := 1) rfl rfl rfl rfl ?_
                  exact gx_ret rfl rfl ⟨1, M7, rfl, rfl, r7, h⟩
                · replace h := h.1 (Classical.not_not.mp c)
                  refine g1 (n := 1) rfl rfl rfl rfl ?_
                  exact gx_ret rfl rfl ⟨(-1), M3, rfl, rfl, r3, h⟩
              · replace h := h.1 (Classical.not_not.mp c)
                refine g1 (n := 1) rfl rfl rfl (la_of a0) ?_
                refine g1 (n := 1) rfl rfl rfl (li_of a1) ?_
                refine g7 (n := 3) rfl rfl rfl rfl ?_
                refine m_iv (a := 353) (as := [zv v1, .long (Int64.ofNat 18446744073709551614)]) (rest := []) rfl (by decide) hS.1 rfl rfl (Nat.le_of_ble_eq_true rfl) ⟨Nat.le_of_ble_eq_true rfl, Nat.le_of_ble_eq_true rfl, Nat.le_of_ble_eq_true rfl⟩ ?_
                refine gx_room (gx_mono (W_endThrown_m hS r3 h) ?_) (Nat.le_of_ble_eq_true rfl) (Nat.le_of_ble_eq_true rfl)
                rintro _ _ ⟨z8, M8, rfl, rfl, r8, h⟩
                exact gx_ret rfl rfl ⟨z8, M8, rfl, rfl, r8, h⟩
            · replace h := h.1 (Classical.not_not.mp c)
              refine g1 (n := 1) rfl rfl rfl (la_of a0) ?_
              refine g1 (n := 1) rfl rfl rfl (li_of a1) ?_
              refine g1 (n := 1) rfl rfl rfl (la_of a0) ?_
              refine n_gl rfl hS.1 rfl (fun _ => rfl) ?_
              refine m_iv (a := 353) (as := [zv v1, .long (gl M2 353 66)]) (rest := []) rfl (by decide) hS.1 rfl rfl (Nat.le_of_ble_eq_true rfl) ⟨Nat.le_of_ble_eq_true rfl, Nat.le_of_ble_eq_true rfl, Nat.le_of_ble_eq_true rfl⟩ ?_
              refine gx_room (gx_mono (W_endThrown_m hS r2 h) ?_) (Nat.le_of_ble_eq_true rfl) (Nat.le_of_ble_eq_true rfl)
              rintro _ _ ⟨z9, M9, rfl, rfl, r9, h⟩
              exact gx_ret rfl rfl ⟨z9, M9, rfl, rfl, r9, h⟩
          · replace h := h.2 c
            refine n_bi rfl (by decide) ?_
            exact gx_ret rfl rfl ⟨6, M2, rfl, rfl, r2, h⟩
        · replace h := h.1 (Classical.not_not.mp c)
          refine g1 (n := 1) rfl rfl rfl (la_of a0) ?_
          refine n_gr rfl hS.1 rfl (fun _ => rfl) r1 (rk_382 hS).2 ?_
          refine g1 (n := 1) rfl rfl rfl (li_of a1) ?_
          refine g1 (n := 1) rfl rfl rfl rfl ?_
          obtain ⟨q, h⟩ := h
          refine n_is (Nat.le_of_ble_eq_true rfl) rfl (rk_382 hS).1 (Nat.le_of_ble_eq_true rfl) q (fun M10 e r => ?_)
          replace h := h M10 e
          have r10 := r1.trans r
          refine g1 (n := 1) rfl rfl rfl (la_of a0) ?_
          refine n_gr rfl hS.1 rfl (fun _ => rfl) r10 (rk_383 hS).2 ?_
          refine g1 (n := 1) rfl rfl rfl (li_of a1) ?_
          refine g1 (n := 1) rfl rfl rfl rfl ?_
          obtain ⟨q, h⟩ := h
          refine n_is (Nat.le_of_ble_eq_true rfl) rfl (rk_383 hS).1 (Nat.le_of_ble_eq_true rfl) q (fun M11 e r => ?_)
          replace h := h M11 e
          have r11 := r10.trans r
          refine g1 (n := 1) rfl rfl rfl (la_of a0) ?_
          refine n_gr rfl hS.1 rfl (fun _ => rfl) r11 (rk_385 hS).2 ?_
          refine g1 (n := 1) rfl rfl rfl (li_of a1) ?_
          refine g1 (n := 1) rfl rfl rfl rfl ?_
          obtain ⟨q, h⟩ := h
          refine n_zs (Nat.le_of_ble_eq_true rfl) rfl (rk_385 hS).1 (Nat.le_of_ble_eq_true rfl) q (fun M12 e r => ?_)
          replace h := h M12 e
          have r12 := r11.trans r
          refine g1 (n := 1) rfl rfl rfl (la_of a0) ?_
          refine g1 (n := 1) rfl rfl rfl (li_of a1) ?_
          refine m_iv (a := 353) (as := [zv v1]) (rest := []) rfl (by decide) hS.1 rfl rfl (Nat.le_of_ble_eq_true rfl) ⟨Nat.le_of_ble_eq_true rfl, Nat.le_of_ble_eq_true rfl, Nat.le_of_ble_eq_true rfl⟩ ?_
          refine gx_room (gx_mono (W_keepRead_m hS r12 h) ?_) (Nat.le_of_ble_eq_true rfl) (Nat.le_of_ble_eq_true rfl)
          rintro _ _ ⟨M13, rfl, rfl, r13, h⟩
          refine g1 (n := 1) rfl rfl rfl rfl ?_
          exact gx_ret rfl rfl ⟨4, M13, rfl, rfl, r13, h⟩
      · replace h := h.2 c
        exact W_turnOf_144 hS r1 a0 a1 h
  · replace h := h.1 (Classical.not_not.mp c)
    refine g1 (n := 1) rfl rfl rfl (la_of a0) ?_
    refine n_gr rfl hS.1 rfl (fun _ => rfl) hR (rk_383 hS).2 ?_
    refine g1 (n := 1) rfl rfl rfl (li_of a1) ?_
    refine g0 rfl rfl rfl ?_
    obtain ⟨q, h⟩ := h
    refine n_ia rfl (rk_383 hS).1 (Nat.le_of_ble_eq_true rfl) q ?_
    refine g1 (n := 1) rfl rfl rfl rfl ?_
    refine n_add rfl ?_
    obtain ⟨q, h⟩ := h
    refine n_is (Nat.le_of_ble_eq_true rfl) rfl (rk_383 hS).1 (Nat.le_of_ble_eq_true rfl) q (fun M14 e r => ?_)
    replace h := h M14 e
    have r14 := hR.trans r
    refine g1 (n := 1) rfl rfl rfl (la_of a0) ?_
    refine g1 (n := 1) rfl rfl rfl (li_of a1) ?_
    refine m_iv (a := 353) (as := [zv v1]) (rest := []) rfl (by decide) hS.1 rfl rfl (Nat.le_of_ble_eq_true rfl) ⟨Nat.le_of_ble_eq_true rfl, Nat.le_of_ble_eq_true rfl, Nat.le_of_ble_eq_true rfl⟩ ?_
    refine gx_room (gx_mono (W_keepRead_m hS r14 h) ?_) (Nat.le_of_ble_eq_true rfl) (Nat.le_of_ble_eq_true rfl)
    rintro _ _ ⟨M15, rfl, rfl, r15, h⟩
    refine g1 (n := 1) rfl rfl rfl rfl ?_
    exact gx_ret rfl rfl ⟨0, M15, rfl, rfl, r15, h⟩
def w_turnOf_77 (v1 : Int) (M : rf_M) (K : Int → rf_M → Prop) : Prop := wm_walkAnew v1 M (fun (M1 : rf_M) => (0 ≤ v1 ∧ v1 < 8) ∧ (((gi M1 383 (v1).toNat) = 300 → (∀ M3 : rf_M, M3 = wl M1 353 66 (Int64.ofNat 18446744073709551613) → (w_turnOf_111 v1 2 M3 K))) ∧ (¬ (gi M1 383 (v1).toNat) = 300 → (wm_step  M1 (fun (z2 : Int) (M2 : rf_M) => w_turnOf_111 v1 z2 M2 K)))))
theorem W_turnOf_77 {fz : Bool} {S : gS} {B : rf_M} {M : rf_M} {ls : rf_L} {v1 : Int} {K : Int → rf_M → Prop} (hS : rk fz S B.2.2) (hR : fq B M) (a0 : rf_ld ls 0 = some (.ref 353)) (a1 : rf_ld ls 1 = some (zv v1)) (h : w_turnOf_77 v1 M K) : gx (cx0 fz) (6, 134) 156 77 ls [] (M, S) (vq_i B S K) := by
  unfold w_turnOf_77 at h
  refine g1 (n := 1) rfl rfl rfl (la_of a0) ?_
  refine g1 (n := 1) rfl rfl rfl (li_of a1) ?_
  refine m_iv (a := 353) (as := [zv v1]) (rest := []) rfl (by decide) hS.1 rfl rfl (Nat.le_of_ble_eq_true rfl) ⟨Nat.le_of_ble_eq_true rfl, Nat.le_of_ble_eq_true rfl, Nat.le_of_ble_eq_true rfl⟩ ?_
  refine gx_room (gx_mono (W_walkAnew_m hS hR h) ?_) (Nat.le_of_ble_eq_true rfl) (Nat.le_of_ble_eq_true rfl)
  rintro _ _ ⟨M1, rfl, rfl, r1, h⟩
  refine g1 (n := 1) rfl rfl rfl (la_of a0) ?_
  refine n_gr rfl hS.1 rfl (fun _ => rfl) r1 (rk_383 hS).2 ?_
  refine g1 (n := 1) rfl rfl rfl (li_of a1) ?_
  obtain ⟨q, h⟩ := h
  refine n_ia rfl (rk_383 hS).1 (Nat.le_of_ble_eq_true rfl) q ?_
  refine n_si rfl (by decide) ?_
  refine n_ic rfl (inr_gi _ _ _) ⟨by decide, by decide⟩ (fun c => ?_) (fun c => ?_)
  · replace h := h.2 c
    refine g1 (n := 1) rfl rfl rfl (la_of a0) ?_
    refine m_iv (a := 353) (as := []) (rest := []) rfl (by decide) hS.1 rfl rfl (Nat.le_of_ble_eq_true rfl) ⟨Nat.le_of_ble_eq_true rfl, Nat.le_of_ble_eq_true rfl, Nat.le_of_ble_eq_true rfl⟩ ?_
    refine gx_room (gx_mono (W_step_m hS r1 h) ?_) (Nat.le_of_ble_eq_true rfl) (Nat.le_of_ble_eq_true rfl)
    rintro _ _ ⟨z2, M2, rfl, rfl, r2, h⟩
    refine n_s1 (n := 1) rfl rfl rfl rfl (fun ls l1 ho => ?_)
    replace a0 := ho 0 _ (by decide) (fun q => by cases q.2) a0
    have l2 := ho 1 _ (by decide) (fun q => by cases q.2) a1
    exact W_turnOf_111 hS r2 a0 l2 l1 h
  · replace h := h.1 (Classical.not_not.mp c)
    refine g1 (n := 1) rfl rfl rfl rfl ?_
    refine n_s1 (n := 1) rfl rfl rfl rfl (fun ls l3 ho => ?_)
    replace a0 := ho 0 _ (by decide) (fun q => by cases q.2) a0
    have l4 := ho 1 _ (by decide) (fun q => by cases q.2) a1
    refine g1 (n := 1) rfl rfl rfl (la_of a0) ?_
    refine g7 (n := 3) rfl rfl rfl rfl ?_
    refine n_pl (Nat.le_of_ble_eq_true rfl) rfl hS.1 rfl (fun _ _ => rfl) (fun M3 e r => ?_)
    replace h := h M3 e
    have r3 := r1.trans r
    refine g3 rfl rfl rfl ?_
    exact W_turnOf_111 hS r3 a0 l4 l3 h
def w_turnOf_47 (v1 : Int) (M : rf_M) (K : Int → rf_M → Prop) : Prop := (0 ≤ v1 ∧ v1 < 8) ∧ (((gi M 382 (v1).toNat) = 0 → ((0 ≤ v1 ∧ v1 < 8) ∧ (∀ M1 : rf_M, M1 = wi M 382 (v1).toNat 1 → ((0 ≤ v1 ∧ v1 < 8) ∧ (∀ M2 : rf_M, M2 = wi M1 383 (v1).toNat 0 → ((0 ≤ v1 ∧ v1 < 8) ∧ (∀ M3 : rf_M, M3 = wi M2 386 (v1).toNat 0 → (w_turnOf_77 v1 M3 K)))))))) ∧ (¬ (gi M 382 (v1).toNat) = 0 → (w_turnOf_77 v1 M K)))
theorem W_turnOf_47 {fz : Bool} {S : gS} {B : rf_M} {M : rf_M} {ls : rf_L} {v1 : Int} {K : Int → rf_M → Prop} (hS : rk fz S B.2.2) (hR : fq B M) (a0 : rf_ld ls 0 = some (.ref 353)) (a1 : rf_ld ls 1 = some (zv v1)) (h : w_turnOf_47 v1 M K) : gx (cx0 fz) (6, 134) 156 47 ls [] (M, S) (vq_i B S K) := by
  unfold w_turnOf_47 at h
  refine g1 (n := 1) rfl rfl rfl (la_of a0) ?_
  refine n_gr rfl hS.1 rfl (fun _ => rfl) hR (rk_382 hS).2 ?_
  refine g1 (n := 1) rfl rfl rfl (li_of a1) ?_
  obtain ⟨q, h⟩ := h
  refine n_ia rfl (rk_382 hS).1 (Nat.le_of_ble_eq_true rfl) q ?_
  refine n_if rfl (inr_gi _ _ _) (fun c => ?_) (fun c => ?_)
  · replace h := h.2 c
    exact W_turnOf_77 hS hR a0 a1 h
  · replace h := h.1 (Classical.not_not.mp c)
    refine g1 (n := 1) rfl rfl rfl (la_of a0) ?_
    refine n_gr rfl hS.1 rfl (fun _ => rfl) hR (rk_382 hS).2 ?_
    refine g1 (n := 1) rfl rfl rfl (li_of a1) ?_
    refine g1 (n := 1) rfl rfl rfl rfl ?_
    obtain ⟨q, h⟩ := h
    refine n_is (Nat.le_of_ble_eq_true rfl) rfl (rk_382 hS).1 (Nat.le_of_ble_eq_true rfl) q (fun M1 e r => ?_)
    replace h := h M1 e
    have r1 := hR.trans r
    refine g1 (n := 1) rfl rfl rfl (la_of a0) ?_
    refine n_gr rfl hS.1 rfl (fun _ => rfl) r1 (rk_383 hS).2 ?_
    refine g1 (n := 1) rfl rfl rfl (li_of a1) ?_
    refine g1 (n := 1) rfl rfl rfl rfl ?_
    obtain ⟨q, h⟩ := h
    refine n_is (Nat.le_of_ble_eq_true rfl) rfl (rk_383 hS).1 (Nat.le_of_ble_eq_true rfl) q (fun M2 e r => ?_)
    replace h := h M2 e
    have r2 := r1.trans r
    refine g1 (n := 1) rfl rfl rfl (la_of a0) ?_
    refine n_gr rfl hS.1 rfl (fun _ => rfl) r2 (rk_386 hS).2 ?_
    refine g1 (n := 1) rfl rfl rfl (li_of a1) ?_
    refine g1 (n := 1) rfl rfl rfl rfl ?_
    obtain ⟨q, h⟩ := h
    refine n_is (Nat.le_of_ble_eq_true rfl) rfl (rk_386 hS).1 (Nat.le_of_ble_eq_true rfl) q (fun M3 e r => ?_)
    replace h := h M3 e
    have r3 := r2.trans r
    exact W_turnOf_77 hS r3 a0 a1 h
def w_turnOf (v1 : Int) (M : rf_M) (K : Int → rf_M → Prop) : Prop := (0 ≤ v1 ∧ v1 < 8) ∧ (((gi M 381 (v1).toNat) = 0 → (K 5 M)) ∧ (¬ (gi M 381 (v1).toNat) = 0 → ((0 ≤ v1 ∧ v1 < 8) ∧ (((gi M 382 (v1).toNat) = 2 → (∀ M1 : rf_M, M1 = wi M 353 42 0 → (wm_bringRead v1 M1 (fun (M2 : rf_M) => wm_isChanged  M2 (fun (z3 : Int) (M3 : rf_M) => inr z3 ∧ ((z3 = 0 → (K 4 M3)) ∧ (¬ z3 = 0 → ((0 ≤ v1 ∧ v1 < 8) ∧ (∀ M4 : rf_M, M4 = wi M3 382 (v1).toNat 0 → (w_turnOf_47 v1 M4 K)))))))))) ∧ (¬ (gi M 382 (v1).toNat) = 2 → (w_turnOf_47 v1 M K))))))
theorem W_turnOf {fz : Bool} {S : gS} {B : rf_M} {M : rf_M} {ls : rf_L} {v1 : Int} {K : Int → rf_M → Prop} (hS : rk fz S B.2.2) (hR : fq B M) (a0 : rf_ld ls 0 = some (.ref 353)) (a1 : rf_ld ls 1 = some (zv v1)) (h : w_turnOf v1 M K) : gx (cx0 fz) (6, 134) 156 0 ls [] (M, S) (vq_i B S K) := by
  unfold w_turnOf at h
  refine g1 (n := 1) rfl rfl rfl (la_of a0) ?_
  refine n_gr rfl hS.1 rfl (fun _ => rfl) hR (rk_381 hS).2 ?_
  refine g1 (n := 1) rfl rfl rfl (li_of a1) ?_
  obtain ⟨q, h⟩ := h
  refine n_ia rfl (rk_381 hS).1 (Nat.le_of_ble_eq_true rfl) q ?_
  refine n_if rfl (inr_gi _ _ _) (fun c => ?_) (fun c => ?_)
  · replace h := h.2 c
    refine g1 (n := 1) rfl rfl rfl (la_of a0) ?_
    refine n_gr rfl hS.1 rfl (fun _ => rfl) hR (rk_382 hS).2 ?_
    refine g1 (n := 1) rfl rfl rfl (li_of a1) ?_
    obtain ⟨q, h⟩ := h
    refine n_ia rfl (rk_382 hS).1 (Nat.le_of_ble_eq_true rfl) q ?_
    refine g1 (n := 1) rfl rfl rfl rfl ?_
    refine n_ic rfl (inr_gi _ _ _) ⟨by decide, by decide⟩ (fun c => ?_) (fun c => ?_)
    · replace h := h.2 c
      exact W_turnOf_47 hS hR a0 a1 h
    · replace h := h.1 (Classical.not_not.mp c)
      refine g1 (n := 1) rfl rfl rfl (la_of a0) ?_
      refine g1 (n := 1) rfl rfl rfl rfl ?_
      refine n_pi (Nat.le_of_ble_eq_true rfl) rfl hS.1 rfl (fun _ _ => rfl) (fun M1 e r => ?_)
      replace h := h M1 e
      have r1 := hR.trans r
      refine g1 (n := 1) rfl rfl rfl (la_of a0) ?_
      refine g1 (n := 1) rfl rfl rfl (li_of a1) ?_
      refine m_iv (a := 353) (as := [zv v1]) (rest := []) rfl (by decide) hS.1 rfl rfl (Nat.le_of_ble_eq_true rfl) ⟨Nat.le_of_ble_eq_true rfl, Nat.le_of_ble_eq_true rfl, Nat.le_of_ble_eq_true rfl⟩ ?_
      refine gx_room (gx_mono (W_bringRead_m hS r1 h) ?_) (Nat.le_of_ble_eq_true rfl) (Nat.le_of_ble_eq_true rfl)
      rintro _ _ ⟨M2, rfl, rfl, r2, h⟩
      refine g1 (n := 1) rfl rfl rfl (la_of a0) ?_
      refine m_iv (a := 353) (as := []) (rest := []) rfl (by decide) hS.1 rfl rfl (Nat.le_of_ble_eq_true rfl) ⟨Nat.le_of_ble_eq_true rfl, Nat.le_of_ble_eq_true rfl, Nat.le_of_ble_eq_true rfl⟩ ?_
      refine gx_room (gx_mono (W_isChanged_m hS r2 h) ?_) (Nat.le_of_ble_eq_true rfl) (Nat.le_of_ble_eq_true rfl)
      rintro _ _ ⟨z3, M3, rfl, rfl, r3, h⟩
      obtain ⟨i1, h⟩ := h
      refine n_if rfl i1 (fun c => ?_) (fun c => ?_)
      · replace h := h.2 c
        refine g1 (n := 1) rfl rfl rfl (la_of a0) ?_
        refine n_gr rfl hS.1 rfl (fun _ => rfl) r3 (rk_382 hS).2 ?_
        refine g1 (n := 1) rfl rfl rfl (li_of a1) ?_
        refine g1 (n := 1) rfl rfl rfl rfl ?_
        obtain ⟨q, h⟩ := h
        refine n_is (Nat.le_of_ble_eq_true rfl) rfl (rk_382 hS).1 (Nat.le_of_ble_eq_true rfl) q (fun M4 e r => ?_)
        replace h := h M4 e
        have r4 := r3.trans r
        exact W_turnOf_47 hS r4 a0 a1 h
      · replace h := h.1 (Classical.not_not.mp c)
        refine g1 (n := 1) rfl rfl rfl rfl ?_
        exact gx_ret rfl rfl ⟨4, M3, rfl, rfl, r3, h⟩
  · replace h := h.1 (Classical.not_not.mp c)
    refine g1 (n := 1) rfl rfl rfl rfl ?_
    exact gx_ret rfl rfl ⟨5, M, rfl, rfl, hR, h⟩
def wm_turnOf (x0 : Int) (M : rf_M) (K : Int → rf_M → Prop) : Prop := w_turnOf x0 M K
theorem W_turnOf_m {fz : Bool} {S : gS} {B : rf_M} {M : rf_M} {x0 : Int} {K : Int → rf_M → Prop} (hS : rk fz S B.2.2) (hR : fq B M) (h : wm_turnOf x0 M K) : gx (cx0 fz) (6, 134) 156 0 (lv_args 0 [.ref 353, zv x0]) [] (M, S) (vq_i B S K) :=
  W_turnOf hS hR rfl rfl h
def w_turn_22 (s0 : Int) (M : rf_M) (K : Int → rf_M → Prop) : Prop := K s0 M
theorem W_turn_22 {fz : Bool} {S : gS} {B : rf_M} {M : rf_M} {ls : rf_L} {s0 : Int} {K : Int → rf_M → Prop} (hS : rk fz S B.2.2) (hR : fq B M) (h : w_turn_22 s0 M K) : gx (cx0 fz) (7, 156) 154 22 ls [zv s0] (M, S) (vq_i B S K) := by
  unfold w_turn_22 at h
  exact gx_ret rfl rfl ⟨s0, M, rfl, rfl, hR, h⟩
def w_turn (v1 : Int) (M : rf_M) (K : Int → rf_M → Prop) : Prop := ∀ M1 : rf_M, M1 = wi M 353 0 0 → (wm_isClient v1 M1 (fun (z2 : Int) (M2 : rf_M) => inr z2 ∧ ((z2 = 0 → (w_turn_22 (-1) M2 K)) ∧ (¬ (z2 = 0) → (wm_turnOf v1 M2 (fun (z3 : Int) (M3 : rf_M) => w_turn_22 z3 M3 K))))))
theorem W_turn {fz : Bool} {S : gS} {B : rf_M} {M : rf_M} {ls : rf_L} {v1 : Int} {K : Int → rf_M → Prop} (hS : rk fz S B.2.2) (hR : fq B M) (a0 : rf_ld ls 0 = some (.ref 353)) (a1 : rf_ld ls 1 = some (zv v1)) (h : w_turn v1 M K) : gx (cx0 fz) (7, 156) 154 0 ls [] (M, S) (vq_i B S K) := by
  unfold w_turn at h
  refine g1 (n := 1) rfl rfl rfl (la_of a0) ?_
  refine g1 (n := 1) rfl rfl rfl rfl ?_
  refine n_pi (Nat.le_of_ble_eq_true rfl) rfl hS.1 rfl (fun _ _ => rfl) (fun M1 e r => ?_)
  replace h := h M1 e
  have r1 := hR.trans r
  refine g1 (n := 1) rfl rfl rfl (la_of a0) ?_
  refine g1 (n := 1) rfl rfl rfl (li_of a1) ?_
  refine m_iv (a := 353) (as := [zv v1]) (rest := []) rfl (by decide) hS.1 rfl rfl (Nat.le_of_ble_eq_true rfl) ⟨Nat.le_of_ble_eq_true rfl, Nat.le_of_ble_eq_true rfl, Nat.le_of_ble_eq_true rfl⟩ ?_
  refine gx_room (gx_mono (W_isClient_m hS r1 h) ?_) (Nat.le_of_ble_eq_true rfl) (Nat.le_of_ble_eq_true rfl)
  rintro _ _ ⟨z2, M2, rfl, rfl, r2, h⟩
  obtain ⟨i1, h⟩ := h
  refine n_if rfl i1 (fun c => ?_) (fun c => ?_)
  · replace h := h.1 c
    refine g1 (n := 1) rfl rfl rfl rfl ?_
    exact W_turn_22 hS r2  h
  · replace h := h.2 c
    refine g1 (n := 1) rfl rfl rfl (la_of a0) ?_
    refine g1 (n := 1) rfl rfl rfl (li_of a1) ?_
    refine m_iv (a := 353) (as := [zv v1]) (rest := []) rfl (by decide) hS.1 rfl rfl (Nat.le_of_ble_eq_true rfl) ⟨Nat.le_of_ble_eq_true rfl, Nat.le_of_ble_eq_true rfl, Nat.le_of_ble_eq_true rfl⟩ ?_
    refine gx_room (gx_mono (W_turnOf_m hS r2 h) ?_) (Nat.le_of_ble_eq_true rfl) (Nat.le_of_ble_eq_true rfl)
    rintro _ _ ⟨z3, M3, rfl, rfl, r3, h⟩
    refine g3 rfl rfl rfl ?_
    exact W_turn_22 hS r3  h
def wm_turn (x0 : Int) (M : rf_M) (K : Int → rf_M → Prop) : Prop := w_turn x0 M K
theorem W_turn_m {fz : Bool} {S : gS} {B : rf_M} {M : rf_M} {x0 : Int} {K : Int → rf_M → Prop} (hS : rk fz S B.2.2) (hR : fq B M) (h : wm_turn x0 M K) : gx (cx0 fz) (7, 156) 154 0 (lv_args 0 [.ref 353, zv x0]) [] (M, S) (vq_i B S K) :=
  W_turn hS hR rfl rfl h
def w_play_16 (M : rf_M) (K : Int → rf_M → Prop) : Prop := K (-1) M
theorem W_play_16 {fz : Bool} {S : gS} {B : rf_M} {M : rf_M} {ls : rf_L} {K : Int → rf_M → Prop} (hS : rk fz S B.2.2) (hR : fq B M) (h : w_play_16 M K) : gx (cx0 fz) (7, 156) 183 16 ls [] (M, S) (vq_i B S K) := by
  unfold w_play_16 at h
  refine g1 (n := 1) rfl rfl rfl rfl ?_
  exact gx_ret rfl rfl ⟨(-1), M, rfl, rfl, hR, h⟩
def w_play_66 (v3 : Int) (v4 : Int64) (v7 : Int) (s0 : Int) (s1 : Int) (M : rf_M) (b27 : Int → Int64 → Int → Int → rf_M → Prop) (K : Int → rf_M → Prop) : Prop := b27 v3 v4 (s0 + s1) (v7 + 1) M
theorem W_play_66 {fz : Bool} {S : gS} {B : rf_M} {M : rf_M} {ls : rf_L} {v3 : Int} {v4 : Int64} {v7 : Int} {s0 : Int} {s1 : Int} {b27 : Int → Int64 → Int → Int → rf_M → Prop} {K : Int → rf_M → Prop} (hS : rk fz S B.2.2) (hR : fq B M) (a0 : rf_ld ls 0 = some (.ref 353)) (a3 : rf_ld ls 3 = some (zv v3)) (a4 : rf_ld ls 4 = some (.long v4)) (a7 : rf_ld ls 7 = some (zv v7)) (hb27 : ∀ (v3 : Int) (v4 : Int64) (v6 : Int) (v7 : Int) (M : rf_M) (ls : rf_L), fq B M → rf_ld ls 0 = some (.ref 353) → rf_ld ls 3 = some (zv v3) → rf_ld ls 4 = some (.long v4) → rf_ld ls 6 = some (zv v6) → rf_ld ls 7 = some (zv v7) → b27 v3 v4 v6 v7 M → gx (cx0 fz) (7, 156) 183 27 ls [] (M, S) (vq_i B S K)) (h : w_play_66 v3 v4 v7 s0 s1 M b27 K) : gx (cx0 fz) (7, 156) 183 66 ls [zv s1, zv s0] (M, S) (vq_i B S K) := by
  unfold w_play_66 at h
  refine n_add rfl ?_
  refine n_s1 (n := 2) rfl rfl rfl rfl (fun ls l1 ho => ?_)
  replace a0 := ho 0 _ (by decide) (fun q => by cases q.2) a0
  have l2 := ho 3 _ (by decide) (fun q => by cases q.2) a3
  have l3 := ho 4 _ (by decide) (fun q => absurd q.1 (by decide)) a4
  have l4 := ho 7 _ (by decide) (fun q => by cases q.2) a7
  refine n_ii rfl l4 (Nat.le_of_ble_eq_true rfl) (fun ls l5 ho => ?_)
  replace a0 := ho 0 _ (by decide) (fun q => by cases q.2) a0
  have l6 := ho 3 _ (by decide) (fun q => by cases q.2) l2
  have l7 := ho 4 _ (by decide) (fun q => absurd q.1 (by decide)) l3
  have l8 := ho 6 _ (by decide) (fun q => by cases q.2) l1
  refine g3 rfl rfl rfl ?_
  exact hb27 _ _ _ _ _ _ hR a0 l6 l7 l8 l5 h
def w_play_27b (v3 : Int) (v4 : Int64) (v6 : Int) (v7 : Int) (M : rf_M) (b27 : Int → Int64 → Int → Int → rf_M → Prop) (K : Int → rf_M → Prop) : Prop := inr v7 ∧ (inr v3 ∧ ((v3 ≤ v7 → (K v6 M)) ∧ (¬ (v3 ≤ v7) → (wm_turnOf ((((v4 * (Int64.ofNat 6364136223846793005)) + (Int64.ofNat 1442695040888963407)).toUInt64 >>> ((Int32.ofInt 61).toInt64.toUInt64 &&& Int64.toUInt64 63)).toInt64).toInt32.toInt M (fun (z1 : Int) (M1 : rf_M) => inr z1 ∧ ((z1 = 1 → (w_play_66 v3 ((v4 * (Int64.ofNat 6364136223846793005)) + (Int64.ofNat 1442695040888963407)) v7 v6 1 M1 b27 K)) ∧ (¬ z1 = 1 → (w_play_66 v3 ((v4 * (Int64.ofNat 6364136223846793005)) + (Int64.ofNat 1442695040888963407)) v7 v6 0 M1 b27 K))))))))
theorem W_play_27b {fz : Bool} {S : gS} {B : rf_M} {M : rf_M} {ls : rf_L} {v3 : Int} {v4 : Int64} {v6 : Int} {v7 : Int} {b27 : Int → Int64 → Int → Int → rf_M → Prop} {K : Int → rf_M → Prop} (hS : rk fz S B.2.2) (hR : fq B M) (a0 : rf_ld ls 0 = some (.ref 353)) (a3 : rf_ld ls 3 = some (zv v3)) (a4 : rf_ld ls 4 = some (.long v4)) (a6 : rf_ld ls 6 = some (zv v6)) (a7 : rf_ld ls 7 = some (zv v7)) (hb27 : ∀ (v3 : Int) (v4 : Int64) (v6 : Int) (v7 : Int) (M : rf_M) (ls : rf_L), fq B M → rf_ld ls 0 = some (.ref 353) → rf_ld ls 3 = some (zv v3) → rf_ld ls 4 = some (.long v4) → rf_ld ls 6 = some (zv v6) → rf_ld ls 7 = some (zv v7) → b27 v3 v4 v6 v7 M → gx (cx0 fz) (7, 156) 183 27 ls [] (M, S) (vq_i B S K)) (h : w_play_27b v3 v4 v6 v7 M b27 K) : gx (cx0 fz) (7, 156) 183 27 ls [] (M, S) (vq_i B S K) := by
  unfold w_play_27b at h
  refine g1 (n := 2) rfl rfl rfl (li_of a7) ?_
  refine g1 (n := 1) rfl rfl rfl (li_of a3) ?_
  obtain ⟨i1, h⟩ := h
  obtain ⟨i2, h⟩ := h
  refine n_ic rfl i1 i2 (fun c => ?_) (fun c => ?_)
  · replace h := h.1 c
    refine g1 (n := 2) rfl rfl rfl (li_of a6) ?_
    exact gx_ret rfl rfl ⟨v6, M, rfl, rfl, hR, h⟩
  · replace h := h.2 c
    refine g1 (n := 2) rfl rfl rfl (ll_of a4) ?_
    refine g7 (n := 3) rfl rfl rfl rfl ?_
    refine g0 rfl rfl rfl ?_
    refine g7 (n := 3) rfl rfl rfl rfl ?_
    refine g0 rfl rfl rfl ?_
    refine n_s2 (n := 2) rfl rfl rfl rfl (fun ls l1 ho => ?_)
    replace a0 := ho 0 _ (by decide) (by decide) (fun q => by cases q.2) a0
    have l2 := ho 3 _ (by decide) (by decide) (fun q => by cases q.2) a3
    have l3 := ho 6 _ (by decide) (by decide) (fun q => by cases q.2) a6
    have l4 := ho 7 _ (by decide) (by decide) (fun q => by cases q.2) a7
    refine g1 (n := 2) rfl rfl rfl (li_of l3) ?_
    refine g1 (n := 1) rfl rfl rfl (la_of a0) ?_
    refine g1 (n := 2) rfl rfl rfl (ll_of l1) ?_
    refine n_bi rfl (by decide) ?_
    refine g0 rfl rfl rfl ?_
    refine n_op (T := ((((v4 * (Int64.ofNat 6364136223846793005)) + (Int64.ofNat 1442695040888963407)).toUInt64 >>> ((Int32.ofInt 61).toInt64.toUInt64 &&& Int64.toUInt64 63)).toInt64).toInt32) rfl rfl rfl ?_
    refine m_iv (a := 353) (as := [zv ((((v4 * (Int64.ofNat 6364136223846793005)) + (Int64.ofNat 1442695040888963407)).toUInt64 >>> ((Int32.ofInt 61).toInt64.toUInt64 &&& Int64.toUInt64 63)).toInt64).toInt32.toInt]) (rest := [zv v6]) rfl (by decide) hS.1 rfl rfl (Nat.le_of_ble_eq_true rfl) ⟨Nat.le_of_ble_eq_true rfl, Nat.le_of_ble_eq_true rfl, Nat.le_of_ble_eq_true rfl⟩ ?_
    refine gx_room (gx_mono (W_turnOf_m hS hR h) ?_) (Nat.le_of_ble_eq_true rfl) (Nat.le_of_ble_eq_true rfl)
    rintro _ _ ⟨z1, M1, rfl, rfl, r1, h⟩
    refine g1 (n := 1) rfl rfl rfl rfl ?_
    obtain ⟨i3, h⟩ := h
    refine n_ic rfl i3 ⟨by decide, by decide⟩ (fun c => ?_) (fun c => ?_)
    · replace h := h.2 c
      refine g1 (n := 1) rfl rfl rfl rfl ?_
      exact W_play_66 hS r1 a0 l2 l1 l4 hb27 h
    · replace h := h.1 (Classical.not_not.mp c)
      refine g1 (n := 1) rfl rfl rfl rfl ?_
      refine g3 rfl rfl rfl ?_
      exact W_play_66 hS r1 a0 l2 l1 l4 hb27 h
