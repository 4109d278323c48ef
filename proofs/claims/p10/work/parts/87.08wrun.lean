def w_client_58 (v1 : Int) (v2 : Int) (v3 : Int) (M : rf_M) (K : Int → rf_M → Prop) : Prop := w_client_59 v1 v2 v3 0 M K
theorem W_client_58 {fz : Bool} {S : gS} {B : rf_M} {M : rf_M} {ls : rf_L} {v1 : Int} {v2 : Int} {v3 : Int} {K : Int → rf_M → Prop} (hS : rk fz S B.2.2) (hR : fq B M) (a0 : rf_ld ls 0 = some (.ref 353)) (a1 : rf_ld ls 1 = some (zv v1)) (a2 : rf_ld ls 2 = some (zv v2)) (a3 : rf_ld ls 3 = some (zv v3)) (h : w_client_58 v1 v2 v3 M K) : gx (cx0 fz) (5, 113) 188 58 ls [] (M, S) (vq_i B S K) := by
  unfold w_client_58 at h
  refine g1 (n := 1) rfl rfl rfl rfl ?_
  exact W_client_59 hS hR a0 a1 a2 a3 h
def w_client_39 (v1 : Int) (v2 : Int) (s0 : Int) (M : rf_M) (K : Int → rf_M → Prop) : Prop := inr s0 ∧ ((s0 = 0 → ((0 ≤ v1 ∧ v1 < 8) ∧ (((gi M 382 (v1).toNat) = 1 → (w_client_59 v1 v2 s0 1 M K)) ∧ (¬ (gi M 382 (v1).toNat) = 1 → (w_client_58 v1 v2 s0 M K))))) ∧ (¬ s0 = 0 → (w_client_58 v1 v2 s0 M K)))
theorem W_client_39 {fz : Bool} {S : gS} {B : rf_M} {M : rf_M} {ls : rf_L} {v1 : Int} {v2 : Int} {s0 : Int} {K : Int → rf_M → Prop} (hS : rk fz S B.2.2) (hR : fq B M) (a0 : rf_ld ls 0 = some (.ref 353)) (a1 : rf_ld ls 1 = some (zv v1)) (a2 : rf_ld ls 2 = some (zv v2)) (h : w_client_39 v1 v2 s0 M K) : gx (cx0 fz) (5, 113) 188 39 ls [zv s0] (M, S) (vq_i B S K) := by
  unfold w_client_39 at h
  refine n_s1 (n := 1) rfl rfl rfl rfl (fun ls l1 ho => ?_)
  replace a0 := ho 0 _ (by decide) (fun q => by cases q.2) a0
  have l2 := ho 1 _ (by decide) (fun q => by cases q.2) a1
  have l3 := ho 2 _ (by decide) (fun q => by cases q.2) a2
  refine g1 (n := 1) rfl rfl rfl (li_of l1) ?_
  obtain ⟨i1, h⟩ := h
  refine n_if rfl i1 (fun c => ?_) (fun c => ?_)
  · replace h := h.2 c
    exact W_client_58 hS hR a0 l2 l3 l1 h
  · replace h := h.1 (Classical.not_not.mp c)
    refine g1 (n := 1) rfl rfl rfl (la_of a0) ?_
    refine n_gr rfl hS.1 rfl (fun _ => rfl) hR (rk_382 hS).2 ?_
    refine g1 (n := 1) rfl rfl rfl (li_of l2) ?_
    obtain ⟨q, h⟩ := h
    refine n_ia rfl (rk_382 hS).1 (Nat.le_of_ble_eq_true rfl) q ?_
    refine g1 (n := 1) rfl rfl rfl rfl ?_
    refine n_ic rfl (inr_gi _ _ _) ⟨by decide, by decide⟩ (fun c => ?_) (fun c => ?_)
    · replace h := h.2 c
      exact W_client_58 hS hR a0 l2 l3 l1 h
    · replace h := h.1 (Classical.not_not.mp c)
      refine g1 (n := 1) rfl rfl rfl rfl ?_
      refine g3 rfl rfl rfl ?_
      exact W_client_59 hS hR a0 l2 l3 l1 h
def w_client (v1 : Int) (v2 : Int) (M : rf_M) (K : Int → rf_M → Prop) : Prop := ∀ M1 : rf_M, M1 = wi M 353 0 0 → (wm_isClient v1 M1 (fun (z2 : Int) (M2 : rf_M) => inr z2 ∧ ((z2 = 0 → (w_client_23 M2 K)) ∧ (¬ (z2 = 0) → (inr v2 ∧ ((v2 < 0 → (w_client_23 M2 K)) ∧ (¬ (v2 < 0) → (inr v2 ∧ ((v2 ≤ 8 → ((0 ≤ v1 ∧ v1 < 8) ∧ (((gi M2 381 (v1).toNat) = 0 → (w_client_39 v1 v2 1 M2 K)) ∧ (¬ (gi M2 381 (v1).toNat) = 0 → (w_client_39 v1 v2 0 M2 K))))) ∧ (¬ (v2 ≤ 8) → (w_client_23 M2 K)))))))))))
theorem W_client {fz : Bool} {S : gS} {B : rf_M} {M : rf_M} {ls : rf_L} {v1 : Int} {v2 : Int} {K : Int → rf_M → Prop} (hS : rk fz S B.2.2) (hR : fq B M) (a0 : rf_ld ls 0 = some (.ref 353)) (a1 : rf_ld ls 1 = some (zv v1)) (a2 : rf_ld ls 2 = some (zv v2)) (h : w_client v1 v2 M K) : gx (cx0 fz) (5, 113) 188 0 ls [] (M, S) (vq_i B S K) := by
  unfold w_client at h
  refine g1 (n := 1) rfl rfl rfl (la_of a0) ?_
  refine g1 (n := 1) rfl rfl rfl rfl ?_
  refine n_pi (Nat.le_of_ble_eq_true rfl) rfl hS.1 rfl (fun _ _ => rfl) (fun M1 e r => ?_)
  replace h := h M1 e
  have r1 := hR.trans r
  refine g1 (n := 1) rfl rfl rfl (la_of a0) ?_
  refine g1 (n := 1) rfl rfl rfl (li_of a1) ?_
  refine m_iv (a := 353) (as := [zv v1]) (rest := []) rfl (by decide) hS.1 rfl rfl (Nat.le_of_ble_eq_true rfl) ⟨Nat.le_of_ble_eq_true rfl, Nat.le_of_ble_eq_true rfl, Nat.le_of_ble_eq_true rfl⟩ ?_
  refine gx_room (gx_mono (W_isClient_m hS r1 h) ?_) (Nat.le_of_ble_eq_true rfl) (Nat.le_of_ble_eq_true rfl)
  rintro _ _ ⟨z2, M2, rfl, rfl, r2, h⟩
  obtain ⟨i1, h⟩ := h
  refine n_if rfl i1 (fun c => ?_) (fun c => ?_)
  · replace h := h.1 c
    exact W_client_23 hS r2  h
  · replace h := h.2 c
    refine g1 (n := 1) rfl rfl rfl (li_of a2) ?_
    obtain ⟨i2, h⟩ := h
    refine n_if rfl i2 (fun c => ?_) (fun c => ?_)
    · replace h := h.1 c
      exact W_client_23 hS r2  h
    · replace h := h.2 c
      refine g1 (n := 1) rfl rfl rfl (li_of a2) ?_
      refine n_bi rfl (by decide) ?_
      obtain ⟨i3, h⟩ := h
      refine n_ic rfl i3 ⟨by decide, by decide⟩ (fun c => ?_) (fun c => ?_)
      · replace h := h.1 c
        refine g1 (n := 1) rfl rfl rfl (la_of a0) ?_
        refine n_gr rfl hS.1 rfl (fun _ => rfl) r2 (rk_381 hS).2 ?_
        refine g1 (n := 1) rfl rfl rfl (li_of a1) ?_
        obtain ⟨q, h⟩ := h
        refine n_ia rfl (rk_381 hS).1 (Nat.le_of_ble_eq_true rfl) q ?_
        refine n_if rfl (inr_gi _ _ _) (fun c => ?_) (fun c => ?_)
        · replace h := h.2 c
          refine g1 (n := 1) rfl rfl rfl rfl ?_
          exact W_client_39 hS r2 a0 a1 a2 h
        · replace h := h.1 (Classical.not_not.mp c)
          refine g1 (n := 1) rfl rfl rfl rfl ?_
          refine g3 rfl rfl rfl ?_
          exact W_client_39 hS r2 a0 a1 a2 h
      · replace h := h.2 c
        exact W_client_23 hS r2  h
def wm_client (x0 : Int) (x1 : Int) (M : rf_M) (K : Int → rf_M → Prop) : Prop := w_client x0 x1 M K
theorem W_client_m {fz : Bool} {S : gS} {B : rf_M} {M : rf_M} {x0 : Int} {x1 : Int} {K : Int → rf_M → Prop} (hS : rk fz S B.2.2) (hR : fq B M) (h : wm_client x0 x1 M K) : gx (cx0 fz) (5, 113) 188 0 (lv_args 0 [.ref 353, zv x0, zv x1]) [] (M, S) (vq_i B S K) :=
  W_client hS hR rfl rfl rfl h
def w_sees_23 (M : rf_M) (K : Int64 → rf_M → Prop) : Prop := K (Int64.ofNat 0) M
theorem W_sees_23 {fz : Bool} {S : gS} {B : rf_M} {M : rf_M} {ls : rf_L} {K : Int64 → rf_M → Prop} (hS : rk fz S B.2.2) (hR : fq B M) (h : w_sees_23 M K) : gx (cx0 fz) (5, 113) 189 23 ls [] (M, S) (vq_l B S K) := by
  unfold w_sees_23 at h
  refine g1 (n := 1) rfl rfl rfl rfl ?_
  exact gx_ret rfl rfl ⟨(Int64.ofNat 0), M, rfl, rfl, hR, h⟩
def w_sees_60 (s0 : Int64) (M : rf_M) (K : Int64 → rf_M → Prop) : Prop := K s0 M
theorem W_sees_60 {fz : Bool} {S : gS} {B : rf_M} {M : rf_M} {ls : rf_L} {s0 : Int64} {K : Int64 → rf_M → Prop} (hS : rk fz S B.2.2) (hR : fq B M) (h : w_sees_60 s0 M K) : gx (cx0 fz) (5, 113) 189 60 ls [.long s0] (M, S) (vq_l B S K) := by
  unfold w_sees_60 at h
  exact gx_ret rfl rfl ⟨s0, M, rfl, rfl, hR, h⟩
def w_sees_44 (v2 : Int) (M : rf_M) (K : Int64 → rf_M → Prop) : Prop := inr v2 ∧ ((16 ≤ v2 → (w_sees_60 (Int64.ofNat 0) M K)) ∧ (¬ (16 ≤ v2) → ((0 ≤ v2 ∧ v2 < 32) ∧ (w_sees_60 (gl M 376 (v2).toNat) M K))))
theorem W_sees_44 {fz : Bool} {S : gS} {B : rf_M} {M : rf_M} {ls : rf_L} {v2 : Int} {K : Int64 → rf_M → Prop} (hS : rk fz S B.2.2) (hR : fq B M) (a0 : rf_ld ls 0 = some (.ref 353)) (a2 : rf_ld ls 2 = some (zv v2)) (h : w_sees_44 v2 M K) : gx (cx0 fz) (5, 113) 189 44 ls [] (M, S) (vq_l B S K) := by
  unfold w_sees_44 at h
  refine g1 (n := 1) rfl rfl rfl (li_of a2) ?_
  refine n_bi rfl (by decide) ?_
  obtain ⟨i1, h⟩ := h
  refine n_ic rfl i1 ⟨by decide, by decide⟩ (fun c => ?_) (fun c => ?_)
  · replace h := h.1 c
    refine g1 (n := 1) rfl rfl rfl rfl ?_
    exact W_sees_60 hS hR  h
  · replace h := h.2 c
    refine g1 (n := 1) rfl rfl rfl (la_of a0) ?_
    refine n_gr rfl hS.1 rfl (fun _ => rfl) hR (rk_376 hS).2 ?_
    refine g1 (n := 1) rfl rfl rfl (li_of a2) ?_
    obtain ⟨q, h⟩ := h
    refine n_la rfl (rk_376 hS).1 (Nat.le_of_ble_eq_true rfl) q ?_
    refine g3 rfl rfl rfl ?_
    exact W_sees_60 hS hR  h
def w_sees_130 (s0 : Int64) (M : rf_M) (K : Int64 → rf_M → Prop) : Prop := K s0 M
theorem W_sees_130 {fz : Bool} {S : gS} {B : rf_M} {M : rf_M} {ls : rf_L} {s0 : Int64} {K : Int64 → rf_M → Prop} (hS : rk fz S B.2.2) (hR : fq B M) (h : w_sees_130 s0 M K) : gx (cx0 fz) (5, 113) 189 130 ls [.long s0] (M, S) (vq_l B S K) := by
  unfold w_sees_130 at h
  exact gx_ret rfl rfl ⟨s0, M, rfl, rfl, hR, h⟩
def w_sees (v1 : Int) (v2 : Int) (M : rf_M) (K : Int64 → rf_M → Prop) : Prop := ∀ M1 : rf_M, M1 = wi M 353 0 0 → (wm_isClient v1 M1 (fun (z2 : Int) (M2 : rf_M) => inr z2 ∧ ((z2 = 0 → (w_sees_23 M2 K)) ∧ (¬ (z2 = 0) → (inr v2 ∧ ((v2 < 0 → (w_sees_23 M2 K)) ∧ (¬ (v2 < 0) → (inr v2 ∧ ((v2 ≤ 25 → ((0 ≤ v1 ∧ v1 < 8) ∧ (((gi M2 381 (v1).toNat) = 0 → (w_sees_44 v2 M2 K)) ∧ (¬ ((gi M2 381 (v1).toNat) = 0) → ((0 ≤ v1 ∧ v1 < 8) ∧ (((gi M2 382 (v1).toNat) = 1 → (wm_walkAnew v1 M2 (fun (M3 : rf_M) => inr v2 ∧ ((v2 < 16 → (((Int32.ofInt (Int32.ofInt (gi M3 353 55) >>> (Int32.ofInt v2 &&& 31)).toInt &&& Int32.ofInt 1).toInt = 1 → ((0 ≤ v2 ∧ v2 < 16) ∧ (w_sees_130 (gl M3 391 (v2).toNat) M3 K))) ∧ (¬ (Int32.ofInt (Int32.ofInt (gi M3 353 55) >>> (Int32.ofInt v2 &&& 31)).toInt &&& Int32.ofInt 1).toInt = 1 → (((Int32.ofInt (Int32.ofInt (gi M3 353 52) >>> (Int32.ofInt v2 &&& 31)).toInt &&& Int32.ofInt 1).toInt = 1 → ((0 ≤ v2 ∧ v2 < 16) ∧ (w_sees_130 (gl M3 389 (v2).toNat) M3 K))) ∧ (¬ (Int32.ofInt (Int32.ofInt (gi M3 353 52) >>> (Int32.ofInt v2 &&& 31)).toInt &&& Int32.ofInt 1).toInt = 1 → ((0 ≤ v2 ∧ v2 < 32) ∧ (w_sees_130 (gl M3 376 (v2).toNat) M3 K))))))) ∧ (¬ (v2 < 16) → ((0 ≤ (v2 - 16) ∧ (v2 - 16) < 10) ∧ (K (gl M3 392 (v2 - 16).toNat) M3))))))) ∧ (¬ ((gi M2 382 (v1).toNat) = 1) → (w_sees_44 v2 M2 K)))))))) ∧ (¬ (v2 ≤ 25) → (w_sees_23 M2 K)))))))))))
theorem W_sees {fz : Bool} {S : gS} {B : rf_M} {M : rf_M} {ls : rf_L} {v1 : Int} {v2 : Int} {K : Int64 → rf_M → Prop} (hS : rk fz S B.2.2) (hR : fq B M) (a0 : rf_ld ls 0 = some (.ref 353)) (a1 : rf_ld ls 1 = some (zv v1)) (a2 : rf_ld ls 2 = some (zv v2)) (h : w_sees v1 v2 M K) : gx (cx0 fz) (5, 113) 189 0 ls [] (M, S) (vq_l B S K) := by
  unfold w_sees at h
  refine g1 (n := 1) rfl rfl rfl (la_of a0) ?_
  refine g1 (n := 1) rfl rfl rfl rfl ?_
  refine n_pi (Nat.le_of_ble_eq_true rfl) rfl hS.1 rfl (fun _ _ => rfl) (fun M1 e r => ?_)
  replace h := h M1 e
  have r1 := hR.trans r
  refine g1 (n := 1) rfl rfl rfl (la_of a0) ?_
  refine g1 (n := 1) rfl rfl rfl (li_of a1) ?_
  refine m_iv (a := 353) (as := [zv v1]) (rest := []) rfl (by decide) hS.1 rfl rfl (Nat.le_of_ble_eq_true rfl) ⟨Nat.le_of_ble_eq_true rfl, Nat.le_of_ble_eq_true rfl, Nat.le_of_ble_eq_true rfl⟩ ?_
  refine gx_room (gx_mono (W_isClient_m hS r1 h) ?_) (Nat.le_of_ble_eq_true rfl) (Nat.le_of_ble_eq_true rfl)
  rintro _ _ ⟨z2, M2, rfl, rfl, r2, h⟩
  obtain ⟨i1, h⟩ := h
  refine n_if rfl i1 (fun c => ?_) (fun c => ?_)
  · replace h := h.1 c
    exact W_sees_23 hS r2  h
  · replace h := h.2 c
    refine g1 (n := 1) rfl rfl rfl (li_of a2) ?_
    obtain ⟨i2, h⟩ := h
    refine n_if rfl i2 (fun c => ?_) (fun c => ?_)
    · replace h := h.1 c
      exact W_sees_23 hS r2  h
    · replace h := h.2 c
      refine g1 (n := 1) rfl rfl rfl (li_of a2) ?_
      refine n_bi rfl (by decide) ?_
      obtain ⟨i3, h⟩ := h
      refine n_ic rfl i3 ⟨by decide, by decide⟩ (fun c => ?_) (fun c => ?_)
      · replace h := h.1 c
        refine g1 (n := 1) rfl rfl rfl (la_of a0) ?_
        refine n_gr rfl hS.1 rfl (fun _ => rfl) r2 (rk_381 hS).2 ?_
        refine g1 (n := 1) rfl rfl rfl (li_of a1) ?_
        obtain ⟨q, h⟩ := h
        refine n_ia rfl (rk_381 hS).1 (Nat.le_of_ble_eq_true rfl) q ?_
        refine n_if rfl (inr_gi _ _ _) (fun c => ?_) (fun c => ?_)
        · replace h := h.1 c
          exact W_sees_44 hS r2 a0 a2 h
        · replace h := h.2 c
          refine g1 (n := 1) rfl rfl rfl (la_of a0) ?_
          refine n_gr rfl hS.1 rfl (fun _ => rfl) r2 (rk_382 hS).2 ?_
          refine g1 (n := 1) rfl rfl rfl (li_of a1) ?_
          obtain ⟨q, h⟩ := h
          refine n_ia rfl (rk_382 hS).1 (Nat.le_of_ble_eq_true rfl) q ?_
          refine g1 (n := 1) rfl rfl rfl rfl ?_
          refine n_ic rfl (inr_gi _ _ _) ⟨by decide, by decide⟩ (fun c => ?_) (fun c => ?_)
          · replace h := h.1 c
            refine g1 (n := 1) rfl rfl rfl (la_of a0) ?_
            refine g1 (n := 1) rfl rfl rfl (li_of a1) ?_
            refine m_iv (a := 353) (as := [zv v1]) (rest := []) rfl (by decide) hS.1 rfl rfl (Nat.le_of_ble_eq_true rfl) ⟨Nat.le_of_ble_eq_true rfl, Nat.le_of_ble_eq_true rfl, Nat.le_of_ble_eq_true rfl⟩ ?_
            refine gx_room (gx_mono (W_walkAnew_m hS r2 h) ?_) (Nat.le_of_ble_eq_true rfl) (Nat.le_of_ble_eq_true rfl)
            rintro _ _ ⟨M3, rfl, rfl, r3, h⟩
            refine g1 (n := 1) rfl rfl rfl (li_of a2) ?_
            refine n_bi rfl (by decide) ?_
            obtain ⟨i4, h⟩ := h
            refine n_ic rfl i4 ⟨by decide, by decide⟩ (fun c => ?_) (fun c => ?_)
            · replace h := h.1 c
              refine g1 (n := 1) rfl rfl rfl (la_of a0) ?_
              refine n_gi rfl hS.1 rfl (fun _ => rfl) ?_
              refine g1 (n := 1) rfl rfl rfl (li_of a2) ?_
              refine n_op (T := (Int32.ofInt (gi M3 353 55) >>> (Int32.ofInt v2 &&& 31))) rfl rfl rfl ?_
              refine g1 (n := 1) rfl rfl rfl rfl ?_
              refine n_op (T := (Int32.ofInt (Int32.ofInt (gi M3 353 55) >>> (Int32.ofInt v2 &&& 31)).toInt &&& Int32.ofInt 1)) rfl rfl rfl ?_
              refine g1 (n := 1) rfl rfl rfl rfl ?_
              refine n_ic rfl (inr_ti _) ⟨by decide, by decide⟩ (fun c => ?_) (fun c => ?_)
              · replace h := h.2 c
                refine g1 (n := 1) rfl rfl rfl (la_of a0) ?_
                refine n_gi rfl hS.1 rfl (fun _ => rfl) ?_
                refine g1 (n := 1) rfl rfl rfl (li_of a2) ?_
                refine n_op (T := (Int32.ofInt (gi M3 353 52) >>> (Int32.ofInt v2 &&& 31))) rfl rfl rfl ?_
                refine g1 (n := 1) rfl rfl rfl rfl ?_
                refine n_op (T := (Int32.ofInt (Int32.ofInt (gi M3 353 52) >>> (Int32.ofInt v2 &&& 31)).toInt &&& Int32.ofInt 1)) rfl rfl rfl ?_
                refine g1 (n := 1) rfl rfl rfl rfl ?_
                refine n_ic rfl (inr_ti _) ⟨by decide, by decide⟩ (fun c => ?_) (fun c => ?_)
                · replace h := h.2 c
                  refine g1 (n := 1) rfl rfl rfl (la_of a0) ?_
                  refine n_gr rfl hS.1 rfl (fun _ => rfl) r3 (rk_376 hS).2 ?_
                  refine g1 (n := 1) rfl rfl rfl (li_of a2) ?_
                  obtain ⟨q, h⟩ := h
                  refine n_la rfl (rk_376 hS).1 (Nat.le_of_ble_eq_true rfl) q ?_
                  exact W_sees_130 hS r3  h
                · replace h := h.1 (Classical.not_not.mp c)
                  refine g1 (n := 1) rfl rfl rfl (la_of a0) ?_
                  refine n_gr rfl hS.1 rfl (fun _ => rfl) r3 (rk_389 hS).2 ?_
                  refine g1 (n := 1) rfl rfl rfl (li_of a2) ?_
                  obtain ⟨q, h⟩ := h
                  refine n_la rfl (rk_389 hS).1 (Nat.le_of_ble_eq_true rfl) q ?_
                  refine g3 rfl rfl rfl ?_
                  exact W_sees_130 hS r3  h
              · replace h := h.1 (Classical.not_not.mp c)
                refine g1 (n := 1) rfl rfl rfl (la_of a0) ?_
                refine n_gr rfl hS.1 rfl (fun _ => rfl) r3 (rk_391 hS).2 ?_
                refine g1 (n := 1) rfl rfl rfl (li_of a2) ?_
                obtain ⟨q, h⟩ := h
                refine n_la rfl (rk_391 hS).1 (Nat.le_of_ble_eq_true rfl) q ?_
                refine g3 rfl rfl rfl ?_
                exact W_sees_130 hS r3  h
            · replace h := h.2 c
              refine g1 (n := 1) rfl rfl rfl (la_of a0) ?_
              refine n_gr rfl hS.1 rfl (fun _ => rfl) r3 (rk_392 hS).2 ?_
              refine g1 (n := 1) rfl rfl rfl (li_of a2) ?_
              refine n_bi rfl (by decide) ?_
              refine n_sub rfl ?_
              obtain ⟨q, h⟩ := h
              refine n_la rfl (rk_392 hS).1 (Nat.le_of_ble_eq_true rfl) q ?_
              exact gx_ret rfl rfl ⟨(gl M3 392 (v2 - 16).toNat), M3, rfl, rfl, r3, h⟩
          · replace h := h.2 c
            exact W_sees_44 hS r2 a0 a2 h
      · replace h := h.2 c
        exact W_sees_23 hS r2  h
def wm_sees (x0 : Int) (x1 : Int) (M : rf_M) (K : Int64 → rf_M → Prop) : Prop := w_sees x0 x1 M K
theorem W_sees_m {fz : Bool} {S : gS} {B : rf_M} {M : rf_M} {x0 : Int} {x1 : Int} {K : Int64 → rf_M → Prop} (hS : rk fz S B.2.2) (hR : fq B M) (h : wm_sees x0 x1 M K) : gx (cx0 fz) (5, 113) 189 0 (lv_args 0 [.ref 353, zv x0, zv x1]) [] (M, S) (vq_l B S K) :=
  W_sees hS hR rfl rfl rfl h
def w_rules (M : rf_M) (K : Int → rf_M → Prop) : Prop := ∀ M1 : rf_M, M1 = wi M 353 0 0 → ((0 ≤ (0 : Int) ∧ (0 : Int) < 2) ∧ (K (gi M1 378 0) M1))
theorem W_rules {fz : Bool} {S : gS} {B : rf_M} {M : rf_M} {ls : rf_L} {K : Int → rf_M → Prop} (hS : rk fz S B.2.2) (hR : fq B M) (a0 : rf_ld ls 0 = some (.ref 353)) (h : w_rules M K) : gx (cx0 fz) (0, 0) 190 0 ls [] (M, S) (vq_i B S K) := by
  unfold w_rules at h
  refine g1 (n := 1) rfl rfl rfl (la_of a0) ?_
  refine g1 (n := 1) rfl rfl rfl rfl ?_
  refine n_pi (Nat.le_of_ble_eq_true rfl) rfl hS.1 rfl (fun _ _ => rfl) (fun M1 e r => ?_)
  replace h := h M1 e
  have r1 := hR.trans r
  refine g1 (n := 1) rfl rfl rfl (la_of a0) ?_
  refine n_gr rfl hS.1 rfl (fun _ => rfl) r1 (rk_378 hS).2 ?_
  refine g1 (n := 1) rfl rfl rfl rfl ?_
  obtain ⟨q, h⟩ := h
  refine n_ia rfl (rk_378 hS).1 (Nat.le_of_ble_eq_true rfl) q ?_
  exact gx_ret rfl rfl ⟨(gi M1 378 0), M1, rfl, rfl, r1, h⟩
def wm_rules (M : rf_M) (K : Int → rf_M → Prop) : Prop := w_rules  M K
theorem W_rules_m {fz : Bool} {S : gS} {B : rf_M} {M : rf_M} {K : Int → rf_M → Prop} (hS : rk fz S B.2.2) (hR : fq B M) (h : wm_rules  M K) : gx (cx0 fz) (0, 0) 190 0 (lv_args 0 [.ref 353]) [] (M, S) (vq_i B S K) :=
  W_rules hS hR rfl h
def w_rows (M : rf_M) (K : Int → rf_M → Prop) : Prop := ∀ M1 : rf_M, M1 = wi M 353 0 0 → (K (gi M1 353 69) M1)
theorem W_rows {fz : Bool} {S : gS} {B : rf_M} {M : rf_M} {ls : rf_L} {K : Int → rf_M → Prop} (hS : rk fz S B.2.2) (hR : fq B M) (a0 : rf_ld ls 0 = some (.ref 353)) (h : w_rows M K) : gx (cx0 fz) (0, 0) 191 0 ls [] (M, S) (vq_i B S K) := by
  unfold w_rows at h
  refine g1 (n := 1) rfl rfl rfl (la_of a0) ?_
  refine g1 (n := 1) rfl rfl rfl rfl ?_
  refine n_pi (Nat.le_of_ble_eq_true rfl) rfl hS.1 rfl (fun _ _ => rfl) (fun M1 e r => ?_)
  replace h := h M1 e
  have r1 := hR.trans r
  refine g1 (n := 1) rfl rfl rfl (la_of a0) ?_
  refine n_gi rfl hS.1 rfl (fun _ => rfl) ?_
  exact gx_ret rfl rfl ⟨(gi M1 353 69), M1, rfl, rfl, r1, h⟩
def wm_rows (M : rf_M) (K : Int → rf_M → Prop) : Prop := w_rows  M K
theorem W_rows_m {fz : Bool} {S : gS} {B : rf_M} {M : rf_M} {K : Int → rf_M → Prop} (hS : rk fz S B.2.2) (hR : fq B M) (h : wm_rows  M K) : gx (cx0 fz) (0, 0) 191 0 (lv_args 0 [.ref 353]) [] (M, S) (vq_i B S K) :=
  W_rows hS hR rfl h
def w_row_17 (M : rf_M) (K : Int → rf_M → Prop) : Prop := K (-1) M
theorem W_row_17 {fz : Bool} {S : gS} {B : rf_M} {M : rf_M} {ls : rf_L} {K : Int → rf_M → Prop} (hS : rk fz S B.2.2) (hR : fq B M) (h : w_row_17 M K) : gx (cx0 fz) (0, 0) 192 17 ls [] (M, S) (vq_i B S K) := by
  unfold w_row_17 at h
  refine g1 (n := 1) rfl rfl rfl rfl ?_
  exact gx_ret rfl rfl ⟨(-1), M, rfl, rfl, hR, h⟩
def w_row_89 (s0 : Int) (M : rf_M) (K : Int → rf_M → Prop) : Prop := K s0 M
theorem W_row_89 {fz : Bool} {S : gS} {B : rf_M} {M : rf_M} {ls : rf_L} {s0 : Int} {K : Int → rf_M → Prop} (hS : rk fz S B.2.2) (hR : fq B M) (h : w_row_89 s0 M K) : gx (cx0 fz) (0, 0) 192 89 ls [zv s0] (M, S) (vq_i B S K) := by
  unfold w_row_89 at h
  exact gx_ret rfl rfl ⟨s0, M, rfl, rfl, hR, h⟩
def w_row (v1 : Int) (v2 : Int) (M : rf_M) (K : Int → rf_M → Prop) : Prop := ∀ M1 : rf_M, M1 = wi M 353 0 0 → (inr v1 ∧ ((v1 < 0 → (w_row_17 M1 K)) ∧ (¬ (v1 < 0) → (inr v1 ∧ ((v1 < (gi M1 353 69) → (inr v2 ∧ ((v2 = 0 → ((0 ≤ v1 ∧ v1 < 300) ∧ (w_row_89 (gi M1 400 (v1).toNat) M1 K))) ∧ (¬ v2 = 0 → (inr v2 ∧ ((v2 = 1 → ((0 ≤ v1 ∧ v1 < 300) ∧ (w_row_89 (gi M1 401 (v1).toNat) M1 K))) ∧ (¬ v2 = 1 → (inr v2 ∧ ((v2 = 2 → ((0 ≤ v1 ∧ v1 < 300) ∧ (w_row_89 (gi M1 402 (v1).toNat) M1 K))) ∧ (¬ v2 = 2 → (inr v2 ∧ ((v2 = 3 → ((0 ≤ v1 ∧ v1 < 300) ∧ (w_row_89 (gi M1 403 (v1).toNat) M1 K))) ∧ (¬ v2 = 3 → (inr v2 ∧ ((v2 = 4 → ((0 ≤ v1 ∧ v1 < 300) ∧ (w_row_89 (gi M1 404 (v1).toNat) M1 K))) ∧ (¬ v2 = 4 → (w_row_89 (-1) M1 K))))))))))))))))) ∧ (¬ (v1 < (gi M1 353 69)) → (w_row_17 M1 K)))))))
theorem W_row {fz : Bool} {S : gS} {B : rf_M} {M : rf_M} {ls : rf_L} {v1 : Int} {v2 : Int} {K : Int → rf_M → Prop} (hS : rk fz S B.2.2) (hR : fq B M) (a0 : rf_ld ls 0 = some (.ref 353)) (a1 : rf_ld ls 1 = some (zv v1)) (a2 : rf_ld ls 2 = some (zv v2)) (h : w_row v1 v2 M K) : gx (cx0 fz) (0, 0) 192 0 ls [] (M, S) (vq_i B S K) := by
  unfold w_row at h
  refine g1 (n := 1) rfl rfl rfl (la_of a0) ?_
  refine g1 (n := 1) rfl rfl rfl rfl ?_
  refine n_pi (Nat.le_of_ble_eq_true rfl) rfl hS.1 rfl (fun _ _ => rfl) (fun M1 e r => ?_)
  replace h := h M1 e
  have r1 := hR.trans r
  refine g1 (n := 1) rfl rfl rfl (li_of a1) ?_
  obtain ⟨i1, h⟩ := h
  refine n_if rfl i1 (fun c => ?_) (fun c => ?_)
  · replace h := h.1 c
    exact W_row_17 hS r1  h
  · replace h := h.2 c
    refine g1 (n := 1) rfl rfl rfl (li_of a1) ?_
    refine g1 (n := 1) rfl rfl rfl (la_of a0) ?_
    refine n_gi rfl hS.1 rfl (fun _ => rfl) ?_
    obtain ⟨i2, h⟩ := h
    refine n_ic rfl i2 (inr_gi _ _ _) (fun c => ?_) (fun c => ?_)
    · replace h := h.1 c
      refine g1 (n := 1) rfl rfl rfl (li_of a2) ?_
      obtain ⟨i3, h⟩ := h
      refine n_if rfl i3 (fun c => ?_) (fun c => ?_)
      · replace h := h.2 c
        refine g1 (n := 1) rfl rfl rfl (li_of a2) ?_
        refine g1 (n := 1) rfl rfl rfl rfl ?_
        obtain ⟨i4, h⟩ := h
        refine n_ic rfl i4 ⟨by decide, by decide⟩ (fun c => ?_) (fun c => ?_)
        · replace h := h.2 c
          refine g1 (n := 1) rfl rfl rfl (li_of a2) ?_
          refine g1 (n := 1) rfl rfl rfl rfl ?_
          obtain ⟨i5, h⟩ := h
          refine n_ic rfl i5 ⟨by decide, by decide⟩ (fun c => ?_) (fun c => ?_)
          · replace h := h.2 c
            refine g1 (n := 1) rfl rfl rfl (li_of a2) ?_
            refine g1 (n := 1) rfl rfl rfl rfl ?_
            obtain ⟨i6, h⟩ := h
            refine n_ic rfl i6 ⟨by decide, by decide⟩ (fun c => ?_) (fun c => ?_)
            · replace h := h.2 c
              refine g1 (n := 1) rfl rfl rfl (li_of a2) ?_
              refine g1 (n := 1) rfl rfl rfl rfl ?_
              obtain ⟨i7, h⟩ := h
              refine n_ic rfl i7 ⟨by decide, by decide⟩ (fun c => ?_) (fun c => ?_)
              · replace h := h.2 c
                refine g1 (n := 1) rfl rfl rfl rfl ?_
                exact W_row_89 hS r1  h
              · replace h := h.1 (Classical.not_not.mp c)
                refine g1 (n := 1) rfl rfl rfl (la_of a0) ?_
                refine n_gr rfl hS.1 rfl (fun _ => rfl) r1 (rk_404 hS).2 ?_
                refine g1 (n := 1) rfl rfl rfl (li_of a1) ?_
                obtain ⟨q, h⟩ := h
                refine n_ia rfl (rk_404 hS).1 (Nat.le_of_ble_eq_true rfl) q ?_
                refine g3 rfl rfl rfl ?_
                exact W_row_89 hS r1  h
            · replace h := h.1 (Classical.not_not.mp c)
              refine g1 (n := 1) rfl rfl rfl (la_of a0) ?_
              refine n_gr rfl hS.1 rfl (fun _ => rfl) r1 (rk_403 hS).2 ?_
              refine g1 (n := 1) rfl rfl rfl (li_of a1) ?_
              obtain ⟨q, h⟩ := h
              refine n_ia rfl (rk_403 hS).1 (Nat.le_of_ble_eq_true rfl) q ?_
              refine g3 rfl rfl rfl ?_
              exact W_row_89 hS r1  h
          · replace h := h.1 (Classical.not_not.mp c)
            refine g1 (n := 1) rfl rfl rfl (la_of a0) ?_
            refine n_gr rfl hS.1 rfl (fun _ => rfl) r1 (rk_402 hS).2 ?_
            refine g1 (n := 1) rfl rfl rfl (li_of a1) ?_
            obtain ⟨q, h⟩ := h
            refine n_ia rfl (rk_402 hS).1 (Nat.le_of_ble_eq_true rfl) q ?_
            refine g3 rfl rfl rfl ?_
            exact W_row_89 hS r1  h
        · replace h := h.1 (Classical.not_not.mp c)
          refine g1 (n := 1) rfl rfl rfl (la_of a0) ?_
          refine n_gr rfl hS.1 rfl (fun _ => rfl) r1 (rk_401 hS).2 ?_
          refine g1 (n := 1) rfl rfl rfl (li_of a1) ?_
          obtain ⟨q, h⟩ := h
          refine n_ia rfl (rk_401 hS).1 (Nat.le_of_ble_eq_true rfl) q ?_
          refine g3 rfl rfl rfl ?_
          exact W_row_89 hS r1  h
      · replace h := h.1 (Classical.not_not.mp c)
        refine g1 (n := 1) rfl rfl rfl (la_of a0) ?_
        refine n_gr rfl hS.1 rfl (fun _ => rfl) r1 (rk_400 hS).2 ?_
        refine g1 (n := 1) rfl rfl rfl (li_of a1) ?_
        obtain ⟨q, h⟩ := h
        refine n_ia rfl (rk_400 hS).1 (Nat.le_of_ble_eq_true rfl) q ?_
        refine g3 rfl rfl rfl ?_
        exact W_row_89 hS r1  h
    · replace h := h.2 c
      exact W_row_17 hS r1  h
def wm_row (x0 : Int) (x1 : Int) (M : rf_M) (K : Int → rf_M → Prop) : Prop := w_row x0 x1 M K
theorem W_row_m {fz : Bool} {S : gS} {B : rf_M} {M : rf_M} {x0 : Int} {x1 : Int} {K : Int → rf_M → Prop} (hS : rk fz S B.2.2) (hR : fq B M) (h : wm_row x0 x1 M K) : gx (cx0 fz) (0, 0) 192 0 (lv_args 0 [.ref 353, zv x0, zv x1]) [] (M, S) (vq_i B S K) :=
  W_row hS hR rfl rfl rfl h
def w_value_27 (s0 : Int64) (M : rf_M) (K : Int64 → rf_M → Prop) : Prop := K s0 M
theorem W_value_27 {fz : Bool} {S : gS} {B : rf_M} {M : rf_M} {ls : rf_L} {s0 : Int64} {K : Int64 → rf_M → Prop} (hS : rk fz S B.2.2) (hR : fq B M) (h : w_value_27 s0 M K) : gx (cx0 fz) (0, 0) 193 27 ls [.long s0] (M, S) (vq_l B S K) := by
  unfold w_value_27 at h
  exact gx_ret rfl rfl ⟨s0, M, rfl, rfl, hR, h⟩
def w_value_17 (M : rf_M) (K : Int64 → rf_M → Prop) : Prop := w_value_27 (Int64.ofNat 0) M K
theorem W_value_17 {fz : Bool} {S : gS} {B : rf_M} {M : rf_M} {ls : rf_L} {K : Int64 → rf_M → Prop} (hS : rk fz S B.2.2) (hR : fq B M) (h : w_value_17 M K) : gx (cx0 fz) (0, 0) 193 17 ls [] (M, S) (vq_l B S K) := by
  unfold w_value_17 at h
  refine g1 (n := 1) rfl rfl rfl rfl ?_
  refine g3 rfl rfl rfl ?_
  exact W_value_27 hS hR  h
def w_value (v1 : Int) (M : rf_M) (K : Int64 → rf_M → Prop) : Prop := ∀ M1 : rf_M, M1 = wi M 353 0 0 → (inr v1 ∧ ((v1 < 0 → (w_value_17 M1 K)) ∧ (¬ (v1 < 0) → (inr v1 ∧ ((v1 < (gi M1 353 69) → ((0 ≤ v1 ∧ v1 < 300) ∧ (w_value_27 (gl M1 405 (v1).toNat) M1 K))) ∧ (¬ (v1 < (gi M1 353 69)) → (w_value_17 M1 K)))))))
theorem W_value {fz : Bool} {S : gS} {B : rf_M} {M : rf_M} {ls : rf_L} {v1 : Int} {K : Int64 → rf_M → Prop} (hS : rk fz S B.2.2) (hR : fq B M) (a0 : rf_ld ls 0 = some (.ref 353)) (a1 : rf_ld ls 1 = some (zv v1)) (h : w_value v1 M K) : gx (cx0 fz) (0, 0) 193 0 ls [] (M, S) (vq_l B S K) := by
  unfold w_value at h
  refine g1 (n := 1) rfl rfl rfl (la_of a0) ?_
  refine g1 (n := 1) rfl rfl rfl rfl ?_
  refine n_pi (Nat.le_of_ble_eq_true rfl) rfl hS.1 rfl (fun _ _ => rfl) (fun M1 e r => ?_)
  replace h := h M1 e
  have r1 := hR.trans r
  refine g1 (n := 1) rfl rfl rfl (li_of a1) ?_
  obtain ⟨i1, h⟩ := h
  refine n_if rfl i1 (fun c => ?_) (fun c => ?_)
  · replace h := h.1 c
    exact W_value_17 hS r1  h
  · replace h := h.2 c
    refine g1 (n := 1) rfl rfl rfl (li_of a1) ?_
    refine g1 (n := 1) rfl rfl rfl (la_of a0) ?_
    refine n_gi rfl hS.1 rfl (fun _ => rfl) ?_
    obtain ⟨i2, h⟩ := h
    refine n_ic rfl i2 (inr_gi _ _ _) (fun c => ?_) (fun c => ?_)
    · replace h := h.1 c
      refine g1 (n := 1) rfl rfl rfl (la_of a0) ?_
      refine n_gr rfl hS.1 rfl (fun _ => rfl) r1 (rk_405 hS).2 ?_
      refine g1 (n := 1) rfl rfl rfl (li_of a1) ?_
      obtain ⟨q, h⟩ := h
      refine n_la rfl (rk_405 hS).1 (Nat.le_of_ble_eq_true rfl) q ?_
      exact W_value_27 hS r1  h
    · replace h := h.2 c
      exact W_value_17 hS r1  h
def wm_value (x0 : Int) (M : rf_M) (K : Int64 → rf_M → Prop) : Prop := w_value x0 M K
theorem W_value_m {fz : Bool} {S : gS} {B : rf_M} {M : rf_M} {x0 : Int} {K : Int64 → rf_M → Prop} (hS : rk fz S B.2.2) (hR : fq B M) (h : wm_value x0 M K) : gx (cx0 fz) (0, 0) 193 0 (lv_args 0 [.ref 353, zv x0]) [] (M, S) (vq_l B S K) :=
  W_value hS hR rfl rfl h
def w_beginRun (v1 : Int) (M : rf_M) (K : rf_M → Prop) : Prop := ∀ M1 : rf_M, M1 = wi M 353 52 0 → (wm_beginWalk v1 M1 (fun (M2 : rf_M) => K M2))
theorem W_beginRun {fz : Bool} {S : gS} {B : rf_M} {M : rf_M} {ls : rf_L} {v1 : Int} {K : rf_M → Prop} (hS : rk fz S B.2.2) (hR : fq B M) (a0 : rf_ld ls 0 = some (.ref 353)) (a1 : rf_ld ls 1 = some (zv v1)) (h : w_beginRun v1 M K) : gx (cx0 fz) (1, 22) 196 0 ls [] (M, S) (vq_v B S K) := by
  unfold w_beginRun at h
  refine g1 (n := 1) rfl rfl rfl (la_of a0) ?_
  refine g1 (n := 1) rfl rfl rfl rfl ?_
  refine n_pi (Nat.le_of_ble_eq_true rfl) rfl hS.1 rfl (fun _ _ => rfl) (fun M1 e r => ?_)
  replace h := h M1 e
  have r1 := hR.trans r
  refine g1 (n := 1) rfl rfl rfl (la_of a0) ?_
  refine g1 (n := 1) rfl rfl rfl (li_of a1) ?_
  refine m_iv (a := 353) (as := [zv v1]) (rest := []) rfl (by decide) hS.1 rfl rfl (Nat.le_of_ble_eq_true rfl) ⟨Nat.le_of_ble_eq_true rfl, Nat.le_of_ble_eq_true rfl, Nat.le_of_ble_eq_true rfl⟩ ?_
  refine gx_room (gx_mono (W_beginWalk_m hS r1 h) ?_) (Nat.le_of_ble_eq_true rfl) (Nat.le_of_ble_eq_true rfl)
  rintro _ _ ⟨M2, rfl, rfl, r2, h⟩
  exact gx_ret rfl rfl ⟨M2, rfl, rfl, r2, h⟩
def wm_beginRun (x0 : Int) (M : rf_M) (K : rf_M → Prop) : Prop := w_beginRun x0 M K
theorem W_beginRun_m {fz : Bool} {S : gS} {B : rf_M} {M : rf_M} {x0 : Int} {K : rf_M → Prop} (hS : rk fz S B.2.2) (hR : fq B M) (h : wm_beginRun x0 M K) : gx (cx0 fz) (1, 22) 196 0 (lv_args 0 [.ref 353, zv x0]) [] (M, S) (vq_v B S K) :=
  W_beginRun hS hR rfl rfl h
def w_comesToSame_220 (s0 : Int) (M : rf_M) (K : Int → rf_M → Prop) : Prop := (s0 = 0 ∨ s0 = 1) ∧ K s0 M
theorem W_comesToSame_220 {fz : Bool} {S : gS} {B : rf_M} {M : rf_M} {ls : rf_L} {s0 : Int} {K : Int → rf_M → Prop} (hS : rk fz S B.2.2) (hR : fq B M) (h : w_comesToSame_220 s0 M K) : gx (cx0 fz) (6, 134) 195 220 ls [zv s0] (M, S) (vq_i B S K) := by
  unfold w_comesToSame_220 at h
  exact n_rb rfl rfl h.1 hR h.2
def w_comesToSame_215 (M : rf_M) (K : Int → rf_M → Prop) : Prop := w_comesToSame_220 1 M K
theorem W_comesToSame_215 {fz : Bool} {S : gS} {B : rf_M} {M : rf_M} {ls : rf_L} {K : Int → rf_M → Prop} (hS : rk fz S B.2.2) (hR : fq B M) (h : w_comesToSame_215 M K) : gx (cx0 fz) (6, 134) 195 215 ls [] (M, S) (vq_i B S K) := by
  unfold w_comesToSame_215 at h
  refine g1 (n := 1) rfl rfl rfl rfl ?_
  refine g3 rfl rfl rfl ?_
  exact W_comesToSame_220 hS hR  h
def w_comesToSame_219 (M : rf_M) (K : Int → rf_M → Prop) : Prop := w_comesToSame_220 0 M K
