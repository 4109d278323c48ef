theorem W_comesToSame_219 {fz : Bool} {S : gS} {B : rf_M} {M : rf_M} {ls : rf_L} {K : Int → rf_M → Prop} (hS : rk fz S B.2.2) (hR : fq B M) (h : w_comesToSame_219 M K) : gx (cx0 fz) (6, 134) 195 219 ls [] (M, S) (vq_i B S K) := by
  unfold w_comesToSame_219 at h
  refine g1 (n := 1) rfl rfl rfl rfl ?_
  exact W_comesToSame_220 hS hR  h
def w_comesToSame_165 (v1 : Int) (v2 : Int) (v4 : Int) (v5 : Int64) (M : rf_M) (K : Int → rf_M → Prop) : Prop := (0 ≤ v1 ∧ v1 < 300) ∧ (inr v2 ∧ ((v2 = (gi M 403 (v1).toNat) → (inr v4 ∧ ((v4 = 0 → ((0 ≤ v1 ∧ v1 < 300) ∧ (((gi M 400 (v1).toNat) = 1 → (w_comesToSame_215 M K)) ∧ (¬ (gi M 400 (v1).toNat) = 1 → (w_comesToSame_219 M K))))) ∧ (¬ (v4 = 0) → ((0 ≤ v1 ∧ v1 < 300) ∧ (((gi M 400 (v1).toNat) = 2 → ((0 ≤ v1 ∧ v1 < 300) ∧ (((lg_cmp (gl M 405 (v1).toNat) v5).toInt = 0 → (w_comesToSame_215 M K)) ∧ (¬ (lg_cmp (gl M 405 (v1).toNat) v5).toInt = 0 → (w_comesToSame_219 M K))))) ∧ (¬ (gi M 400 (v1).toNat) = 2 → (w_comesToSame_219 M K)))))))) ∧ (¬ v2 = (gi M 403 (v1).toNat) → (w_comesToSame_219 M K))))
theorem W_comesToSame_165 {fz : Bool} {S : gS} {B : rf_M} {M : rf_M} {ls : rf_L} {v1 : Int} {v2 : Int} {v4 : Int} {v5 : Int64} {K : Int → rf_M → Prop} (hS : rk fz S B.2.2) (hR : fq B M) (a0 : rf_ld ls 0 = some (.ref 353)) (a1 : rf_ld ls 1 = some (zv v1)) (a2 : rf_ld ls 2 = some (zv v2)) (a4 : rf_ld ls 4 = some (zv v4)) (a5 : rf_ld ls 5 = some (.long v5)) (h : w_comesToSame_165 v1 v2 v4 v5 M K) : gx (cx0 fz) (6, 134) 195 165 ls [] (M, S) (vq_i B S K) := by
  unfold w_comesToSame_165 at h
  refine g1 (n := 1) rfl rfl rfl (li_of a2) ?_
  refine g1 (n := 1) rfl rfl rfl (la_of a0) ?_
  refine n_gr rfl hS.1 rfl (fun _ => rfl) hR (rk_403 hS).2 ?_
  refine g1 (n := 1) rfl rfl rfl (li_of a1) ?_
  obtain ⟨q, h⟩ := h
  refine n_ia rfl (rk_403 hS).1 (Nat.le_of_ble_eq_true rfl) q ?_
  obtain ⟨i1, h⟩ := h
  refine n_ic rfl i1 (inr_gi _ _ _) (fun c => ?_) (fun c => ?_)
  · replace h := h.2 c
    exact W_comesToSame_219 hS hR  h
  · replace h := h.1 (Classical.not_not.mp c)
    refine g1 (n := 2) rfl rfl rfl (li_of a4) ?_
    obtain ⟨i2, h⟩ := h
    refine n_if rfl i2 (fun c => ?_) (fun c => ?_)
    · replace h := h.1 c
      refine g1 (n := 1) rfl rfl rfl (la_of a0) ?_
      refine n_gr rfl hS.1 rfl (fun _ => rfl) hR (rk_400 hS).2 ?_
      refine g1 (n := 1) rfl rfl rfl (li_of a1) ?_
      obtain ⟨q, h⟩ := h
      refine n_ia rfl (rk_400 hS).1 (Nat.le_of_ble_eq_true rfl) q ?_
      refine g1 (n := 1) rfl rfl rfl rfl ?_
      refine n_ic rfl (inr_gi _ _ _) ⟨by decide, by decide⟩ (fun c => ?_) (fun c => ?_)
      · replace h := h.2 c
        exact W_comesToSame_219 hS hR  h
      · replace h := h.1 (Classical.not_not.mp c)
        exact W_comesToSame_215 hS hR  h
    · replace h := h.2 c
      refine g1 (n := 1) rfl rfl rfl (la_of a0) ?_
      refine n_gr rfl hS.1 rfl (fun _ => rfl) hR (rk_400 hS).2 ?_
      refine g1 (n := 1) rfl rfl rfl (li_of a1) ?_
      obtain ⟨q, h⟩ := h
      refine n_ia rfl (rk_400 hS).1 (Nat.le_of_ble_eq_true rfl) q ?_
      refine g1 (n := 1) rfl rfl rfl rfl ?_
      refine n_ic rfl (inr_gi _ _ _) ⟨by decide, by decide⟩ (fun c => ?_) (fun c => ?_)
      · replace h := h.2 c
        exact W_comesToSame_219 hS hR  h
      · replace h := h.1 (Classical.not_not.mp c)
        refine g1 (n := 1) rfl rfl rfl (la_of a0) ?_
        refine n_gr rfl hS.1 rfl (fun _ => rfl) hR (rk_405 hS).2 ?_
        refine g1 (n := 1) rfl rfl rfl (li_of a1) ?_
        obtain ⟨q, h⟩ := h
        refine n_la rfl (rk_405 hS).1 (Nat.le_of_ble_eq_true rfl) q ?_
        refine g1 (n := 2) rfl rfl rfl (ll_of a5) ?_
        refine n_op (T := (lg_cmp (gl M 405 (v1).toNat) v5)) rfl rfl rfl ?_
        refine n_if rfl (inr_ti _) (fun c => ?_) (fun c => ?_)
        · replace h := h.2 c
          exact W_comesToSame_219 hS hR  h
        · replace h := h.1 (Classical.not_not.mp c)
          refine g3 rfl rfl rfl ?_
          exact W_comesToSame_215 hS hR  h
def w_comesToSame_156 (v1 : Int) (v2 : Int) (v4 : Int) (v5 : Int64) (M : rf_M) (K : Int → rf_M → Prop) : Prop := inr v4 ∧ ((v4 = 0 → (wm_bringIn  M (fun (M1 : rf_M) => w_comesToSame_165 v1 v2 v4 v5 M1 K))) ∧ (¬ v4 = 0 → (w_comesToSame_165 v1 v2 v4 v5 M K)))
theorem W_comesToSame_156 {fz : Bool} {S : gS} {B : rf_M} {M : rf_M} {ls : rf_L} {v1 : Int} {v2 : Int} {v4 : Int} {v5 : Int64} {K : Int → rf_M → Prop} (hS : rk fz S B.2.2) (hR : fq B M) (a0 : rf_ld ls 0 = some (.ref 353)) (a1 : rf_ld ls 1 = some (zv v1)) (a2 : rf_ld ls 2 = some (zv v2)) (a4 : rf_ld ls 4 = some (zv v4)) (a5 : rf_ld ls 5 = some (.long v5)) (h : w_comesToSame_156 v1 v2 v4 v5 M K) : gx (cx0 fz) (6, 134) 195 156 ls [] (M, S) (vq_i B S K) := by
  unfold w_comesToSame_156 at h
  refine g1 (n := 2) rfl rfl rfl (li_of a4) ?_
  obtain ⟨i1, h⟩ := h
  refine n_if rfl i1 (fun c => ?_) (fun c => ?_)
  · replace h := h.2 c
    exact W_comesToSame_165 hS hR a0 a1 a2 a4 a5 h
  · replace h := h.1 (Classical.not_not.mp c)
    refine g1 (n := 1) rfl rfl rfl (la_of a0) ?_
    refine m_iv (a := 353) (as := []) (rest := []) rfl (by decide) hS.1 rfl rfl (Nat.le_of_ble_eq_true rfl) ⟨Nat.le_of_ble_eq_true rfl, Nat.le_of_ble_eq_true rfl, Nat.le_of_ble_eq_true rfl⟩ ?_
    refine gx_room (gx_mono (W_bringIn_m hS hR h) ?_) (Nat.le_of_ble_eq_true rfl) (Nat.le_of_ble_eq_true rfl)
    rintro _ _ ⟨M1, rfl, rfl, r1, h⟩
    exact W_comesToSame_165 hS r1 a0 a1 a2 a4 a5 h
def w_comesToSame_154 (M : rf_M) (K : Int → rf_M → Prop) : Prop := K 0 M
theorem W_comesToSame_154 {fz : Bool} {S : gS} {B : rf_M} {M : rf_M} {ls : rf_L} {K : Int → rf_M → Prop} (hS : rk fz S B.2.2) (hR : fq B M) (h : w_comesToSame_154 M K) : gx (cx0 fz) (6, 134) 195 154 ls [] (M, S) (vq_i B S K) := by
  unfold w_comesToSame_154 at h
  refine g1 (n := 1) rfl rfl rfl rfl ?_
  exact n_rb rfl rfl (Or.inl rfl) hR h
def w_comesToSame_144 (v1 : Int) (v2 : Int) (v3 : Int) (v4 : Int) (v5 : Int64) (M : rf_M) (K : Int → rf_M → Prop) : Prop := inr v3 ∧ ((v3 = 3 → (w_comesToSame_154 M K)) ∧ (¬ (v3 = 3) → (inr v3 ∧ ((v3 = 1 → (w_comesToSame_154 M K)) ∧ (¬ v3 = 1 → (w_comesToSame_156 v1 v2 v4 v5 M K))))))
theorem W_comesToSame_144 {fz : Bool} {S : gS} {B : rf_M} {M : rf_M} {ls : rf_L} {v1 : Int} {v2 : Int} {v3 : Int} {v4 : Int} {v5 : Int64} {K : Int → rf_M → Prop} (hS : rk fz S B.2.2) (hR : fq B M) (a0 : rf_ld ls 0 = some (.ref 353)) (a1 : rf_ld ls 1 = some (zv v1)) (a2 : rf_ld ls 2 = some (zv v2)) (a3 : rf_ld ls 3 = some (zv v3)) (a4 : rf_ld ls 4 = some (zv v4)) (a5 : rf_ld ls 5 = some (.long v5)) (h : w_comesToSame_144 v1 v2 v3 v4 v5 M K) : gx (cx0 fz) (6, 134) 195 144 ls [] (M, S) (vq_i B S K) := by
  unfold w_comesToSame_144 at h
  refine g1 (n := 1) rfl rfl rfl (li_of a3) ?_
  refine g1 (n := 1) rfl rfl rfl rfl ?_
  obtain ⟨i1, h⟩ := h
  refine n_ic rfl i1 ⟨by decide, by decide⟩ (fun c => ?_) (fun c => ?_)
  · replace h := h.1 c
    exact W_comesToSame_154 hS hR  h
  · replace h := h.2 c
    refine g1 (n := 1) rfl rfl rfl (li_of a3) ?_
    refine g1 (n := 1) rfl rfl rfl rfl ?_
    obtain ⟨i2, h⟩ := h
    refine n_ic rfl i2 ⟨by decide, by decide⟩ (fun c => ?_) (fun c => ?_)
    · replace h := h.2 c
      exact W_comesToSame_156 hS hR a0 a1 a2 a4 a5 h
    · replace h := h.1 (Classical.not_not.mp c)
      exact W_comesToSame_154 hS hR  h
def w_comesToSame_95 (v1 : Int) (v2 : Int) (v3 : Int) (s0 : Int) (M : rf_M) (K : Int → rf_M → Prop) : Prop := inr v3 ∧ ((v3 = 0 → (w_comesToSame_156 v1 (v2 + 1) 1 (Int64.ofNat 18446744073709551613) M K)) ∧ (¬ v3 = 0 → (inr v3 ∧ ((v3 = 4 → (wm_isWell  M (fun (z1 : Int) (M1 : rf_M) => inr z1 ∧ ((z1 = 0 → (w_comesToSame_156 v1 v2 1 (Int64.ofNat 18446744073709551614) M1 K)) ∧ (¬ z1 = 0 → (w_comesToSame_144 v1 v2 v3 s0 (gl M 353 66) M1 K)))))) ∧ (¬ v3 = 4 → (w_comesToSame_144 v1 v2 v3 s0 (gl M 353 66) M K))))))
theorem W_comesToSame_95 {fz : Bool} {S : gS} {B : rf_M} {M : rf_M} {ls : rf_L} {v1 : Int} {v2 : Int} {v3 : Int} {s0 : Int} {K : Int → rf_M → Prop} (hS : rk fz S B.2.2) (hR : fq B M) (a0 : rf_ld ls 0 = some (.ref 353)) (a1 : rf_ld ls 1 = some (zv v1)) (a2 : rf_ld ls 2 = some (zv v2)) (a3 : rf_ld ls 3 = some (zv v3)) (h : w_comesToSame_95 v1 v2 v3 s0 M K) : gx (cx0 fz) (6, 134) 195 95 ls [zv s0] (M, S) (vq_i B S K) := by
  unfold w_comesToSame_95 at h
  refine n_s1 (n := 2) rfl rfl rfl rfl (fun ls l1 ho => ?_)
  replace a0 := ho 0 _ (by decide) (fun q => by cases q.2) a0
  have l2 := ho 1 _ (by decide) (fun q => by cases q.2) a1
  have l3 := ho 2 _ (by decide) (fun q => by cases q.2) a2
  have l4 := ho 3 _ (by decide) (fun q => by cases q.2) a3
  refine g1 (n := 1) rfl rfl rfl (la_of a0) ?_
  refine n_gl rfl hS.1 rfl (fun _ => rfl) ?_
  refine n_s2 (n := 2) rfl rfl rfl rfl (fun ls l5 ho => ?_)
  replace a0 := ho 0 _ (by decide) (by decide) (fun q => by cases q.2) a0
  have l6 := ho 1 _ (by decide) (by decide) (fun q => by cases q.2) l2
  have l7 := ho 2 _ (by decide) (by decide) (fun q => by cases q.2) l3
  have l8 := ho 3 _ (by decide) (by decide) (fun q => by cases q.2) l4
  have l9 := ho 4 _ (by decide) (by decide) (fun q => by cases q.2) l1
  refine g1 (n := 1) rfl rfl rfl (li_of l8) ?_
  obtain ⟨i1, h⟩ := h
  refine n_if rfl i1 (fun c => ?_) (fun c => ?_)
  · replace h := h.2 c
    refine g1 (n := 1) rfl rfl rfl (li_of l8) ?_
    refine g1 (n := 1) rfl rfl rfl rfl ?_
    obtain ⟨i2, h⟩ := h
    refine n_ic rfl i2 ⟨by decide, by decide⟩ (fun c => ?_) (fun c => ?_)
    · replace h := h.2 c
      exact W_comesToSame_144 hS hR a0 l6 l7 l8 l9 l5 h
    · replace h := h.1 (Classical.not_not.mp c)
      refine g1 (n := 1) rfl rfl rfl (la_of a0) ?_
      refine m_iv (a := 353) (as := []) (rest := []) rfl (by decide) hS.1 rfl rfl (Nat.le_of_ble_eq_true rfl) ⟨Nat.le_of_ble_eq_true rfl, Nat.le_of_ble_eq_true rfl, Nat.le_of_ble_eq_true rfl⟩ ?_
      refine gx_room (gx_mono (W_isWell_m hS hR h) ?_) (Nat.le_of_ble_eq_true rfl) (Nat.le_of_ble_eq_true rfl)
      rintro _ _ ⟨z1, M1, rfl, rfl, r1, h⟩
      obtain ⟨i3, h⟩ := h
      refine n_if rfl i3 (fun c => ?_) (fun c => ?_)
      · replace h := h.2 c
        exact W_comesToSame_144 hS r1 a0 l6 l7 l8 l9 l5 h
      · replace h := h.1 (Classical.not_not.mp c)
        refine g1 (n := 1) rfl rfl rfl rfl ?_
        refine n_s1 (n := 2) rfl rfl rfl rfl (fun ls l10 ho => ?_)
        replace a0 := ho 0 _ (by decide) (fun q => by cases q.2) a0
        have l11 := ho 1 _ (by decide) (fun q => by cases q.2) l6
        have l12 := ho 2 _ (by decide) (fun q => by cases q.2) l7
        refine g7 (n := 3) rfl rfl rfl rfl ?_
        refine n_s2 (n := 2) rfl rfl rfl rfl (fun ls l13 ho => ?_)
        replace a0 := ho 0 _ (by decide) (by decide) (fun q => by cases q.2) a0
        have l14 := ho 1 _ (by decide) (by decide) (fun q => by cases q.2) l11
        have l15 := ho 2 _ (by decide) (by decide) (fun q => by cases q.2) l12
        have l16 := ho 4 _ (by decide) (by decide) (fun q => by cases q.2) l10
        refine g3 rfl rfl rfl ?_
        exact W_comesToSame_156 hS r1 a0 l14 l15 l16 l13 h
  · replace h := h.1 (Classical.not_not.mp c)
    refine g1 (n := 1) rfl rfl rfl rfl ?_
    refine n_s1 (n := 2) rfl rfl rfl rfl (fun ls l17 ho => ?_)
    replace a0 := ho 0 _ (by decide) (fun q => by cases q.2) a0
    have l18 := ho 1 _ (by decide) (fun q => by cases q.2) l6
    have l19 := ho 2 _ (by decide) (fun q => by cases q.2) l7
    refine g7 (n := 3) rfl rfl rfl rfl ?_
    refine n_s2 (n := 2) rfl rfl rfl rfl (fun ls l20 ho => ?_)
    replace a0 := ho 0 _ (by decide) (by decide) (fun q => by cases q.2) a0
    have l21 := ho 1 _ (by decide) (by decide) (fun q => by cases q.2) l18
    have l22 := ho 2 _ (by decide) (by decide) (fun q => by cases q.2) l19
    have l23 := ho 4 _ (by decide) (by decide) (fun q => by cases q.2) l17
    refine n_ii rfl l22 (Nat.le_of_ble_eq_true rfl) (fun ls l24 ho => ?_)
    replace a0 := ho 0 _ (by decide) (fun q => by cases q.2) a0
    have l25 := ho 1 _ (by decide) (fun q => by cases q.2) l21
    have l26 := ho 4 _ (by decide) (fun q => by cases q.2) l23
    have l27 := ho 5 _ (by decide) (fun q => absurd q.1 (by decide)) l20
    refine g3 rfl rfl rfl ?_
    exact W_comesToSame_156 hS hR a0 l25 l24 l26 l27 h
def w_comesToSame_85 (v1 : Int) (v2 : Int) (v3 : Int) (M : rf_M) (K : Int → rf_M → Prop) : Prop := inr v3 ∧ ((v3 = 2 → (w_comesToSame_95 v1 v2 v3 1 M K)) ∧ (¬ v3 = 2 → (w_comesToSame_95 v1 v2 v3 0 M K)))
theorem W_comesToSame_85 {fz : Bool} {S : gS} {B : rf_M} {M : rf_M} {ls : rf_L} {v1 : Int} {v2 : Int} {v3 : Int} {K : Int → rf_M → Prop} (hS : rk fz S B.2.2) (hR : fq B M) (a0 : rf_ld ls 0 = some (.ref 353)) (a1 : rf_ld ls 1 = some (zv v1)) (a2 : rf_ld ls 2 = some (zv v2)) (a3 : rf_ld ls 3 = some (zv v3)) (h : w_comesToSame_85 v1 v2 v3 M K) : gx (cx0 fz) (6, 134) 195 85 ls [] (M, S) (vq_i B S K) := by
  unfold w_comesToSame_85 at h
  refine g1 (n := 1) rfl rfl rfl (li_of a3) ?_
  refine g1 (n := 1) rfl rfl rfl rfl ?_
  obtain ⟨i1, h⟩ := h
  refine n_ic rfl i1 ⟨by decide, by decide⟩ (fun c => ?_) (fun c => ?_)
  · replace h := h.2 c
    refine g1 (n := 1) rfl rfl rfl rfl ?_
    exact W_comesToSame_95 hS hR a0 a1 a2 a3 h
  · replace h := h.1 (Classical.not_not.mp c)
    refine g1 (n := 1) rfl rfl rfl rfl ?_
    refine g3 rfl rfl rfl ?_
    exact W_comesToSame_95 hS hR a0 a1 a2 a3 h
def w_comesToSame_63b (v1 : Int) (v2 : Int) (v3 : Int) (M : rf_M) (b63 : Int → Int → Int → rf_M → Prop) (K : Int → rf_M → Prop) : Prop := inr v3 ∧ ((v3 = 0 → (inr v2 ∧ ((300 ≤ v2 → (w_comesToSame_85 v1 v2 v3 M K)) ∧ (¬ (300 ≤ v2) → (wm_step  M (fun (z1 : Int) (M1 : rf_M) => b63 v1 (v2 + 1) z1 M1)))))) ∧ (¬ v3 = 0 → (w_comesToSame_85 v1 v2 v3 M K)))
theorem W_comesToSame_63b {fz : Bool} {S : gS} {B : rf_M} {M : rf_M} {ls : rf_L} {v1 : Int} {v2 : Int} {v3 : Int} {b63 : Int → Int → Int → rf_M → Prop} {K : Int → rf_M → Prop} (hS : rk fz S B.2.2) (hR : fq B M) (a0 : rf_ld ls 0 = some (.ref 353)) (a1 : rf_ld ls 1 = some (zv v1)) (a2 : rf_ld ls 2 = some (zv v2)) (a3 : rf_ld ls 3 = some (zv v3)) (hb63 : ∀ (v1 : Int) (v2 : Int) (v3 : Int) (M : rf_M) (ls : rf_L), fq B M → rf_ld ls 0 = some (.ref 353) → rf_ld ls 1 = some (zv v1) → rf_ld ls 2 = some (zv v2) → rf_ld ls 3 = some (zv v3) → b63 v1 v2 v3 M → gx (cx0 fz) (6, 134) 195 63 ls [] (M, S) (vq_i B S K)) (h : w_comesToSame_63b v1 v2 v3 M b63 K) : gx (cx0 fz) (6, 134) 195 63 ls [] (M, S) (vq_i B S K) := by
  unfold w_comesToSame_63b at h
  refine g1 (n := 1) rfl rfl rfl (li_of a3) ?_
  obtain ⟨i1, h⟩ := h
  refine n_if rfl i1 (fun c => ?_) (fun c => ?_)
  · replace h := h.2 c
    exact W_comesToSame_85 hS hR a0 a1 a2 a3 h
  · replace h := h.1 (Classical.not_not.mp c)
    refine g1 (n := 1) rfl rfl rfl (li_of a2) ?_
    refine n_si rfl (by decide) ?_
    obtain ⟨i2, h⟩ := h
    refine n_ic rfl i2 ⟨by decide, by decide⟩ (fun c => ?_) (fun c => ?_)
    · replace h := h.1 c
      exact W_comesToSame_85 hS hR a0 a1 a2 a3 h
    · replace h := h.2 c
      refine g1 (n := 1) rfl rfl rfl (la_of a0) ?_
      refine m_iv (a := 353) (as := []) (rest := []) rfl (by decide) hS.1 rfl rfl (Nat.le_of_ble_eq_true rfl) ⟨Nat.le_of_ble_eq_true rfl, Nat.le_of_ble_eq_true rfl, Nat.le_of_ble_eq_true rfl⟩ ?_
      refine gx_room (gx_mono (W_step_m hS hR h) ?_) (Nat.le_of_ble_eq_true rfl) (Nat.le_of_ble_eq_true rfl)
      rintro _ _ ⟨z1, M1, rfl, rfl, r1, h⟩
      refine n_s1 (n := 1) rfl rfl rfl rfl (fun ls l1 ho => ?_)
      replace a0 := ho 0 _ (by decide) (fun q => by cases q.2) a0
      have l2 := ho 1 _ (by decide) (fun q => by cases q.2) a1
      have l3 := ho 2 _ (by decide) (fun q => by cases q.2) a2
      refine n_ii rfl l3 (Nat.le_of_ble_eq_true rfl) (fun ls l4 ho => ?_)
      replace a0 := ho 0 _ (by decide) (fun q => by cases q.2) a0
      have l5 := ho 1 _ (by decide) (fun q => by cases q.2) l2
      have l6 := ho 3 _ (by decide) (fun q => by cases q.2) l1
      refine g3 rfl rfl rfl ?_
      exact hb63 _ _ _ _ _ r1 a0 l5 l4 l6 h
def w_comesToSame_63 (v1 : Int) (v2 : Int) (v3 : Int) (M : rf_M) (K : Int → rf_M → Prop) : Prop := ∃ Inv : Nat → Int → Int → Int → rf_M → Prop, (∃ m, Inv m v1 v2 v3 M) ∧ ∀ (m : Nat) (v1 : Int) (v2 : Int) (v3 : Int) (M : rf_M), Inv m v1 v2 v3 M → w_comesToSame_63b v1 v2 v3 M (fun (v1' : Int) (v2' : Int) (v3' : Int) (M' : rf_M) => ∃ m', m' < m ∧ Inv m' v1' v2' v3' M') K
theorem W_comesToSame_63 {fz : Bool} {S : gS} {B : rf_M} {M : rf_M} {ls : rf_L} {v1 : Int} {v2 : Int} {v3 : Int} {K : Int → rf_M → Prop} (hS : rk fz S B.2.2) (hR : fq B M) (a0 : rf_ld ls 0 = some (.ref 353)) (a1 : rf_ld ls 1 = some (zv v1)) (a2 : rf_ld ls 2 = some (zv v2)) (a3 : rf_ld ls 3 = some (zv v3)) (h : w_comesToSame_63 v1 v2 v3 M K) : gx (cx0 fz) (6, 134) 195 63 ls [] (M, S) (vq_i B S K) := by
  obtain ⟨Inv, ⟨m, hm⟩, hb⟩ := h
  induction m using Nat.strongRecOn generalizing ls M v1 v2 v3 with
  | _ m ih =>
    refine W_comesToSame_63b hS hR a0 a1 a2 a3 (fun v1' v2' v3' M' ls' hR' f0 f1 f2 f3 ⟨m', q1, q2⟩ => ih m' q1 hR' f0 f1 f2 f3 q2) (hb m v1 v2 v3 M hm)
def w_comesToSame (v1 : Int) (M : rf_M) (K : Int → rf_M → Prop) : Prop := (0 ≤ v1 ∧ v1 < 300) ∧ (((gi M 400 (v1).toNat) = 0 → ((0 ≤ v1 ∧ v1 < 300) ∧ ((0 ≤ v1 ∧ v1 < 300) ∧ ((0 ≤ (16 + (gi M 402 (v1).toNat)) ∧ (16 + (gi M 402 (v1).toNat)) < 32) ∧ (∀ M2 : rf_M, M2 = wl M 376 (16 + (gi M 402 (v1).toNat)).toNat (gl M 405 (v1).toNat) → ((0 ≤ v1 ∧ v1 < 300) ∧ ((0 ≤ (16 + (gi M2 402 (v1).toNat)) ∧ (16 + (gi M2 402 (v1).toNat)) < 32) ∧ ((0 ≤ (16 + (gi M2 402 (v1).toNat)) ∧ (16 + (gi M2 402 (v1).toNat)) < 32) ∧ (∀ M3 : rf_M, M3 = wi M2 377 (16 + (gi M2 402 (v1).toNat)).toNat ((gi M2 377 (16 + (gi M2 402 (v1).toNat)).toNat) + 1) → (K 1 M3)))))))))) ∧ (¬ (gi M 400 (v1).toNat) = 0 → ((0 ≤ v1 ∧ v1 < 300) ∧ (wm_beginRun (gi M 402 (v1).toNat) M (fun (M1 : rf_M) => w_comesToSame_63 v1 0 0 M1 K)))))
theorem W_comesToSame {fz : Bool} {S : gS} {B : rf_M} {M : rf_M} {ls : rf_L} {v1 : Int} {K : Int → rf_M → Prop} (hS : rk fz S B.2.2) (hR : fq B M) (a0 : rf_ld ls 0 = some (.ref 353)) (a1 : rf_ld ls 1 = some (zv v1)) (h : w_comesToSame v1 M K) : gx (cx0 fz) (6, 134) 195 0 ls [] (M, S) (vq_i B S K) := by
  unfold w_comesToSame at h
  refine g1 (n := 1) rfl rfl rfl (la_of a0) ?_
  refine n_gr rfl hS.1 rfl (fun _ => rfl) hR (rk_400 hS).2 ?_
  refine g1 (n := 1) rfl rfl rfl (li_of a1) ?_
  obtain ⟨q, h⟩ := h
  refine n_ia rfl (rk_400 hS).1 (Nat.le_of_ble_eq_true rfl) q ?_
  refine n_if rfl (inr_gi _ _ _) (fun c => ?_) (fun c => ?_)
  · replace h := h.2 c
    refine g1 (n := 1) rfl rfl rfl (la_of a0) ?_
    refine g1 (n := 1) rfl rfl rfl (la_of a0) ?_
    refine n_gr rfl hS.1 rfl (fun _ => rfl) hR (rk_402 hS).2 ?_
    refine g1 (n := 1) rfl rfl rfl (li_of a1) ?_
    obtain ⟨q, h⟩ := h
    refine n_ia rfl (rk_402 hS).1 (Nat.le_of_ble_eq_true rfl) q ?_
    refine m_iv (a := 353) (as := [zv (gi M 402 (v1).toNat)]) (rest := []) rfl (by decide) hS.1 rfl rfl (Nat.le_of_ble_eq_true rfl) ⟨Nat.le_of_ble_eq_true rfl, Nat.le_of_ble_eq_true rfl, Nat.le_of_ble_eq_true rfl⟩ ?_
    refine gx_room (gx_mono (W_beginRun_m hS hR h) ?_) (Nat.le_of_ble_eq_true rfl) (Nat.le_of_ble_eq_true rfl)
    rintro _ _ ⟨M1, rfl, rfl, r1, h⟩
    refine g1 (n := 1) rfl rfl rfl rfl ?_
    refine n_s1 (n := 1) rfl rfl rfl rfl (fun ls l1 ho => ?_)
    replace a0 := ho 0 _ (by decide) (fun q => by cases q.2) a0
    have l2 := ho 1 _ (by decide) (fun q => by cases q.2) a1
    refine g1 (n := 1) rfl rfl rfl rfl ?_
    refine n_s1 (n := 1) rfl rfl rfl rfl (fun ls l3 ho => ?_)
    replace a0 := ho 0 _ (by decide) (fun q => by cases q.2) a0
    have l4 := ho 1 _ (by decide) (fun q => by cases q.2) l2
    have l5 := ho 2 _ (by decide) (fun q => by cases q.2) l1
    exact W_comesToSame_63 hS r1 a0 l4 l5 l3 h
  · replace h := h.1 (Classical.not_not.mp c)
    refine g1 (n := 1) rfl rfl rfl (la_of a0) ?_
    refine n_gr rfl hS.1 rfl (fun _ => rfl) hR (rk_376 hS).2 ?_
    refine n_bi rfl (by decide) ?_
    refine g1 (n := 1) rfl rfl rfl (la_of a0) ?_
    refine n_gr rfl hS.1 rfl (fun _ => rfl) hR (rk_402 hS).2 ?_
    refine g1 (n := 1) rfl rfl rfl (li_of a1) ?_
    obtain ⟨q, h⟩ := h
    refine n_ia rfl (rk_402 hS).1 (Nat.le_of_ble_eq_true rfl) q ?_
    refine n_add rfl ?_
    refine g1 (n := 1) rfl rfl rfl (la_of a0) ?_
    refine n_gr rfl hS.1 rfl (fun _ => rfl) hR (rk_405 hS).2 ?_
    refine g1 (n := 1) rfl rfl rfl (li_of a1) ?_
    obtain ⟨q, h⟩ := h
    refine n_la rfl (rk_405 hS).1 (Nat.le_of_ble_eq_true rfl) q ?_
    obtain ⟨q, h⟩ := h
    refine n_ls (Nat.le_of_ble_eq_true rfl) rfl (rk_376 hS).1 (Nat.le_of_ble_eq_true rfl) q (fun M2 e r => ?_)
    replace h := h M2 e
    have r2 := hR.trans r
    refine g1 (n := 1) rfl rfl rfl (la_of a0) ?_
    refine n_gr rfl hS.1 rfl (fun _ => rfl) r2 (rk_377 hS).2 ?_
    refine n_bi rfl (by decide) ?_
    refine g1 (n := 1) rfl rfl rfl (la_of a0) ?_
    refine n_gr rfl hS.1 rfl (fun _ => rfl) r2 (rk_402 hS).2 ?_
    refine g1 (n := 1) rfl rfl rfl (li_of a1) ?_
    obtain ⟨q, h⟩ := h
    refine n_ia rfl (rk_402 hS).1 (Nat.le_of_ble_eq_true rfl) q ?_
    refine n_add rfl ?_
    refine g0 rfl rfl rfl ?_
    obtain ⟨q, h⟩ := h
    refine n_ia rfl (rk_377 hS).1 (Nat.le_of_ble_eq_true rfl) q ?_
    refine g1 (n := 1) rfl rfl rfl rfl ?_
    refine n_add rfl ?_
    obtain ⟨q, h⟩ := h
    refine n_is (Nat.le_of_ble_eq_true rfl) rfl (rk_377 hS).1 (Nat.le_of_ble_eq_true rfl) q (fun M3 e r => ?_)
    replace h := h M3 e
    have r3 := r2.trans r
    refine g1 (n := 1) rfl rfl rfl rfl ?_
    exact n_rb rfl rfl (Or.inr rfl) r3 h
def wm_comesToSame (x0 : Int) (M : rf_M) (K : Int → rf_M → Prop) : Prop := w_comesToSame x0 M K
theorem W_comesToSame_m {fz : Bool} {S : gS} {B : rf_M} {M : rf_M} {x0 : Int} {K : Int → rf_M → Prop} (hS : rk fz S B.2.2) (hR : fq B M) (h : wm_comesToSame x0 M K) : gx (cx0 fz) (6, 134) 195 0 (lv_args 0 [.ref 353, zv x0]) [] (M, S) (vq_i B S K) :=
  W_comesToSame hS hR rfl rfl h
def w_replays_133 (v2 : Int) (s0 : Int) (M : rf_M) (b81 : Int → Int → rf_M → Prop) (K : Int → rf_M → Prop) : Prop := b81 s0 (v2 + 1) M
theorem W_replays_133 {fz : Bool} {S : gS} {B : rf_M} {M : rf_M} {ls : rf_L} {v2 : Int} {s0 : Int} {b81 : Int → Int → rf_M → Prop} {K : Int → rf_M → Prop} (hS : rk fz S B.2.2) (hR : fq B M) (a0 : rf_ld ls 0 = some (.ref 353)) (a2 : rf_ld ls 2 = some (zv v2)) (hb81 : ∀ (v1 : Int) (v2 : Int) (M : rf_M) (ls : rf_L), fq B M → rf_ld ls 0 = some (.ref 353) → rf_ld ls 1 = some (zv v1) → rf_ld ls 2 = some (zv v2) → b81 v1 v2 M → gx (cx0 fz) (7, 160) 194 81 ls [] (M, S) (vq_i B S K)) (h : w_replays_133 v2 s0 M b81 K) : gx (cx0 fz) (7, 160) 194 133 ls [zv s0] (M, S) (vq_i B S K) := by
  unfold w_replays_133 at h
  refine n_s1 (n := 1) rfl rfl rfl rfl (fun ls l1 ho => ?_)
  replace a0 := ho 0 _ (by decide) (fun q => by cases q.2) a0
  have l2 := ho 2 _ (by decide) (fun q => by cases q.2) a2
  refine n_ii rfl l2 (Nat.le_of_ble_eq_true rfl) (fun ls l3 ho => ?_)
  replace a0 := ho 0 _ (by decide) (fun q => by cases q.2) a0
  have l4 := ho 1 _ (by decide) (fun q => by cases q.2) l1
  refine g3 rfl rfl rfl ?_
  exact hb81 _ _ _ _ hR a0 l4 l3 h
def w_replays_132 (v2 : Int) (M : rf_M) (b81 : Int → Int → rf_M → Prop) (K : Int → rf_M → Prop) : Prop := w_replays_133 v2 0 M b81 K
theorem W_replays_132 {fz : Bool} {S : gS} {B : rf_M} {M : rf_M} {ls : rf_L} {v2 : Int} {b81 : Int → Int → rf_M → Prop} {K : Int → rf_M → Prop} (hS : rk fz S B.2.2) (hR : fq B M) (a0 : rf_ld ls 0 = some (.ref 353)) (a2 : rf_ld ls 2 = some (zv v2)) (hb81 : ∀ (v1 : Int) (v2 : Int) (M : rf_M) (ls : rf_L), fq B M → rf_ld ls 0 = some (.ref 353) → rf_ld ls 1 = some (zv v1) → rf_ld ls 2 = some (zv v2) → b81 v1 v2 M → gx (cx0 fz) (7, 160) 194 81 ls [] (M, S) (vq_i B S K)) (h : w_replays_132 v2 M b81 K) : gx (cx0 fz) (7, 160) 194 132 ls [] (M, S) (vq_i B S K) := by
  unfold w_replays_132 at h
  refine g1 (n := 1) rfl rfl rfl rfl ?_
  exact W_replays_133 hS hR a0 a2 hb81 h
def w_replays_204 (v2 : Int) (s0 : Int) (M : rf_M) (b167 : Int → Int → rf_M → Prop) (K : Int → rf_M → Prop) : Prop := b167 s0 (v2 + 1) M
theorem W_replays_204 {fz : Bool} {S : gS} {B : rf_M} {M : rf_M} {ls : rf_L} {v2 : Int} {s0 : Int} {b167 : Int → Int → rf_M → Prop} {K : Int → rf_M → Prop} (hS : rk fz S B.2.2) (hR : fq B M) (a0 : rf_ld ls 0 = some (.ref 353)) (a2 : rf_ld ls 2 = some (zv v2)) (hb167 : ∀ (v1 : Int) (v2 : Int) (M : rf_M) (ls : rf_L), fq B M → rf_ld ls 0 = some (.ref 353) → rf_ld ls 1 = some (zv v1) → rf_ld ls 2 = some (zv v2) → b167 v1 v2 M → gx (cx0 fz) (7, 160) 194 167 ls [] (M, S) (vq_i B S K)) (h : w_replays_204 v2 s0 M b167 K) : gx (cx0 fz) (7, 160) 194 204 ls [zv s0] (M, S) (vq_i B S K) := by
  unfold w_replays_204 at h
  refine n_s1 (n := 1) rfl rfl rfl rfl (fun ls l1 ho => ?_)
  replace a0 := ho 0 _ (by decide) (fun q => by cases q.2) a0
  have l2 := ho 2 _ (by decide) (fun q => by cases q.2) a2
  refine n_ii rfl l2 (Nat.le_of_ble_eq_true rfl) (fun ls l3 ho => ?_)
  replace a0 := ho 0 _ (by decide) (fun q => by cases q.2) a0
  have l4 := ho 1 _ (by decide) (fun q => by cases q.2) l1
  refine g3 rfl rfl rfl ?_
  exact hb167 _ _ _ _ hR a0 l4 l3 h
def w_replays_225 (s0 : Int) (M : rf_M) (K : Int → rf_M → Prop) : Prop := K s0 M
theorem W_replays_225 {fz : Bool} {S : gS} {B : rf_M} {M : rf_M} {ls : rf_L} {s0 : Int} {K : Int → rf_M → Prop} (hS : rk fz S B.2.2) (hR : fq B M) (h : w_replays_225 s0 M K) : gx (cx0 fz) (7, 160) 194 225 ls [zv s0] (M, S) (vq_i B S K) := by
  unfold w_replays_225 at h
  exact gx_ret rfl rfl ⟨s0, M, rfl, rfl, hR, h⟩
def w_replays_211 (v1 : Int) (M : rf_M) (K : Int → rf_M → Prop) : Prop := ∀ M1 : rf_M, M1 = wi M 353 42 0 → (inr v1 ∧ ((v1 = 0 → (w_replays_225 0 M1 K)) ∧ (¬ (v1 = 0) → (w_replays_225 1 M1 K))))
theorem W_replays_211 {fz : Bool} {S : gS} {B : rf_M} {M : rf_M} {ls : rf_L} {v1 : Int} {K : Int → rf_M → Prop} (hS : rk fz S B.2.2) (hR : fq B M) (a0 : rf_ld ls 0 = some (.ref 353)) (a1 : rf_ld ls 1 = some (zv v1)) (h : w_replays_211 v1 M K) : gx (cx0 fz) (7, 160) 194 211 ls [] (M, S) (vq_i B S K) := by
  unfold w_replays_211 at h
  refine g1 (n := 1) rfl rfl rfl (la_of a0) ?_
  refine g1 (n := 1) rfl rfl rfl rfl ?_
  refine n_pi (Nat.le_of_ble_eq_true rfl) rfl hS.1 rfl (fun _ _ => rfl) (fun M1 e r => ?_)
  replace h := h M1 e
  have r1 := hR.trans r
  refine g1 (n := 1) rfl rfl rfl (li_of a1) ?_
  obtain ⟨i1, h⟩ := h
  refine n_if rfl i1 (fun c => ?_) (fun c => ?_)
  · replace h := h.1 c
    refine g1 (n := 1) rfl rfl rfl rfl ?_
    exact W_replays_225 hS r1  h
  · replace h := h.2 c
    refine g1 (n := 1) rfl rfl rfl rfl ?_
    refine g3 rfl rfl rfl ?_
    exact W_replays_225 hS r1  h
def w_replays_167b (v1 : Int) (v2 : Int) (M : rf_M) (b167 : Int → Int → rf_M → Prop) (K : Int → rf_M → Prop) : Prop := (0 ≤ (0 : Int) ∧ (0 : Int) < 2) ∧ (inr v2 ∧ (((gi M 378 0) ≤ v2 → (w_replays_211 v1 M K)) ∧ (¬ ((gi M 378 0) ≤ v2) → (inr v1 ∧ ((v1 = 0 → (w_replays_211 v1 M K)) ∧ (¬ (v1 = 0) → ((0 ≤ v2 ∧ v2 < 64) ∧ ((0 ≤ (32 + v2) ∧ (32 + v2) < 64) ∧ (((gi M 379 (v2).toNat) = (gi M 379 (32 + v2).toNat) → (w_replays_204 v2 1 M b167 K)) ∧ (¬ (gi M 379 (v2).toNat) = (gi M 379 (32 + v2).toNat) → (w_replays_204 v2 0 M b167 K)))))))))))
theorem W_replays_167b {fz : Bool} {S : gS} {B : rf_M} {M : rf_M} {ls : rf_L} {v1 : Int} {v2 : Int} {b167 : Int → Int → rf_M → Prop} {K : Int → rf_M → Prop} (hS : rk fz S B.2.2) (hR : fq B M) (a0 : rf_ld ls 0 = some (.ref 353)) (a1 : rf_ld ls 1 = some (zv v1)) (a2 : rf_ld ls 2 = some (zv v2)) (hb167 : ∀ (v1 : Int) (v2 : Int) (M : rf_M) (ls : rf_L), fq B M → rf_ld ls 0 = some (.ref 353) → rf_ld ls 1 = some (zv v1) → rf_ld ls 2 = some (zv v2) → b167 v1 v2 M → gx (cx0 fz) (7, 160) 194 167 ls [] (M, S) (vq_i B S K)) (h : w_replays_167b v1 v2 M b167 K) : gx (cx0 fz) (7, 160) 194 167 ls [] (M, S) (vq_i B S K) := by
  unfold w_replays_167b at h
  refine g1 (n := 1) rfl rfl rfl (li_of a2) ?_
  refine g1 (n := 1) rfl rfl rfl (la_of a0) ?_
  refine n_gr rfl hS.1 rfl (fun _ => rfl) hR (rk_378 hS).2 ?_
  refine g1 (n := 1) rfl rfl rfl rfl ?_
  obtain ⟨q, h⟩ := h
  refine n_ia rfl (rk_378 hS).1 (Nat.le_of_ble_eq_true rfl) q ?_
  obtain ⟨i1, h⟩ := h
  refine n_ic rfl i1 (inr_gi _ _ _) (fun c => ?_) (fun c => ?_)
  · replace h := h.1 c
    exact W_replays_211 hS hR a0 a1 h
  · replace h := h.2 c
    refine g1 (n := 1) rfl rfl rfl (li_of a1) ?_
    obtain ⟨i2, h⟩ := h
    refine n_if rfl i2 (fun c => ?_) (fun c => ?_)
    · replace h := h.1 c
      exact W_replays_211 hS hR a0 a1 h
    · replace h := h.2 c
      refine g1 (n := 1) rfl rfl rfl (la_of a0) ?_
      refine n_gr rfl hS.1 rfl (fun _ => rfl) hR (rk_379 hS).2 ?_
      refine g1 (n := 1) rfl rfl rfl (li_of a2) ?_
      obtain ⟨q, h⟩ := h
      refine n_ia rfl (rk_379 hS).1 (Nat.le_of_ble_eq_true rfl) q ?_
      refine g1 (n := 1) rfl rfl rfl (la_of a0) ?_
      refine n_gr rfl hS.1 rfl (fun _ => rfl) hR (rk_379 hS).2 ?_
      refine n_bi rfl (by decide) ?_
      refine g1 (n := 1) rfl rfl rfl (li_of a2) ?_
      refine n_add rfl ?_
      obtain ⟨q, h⟩ := h
      refine n_ia rfl (rk_379 hS).1 (Nat.le_of_ble_eq_true rfl) q ?_
      refine n_ic rfl (inr_gi _ _ _) (inr_gi _ _ _) (fun c => ?_) (fun c => ?_)
      · replace h := h.2 c
        refine g1 (n := 1) rfl rfl rfl rfl ?_
        exact W_replays_204 hS hR a0 a2 hb167 h
      · replace h := h.1 (Classical.not_not.mp c)
        refine g1 (n := 1) rfl rfl rfl rfl ?_
        refine g3 rfl rfl rfl ?_
        exact W_replays_204 hS hR a0 a2 hb167 h
def w_replays_167 (v1 : Int) (v2 : Int) (M : rf_M) (K : Int → rf_M → Prop) : Prop := ∃ Inv : Nat → Int → Int → rf_M → Prop, (∃ m, Inv m v1 v2 M) ∧ ∀ (m : Nat) (v1 : Int) (v2 : Int) (M : rf_M), Inv m v1 v2 M → w_replays_167b v1 v2 M (fun (v1' : Int) (v2' : Int) (M' : rf_M) => ∃ m', m' < m ∧ Inv m' v1' v2' M') K
theorem W_replays_167 {fz : Bool} {S : gS} {B : rf_M} {M : rf_M} {ls : rf_L} {v1 : Int} {v2 : Int} {K : Int → rf_M → Prop} (hS : rk fz S B.2.2) (hR : fq B M) (a0 : rf_ld ls 0 = some (.ref 353)) (a1 : rf_ld ls 1 = some (zv v1)) (a2 : rf_ld ls 2 = some (zv v2)) (h : w_replays_167 v1 v2 M K) : gx (cx0 fz) (7, 160) 194 167 ls [] (M, S) (vq_i B S K) := by
  obtain ⟨Inv, ⟨m, hm⟩, hb⟩ := h
  induction m using Nat.strongRecOn generalizing ls M v1 v2 with
  | _ m ih =>
    refine W_replays_167b hS hR a0 a1 a2 (fun v1' v2' M' ls' hR' f0 f1 f2 ⟨m', q1, q2⟩ => ih m' q1 hR' f0 f1 f2 q2) (hb m v1 v2 M hm)
