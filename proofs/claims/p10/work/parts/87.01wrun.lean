theorem W_two {fz : Bool} {S : gS} {B : rf_M} {M : rf_M} {ls : rf_L} {v1 : Int} {v2 : Int64} {v4 : Int64} {K : Int64 → rf_M → Prop} (hS : rk fz S B.2.2) (hR : fq B M) (a0 : rf_ld ls 0 = some (.ref 353)) (a1 : rf_ld ls 1 = some (zv v1)) (a2 : rf_ld ls 2 = some (.long v2)) (a4 : rf_ld ls 4 = some (.long v4)) (h : w_two v1 v2 v4 M K) : gx (cx0 fz) (0, 0) 165 0 ls [] (M, S) (vq_l B S K) := by
  unfold w_two at h
  refine g1 (n := 1) rfl rfl rfl (li_of a1) ?_
  obtain ⟨ia, h⟩ := h
  obtain ⟨h1, h⟩ := h
  by_cases e35 : v1 = 35
  · replace h := h1 e35
    refine n_sw e35 rfl rfl rfl ?_
    refine g1 (n := 1) rfl rfl rfl (ll_of a2) ?_
    refine g1 (n := 2) rfl rfl rfl (ll_of a4) ?_
    refine n_op (T := (lg_cmp v2 v4)) rfl rfl rfl ?_
    refine n_if rfl (inr_ti _) (fun c => ?_) (fun c => ?_)
    · replace h := h.1 c
      refine g1 (n := 1) rfl rfl rfl rfl ?_
      exact W_two_98 hS hR  h
    · replace h := h.2 c
      refine g1 (n := 1) rfl rfl rfl rfl ?_
      refine g3 rfl rfl rfl ?_
      exact W_two_98 hS hR  h
  obtain ⟨h1, h⟩ := h
  by_cases e42 : v1 = 42
  · replace h := h1 e42
    refine n_sw e42 rfl rfl rfl ?_
    refine g1 (n := 1) rfl rfl rfl (ll_of a2) ?_
    refine g1 (n := 2) rfl rfl rfl (ll_of a4) ?_
    refine g0 rfl rfl rfl ?_
    exact gx_ret rfl rfl ⟨(v2 * v4), M, rfl, rfl, hR, h⟩
  obtain ⟨h1, h⟩ := h
  by_cases e43 : v1 = 43
  · replace h := h1 e43
    refine n_sw e43 rfl rfl rfl ?_
    refine g1 (n := 1) rfl rfl rfl (ll_of a2) ?_
    refine g1 (n := 2) rfl rfl rfl (ll_of a4) ?_
    refine g0 rfl rfl rfl ?_
    exact gx_ret rfl rfl ⟨(v2 + v4), M, rfl, rfl, hR, h⟩
  obtain ⟨h1, h⟩ := h
  by_cases e45 : v1 = 45
  · replace h := h1 e45
    refine n_sw e45 rfl rfl rfl ?_
    refine g1 (n := 1) rfl rfl rfl (ll_of a2) ?_
    refine g1 (n := 2) rfl rfl rfl (ll_of a4) ?_
    refine g0 rfl rfl rfl ?_
    exact gx_ret rfl rfl ⟨(v2 - v4), M, rfl, rfl, hR, h⟩
  obtain ⟨h1, h⟩ := h
  by_cases e60 : v1 = 60
  · replace h := h1 e60
    refine n_sw e60 rfl rfl rfl ?_
    refine g1 (n := 1) rfl rfl rfl (ll_of a2) ?_
    refine g1 (n := 2) rfl rfl rfl (ll_of a4) ?_
    refine n_op (T := (lg_cmp v2 v4)) rfl rfl rfl ?_
    refine n_if rfl (inr_ti _) (fun c => ?_) (fun c => ?_)
    · replace h := h.1 c
      refine g1 (n := 1) rfl rfl rfl rfl ?_
      exact W_two_72 hS hR  h
    · replace h := h.2 c
      refine g1 (n := 1) rfl rfl rfl rfl ?_
      refine g3 rfl rfl rfl ?_
      exact W_two_72 hS hR  h
  obtain ⟨h1, h⟩ := h
  by_cases e61 : v1 = 61
  · replace h := h1 e61
    refine n_sw e61 rfl rfl rfl ?_
    refine g1 (n := 1) rfl rfl rfl (ll_of a2) ?_
    refine g1 (n := 2) rfl rfl rfl (ll_of a4) ?_
    refine n_op (T := (lg_cmp v2 v4)) rfl rfl rfl ?_
    refine n_if rfl (inr_ti _) (fun c => ?_) (fun c => ?_)
    · replace h := h.2 c
      refine g1 (n := 1) rfl rfl rfl rfl ?_
      exact W_two_85 hS hR  h
    · replace h := h.1 (Classical.not_not.mp c)
      refine g1 (n := 1) rfl rfl rfl rfl ?_
      refine g3 rfl rfl rfl ?_
      exact W_two_85 hS hR  h
  replace h := h ⟨e35, e42, e43, e45, e60, e61⟩
  refine n_swl (t := 114) rfl ia (by simp only [List.tail_cons, rf_sw, if_neg (Ne.symm e35), if_neg (Ne.symm e42), if_neg (Ne.symm e43), if_neg (Ne.symm e45), if_neg (Ne.symm e60), if_neg (Ne.symm e61)]; rfl) ?_
  refine g1 (n := 2) rfl rfl rfl (ll_of a4) ?_
  refine g1 (n := 1) rfl rfl rfl rfl ?_
  refine n_op (T := (lg_cmp v4 (Int64.ofNat 0))) rfl rfl rfl ?_
  refine n_if rfl (inr_ti _) (fun c => ?_) (fun c => ?_)
  · replace h := h.2 c
    refine g1 (n := 1) rfl rfl rfl (li_of a1) ?_
    refine n_bi rfl (by decide) ?_
    obtain ⟨i1, h⟩ := h
    refine n_ic rfl i1 ⟨by decide, by decide⟩ (fun c => ?_) (fun c => ?_)
    · replace h := h.2 c
      refine g1 (n := 2) rfl rfl rfl (ll_of a4) ?_
      refine g7 (n := 3) rfl rfl rfl rfl ?_
      refine n_op (T := (lg_cmp v4 (Int64.ofNat 18446744073709551615))) rfl rfl rfl ?_
      refine n_if rfl (inr_ti _) (fun c => ?_) (fun c => ?_)
      · replace h := h.2 c
        refine g1 (n := 1) rfl rfl rfl (ll_of a2) ?_
        refine g1 (n := 2) rfl rfl rfl (ll_of a4) ?_
        obtain ⟨q, h⟩ := h
        refine g0 rfl rfl (if_neg q) ?_
        exact W_two_179 hS hR  h
      · replace h := h.1 (Classical.not_not.mp c)
        refine g1 (n := 1) rfl rfl rfl rfl ?_
        refine g3 rfl rfl rfl ?_
        exact W_two_179 hS hR  h
    · replace h := h.1 (Classical.not_not.mp c)
      refine g1 (n := 2) rfl rfl rfl (ll_of a4) ?_
      refine g7 (n := 3) rfl rfl rfl rfl ?_
      refine n_op (T := (lg_cmp v4 (Int64.ofNat 18446744073709551615))) rfl rfl rfl ?_
      refine n_if rfl (inr_ti _) (fun c => ?_) (fun c => ?_)
      · replace h := h.2 c
        refine g1 (n := 1) rfl rfl rfl (ll_of a2) ?_
        refine g1 (n := 2) rfl rfl rfl (ll_of a4) ?_
        obtain ⟨q, h⟩ := h
        refine g0 rfl rfl (if_neg q) ?_
        refine g3 rfl rfl rfl ?_
        exact W_two_179 hS hR  h
      · replace h := h.1 (Classical.not_not.mp c)
        refine g1 (n := 1) rfl rfl rfl (ll_of a2) ?_
        refine g0 rfl rfl rfl ?_
        refine g3 rfl rfl rfl ?_
        exact W_two_179 hS hR  h
  · replace h := h.1 (Classical.not_not.mp c)
    refine g1 (n := 1) rfl rfl rfl (la_of a0) ?_
    refine g1 (n := 1) rfl rfl rfl rfl ?_
    refine n_pi (Nat.le_of_ble_eq_true rfl) rfl hS.1 rfl (fun _ _ => rfl) (fun M1 e r => ?_)
    replace h := h M1 e
    have r1 := hR.trans r
    refine g1 (n := 1) rfl rfl rfl (la_of a0) ?_
    refine g7 (n := 3) rfl rfl rfl rfl ?_
    refine n_pl (Nat.le_of_ble_eq_true rfl) rfl hS.1 rfl (fun _ _ => rfl) (fun M2 e r => ?_)
    replace h := h M2 e
    have r2 := r1.trans r
    refine g1 (n := 1) rfl rfl rfl rfl ?_
    exact gx_ret rfl rfl ⟨(Int64.ofNat 0), M2, rfl, rfl, r2, h⟩
def wm_two (x0 : Int) (x1 : Int64) (x2 : Int64) (M : rf_M) (K : Int64 → rf_M → Prop) : Prop := w_two x0 x1 x2 M K
theorem W_two_m {fz : Bool} {S : gS} {B : rf_M} {M : rf_M} {x0 : Int} {x1 : Int64} {x2 : Int64} {K : Int64 → rf_M → Prop} (hS : rk fz S B.2.2) (hR : fq B M) (h : wm_two x0 x1 x2 M K) : gx (cx0 fz) (0, 0) 165 0 (lv_args 0 [.ref 353, zv x0, .long x1, .long x2]) [] (M, S) (vq_l B S K) :=
  W_two hS hR rfl rfl rfl rfl h
def w_work_162 (v2 : Int) (v3 : Int) (v4 : Int) (M : rf_M) (b5 : Int → Int → Int → rf_M → Prop) (K : Int64 → rf_M → Prop) : Prop := b5 v2 v3 (v4 + 1) M
theorem W_work_162 {fz : Bool} {S : gS} {B : rf_M} {M : rf_M} {ls : rf_L} {v2 : Int} {v3 : Int} {v4 : Int} {b5 : Int → Int → Int → rf_M → Prop} {K : Int64 → rf_M → Prop} (hS : rk fz S B.2.2) (hR : fq B M) (a0 : rf_ld ls 0 = some (.ref 353)) (a2 : rf_ld ls 2 = some (zv v2)) (a3 : rf_ld ls 3 = some (zv v3)) (a4 : rf_ld ls 4 = some (zv v4)) (hb5 : ∀ (v2 : Int) (v3 : Int) (v4 : Int) (M : rf_M) (ls : rf_L), fq B M → rf_ld ls 0 = some (.ref 353) → rf_ld ls 2 = some (zv v2) → rf_ld ls 3 = some (zv v3) → rf_ld ls 4 = some (zv v4) → b5 v2 v3 v4 M → gx (cx0 fz) (2, 42) 163 5 ls [] (M, S) (vq_l B S K)) (h : w_work_162 v2 v3 v4 M b5 K) : gx (cx0 fz) (2, 42) 163 162 ls [] (M, S) (vq_l B S K) := by
  unfold w_work_162 at h
  refine n_ii rfl a4 (Nat.le_of_ble_eq_true rfl) (fun ls l1 ho => ?_)
  replace a0 := ho 0 _ (by decide) (fun q => by cases q.2) a0
  have l2 := ho 2 _ (by decide) (fun q => by cases q.2) a2
  have l3 := ho 3 _ (by decide) (fun q => by cases q.2) a3
  refine g3 rfl rfl rfl ?_
  exact hb5 _ _ _ _ _ hR a0 l2 l3 l1 h
def w_work_98 (v2 : Int) (v3 : Int) (v4 : Int) (s1 : Int) (s2 : Int64) (M : rf_M) (b5 : Int → Int → Int → rf_M → Prop) (K : Int64 → rf_M → Prop) : Prop := (0 ≤ s1 ∧ s1 < 64) ∧ (∀ M1 : rf_M, M1 = wl M 398 (s1).toNat s2 → (w_work_162 v2 (v3 + 1) v4 M1 b5 K))
theorem W_work_98 {fz : Bool} {S : gS} {B : rf_M} {M : rf_M} {ls : rf_L} {v2 : Int} {v3 : Int} {v4 : Int} {s1 : Int} {s2 : Int64} {b5 : Int → Int → Int → rf_M → Prop} {K : Int64 → rf_M → Prop} (hS : rk fz S B.2.2) (hR : fq B M) (a0 : rf_ld ls 0 = some (.ref 353)) (a2 : rf_ld ls 2 = some (zv v2)) (a3 : rf_ld ls 3 = some (zv v3)) (a4 : rf_ld ls 4 = some (zv v4)) (hb5 : ∀ (v2 : Int) (v3 : Int) (v4 : Int) (M : rf_M) (ls : rf_L), fq B M → rf_ld ls 0 = some (.ref 353) → rf_ld ls 2 = some (zv v2) → rf_ld ls 3 = some (zv v3) → rf_ld ls 4 = some (zv v4) → b5 v2 v3 v4 M → gx (cx0 fz) (2, 42) 163 5 ls [] (M, S) (vq_l B S K)) (h : w_work_98 v2 v3 v4 s1 s2 M b5 K) : gx (cx0 fz) (2, 42) 163 98 ls [.long s2, zv s1, .ref 398] (M, S) (vq_l B S K) := by
  unfold w_work_98 at h
  obtain ⟨q, h⟩ := h
  refine n_ls (Nat.le_of_ble_eq_true rfl) rfl (rk_398 hS).1 (Nat.le_of_ble_eq_true rfl) q (fun M1 e r => ?_)
  replace h := h M1 e
  have r1 := hR.trans r
  refine n_ii rfl a3 (Nat.le_of_ble_eq_true rfl) (fun ls l1 ho => ?_)
  replace a0 := ho 0 _ (by decide) (fun q => by cases q.2) a0
  have l2 := ho 2 _ (by decide) (fun q => by cases q.2) a2
  have l3 := ho 4 _ (by decide) (fun q => by cases q.2) a4
  refine g3 rfl rfl rfl ?_
  exact W_work_162 hS r1 a0 l2 l1 l3 hb5 h
def w_work_185 (s0 : Int64) (M : rf_M) (K : Int64 → rf_M → Prop) : Prop := K s0 M
theorem W_work_185 {fz : Bool} {S : gS} {B : rf_M} {M : rf_M} {ls : rf_L} {s0 : Int64} {K : Int64 → rf_M → Prop} (hS : rk fz S B.2.2) (hR : fq B M) (h : w_work_185 s0 M K) : gx (cx0 fz) (2, 42) 163 185 ls [.long s0] (M, S) (vq_l B S K) := by
  unfold w_work_185 at h
  exact gx_ret rfl rfl ⟨s0, M, rfl, rfl, hR, h⟩
def w_work_168 (M : rf_M) (K : Int64 → rf_M → Prop) : Prop := ((gi M 353 65) = 0 → ((0 ≤ (0 : Int) ∧ (0 : Int) < 64) ∧ (w_work_185 (gl M 398 0) M K))) ∧ (¬ (gi M 353 65) = 0 → (w_work_185 (Int64.ofNat 0) M K))
theorem W_work_168 {fz : Bool} {S : gS} {B : rf_M} {M : rf_M} {ls : rf_L} {K : Int64 → rf_M → Prop} (hS : rk fz S B.2.2) (hR : fq B M) (a0 : rf_ld ls 0 = some (.ref 353)) (h : w_work_168 M K) : gx (cx0 fz) (2, 42) 163 168 ls [] (M, S) (vq_l B S K) := by
  unfold w_work_168 at h
  refine g1 (n := 1) rfl rfl rfl (la_of a0) ?_
  refine n_gi rfl hS.1 rfl (fun _ => rfl) ?_
  refine n_if rfl (inr_gi _ _ _) (fun c => ?_) (fun c => ?_)
  · replace h := h.2 c
    refine g1 (n := 1) rfl rfl rfl rfl ?_
    exact W_work_185 hS hR  h
  · replace h := h.1 (Classical.not_not.mp c)
    refine g1 (n := 1) rfl rfl rfl (la_of a0) ?_
    refine n_gr rfl hS.1 rfl (fun _ => rfl) hR (rk_398 hS).2 ?_
    refine g1 (n := 1) rfl rfl rfl rfl ?_
    obtain ⟨q, h⟩ := h
    refine n_la rfl (rk_398 hS).1 (Nat.le_of_ble_eq_true rfl) q ?_
    refine g3 rfl rfl rfl ?_
    exact W_work_185 hS hR  h
def w_work_5b (v2 : Int) (v3 : Int) (v4 : Int) (M : rf_M) (b5 : Int → Int → Int → rf_M → Prop) (K : Int64 → rf_M → Prop) : Prop := (0 ≤ v4 ∧ v4 < 2400) ∧ (((gi M 368 (v4).toNat) = 4 → (w_work_168 M K)) ∧ (¬ ((gi M 368 (v4).toNat) = 4) → (((gi M 353 65) = 0 → ((0 ≤ v4 ∧ v4 < 2400) ∧ (((gi M 368 (v4).toNat) = 1 → ((0 ≤ v4 ∧ v4 < 2400) ∧ ((0 ≤ v3 ∧ v3 < 64) ∧ (∀ M5 : rf_M, M5 = wl M 398 (v3).toNat (gl M 370 (v4).toNat) → (w_work_162 v2 (v3 + 1) v4 M5 b5 K))))) ∧ (¬ (gi M 368 (v4).toNat) = 1 → (((gi M 368 (v4).toNat) = 2 → (inr v2 ∧ ((v2 = 0 → ((0 ≤ v4 ∧ v4 < 2400) ∧ (wm_valueOf (gi M 369 (v4).toNat) M (fun (z4 : Int64) (M4 : rf_M) => w_work_98 v2 v3 v4 v3 z4 M4 b5 K)))) ∧ (¬ (v2 = 0) → ((0 ≤ v4 ∧ v4 < 2400) ∧ ((0 ≤ (gi M 369 (v4).toNat) ∧ (gi M 369 (v4).toNat) < 16) ∧ (w_work_98 v2 v3 v4 v3 (gl M 399 (gi M 369 (v4).toNat).toNat) M b5 K))))))) ∧ (¬ (gi M 368 (v4).toNat) = 2 → (((gi M 368 (v4).toNat) = 3 → ((0 ≤ (v3 - 1) ∧ (v3 - 1) < 64) ∧ ((0 ≤ (v3 - 1) ∧ (v3 - 1) < 64) ∧ (∀ M3 : rf_M, M3 = wl M 398 (v3 - 1).toNat (-(gl M 398 (v3 - 1).toNat)) → (w_work_162 v2 v3 v4 M3 b5 K))))) ∧ (¬ (gi M 368 (v4).toNat) = 3 → ((0 ≤ ((v3 + (-1)) - 1) ∧ ((v3 + (-1)) - 1) < 64) ∧ ((0 ≤ (v3 + (-1)) ∧ (v3 + (-1)) < 64) ∧ (wm_two (gi M 368 (v4).toNat) (gl M 398 ((v3 + (-1)) - 1).toNat) (gl M 398 (v3 + (-1)).toNat) M (fun (z1 : Int64) (M1 : rf_M) => (0 ≤ ((v3 + (-1)) - 1) ∧ ((v3 + (-1)) - 1) < 64) ∧ (∀ M2 : rf_M, M2 = wl M1 398 ((v3 + (-1)) - 1).toNat z1 → (w_work_162 v2 (v3 + (-1)) v4 M2 b5 K)))))))))))))) ∧ (¬ (gi M 353 65) = 0 → (w_work_168 M K)))))
theorem W_work_5b {fz : Bool} {S : gS} {B : rf_M} {M : rf_M} {ls : rf_L} {v2 : Int} {v3 : Int} {v4 : Int} {b5 : Int → Int → Int → rf_M → Prop} {K : Int64 → rf_M → Prop} (hS : rk fz S B.2.2) (hR : fq B M) (a0 : rf_ld ls 0 = some (.ref 353)) (a2 : rf_ld ls 2 = some (zv v2)) (a3 : rf_ld ls 3 = some (zv v3)) (a4 : rf_ld ls 4 = some (zv v4)) (hb5 : ∀ (v2 : Int) (v3 : Int) (v4 : Int) (M : rf_M) (ls : rf_L), fq B M → rf_ld ls 0 = some (.ref 353) → rf_ld ls 2 = some (zv v2) → rf_ld ls 3 = some (zv v3) → rf_ld ls 4 = some (zv v4) → b5 v2 v3 v4 M → gx (cx0 fz) (2, 42) 163 5 ls [] (M, S) (vq_l B S K)) (h : w_work_5b v2 v3 v4 M b5 K) : gx (cx0 fz) (2, 42) 163 5 ls [] (M, S) (vq_l B S K) := by
  unfold w_work_5b at h
  refine g1 (n := 1) rfl rfl rfl (la_of a0) ?_
  refine n_gr rfl hS.1 rfl (fun _ => rfl) hR (rk_368 hS).2 ?_
  refine g1 (n := 2) rfl rfl rfl (li_of a4) ?_
  obtain ⟨q, h⟩ := h
  refine n_ia rfl (rk_368 hS).1 (Nat.le_of_ble_eq_true rfl) q ?_
  refine g1 (n := 1) rfl rfl rfl rfl ?_
  refine n_ic rfl (inr_gi _ _ _) ⟨by decide, by decide⟩ (fun c => ?_) (fun c => ?_)
  · replace h := h.1 c
    exact W_work_168 hS hR a0 h
  · replace h := h.2 c
    refine g1 (n := 1) rfl rfl rfl (la_of a0) ?_
    refine n_gi rfl hS.1 rfl (fun _ => rfl) ?_
    refine n_if rfl (inr_gi _ _ _) (fun c => ?_) (fun c => ?_)
    · replace h := h.2 c
      exact W_work_168 hS hR a0 h
    · replace h := h.1 (Classical.not_not.mp c)
      refine g1 (n := 1) rfl rfl rfl (la_of a0) ?_
      refine n_gr rfl hS.1 rfl (fun _ => rfl) hR (rk_368 hS).2 ?_
      refine g1 (n := 2) rfl rfl rfl (li_of a4) ?_
      obtain ⟨q, h⟩ := h
      refine n_ia rfl (rk_368 hS).1 (Nat.le_of_ble_eq_true rfl) q ?_
      refine n_s1 (n := 2) rfl rfl rfl rfl (fun ls l1 ho => ?_)
      replace a0 := ho 0 _ (by decide) (fun q => by cases q.2) a0
      have l2 := ho 2 _ (by decide) (fun q => by cases q.2) a2
      have l3 := ho 3 _ (by decide) (fun q => by cases q.2) a3
      have l4 := ho 4 _ (by decide) (fun q => by cases q.2) a4
      refine g1 (n := 2) rfl rfl rfl (li_of l1) ?_
      refine g1 (n := 1) rfl rfl rfl rfl ?_
      refine n_ic rfl (inr_gi _ _ _) ⟨by decide, by decide⟩ (fun c => ?_) (fun c => ?_)
      · replace h := h.2 c
        refine g1 (n := 2) rfl rfl rfl (li_of l1) ?_
        refine g1 (n := 1) rfl rfl rfl rfl ?_
        refine n_ic rfl (inr_gi _ _ _) ⟨by decide, by decide⟩ (fun c => ?_) (fun c => ?_)
        · replace h := h.2 c
          refine g1 (n := 2) rfl rfl rfl (li_of l1) ?_
          refine g1 (n := 1) rfl rfl rfl rfl ?_
          refine n_ic rfl (inr_gi _ _ _) ⟨by decide, by decide⟩ (fun c => ?_) (fun c => ?_)
          · replace h := h.2 c
            refine n_ii rfl l3 (Nat.le_of_ble_eq_true rfl) (fun ls l5 ho => ?_)
            replace a0 := ho 0 _ (by decide) (fun q => by cases q.2) a0
            have l6 := ho 2 _ (by decide) (fun q => by cases q.2) l2
            have l7 := ho 4 _ (by decide) (fun q => by cases q.2) l4
            have l8 := ho 5 _ (by decide) (fun q => by cases q.2) l1
            refine g1 (n := 1) rfl rfl rfl (la_of a0) ?_
            refine n_gr rfl hS.1 rfl (fun _ => rfl) hR (rk_398 hS).2 ?_
            refine g1 (n := 1) rfl rfl rfl (li_of l5) ?_
            refine g1 (n := 1) rfl rfl rfl rfl ?_
            refine n_sub rfl ?_
            refine g1 (n := 1) rfl rfl rfl (la_of a0) ?_
            refine g1 (n := 2) rfl rfl rfl (li_of l8) ?_
            refine g1 (n := 1) rfl rfl rfl (la_of a0) ?_
            refine n_gr rfl hS.1 rfl (fun _ => rfl) hR (rk_398 hS).2 ?_
            refine g1 (n := 1) rfl rfl rfl (li_of l5) ?_
            refine g1 (n := 1) rfl rfl rfl rfl ?_
            refine n_sub rfl ?_
            obtain ⟨q, h⟩ := h
            refine n_la rfl (rk_398 hS).1 (Nat.le_of_ble_eq_true rfl) q ?_
            refine g1 (n := 1) rfl rfl rfl (la_of a0) ?_
            refine n_gr rfl hS.1 rfl (fun _ => rfl) hR (rk_398 hS).2 ?_
            refine g1 (n := 1) rfl rfl rfl (li_of l5) ?_
            obtain ⟨q, h⟩ := h
            refine n_la rfl (rk_398 hS).1 (Nat.le_of_ble_eq_true rfl) q ?_
            refine m_iv (a := 353) (as := [zv (gi M 368 (v4).toNat), .long (gl M 398 ((v3 + (-1)) - 1).toNat), .long (gl M 398 (v3 + (-1)).toNat)]) (rest := [zv ((v3 + (-1)) - 1), .ref 398]) rfl (by decide) hS.1 rfl rfl (Nat.le_of_ble_eq_true rfl) ⟨Nat.le_of_ble_eq_true rfl, Nat.le_of_ble_eq_true rfl, Nat.le_of_ble_eq_true rfl⟩ ?_
            refine gx_room (gx_mono (W_two_m hS hR h) ?_) (Nat.le_of_ble_eq_true rfl) (Nat.le_of_ble_eq_true rfl)
            rintro _ _ ⟨z1, M1, rfl, rfl, r1, h⟩
            obtain ⟨q, h⟩ := h
            refine n_ls (Nat.le_of_ble_eq_true rfl) rfl (rk_398 hS).1 (Nat.le_of_ble_eq_true rfl) q (fun M2 e r => ?_)
            replace h := h M2 e
            have r2 := r1.trans r
            exact W_work_162 hS r2 a0 l6 l5 l7 hb5 h
          · replace h := h.1 (Classical.not_not.mp c)
            refine g1 (n := 1) rfl rfl rfl (la_of a0) ?_
            refine n_gr rfl hS.1 rfl (fun _ => rfl) hR (rk_398 hS).2 ?_
            refine g1 (n := 1) rfl rfl rfl (li_of l3) ?_
            refine g1 (n := 1) rfl rfl rfl rfl ?_
            refine n_sub rfl ?_
            refine g1 (n := 1) rfl rfl rfl (la_of a0) ?_
            refine n_gr rfl hS.1 rfl (fun _ => rfl) hR (rk_398 hS).2 ?_
            refine g1 (n := 1) rfl rfl rfl (li_of l3) ?_
            refine g1 (n := 1) rfl rfl rfl rfl ?_
            refine n_sub rfl ?_
            obtain ⟨q, h⟩ := h
            refine n_la rfl (rk_398 hS).1 (Nat.le_of_ble_eq_true rfl) q ?_
            refine g0 rfl rfl rfl ?_
            obtain ⟨q, h⟩ := h
            refine n_ls (Nat.le_of_ble_eq_true rfl) rfl (rk_398 hS).1 (Nat.le_of_ble_eq_true rfl) q (fun M3 e r => ?_)
            replace h := h M3 e
            have r3 := hR.trans r
            refine g3 rfl rfl rfl ?_
            exact W_work_162 hS r3 a0 l2 l3 l4 hb5 h
        · replace h := h.1 (Classical.not_not.mp c)
          refine g1 (n := 1) rfl rfl rfl (la_of a0) ?_
          refine n_gr rfl hS.1 rfl (fun _ => rfl) hR (rk_398 hS).2 ?_
          refine g1 (n := 1) rfl rfl rfl (li_of l3) ?_
          refine g1 (n := 1) rfl rfl rfl (li_of l2) ?_
          obtain ⟨i1, h⟩ := h
          refine n_if rfl i1 (fun c => ?_) (fun c => ?_)
          · replace h := h.1 c
            refine g1 (n := 1) rfl rfl rfl (la_of a0) ?_
            refine g1 (n := 1) rfl rfl rfl (la_of a0) ?_
            refine n_gr rfl hS.1 rfl (fun _ => rfl) hR (rk_369 hS).2 ?_
            refine g1 (n := 2) rfl rfl rfl (li_of l4) ?_
            obtain ⟨q, h⟩ := h
            refine n_ia rfl (rk_369 hS).1 (Nat.le_of_ble_eq_true rfl) q ?_
            refine m_iv (a := 353) (as := [zv (gi M 369 (v4).toNat)]) (rest := [zv v3, .ref 398]) rfl (by decide) hS.1 rfl rfl (Nat.le_of_ble_eq_true rfl) ⟨Nat.le_of_ble_eq_true rfl, Nat.le_of_ble_eq_true rfl, Nat.le_of_ble_eq_true rfl⟩ ?_
            refine gx_room (gx_mono (W_valueOf_m hS hR h) ?_) (Nat.le_of_ble_eq_true rfl) (Nat.le_of_ble_eq_true rfl)
            rintro _ _ ⟨z4, M4, rfl, rfl, r4, h⟩
            exact W_work_98 hS r4 a0 l2 l3 l4 hb5 h
          · replace h := h.2 c
            refine g1 (n := 1) rfl rfl rfl (la_of a0) ?_
            refine n_gr rfl hS.1 rfl (fun _ => rfl) hR (rk_399 hS).2 ?_
            refine g1 (n := 1) rfl rfl rfl (la_of a0) ?_
            refine n_gr rfl hS.1 rfl (fun _ => rfl) hR (rk_369 hS).2 ?_
            refine g1 (n := 2) rfl rfl rfl (li_of l4) ?_
            obtain ⟨q, h⟩ := h
            refine n_ia rfl (rk_369 hS).1 (Nat.le_of_ble_eq_true rfl) q ?_
            obtain ⟨q, h⟩ := h
            refine n_la rfl (rk_399 hS).1 (Nat.le_of_ble_eq_true rfl) q ?_
            refine g3 rfl rfl rfl ?_
            exact W_work_98 hS hR a0 l2 l3 l4 hb5 h
      · replace h := h.1 (Classical.not_not.mp c)
        refine g1 (n := 1) rfl rfl rfl (la_of a0) ?_
        refine n_gr rfl hS.1 rfl (fun _ => rfl) hR (rk_398 hS).2 ?_
        refine g1 (n := 1) rfl rfl rfl (li_of l3) ?_
        refine g1 (n := 1) rfl rfl rfl (la_of a0) ?_
        refine n_gr rfl hS.1 rfl (fun _ => rfl) hR (rk_370 hS).2 ?_
        refine g1 (n := 2) rfl rfl rfl (li_of l4) ?_
        obtain ⟨q, h⟩ := h
        refine n_la rfl (rk_370 hS).1 (Nat.le_of_ble_eq_true rfl) q ?_
        obtain ⟨q, h⟩ := h
        refine n_ls (Nat.le_of_ble_eq_true rfl) rfl (rk_398 hS).1 (Nat.le_of_ble_eq_true rfl) q (fun M5 e r => ?_)
        replace h := h M5 e
        have r5 := hR.trans r
        refine n_ii rfl l3 (Nat.le_of_ble_eq_true rfl) (fun ls l9 ho => ?_)
        replace a0 := ho 0 _ (by decide) (fun q => by cases q.2) a0
        have l10 := ho 2 _ (by decide) (fun q => by cases q.2) l2
        have l11 := ho 4 _ (by decide) (fun q => by cases q.2) l4
        refine g3 rfl rfl rfl ?_
        exact W_work_162 hS r5 a0 l10 l9 l11 hb5 h
def w_work_5 (v2 : Int) (v3 : Int) (v4 : Int) (M : rf_M) (K : Int64 → rf_M → Prop) : Prop := ∃ Inv : Nat → Int → Int → Int → rf_M → Prop, (∃ m, Inv m v2 v3 v4 M) ∧ ∀ (m : Nat) (v2 : Int) (v3 : Int) (v4 : Int) (M : rf_M), Inv m v2 v3 v4 M → w_work_5b v2 v3 v4 M (fun (v2' : Int) (v3' : Int) (v4' : Int) (M' : rf_M) => ∃ m', m' < m ∧ Inv m' v2' v3' v4' M') K
theorem W_work_5 {fz : Bool} {S : gS} {B : rf_M} {M : rf_M} {ls : rf_L} {v2 : Int} {v3 : Int} {v4 : Int} {K : Int64 → rf_M → Prop} (hS : rk fz S B.2.2) (hR : fq B M) (a0 : rf_ld ls 0 = some (.ref 353)) (a2 : rf_ld ls 2 = some (zv v2)) (a3 : rf_ld ls 3 = some (zv v3)) (a4 : rf_ld ls 4 = some (zv v4)) (h : w_work_5 v2 v3 v4 M K) : gx (cx0 fz) (2, 42) 163 5 ls [] (M, S) (vq_l B S K) := by
  obtain ⟨Inv, ⟨m, hm⟩, hb⟩ := h
  induction m using Nat.strongRecOn generalizing ls M v2 v3 v4 with
  | _ m ih =>
    refine W_work_5b hS hR a0 a2 a3 a4 (fun v2' v3' v4' M' ls' hR' f0 f1 f2 f3 ⟨m', q1, q2⟩ => ih m' q1 hR' f0 f1 f2 f3 q2) (hb m v2 v3 v4 M hm)
def w_work (v1 : Int) (v2 : Int) (M : rf_M) (K : Int64 → rf_M → Prop) : Prop := w_work_5 v2 0 v1 M K
theorem W_work {fz : Bool} {S : gS} {B : rf_M} {M : rf_M} {ls : rf_L} {v1 : Int} {v2 : Int} {K : Int64 → rf_M → Prop} (hS : rk fz S B.2.2) (hR : fq B M) (a0 : rf_ld ls 0 = some (.ref 353)) (a1 : rf_ld ls 1 = some (zv v1)) (a2 : rf_ld ls 2 = some (zv v2)) (h : w_work v1 v2 M K) : gx (cx0 fz) (2, 42) 163 0 ls [] (M, S) (vq_l B S K) := by
  unfold w_work at h
  refine g1 (n := 1) rfl rfl rfl rfl ?_
  refine n_s1 (n := 1) rfl rfl rfl rfl (fun ls l1 ho => ?_)
  replace a0 := ho 0 _ (by decide) (fun q => by cases q.2) a0
  have l2 := ho 1 _ (by decide) (fun q => by cases q.2) a1
  have l3 := ho 2 _ (by decide) (fun q => by cases q.2) a2
  refine g1 (n := 1) rfl rfl rfl (li_of l2) ?_
  refine n_s1 (n := 2) rfl rfl rfl rfl (fun ls l4 ho => ?_)
  replace a0 := ho 0 _ (by decide) (fun q => by cases q.2) a0
  have l5 := ho 2 _ (by decide) (fun q => by cases q.2) l3
  have l6 := ho 3 _ (by decide) (fun q => by cases q.2) l1
  exact W_work_5 hS hR a0 l5 l6 l4 h
def wm_work (x0 : Int) (x1 : Int) (M : rf_M) (K : Int64 → rf_M → Prop) : Prop := w_work x0 x1 M K
theorem W_work_m {fz : Bool} {S : gS} {B : rf_M} {M : rf_M} {x0 : Int} {x1 : Int} {K : Int64 → rf_M → Prop} (hS : rk fz S B.2.2) (hR : fq B M) (h : wm_work x0 x1 M K) : gx (cx0 fz) (2, 42) 163 0 (lv_args 0 [.ref 353, zv x0, zv x1]) [] (M, S) (vq_l B S K) :=
  W_work hS hR rfl rfl rfl h
def w_around_42 (v2 : Int) (v4 : Int) (M : rf_M) (b2 : Int → Int → rf_M → Prop) (K : Int → rf_M → Prop) : Prop := b2 v2 v4 M
theorem W_around_42 {fz : Bool} {S : gS} {B : rf_M} {M : rf_M} {ls : rf_L} {v2 : Int} {v4 : Int} {b2 : Int → Int → rf_M → Prop} {K : Int → rf_M → Prop} (hS : rk fz S B.2.2) (hR : fq B M) (a0 : rf_ld ls 0 = some (.ref 353)) (a2 : rf_ld ls 2 = some (zv v2)) (a4 : rf_ld ls 4 = some (zv v4)) (hb2 : ∀ (v2 : Int) (v3 : Int) (M : rf_M) (ls : rf_L), fq B M → rf_ld ls 0 = some (.ref 353) → rf_ld ls 2 = some (zv v2) → rf_ld ls 3 = some (zv v3) → b2 v2 v3 M → gx (cx0 fz) (0, 0) 167 2 ls [] (M, S) (vq_i B S K)) (h : w_around_42 v2 v4 M b2 K) : gx (cx0 fz) (0, 0) 167 42 ls [] (M, S) (vq_i B S K) := by
  unfold w_around_42 at h
  refine g1 (n := 2) rfl rfl rfl (li_of a4) ?_
  refine n_s1 (n := 1) rfl rfl rfl rfl (fun ls l1 ho => ?_)
  replace a0 := ho 0 _ (by decide) (fun q => by cases q.2) a0
  have l2 := ho 2 _ (by decide) (fun q => by cases q.2) a2
  refine g3 rfl rfl rfl ?_
  exact hb2 _ _ _ _ hR a0 l2 l1 h
def w_around_2b (v2 : Int) (v3 : Int) (M : rf_M) (b2 : Int → Int → rf_M → Prop) (K : Int → rf_M → Prop) : Prop := inr v3 ∧ ((v3 < 0 → (K (-1) M)) ∧ (¬ (v3 < 0) → ((0 ≤ v3 ∧ v3 < 480) ∧ (((gi M 362 (v3).toNat) < 0 → (w_around_42 v2 (gi M 362 (v3).toNat) M b2 K)) ∧ (¬ ((gi M 362 (v3).toNat) < 0) → ((0 ≤ (gi M 362 (v3).toNat) ∧ (gi M 362 (v3).toNat) < 480) ∧ (inr v2 ∧ (((gi M 360 (gi M 362 (v3).toNat).toNat) = v2 → ((0 ≤ v3 ∧ v3 < 480) ∧ (((gi M 363 (v3).toNat) = 0 → (K (gi M 362 (v3).toNat) M)) ∧ (¬ (gi M 363 (v3).toNat) = 0 → (w_around_42 v2 (gi M 362 (v3).toNat) M b2 K))))) ∧ (¬ (gi M 360 (gi M 362 (v3).toNat).toNat) = v2 → (w_around_42 v2 (gi M 362 (v3).toNat) M b2 K))))))))))
theorem W_around_2b {fz : Bool} {S : gS} {B : rf_M} {M : rf_M} {ls : rf_L} {v2 : Int} {v3 : Int} {b2 : Int → Int → rf_M → Prop} {K : Int → rf_M → Prop} (hS : rk fz S B.2.2) (hR : fq B M) (a0 : rf_ld ls 0 = some (.ref 353)) (a2 : rf_ld ls 2 = some (zv v2)) (a3 : rf_ld ls 3 = some (zv v3)) (hb2 : ∀ (v2 : Int) (v3 : Int) (M : rf_M) (ls : rf_L), fq B M → rf_ld ls 0 = some (.ref 353) → rf_ld ls 2 = some (zv v2) → rf_ld ls 3 = some (zv v3) → b2 v2 v3 M → gx (cx0 fz) (0, 0) 167 2 ls [] (M, S) (vq_i B S K)) (h : w_around_2b v2 v3 M b2 K) : gx (cx0 fz) (0, 0) 167 2 ls [] (M, S) (vq_i B S K) := by
  unfold w_around_2b at h
  refine g1 (n := 1) rfl rfl rfl (li_of a3) ?_
  obtain ⟨i1, h⟩ := h
  refine n_if rfl i1 (fun c => ?_) (fun c => ?_)
  · replace h := h.1 c
    refine g1 (n := 1) rfl rfl rfl rfl ?_
    exact gx_ret rfl rfl ⟨(-1), M, rfl, rfl, hR, h⟩
  · replace h := h.2 c
    refine g1 (n := 1) rfl rfl rfl (la_of a0) ?_
    refine n_gr rfl hS.1 rfl (fun _ => rfl) hR (rk_362 hS).2 ?_
    refine g1 (n := 1) rfl rfl rfl (li_of a3) ?_
    obtain ⟨q, h⟩ := h
    refine n_ia rfl (rk_362 hS).1 (Nat.le_of_ble_eq_true rfl) q ?_
    refine n_s1 (n := 2) rfl rfl rfl rfl (fun ls l1 ho => ?_)
    replace a0 := ho 0 _ (by decide) (fun q => by cases q.2) a0
    have l2 := ho 2 _ (by decide) (fun q => by cases q.2) a2
    have l3 := ho 3 _ (by decide) (fun q => by cases q.2) a3
    refine g1 (n := 2) rfl rfl rfl (li_of l1) ?_
    refine n_if rfl (inr_gi _ _ _) (fun c => ?_) (fun c => ?_)
    · replace h := h.1 c
      exact W_around_42 hS hR a0 l2 l1 hb2 h
    · replace h := h.2 c
      refine g1 (n := 1) rfl rfl rfl (la_of a0) ?_
      refine n_gr rfl hS.1 rfl (fun _ => rfl) hR (rk_360 hS).2 ?_
      refine g1 (n := 2) rfl rfl rfl (li_of l1) ?_
      obtain ⟨q, h⟩ := h
      refine n_ia rfl (rk_360 hS).1 (Nat.le_of_ble_eq_true rfl) q ?_
      refine g1 (n := 1) rfl rfl rfl (li_of l2) ?_
      obtain ⟨i2, h⟩ := h
      refine n_ic rfl (inr_gi _ _ _) i2 (fun c => ?_) (fun c => ?_)
      · replace h := h.2 c
        exact W_around_42 hS hR a0 l2 l1 hb2 h
      · replace h := h.1 (Classical.not_not.mp c)
        refine g1 (n := 1) rfl rfl rfl (la_of a0) ?_
        refine n_gr rfl hS.1 rfl (fun _ => rfl) hR (rk_363 hS).2 ?_
        refine g1 (n := 1) rfl rfl rfl (li_of l3) ?_
        obtain ⟨q, h⟩ := h
        refine n_ia rfl (rk_363 hS).1 (Nat.le_of_ble_eq_true rfl) q ?_
        refine n_if rfl (inr_gi _ _ _) (fun c => ?_) (fun c => ?_)
        · replace h := h.2 c
          exact W_around_42 hS hR a0 l2 l1 hb2 h
        · replace h := h.1 (Classical.not_not.mp c)
          refine g1 (n := 2) rfl rfl rfl (li_of l1) ?_
          exact gx_ret rfl rfl ⟨(gi M 362 (v3).toNat), M, rfl, rfl, hR, h⟩
def w_around_2 (v2 : Int) (v3 : Int) (M : rf_M) (K : Int → rf_M → Prop) : Prop := ∃ Inv : Nat → Int → Int → rf_M → Prop, (∃ m, Inv m v2 v3 M) ∧ ∀ (m : Nat) (v2 : Int) (v3 : Int) (M : rf_M), Inv m v2 v3 M → w_around_2b v2 v3 M (fun (v2' : Int) (v3' : Int) (M' : rf_M) => ∃ m', m' < m ∧ Inv m' v2' v3' M') K
theorem W_around_2 {fz : Bool} {S : gS} {B : rf_M} {M : rf_M} {ls : rf_L} {v2 : Int} {v3 : Int} {K : Int → rf_M → Prop} (hS : rk fz S B.2.2) (hR : fq B M) (a0 : rf_ld ls 0 = some (.ref 353)) (a2 : rf_ld ls 2 = some (zv v2)) (a3 : rf_ld ls 3 = some (zv v3)) (h : w_around_2 v2 v3 M K) : gx (cx0 fz) (0, 0) 167 2 ls [] (M, S) (vq_i B S K) := by
  obtain ⟨Inv, ⟨m, hm⟩, hb⟩ := h
  induction m using Nat.strongRecOn generalizing ls M v2 v3 with
  | _ m ih =>
    refine W_around_2b hS hR a0 a2 a3 (fun v2' v3' M' ls' hR' f0 f1 f2 ⟨m', q1, q2⟩ => ih m' q1 hR' f0 f1 f2 q2) (hb m v2 v3 M hm)
def w_around (v1 : Int) (v2 : Int) (M : rf_M) (K : Int → rf_M → Prop) : Prop := w_around_2 v2 v1 M K
theorem W_around {fz : Bool} {S : gS} {B : rf_M} {M : rf_M} {ls : rf_L} {v1 : Int} {v2 : Int} {K : Int → rf_M → Prop} (hS : rk fz S B.2.2) (hR : fq B M) (a0 : rf_ld ls 0 = some (.ref 353)) (a1 : rf_ld ls 1 = some (zv v1)) (a2 : rf_ld ls 2 = some (zv v2)) (h : w_around v1 v2 M K) : gx (cx0 fz) (0, 0) 167 0 ls [] (M, S) (vq_i B S K) := by
  unfold w_around at h
  refine g1 (n := 1) rfl rfl rfl (li_of a1) ?_
  refine n_s1 (n := 1) rfl rfl rfl rfl (fun ls l1 ho => ?_)
  replace a0 := ho 0 _ (by decide) (fun q => by cases q.2) a0
  have l2 := ho 2 _ (by decide) (fun q => by cases q.2) a2
  exact W_around_2 hS hR a0 l2 l1 h
def wm_around (x0 : Int) (x1 : Int) (M : rf_M) (K : Int → rf_M → Prop) : Prop := w_around x0 x1 M K
theorem W_around_m {fz : Bool} {S : gS} {B : rf_M} {M : rf_M} {x0 : Int} {x1 : Int} {K : Int → rf_M → Prop} (hS : rk fz S B.2.2) (hR : fq B M) (h : wm_around x0 x1 M K) : gx (cx0 fz) (0, 0) 167 0 (lv_args 0 [.ref 353, zv x0, zv x1]) [] (M, S) (vq_i B S K) :=
  W_around hS hR rfl rfl rfl h
def w_bringBack_53b (v1 : Int) (v2 : Int) (M : rf_M) (b53 : Int → Int → rf_M → Prop) (K : rf_M → Prop) : Prop := inr v2 ∧ ((10 ≤ v2 → (K M)) ∧ (¬ (10 ≤ v2) → ((0 ≤ ((10 * v1) + v2) ∧ ((10 * v1) + v2) < 4800) ∧ ((0 ≤ v2 ∧ v2 < 10) ∧ (∀ M1 : rf_M, M1 = wl M 392 (v2).toNat (gl M 396 ((10 * v1) + v2).toNat) → (b53 v1 (v2 + 1) M1))))))
theorem W_bringBack_53b {fz : Bool} {S : gS} {B : rf_M} {M : rf_M} {ls : rf_L} {v1 : Int} {v2 : Int} {b53 : Int → Int → rf_M → Prop} {K : rf_M → Prop} (hS : rk fz S B.2.2) (hR : fq B M) (a0 : rf_ld ls 0 = some (.ref 353)) (a1 : rf_ld ls 1 = some (zv v1)) (a2 : rf_ld ls 2 = some (zv v2)) (hb53 : ∀ (v1 : Int) (v2 : Int) (M : rf_M) (ls : rf_L), fq B M → rf_ld ls 0 = some (.ref 353) → rf_ld ls 1 = some (zv v1) → rf_ld ls 2 = some (zv v2) → b53 v1 v2 M → gx (cx0 fz) (0, 0) 168 53 ls [] (M, S) (vq_v B S K)) (h : w_bringBack_53b v1 v2 M b53 K) : gx (cx0 fz) (0, 0) 168 53 ls [] (M, S) (vq_v B S K) := by
  unfold w_bringBack_53b at h
  refine g1 (n := 1) rfl rfl rfl (li_of a2) ?_
  refine n_bi rfl (by decide) ?_
  obtain ⟨i1, h⟩ := h
  refine n_ic rfl i1 ⟨by decide, by decide⟩ (fun c => ?_) (fun c => ?_)
  · replace h := h.1 c
    exact gx_ret rfl rfl ⟨M, rfl, rfl, hR, h⟩
  · replace h := h.2 c
    refine g1 (n := 1) rfl rfl rfl (la_of a0) ?_
    refine n_gr rfl hS.1 rfl (fun _ => rfl) hR (rk_392 hS).2 ?_
    refine g1 (n := 1) rfl rfl rfl (li_of a2) ?_
    refine g1 (n := 1) rfl rfl rfl (la_of a0) ?_
    refine n_gr rfl hS.1 rfl (fun _ => rfl) hR (rk_396 hS).2 ?_
    refine n_bi rfl (by decide) ?_
    refine g1 (n := 1) rfl rfl rfl (li_of a1) ?_
    refine n_mul rfl ?_
    refine g1 (n := 1) rfl rfl rfl (li_of a2) ?_
    refine n_add rfl ?_
    obtain ⟨q, h⟩ := h
    refine n_la rfl (rk_396 hS).1 (Nat.le_of_ble_eq_true rfl) q ?_
    obtain ⟨q, h⟩ := h
    refine n_ls (Nat.le_of_ble_eq_true rfl) rfl (rk_392 hS).1 (Nat.le_of_ble_eq_true rfl) q (fun M1 e r => ?_)
    replace h := h M1 e
    have r1 := hR.trans r
    refine n_ii rfl a2 (Nat.le_of_ble_eq_true rfl) (fun ls l1 ho => ?_)
    replace a0 := ho 0 _ (by decide) (fun q => by cases q.2) a0
    have l2 := ho 1 _ (by decide) (fun q => by cases q.2) a1
    refine g3 rfl rfl rfl ?_
    exact hb53 _ _ _ _ r1 a0 l2 l1 h
