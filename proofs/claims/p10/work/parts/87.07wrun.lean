def w_play_27 (v3 : Int) (v4 : Int64) (v6 : Int) (v7 : Int) (M : rf_M) (K : Int → rf_M → Prop) : Prop := ∃ Inv : Nat → Int → Int64 → Int → Int → rf_M → Prop, (∃ m, Inv m v3 v4 v6 v7 M) ∧ ∀ (m : Nat) (v3 : Int) (v4 : Int64) (v6 : Int) (v7 : Int) (M : rf_M), Inv m v3 v4 v6 v7 M → w_play_27b v3 v4 v6 v7 M (fun (v3' : Int) (v4' : Int64) (v6' : Int) (v7' : Int) (M' : rf_M) => ∃ m', m' < m ∧ Inv m' v3' v4' v6' v7' M') K
theorem W_play_27 {fz : Bool} {S : gS} {B : rf_M} {M : rf_M} {ls : rf_L} {v3 : Int} {v4 : Int64} {v6 : Int} {v7 : Int} {K : Int → rf_M → Prop} (hS : rk fz S B.2.2) (hR : fq B M) (a0 : rf_ld ls 0 = some (.ref 353)) (a3 : rf_ld ls 3 = some (zv v3)) (a4 : rf_ld ls 4 = some (.long v4)) (a6 : rf_ld ls 6 = some (zv v6)) (a7 : rf_ld ls 7 = some (zv v7)) (h : w_play_27 v3 v4 v6 v7 M K) : gx (cx0 fz) (7, 156) 183 27 ls [] (M, S) (vq_i B S K) := by
  obtain ⟨Inv, ⟨m, hm⟩, hb⟩ := h
  induction m using Nat.strongRecOn generalizing ls M v3 v4 v6 v7 with
  | _ m ih =>
    refine W_play_27b hS hR a0 a3 a4 a6 a7 (fun v3' v4' v6' v7' M' ls' hR' f0 f1 f2 f3 f4 ⟨m', q1, q2⟩ => ih m' q1 hR' f0 f1 f2 f3 f4 q2) (hb m v3 v4 v6 v7 M hm)
def w_play (v1 : Int64) (v3 : Int) (M : rf_M) (K : Int → rf_M → Prop) : Prop := ∀ M1 : rf_M, M1 = wi M 353 0 0 → (inr v3 ∧ ((v3 < 0 → (w_play_16 M1 K)) ∧ (¬ (v3 < 0) → (inr v3 ∧ ((v3 ≤ 2000 → (w_play_27 v3 v1 0 0 M1 K)) ∧ (¬ (v3 ≤ 2000) → (w_play_16 M1 K)))))))
theorem W_play {fz : Bool} {S : gS} {B : rf_M} {M : rf_M} {ls : rf_L} {v1 : Int64} {v3 : Int} {K : Int → rf_M → Prop} (hS : rk fz S B.2.2) (hR : fq B M) (a0 : rf_ld ls 0 = some (.ref 353)) (a1 : rf_ld ls 1 = some (.long v1)) (a3 : rf_ld ls 3 = some (zv v3)) (h : w_play v1 v3 M K) : gx (cx0 fz) (7, 156) 183 0 ls [] (M, S) (vq_i B S K) := by
  unfold w_play at h
  refine g1 (n := 1) rfl rfl rfl (la_of a0) ?_
  refine g1 (n := 1) rfl rfl rfl rfl ?_
  refine n_pi (Nat.le_of_ble_eq_true rfl) rfl hS.1 rfl (fun _ _ => rfl) (fun M1 e r => ?_)
  replace h := h M1 e
  have r1 := hR.trans r
  refine g1 (n := 1) rfl rfl rfl (li_of a3) ?_
  obtain ⟨i1, h⟩ := h
  refine n_if rfl i1 (fun c => ?_) (fun c => ?_)
  · replace h := h.1 c
    exact W_play_16 hS r1  h
  · replace h := h.2 c
    refine g1 (n := 1) rfl rfl rfl (li_of a3) ?_
    refine n_si rfl (by decide) ?_
    obtain ⟨i2, h⟩ := h
    refine n_ic rfl i2 ⟨by decide, by decide⟩ (fun c => ?_) (fun c => ?_)
    · replace h := h.1 c
      refine g1 (n := 1) rfl rfl rfl (ll_of a1) ?_
      refine n_s2 (n := 2) rfl rfl rfl rfl (fun ls l1 ho => ?_)
      replace a0 := ho 0 _ (by decide) (by decide) (fun q => by cases q.2) a0
      have l2 := ho 3 _ (by decide) (by decide) (fun q => by cases q.2) a3
      refine g1 (n := 1) rfl rfl rfl rfl ?_
      refine n_s1 (n := 2) rfl rfl rfl rfl (fun ls l3 ho => ?_)
      replace a0 := ho 0 _ (by decide) (fun q => by cases q.2) a0
      have l4 := ho 3 _ (by decide) (fun q => by cases q.2) l2
      have l5 := ho 4 _ (by decide) (fun q => absurd q.1 (by decide)) l1
      refine g1 (n := 1) rfl rfl rfl rfl ?_
      refine n_s1 (n := 2) rfl rfl rfl rfl (fun ls l6 ho => ?_)
      replace a0 := ho 0 _ (by decide) (fun q => by cases q.2) a0
      have l7 := ho 3 _ (by decide) (fun q => by cases q.2) l4
      have l8 := ho 4 _ (by decide) (fun q => absurd q.1 (by decide)) l5
      have l9 := ho 6 _ (by decide) (fun q => by cases q.2) l3
      exact W_play_27 hS r1 a0 l7 l8 l9 l6 h
    · replace h := h.2 c
      exact W_play_16 hS r1  h
def wm_play (x0 : Int64) (x1 : Int) (M : rf_M) (K : Int → rf_M → Prop) : Prop := w_play x0 x1 M K
theorem W_play_m {fz : Bool} {S : gS} {B : rf_M} {M : rf_M} {x0 : Int64} {x1 : Int} {K : Int → rf_M → Prop} (hS : rk fz S B.2.2) (hR : fq B M) (h : wm_play x0 x1 M K) : gx (cx0 fz) (7, 156) 183 0 (lv_args 0 [.ref 353, .long x0, zv x1]) [] (M, S) (vq_i B S K) :=
  W_play hS hR rfl rfl rfl h
def w_put_25 (M : rf_M) (K : Int → rf_M → Prop) : Prop := K (-1) M
theorem W_put_25 {fz : Bool} {S : gS} {B : rf_M} {M : rf_M} {ls : rf_L} {K : Int → rf_M → Prop} (hS : rk fz S B.2.2) (hR : fq B M) (h : w_put_25 M K) : gx (cx0 fz) (5, 112) 184 25 ls [] (M, S) (vq_i B S K) := by
  unfold w_put_25 at h
  refine g1 (n := 1) rfl rfl rfl rfl ?_
  exact gx_ret rfl rfl ⟨(-1), M, rfl, rfl, hR, h⟩
def w_put_65 (v1 : Int) (v2 : Int64) (v4 : Int) (s1 : Int) (s2 : Int64) (M : rf_M) (b35 : Int → Int64 → Int → rf_M → Prop) (K : Int → rf_M → Prop) : Prop := (0 ≤ s1 ∧ s1 < 16) ∧ (∀ M1 : rf_M, M1 = wl M 399 (s1).toNat s2 → (b35 v1 v2 (v4 + 1) M1))
theorem W_put_65 {fz : Bool} {S : gS} {B : rf_M} {M : rf_M} {ls : rf_L} {v1 : Int} {v2 : Int64} {v4 : Int} {s1 : Int} {s2 : Int64} {b35 : Int → Int64 → Int → rf_M → Prop} {K : Int → rf_M → Prop} (hS : rk fz S B.2.2) (hR : fq B M) (a0 : rf_ld ls 0 = some (.ref 353)) (a1 : rf_ld ls 1 = some (zv v1)) (a2 : rf_ld ls 2 = some (.long v2)) (a4 : rf_ld ls 4 = some (zv v4)) (hb35 : ∀ (v1 : Int) (v2 : Int64) (v4 : Int) (M : rf_M) (ls : rf_L), fq B M → rf_ld ls 0 = some (.ref 353) → rf_ld ls 1 = some (zv v1) → rf_ld ls 2 = some (.long v2) → rf_ld ls 4 = some (zv v4) → b35 v1 v2 v4 M → gx (cx0 fz) (5, 112) 184 35 ls [] (M, S) (vq_i B S K)) (h : w_put_65 v1 v2 v4 s1 s2 M b35 K) : gx (cx0 fz) (5, 112) 184 65 ls [.long s2, zv s1, .ref 399] (M, S) (vq_i B S K) := by
  unfold w_put_65 at h
  obtain ⟨q, h⟩ := h
  refine n_ls (Nat.le_of_ble_eq_true rfl) rfl (rk_399 hS).1 (Nat.le_of_ble_eq_true rfl) q (fun M1 e r => ?_)
  replace h := h M1 e
  have r1 := hR.trans r
  refine n_ii rfl a4 (Nat.le_of_ble_eq_true rfl) (fun ls l1 ho => ?_)
  replace a0 := ho 0 _ (by decide) (fun q => by cases q.2) a0
  have l2 := ho 1 _ (by decide) (fun q => by cases q.2) a1
  have l3 := ho 2 _ (by decide) (fun q => absurd q.1 (by decide)) a2
  refine g3 rfl rfl rfl ?_
  exact hb35 _ _ _ _ _ r1 a0 l2 l3 l1 h
def w_put_35b (v1 : Int) (v2 : Int64) (v4 : Int) (M : rf_M) (b35 : Int → Int64 → Int → rf_M → Prop) (K : Int → rf_M → Prop) : Prop := inr v4 ∧ ((16 ≤ v4 → (wm_rulesHold  M (fun (z1 : Int) (M1 : rf_M) => inr z1 ∧ ((z1 = 0 → (K (-2) M1)) ∧ (¬ z1 = 0 → ((0 ≤ v1 ∧ v1 < 32) ∧ (∀ M2 : rf_M, M2 = wl M1 376 (v1).toNat v2 → ((0 ≤ v1 ∧ v1 < 32) ∧ ((0 ≤ v1 ∧ v1 < 32) ∧ (∀ M3 : rf_M, M3 = wi M2 377 (v1).toNat ((gi M2 377 (v1).toNat) + 1) → (wm_addRow 0 (-1) v1 0 0 v2 M3 (fun (M4 : rf_M) => (0 ≤ v1 ∧ v1 < 32) ∧ (K (gi M4 377 (v1).toNat) M4))))))))))))) ∧ (¬ (16 ≤ v4) → (inr v4 ∧ (inr v1 ∧ ((v4 = v1 → (w_put_65 v1 v2 v4 v4 v2 M b35 K)) ∧ (¬ v4 = v1 → ((0 ≤ v4 ∧ v4 < 32) ∧ (w_put_65 v1 v2 v4 v4 (gl M 376 (v4).toNat) M b35 K))))))))
theorem W_put_35b {fz : Bool} {S : gS} {B : rf_M} {M : rf_M} {ls : rf_L} {v1 : Int} {v2 : Int64} {v4 : Int} {b35 : Int → Int64 → Int → rf_M → Prop} {K : Int → rf_M → Prop} (hS : rk fz S B.2.2) (hR : fq B M) (a0 : rf_ld ls 0 = some (.ref 353)) (a1 : rf_ld ls 1 = some (zv v1)) (a2 : rf_ld ls 2 = some (.long v2)) (a4 : rf_ld ls 4 = some (zv v4)) (hb35 : ∀ (v1 : Int) (v2 : Int64) (v4 : Int) (M : rf_M) (ls : rf_L), fq B M → rf_ld ls 0 = some (.ref 353) → rf_ld ls 1 = some (zv v1) → rf_ld ls 2 = some (.long v2) → rf_ld ls 4 = some (zv v4) → b35 v1 v2 v4 M → gx (cx0 fz) (5, 112) 184 35 ls [] (M, S) (vq_i B S K)) (h : w_put_35b v1 v2 v4 M b35 K) : gx (cx0 fz) (5, 112) 184 35 ls [] (M, S) (vq_i B S K) := by
  unfold w_put_35b at h
  refine g1 (n := 2) rfl rfl rfl (li_of a4) ?_
  refine n_bi rfl (by decide) ?_
  obtain ⟨i1, h⟩ := h
  refine n_ic rfl i1 ⟨by decide, by decide⟩ (fun c => ?_) (fun c => ?_)
  · replace h := h.1 c
    refine g1 (n := 1) rfl rfl rfl (la_of a0) ?_
    refine m_iv (a := 353) (as := []) (rest := []) rfl (by decide) hS.1 rfl rfl (Nat.le_of_ble_eq_true rfl) ⟨Nat.le_of_ble_eq_true rfl, Nat.le_of_ble_eq_true rfl, Nat.le_of_ble_eq_true rfl⟩ ?_
    refine gx_room (gx_mono (W_rulesHold_m hS hR h) ?_) (Nat.le_of_ble_eq_true rfl) (Nat.le_of_ble_eq_true rfl)
    rintro _ _ ⟨z1, M1, rfl, rfl, r1, h⟩
    obtain ⟨i2, h⟩ := h
    refine n_if rfl i2 (fun c => ?_) (fun c => ?_)
    · replace h := h.2 c
      refine g1 (n := 1) rfl rfl rfl (la_of a0) ?_
      refine n_gr rfl hS.1 rfl (fun _ => rfl) r1 (rk_376 hS).2 ?_
      refine g1 (n := 1) rfl rfl rfl (li_of a1) ?_
      refine g1 (n := 1) rfl rfl rfl (ll_of a2) ?_
      obtain ⟨q, h⟩ := h
      refine n_ls (Nat.le_of_ble_eq_true rfl) rfl (rk_376 hS).1 (Nat.le_of_ble_eq_true rfl) q (fun M2 e r => ?_)
      replace h := h M2 e
      have r2 := r1.trans r
      refine g1 (n := 1) rfl rfl rfl (la_of a0) ?_
      refine n_gr rfl hS.1 rfl (fun _ => rfl) r2 (rk_377 hS).2 ?_
      refine g1 (n := 1) rfl rfl rfl (li_of a1) ?_
      refine g0 rfl rfl rfl ?_
      obtain ⟨q, h⟩ := h
      refine n_ia rfl (rk_377 hS).1 (Nat.le_of_ble_eq_true rfl) q ?_
      refine g1 (n := 1) rfl rfl rfl rfl ?_
      refine n_add rfl ?_
      obtain ⟨q, h⟩ := h
      refine n_is (Nat.le_of_ble_eq_true rfl) rfl (rk_377 hS).1 (Nat.le_of_ble_eq_true rfl) q (fun M3 e r => ?_)
      replace h := h M3 e
      have r3 := r2.trans r
      refine g1 (n := 1) rfl rfl rfl (la_of a0) ?_
      refine g1 (n := 1) rfl rfl rfl rfl ?_
      refine g1 (n := 1) rfl rfl rfl rfl ?_
      refine g1 (n := 1) rfl rfl rfl (li_of a1) ?_
      refine g1 (n := 1) rfl rfl rfl rfl ?_
      refine g1 (n := 1) rfl rfl rfl rfl ?_
      refine g1 (n := 1) rfl rfl rfl (ll_of a2) ?_
      refine m_iv (a := 353) (as := [zv 0, zv (-1), zv v1, zv 0, zv 0, .long v2]) (rest := []) rfl (by decide) hS.1 rfl rfl (Nat.le_of_ble_eq_true rfl) ⟨Nat.le_of_ble_eq_true rfl, Nat.le_of_ble_eq_true rfl, Nat.le_of_ble_eq_true rfl⟩ ?_
      refine gx_room (gx_mono (W_addRow_m hS r3 h) ?_) (Nat.le_of_ble_eq_true rfl) (Nat.le_of_ble_eq_true rfl)
      rintro _ _ ⟨M4, rfl, rfl, r4, h⟩
      refine g1 (n := 1) rfl rfl rfl (la_of a0) ?_
      refine n_gr rfl hS.1 rfl (fun _ => rfl) r4 (rk_377 hS).2 ?_
      refine g1 (n := 1) rfl rfl rfl (li_of a1) ?_
      obtain ⟨q, h⟩ := h
      refine n_ia rfl (rk_377 hS).1 (Nat.le_of_ble_eq_true rfl) q ?_
      exact gx_ret rfl rfl ⟨(gi M4 377 (v1).toNat), M4, rfl, rfl, r4, h⟩
    · replace h := h.1 (Classical.not_not.mp c)
      refine n_bi rfl (by decide) ?_
      exact gx_ret rfl rfl ⟨(-2), M1, rfl, rfl, r1, h⟩
  · replace h := h.2 c
    refine g1 (n := 1) rfl rfl rfl (la_of a0) ?_
    refine n_gr rfl hS.1 rfl (fun _ => rfl) hR (rk_399 hS).2 ?_
    refine g1 (n := 2) rfl rfl rfl (li_of a4) ?_
    refine g1 (n := 2) rfl rfl rfl (li_of a4) ?_
    refine g1 (n := 1) rfl rfl rfl (li_of a1) ?_
    obtain ⟨i3, h⟩ := h
    obtain ⟨i4, h⟩ := h
    refine n_ic rfl i3 i4 (fun c => ?_) (fun c => ?_)
    · replace h := h.2 c
      refine g1 (n := 1) rfl rfl rfl (la_of a0) ?_
      refine n_gr rfl hS.1 rfl (fun _ => rfl) hR (rk_376 hS).2 ?_
      refine g1 (n := 2) rfl rfl rfl (li_of a4) ?_
      obtain ⟨q, h⟩ := h
      refine n_la rfl (rk_376 hS).1 (Nat.le_of_ble_eq_true rfl) q ?_
      exact W_put_65 hS hR a0 a1 a2 a4 hb35 h
    · replace h := h.1 (Classical.not_not.mp c)
      refine g1 (n := 1) rfl rfl rfl (ll_of a2) ?_
      refine g3 rfl rfl rfl ?_
      exact W_put_65 hS hR a0 a1 a2 a4 hb35 h
def w_put_35 (v1 : Int) (v2 : Int64) (v4 : Int) (M : rf_M) (K : Int → rf_M → Prop) : Prop := ∃ Inv : Nat → Int → Int64 → Int → rf_M → Prop, (∃ m, Inv m v1 v2 v4 M) ∧ ∀ (m : Nat) (v1 : Int) (v2 : Int64) (v4 : Int) (M : rf_M), Inv m v1 v2 v4 M → w_put_35b v1 v2 v4 M (fun (v1' : Int) (v2' : Int64) (v4' : Int) (M' : rf_M) => ∃ m', m' < m ∧ Inv m' v1' v2' v4' M') K
theorem W_put_35 {fz : Bool} {S : gS} {B : rf_M} {M : rf_M} {ls : rf_L} {v1 : Int} {v2 : Int64} {v4 : Int} {K : Int → rf_M → Prop} (hS : rk fz S B.2.2) (hR : fq B M) (a0 : rf_ld ls 0 = some (.ref 353)) (a1 : rf_ld ls 1 = some (zv v1)) (a2 : rf_ld ls 2 = some (.long v2)) (a4 : rf_ld ls 4 = some (zv v4)) (h : w_put_35 v1 v2 v4 M K) : gx (cx0 fz) (5, 112) 184 35 ls [] (M, S) (vq_i B S K) := by
  obtain ⟨Inv, ⟨m, hm⟩, hb⟩ := h
  induction m using Nat.strongRecOn generalizing ls M v1 v2 v4 with
  | _ m ih =>
    refine W_put_35b hS hR a0 a1 a2 a4 (fun v1' v2' v4' M' ls' hR' f0 f1 f2 f3 ⟨m', q1, q2⟩ => ih m' q1 hR' f0 f1 f2 f3 q2) (hb m v1 v2 v4 M hm)
def w_put (v1 : Int) (v2 : Int64) (M : rf_M) (K : Int → rf_M → Prop) : Prop := ∀ M1 : rf_M, M1 = wi M 353 0 0 → (inr v1 ∧ ((v1 < 0 → (w_put_25 M1 K)) ∧ (¬ (v1 < 0) → (inr v1 ∧ ((16 ≤ v1 → (w_put_25 M1 K)) ∧ (¬ (16 ≤ v1) → (((gi M1 353 69) = 300 → (w_put_25 M1 K)) ∧ (¬ (gi M1 353 69) = 300 → (∀ M2 : rf_M, M2 = wi M1 353 42 0 → (w_put_35 v1 v2 0 M2 K))))))))))
theorem W_put {fz : Bool} {S : gS} {B : rf_M} {M : rf_M} {ls : rf_L} {v1 : Int} {v2 : Int64} {K : Int → rf_M → Prop} (hS : rk fz S B.2.2) (hR : fq B M) (a0 : rf_ld ls 0 = some (.ref 353)) (a1 : rf_ld ls 1 = some (zv v1)) (a2 : rf_ld ls 2 = some (.long v2)) (h : w_put v1 v2 M K) : gx (cx0 fz) (5, 112) 184 0 ls [] (M, S) (vq_i B S K) := by
  unfold w_put at h
  refine g1 (n := 1) rfl rfl rfl (la_of a0) ?_
  refine g1 (n := 1) rfl rfl rfl rfl ?_
  refine n_pi (Nat.le_of_ble_eq_true rfl) rfl hS.1 rfl (fun _ _ => rfl) (fun M1 e r => ?_)
  replace h := h M1 e
  have r1 := hR.trans r
  refine g1 (n := 1) rfl rfl rfl (li_of a1) ?_
  obtain ⟨i1, h⟩ := h
  refine n_if rfl i1 (fun c => ?_) (fun c => ?_)
  · replace h := h.1 c
    exact W_put_25 hS r1  h
  · replace h := h.2 c
    refine g1 (n := 1) rfl rfl rfl (li_of a1) ?_
    refine n_bi rfl (by decide) ?_
    obtain ⟨i2, h⟩ := h
    refine n_ic rfl i2 ⟨by decide, by decide⟩ (fun c => ?_) (fun c => ?_)
    · replace h := h.1 c
      exact W_put_25 hS r1  h
    · replace h := h.2 c
      refine g1 (n := 1) rfl rfl rfl (la_of a0) ?_
      refine n_gi rfl hS.1 rfl (fun _ => rfl) ?_
      refine n_si rfl (by decide) ?_
      refine n_ic rfl (inr_gi _ _ _) ⟨by decide, by decide⟩ (fun c => ?_) (fun c => ?_)
      · replace h := h.2 c
        refine g1 (n := 1) rfl rfl rfl (la_of a0) ?_
        refine g1 (n := 1) rfl rfl rfl rfl ?_
        refine n_pi (Nat.le_of_ble_eq_true rfl) rfl hS.1 rfl (fun _ _ => rfl) (fun M2 e r => ?_)
        replace h := h M2 e
        have r2 := r1.trans r
        refine g1 (n := 1) rfl rfl rfl rfl ?_
        refine n_s1 (n := 2) rfl rfl rfl rfl (fun ls l1 ho => ?_)
        replace a0 := ho 0 _ (by decide) (fun q => by cases q.2) a0
        have l2 := ho 1 _ (by decide) (fun q => by cases q.2) a1
        have l3 := ho 2 _ (by decide) (fun q => absurd q.1 (by decide)) a2
        exact W_put_35 hS r2 a0 l2 l3 l1 h
      · replace h := h.1 (Classical.not_not.mp c)
        exact W_put_25 hS r1  h
def wm_put (x0 : Int) (x1 : Int64) (M : rf_M) (K : Int → rf_M → Prop) : Prop := w_put x0 x1 M K
theorem W_put_m {fz : Bool} {S : gS} {B : rf_M} {M : rf_M} {x0 : Int} {x1 : Int64} {K : Int → rf_M → Prop} (hS : rk fz S B.2.2) (hR : fq B M) (h : wm_put x0 x1 M K) : gx (cx0 fz) (5, 112) 184 0 (lv_args 0 [.ref 353, zv x0, .long x1]) [] (M, S) (vq_i B S K) :=
  W_put hS hR rfl rfl rfl h
def w_cell_25 (s0 : Int64) (M : rf_M) (K : Int64 → rf_M → Prop) : Prop := K s0 M
theorem W_cell_25 {fz : Bool} {S : gS} {B : rf_M} {M : rf_M} {ls : rf_L} {s0 : Int64} {K : Int64 → rf_M → Prop} (hS : rk fz S B.2.2) (hR : fq B M) (h : w_cell_25 s0 M K) : gx (cx0 fz) (0, 0) 185 25 ls [.long s0] (M, S) (vq_l B S K) := by
  unfold w_cell_25 at h
  exact gx_ret rfl rfl ⟨s0, M, rfl, rfl, hR, h⟩
def w_cell_15 (M : rf_M) (K : Int64 → rf_M → Prop) : Prop := w_cell_25 (Int64.ofNat 0) M K
theorem W_cell_15 {fz : Bool} {S : gS} {B : rf_M} {M : rf_M} {ls : rf_L} {K : Int64 → rf_M → Prop} (hS : rk fz S B.2.2) (hR : fq B M) (h : w_cell_15 M K) : gx (cx0 fz) (0, 0) 185 15 ls [] (M, S) (vq_l B S K) := by
  unfold w_cell_15 at h
  refine g1 (n := 1) rfl rfl rfl rfl ?_
  refine g3 rfl rfl rfl ?_
  exact W_cell_25 hS hR  h
def w_cell (v1 : Int) (M : rf_M) (K : Int64 → rf_M → Prop) : Prop := ∀ M1 : rf_M, M1 = wi M 353 0 0 → (inr v1 ∧ ((v1 < 0 → (w_cell_15 M1 K)) ∧ (¬ (v1 < 0) → (inr v1 ∧ ((v1 < 16 → ((0 ≤ v1 ∧ v1 < 32) ∧ (w_cell_25 (gl M1 376 (v1).toNat) M1 K))) ∧ (¬ (v1 < 16) → (w_cell_15 M1 K)))))))
theorem W_cell {fz : Bool} {S : gS} {B : rf_M} {M : rf_M} {ls : rf_L} {v1 : Int} {K : Int64 → rf_M → Prop} (hS : rk fz S B.2.2) (hR : fq B M) (a0 : rf_ld ls 0 = some (.ref 353)) (a1 : rf_ld ls 1 = some (zv v1)) (h : w_cell v1 M K) : gx (cx0 fz) (0, 0) 185 0 ls [] (M, S) (vq_l B S K) := by
  unfold w_cell at h
  refine g1 (n := 1) rfl rfl rfl (la_of a0) ?_
  refine g1 (n := 1) rfl rfl rfl rfl ?_
  refine n_pi (Nat.le_of_ble_eq_true rfl) rfl hS.1 rfl (fun _ _ => rfl) (fun M1 e r => ?_)
  replace h := h M1 e
  have r1 := hR.trans r
  refine g1 (n := 1) rfl rfl rfl (li_of a1) ?_
  obtain ⟨i1, h⟩ := h
  refine n_if rfl i1 (fun c => ?_) (fun c => ?_)
  · replace h := h.1 c
    exact W_cell_15 hS r1  h
  · replace h := h.2 c
    refine g1 (n := 1) rfl rfl rfl (li_of a1) ?_
    refine n_bi rfl (by decide) ?_
    obtain ⟨i2, h⟩ := h
    refine n_ic rfl i2 ⟨by decide, by decide⟩ (fun c => ?_) (fun c => ?_)
    · replace h := h.1 c
      refine g1 (n := 1) rfl rfl rfl (la_of a0) ?_
      refine n_gr rfl hS.1 rfl (fun _ => rfl) r1 (rk_376 hS).2 ?_
      refine g1 (n := 1) rfl rfl rfl (li_of a1) ?_
      obtain ⟨q, h⟩ := h
      refine n_la rfl (rk_376 hS).1 (Nat.le_of_ble_eq_true rfl) q ?_
      exact W_cell_25 hS r1  h
    · replace h := h.2 c
      exact W_cell_15 hS r1  h
def wm_cell (x0 : Int) (M : rf_M) (K : Int64 → rf_M → Prop) : Prop := w_cell x0 M K
theorem W_cell_m {fz : Bool} {S : gS} {B : rf_M} {M : rf_M} {x0 : Int} {K : Int64 → rf_M → Prop} (hS : rk fz S B.2.2) (hR : fq B M) (h : wm_cell x0 M K) : gx (cx0 fz) (0, 0) 185 0 (lv_args 0 [.ref 353, zv x0]) [] (M, S) (vq_l B S K) :=
  W_cell hS hR rfl rfl h
def w_version_25 (s0 : Int) (M : rf_M) (K : Int → rf_M → Prop) : Prop := K s0 M
theorem W_version_25 {fz : Bool} {S : gS} {B : rf_M} {M : rf_M} {ls : rf_L} {s0 : Int} {K : Int → rf_M → Prop} (hS : rk fz S B.2.2) (hR : fq B M) (h : w_version_25 s0 M K) : gx (cx0 fz) (0, 0) 186 25 ls [zv s0] (M, S) (vq_i B S K) := by
  unfold w_version_25 at h
  exact gx_ret rfl rfl ⟨s0, M, rfl, rfl, hR, h⟩
def w_version_15 (M : rf_M) (K : Int → rf_M → Prop) : Prop := w_version_25 (-1) M K
theorem W_version_15 {fz : Bool} {S : gS} {B : rf_M} {M : rf_M} {ls : rf_L} {K : Int → rf_M → Prop} (hS : rk fz S B.2.2) (hR : fq B M) (h : w_version_15 M K) : gx (cx0 fz) (0, 0) 186 15 ls [] (M, S) (vq_i B S K) := by
  unfold w_version_15 at h
  refine g1 (n := 1) rfl rfl rfl rfl ?_
  refine g3 rfl rfl rfl ?_
  exact W_version_25 hS hR  h
def w_version (v1 : Int) (M : rf_M) (K : Int → rf_M → Prop) : Prop := ∀ M1 : rf_M, M1 = wi M 353 0 0 → (inr v1 ∧ ((v1 < 0 → (w_version_15 M1 K)) ∧ (¬ (v1 < 0) → (inr v1 ∧ ((v1 < 16 → ((0 ≤ v1 ∧ v1 < 32) ∧ (w_version_25 (gi M1 377 (v1).toNat) M1 K))) ∧ (¬ (v1 < 16) → (w_version_15 M1 K)))))))
theorem W_version {fz : Bool} {S : gS} {B : rf_M} {M : rf_M} {ls : rf_L} {v1 : Int} {K : Int → rf_M → Prop} (hS : rk fz S B.2.2) (hR : fq B M) (a0 : rf_ld ls 0 = some (.ref 353)) (a1 : rf_ld ls 1 = some (zv v1)) (h : w_version v1 M K) : gx (cx0 fz) (0, 0) 186 0 ls [] (M, S) (vq_i B S K) := by
  unfold w_version at h
  refine g1 (n := 1) rfl rfl rfl (la_of a0) ?_
  refine g1 (n := 1) rfl rfl rfl rfl ?_
  refine n_pi (Nat.le_of_ble_eq_true rfl) rfl hS.1 rfl (fun _ _ => rfl) (fun M1 e r => ?_)
  replace h := h M1 e
  have r1 := hR.trans r
  refine g1 (n := 1) rfl rfl rfl (li_of a1) ?_
  obtain ⟨i1, h⟩ := h
  refine n_if rfl i1 (fun c => ?_) (fun c => ?_)
  · replace h := h.1 c
    exact W_version_15 hS r1  h
  · replace h := h.2 c
    refine g1 (n := 1) rfl rfl rfl (li_of a1) ?_
    refine n_bi rfl (by decide) ?_
    obtain ⟨i2, h⟩ := h
    refine n_ic rfl i2 ⟨by decide, by decide⟩ (fun c => ?_) (fun c => ?_)
    · replace h := h.1 c
      refine g1 (n := 1) rfl rfl rfl (la_of a0) ?_
      refine n_gr rfl hS.1 rfl (fun _ => rfl) r1 (rk_377 hS).2 ?_
      refine g1 (n := 1) rfl rfl rfl (li_of a1) ?_
      obtain ⟨q, h⟩ := h
      refine n_ia rfl (rk_377 hS).1 (Nat.le_of_ble_eq_true rfl) q ?_
      exact W_version_25 hS r1  h
    · replace h := h.2 c
      exact W_version_15 hS r1  h
def wm_version (x0 : Int) (M : rf_M) (K : Int → rf_M → Prop) : Prop := w_version x0 M K
theorem W_version_m {fz : Bool} {S : gS} {B : rf_M} {M : rf_M} {x0 : Int} {K : Int → rf_M → Prop} (hS : rk fz S B.2.2) (hR : fq B M) (h : wm_version x0 M K) : gx (cx0 fz) (0, 0) 186 0 (lv_args 0 [.ref 353, zv x0]) [] (M, S) (vq_i B S K) :=
  W_version hS hR rfl rfl h
def w_add_36 (M : rf_M) (K : Int → rf_M → Prop) : Prop := K (-1) M
theorem W_add_36 {fz : Bool} {S : gS} {B : rf_M} {M : rf_M} {ls : rf_L} {K : Int → rf_M → Prop} (hS : rk fz S B.2.2) (hR : fq B M) (h : w_add_36 M K) : gx (cx0 fz) (1, 21) 187 36 ls [] (M, S) (vq_i B S K) := by
  unfold w_add_36 at h
  refine g1 (n := 1) rfl rfl rfl rfl ?_
  exact gx_ret rfl rfl ⟨(-1), M, rfl, rfl, hR, h⟩
def w_add (v1 : Int) (v2 : Int) (M : rf_M) (K : Int → rf_M → Prop) : Prop := ∀ M1 : rf_M, M1 = wi M 353 0 0 → (wm_isClient v1 M1 (fun (z2 : Int) (M2 : rf_M) => inr z2 ∧ ((z2 = 0 → (w_add_36 M2 K)) ∧ (¬ (z2 = 0) → (inr v2 ∧ ((v2 < 0 → (w_add_36 M2 K)) ∧ (¬ (v2 < 0) → (inr v2 ∧ (((gi M2 353 11) ≤ v2 → (w_add_36 M2 K)) ∧ (¬ ((gi M2 353 11) ≤ v2) → ((0 ≤ v1 ∧ v1 < 8) ∧ (((gi M2 381 (v1).toNat) = 16 → (w_add_36 M2 K)) ∧ (¬ (gi M2 381 (v1).toNat) = 16 → ((0 ≤ v1 ∧ v1 < 8) ∧ ((0 ≤ ((16 * v1) + (gi M2 381 (v1).toNat)) ∧ ((16 * v1) + (gi M2 381 (v1).toNat)) < 128) ∧ (∀ M3 : rf_M, M3 = wi M2 380 ((16 * v1) + (gi M2 381 (v1).toNat)).toNat v2 → ((0 ≤ v1 ∧ v1 < 8) ∧ ((0 ≤ v1 ∧ v1 < 8) ∧ (∀ M4 : rf_M, M4 = wi M3 381 (v1).toNat ((gi M3 381 (v1).toNat) + 1) → ((0 ≤ v1 ∧ v1 < 8) ∧ (K (gi M4 381 (v1).toNat) M4)))))))))))))))))))))
theorem W_add {fz : Bool} {S : gS} {B : rf_M} {M : rf_M} {ls : rf_L} {v1 : Int} {v2 : Int} {K : Int → rf_M → Prop} (hS : rk fz S B.2.2) (hR : fq B M) (a0 : rf_ld ls 0 = some (.ref 353)) (a1 : rf_ld ls 1 = some (zv v1)) (a2 : rf_ld ls 2 = some (zv v2)) (h : w_add v1 v2 M K) : gx (cx0 fz) (1, 21) 187 0 ls [] (M, S) (vq_i B S K) := by
  unfold w_add at h
  refine g1 (n := 1) rfl rfl rfl (la_of a0) ?_
  refine g1 (n := 1) rfl rfl rfl rfl ?_
  refine n_pi (Nat.le_of_ble_eq_true rfl) rfl hS.1 rfl (fun _ _ => rfl) (fun M1 e r => ?_)
  replace h := h M1 e
  have r1 := hR.trans r
  refine g1 (n := 1) rfl rfl rfl (la_of a0) ?_
  refine g1 (n := 1) rfl rfl rfl (li_of a1) ?_
  refine m_iv (a := 353) (as := [zv v1]) (rest := []) rfl (by decide) hS.1 rfl rfl (Nat.le_of_ble_eq_true rfl) ⟨Nat.le_of_ble_eq_true rfl, Nat.le_of_ble_eq_true rfl, Nat.le_of_ble_eq_true rfl⟩ ?_
  refine gx_room (gx_mono (W_isClient_m hS r1 h) ?_) (Nat.le_of_ble_eq_true rfl) (Nat.le_of_ble_eq_true rfl)
  rintro _ _ ⟨z2, M2, rfl, rfl, r2, h⟩
  obtain ⟨i1, h⟩ := h
  refine n_if rfl i1 (fun c => ?_) (fun c => ?_)
  · replace h := h.1 c
    exact W_add_36 hS r2  h
  · replace h := h.2 c
    refine g1 (n := 1) rfl rfl rfl (li_of a2) ?_
    obtain ⟨i2, h⟩ := h
    refine n_if rfl i2 (fun c => ?_) (fun c => ?_)
    · replace h := h.1 c
      exact W_add_36 hS r2  h
    · replace h := h.2 c
      refine g1 (n := 1) rfl rfl rfl (li_of a2) ?_
      refine g1 (n := 1) rfl rfl rfl (la_of a0) ?_
      refine n_gi rfl hS.1 rfl (fun _ => rfl) ?_
      obtain ⟨i3, h⟩ := h
      refine n_ic rfl i3 (inr_gi _ _ _) (fun c => ?_) (fun c => ?_)
      · replace h := h.1 c
        exact W_add_36 hS r2  h
      · replace h := h.2 c
        refine g1 (n := 1) rfl rfl rfl (la_of a0) ?_
        refine n_gr rfl hS.1 rfl (fun _ => rfl) r2 (rk_381 hS).2 ?_
        refine g1 (n := 1) rfl rfl rfl (li_of a1) ?_
        obtain ⟨q, h⟩ := h
        refine n_ia rfl (rk_381 hS).1 (Nat.le_of_ble_eq_true rfl) q ?_
        refine n_bi rfl (by decide) ?_
        refine n_ic rfl (inr_gi _ _ _) ⟨by decide, by decide⟩ (fun c => ?_) (fun c => ?_)
        · replace h := h.2 c
          refine g1 (n := 1) rfl rfl rfl (la_of a0) ?_
          refine n_gr rfl hS.1 rfl (fun _ => rfl) r2 (rk_380 hS).2 ?_
          refine n_bi rfl (by decide) ?_
          refine g1 (n := 1) rfl rfl rfl (li_of a1) ?_
          refine n_mul rfl ?_
          refine g1 (n := 1) rfl rfl rfl (la_of a0) ?_
          refine n_gr rfl hS.1 rfl (fun _ => rfl) r2 (rk_381 hS).2 ?_
          refine g1 (n := 1) rfl rfl rfl (li_of a1) ?_
          obtain ⟨q, h⟩ := h
          refine n_ia rfl (rk_381 hS).1 (Nat.le_of_ble_eq_true rfl) q ?_
          refine n_add rfl ?_
          refine g1 (n := 1) rfl rfl rfl (li_of a2) ?_
          obtain ⟨q, h⟩ := h
          refine n_is (Nat.le_of_ble_eq_true rfl) rfl (rk_380 hS).1 (Nat.le_of_ble_eq_true rfl) q (fun M3 e r => ?_)
          replace h := h M3 e
          have r3 := r2.trans r
          refine g1 (n := 1) rfl rfl rfl (la_of a0) ?_
          refine n_gr rfl hS.1 rfl (fun _ => rfl) r3 (rk_381 hS).2 ?_
          refine g1 (n := 1) rfl rfl rfl (li_of a1) ?_
          refine g0 rfl rfl rfl ?_
          obtain ⟨q, h⟩ := h
          refine n_ia rfl (rk_381 hS).1 (Nat.le_of_ble_eq_true rfl) q ?_
          refine g1 (n := 1) rfl rfl rfl rfl ?_
          refine n_add rfl ?_
          obtain ⟨q, h⟩ := h
          refine n_is (Nat.le_of_ble_eq_true rfl) rfl (rk_381 hS).1 (Nat.le_of_ble_eq_true rfl) q (fun M4 e r => ?_)
          replace h := h M4 e
          have r4 := r3.trans r
          refine g1 (n := 1) rfl rfl rfl (la_of a0) ?_
          refine n_gr rfl hS.1 rfl (fun _ => rfl) r4 (rk_381 hS).2 ?_
          refine g1 (n := 1) rfl rfl rfl (li_of a1) ?_
          obtain ⟨q, h⟩ := h
          refine n_ia rfl (rk_381 hS).1 (Nat.le_of_ble_eq_true rfl) q ?_
          exact gx_ret rfl rfl ⟨(gi M4 381 (v1).toNat), M4, rfl, rfl, r4, h⟩
        · replace h := h.1 (Classical.not_not.mp c)
          exact W_add_36 hS r2  h
def wm_add (x0 : Int) (x1 : Int) (M : rf_M) (K : Int → rf_M → Prop) : Prop := w_add x0 x1 M K
theorem W_add_m {fz : Bool} {S : gS} {B : rf_M} {M : rf_M} {x0 : Int} {x1 : Int} {K : Int → rf_M → Prop} (hS : rk fz S B.2.2) (hR : fq B M) (h : wm_add x0 x1 M K) : gx (cx0 fz) (1, 21) 187 0 (lv_args 0 [.ref 353, zv x0, zv x1]) [] (M, S) (vq_i B S K) :=
  W_add hS hR rfl rfl rfl h
def w_client_23 (M : rf_M) (K : Int → rf_M → Prop) : Prop := K (-1) M
theorem W_client_23 {fz : Bool} {S : gS} {B : rf_M} {M : rf_M} {ls : rf_L} {K : Int → rf_M → Prop} (hS : rk fz S B.2.2) (hR : fq B M) (h : w_client_23 M K) : gx (cx0 fz) (5, 113) 188 23 ls [] (M, S) (vq_i B S K) := by
  unfold w_client_23 at h
  refine g1 (n := 1) rfl rfl rfl rfl ?_
  exact gx_ret rfl rfl ⟨(-1), M, rfl, rfl, hR, h⟩
def w_client_181 (s0 : Int) (M : rf_M) (K : Int → rf_M → Prop) : Prop := K s0 M
theorem W_client_181 {fz : Bool} {S : gS} {B : rf_M} {M : rf_M} {ls : rf_L} {s0 : Int} {K : Int → rf_M → Prop} (hS : rk fz S B.2.2) (hR : fq B M) (h : w_client_181 s0 M K) : gx (cx0 fz) (5, 113) 188 181 ls [zv s0] (M, S) (vq_i B S K) := by
  unfold w_client_181 at h
  exact gx_ret rfl rfl ⟨s0, M, rfl, rfl, hR, h⟩
def w_client_145 (s0 : Int) (M : rf_M) (K : Int → rf_M → Prop) : Prop := K s0 M
theorem W_client_145 {fz : Bool} {S : gS} {B : rf_M} {M : rf_M} {ls : rf_L} {s0 : Int} {K : Int → rf_M → Prop} (hS : rk fz S B.2.2) (hR : fq B M) (h : w_client_145 s0 M K) : gx (cx0 fz) (5, 113) 188 145 ls [zv s0] (M, S) (vq_i B S K) := by
  unfold w_client_145 at h
  exact gx_ret rfl rfl ⟨s0, M, rfl, rfl, hR, h⟩
def w_client_124 (s0 : Int) (M : rf_M) (K : Int → rf_M → Prop) : Prop := K s0 M
theorem W_client_124 {fz : Bool} {S : gS} {B : rf_M} {M : rf_M} {ls : rf_L} {s0 : Int} {K : Int → rf_M → Prop} (hS : rk fz S B.2.2) (hR : fq B M) (h : w_client_124 s0 M K) : gx (cx0 fz) (5, 113) 188 124 ls [zv s0] (M, S) (vq_i B S K) := by
  unfold w_client_124 at h
  exact gx_ret rfl rfl ⟨s0, M, rfl, rfl, hR, h⟩
def w_client_211 (s0 : Int) (M : rf_M) (K : Int → rf_M → Prop) : Prop := K s0 M
theorem W_client_211 {fz : Bool} {S : gS} {B : rf_M} {M : rf_M} {ls : rf_L} {s0 : Int} {K : Int → rf_M → Prop} (hS : rk fz S B.2.2) (hR : fq B M) (h : w_client_211 s0 M K) : gx (cx0 fz) (5, 113) 188 211 ls [zv s0] (M, S) (vq_i B S K) := by
  unfold w_client_211 at h
  exact gx_ret rfl rfl ⟨s0, M, rfl, rfl, hR, h⟩
def w_client_59 (v1 : Int) (v2 : Int) (v3 : Int) (s0 : Int) (M : rf_M) (K : Int → rf_M → Prop) : Prop := inr v2 ∧ ((v2 = 0 → (inr v3 ∧ ((v3 = 0 → ((0 ≤ v1 ∧ v1 < 8) ∧ (w_client_124 ((gi M 382 (v1).toNat) + 1) M K))) ∧ (¬ (v3 = 0) → (w_client_124 0 M K))))) ∧ (v2 = 1 → ((0 ≤ v1 ∧ v1 < 8) ∧ (K (gi M 381 (v1).toNat) M))) ∧ (v2 = 2 → (inr v3 ∧ ((v3 = 0 → (wm_firstOf v1 M (fun (z1 : Int) (M1 : rf_M) => w_client_145 z1 M1 K))) ∧ (¬ (v3 = 0) → (w_client_145 (-1) M K))))) ∧ (v2 = 3 → ((0 ≤ v1 ∧ v1 < 8) ∧ (K (gi M 384 (v1).toNat) M))) ∧ (v2 = 4 → ((0 ≤ v1 ∧ v1 < 8) ∧ (K (gi M 383 (v1).toNat) M))) ∧ (v2 = 5 → ((0 ≤ v1 ∧ v1 < 8) ∧ (K (gi M 386 (v1).toNat) M))) ∧ (v2 = 6 → (inr s0 ∧ ((s0 = 0 → (K 0 M)) ∧ (¬ s0 = 0 → (wm_walkAnew v1 M (fun (M2 : rf_M) => inr v2 ∧ ((v2 = 6 → (w_client_211 (gi M2 353 55) M2 K)) ∧ (¬ v2 = 6 → (w_client_211 (gi M2 353 58) M2 K))))))))) ∧ (v2 = 7 → ((0 ≤ v1 ∧ v1 < 8) ∧ (((gi M 385 (v1).toNat) = 0 → (w_client_181 0 M K)) ∧ (¬ ((gi M 385 (v1).toNat) = 0) → (w_client_181 1 M K))))) ∧ (¬ v2 = 0 ∧ ¬ v2 = 1 ∧ ¬ v2 = 2 ∧ ¬ v2 = 3 ∧ ¬ v2 = 4 ∧ ¬ v2 = 5 ∧ ¬ v2 = 6 ∧ ¬ v2 = 7 → (inr s0 ∧ ((s0 = 0 → (K 0 M)) ∧ (¬ s0 = 0 → (wm_walkAnew v1 M (fun (M3 : rf_M) => inr v2 ∧ ((v2 = 6 → (w_client_211 (gi M3 353 55) M3 K)) ∧ (¬ v2 = 6 → (w_client_211 (gi M3 353 58) M3 K))))))))))
theorem W_client_59 {fz : Bool} {S : gS} {B : rf_M} {M : rf_M} {ls : rf_L} {v1 : Int} {v2 : Int} {v3 : Int} {s0 : Int} {K : Int → rf_M → Prop} (hS : rk fz S B.2.2) (hR : fq B M) (a0 : rf_ld ls 0 = some (.ref 353)) (a1 : rf_ld ls 1 = some (zv v1)) (a2 : rf_ld ls 2 = some (zv v2)) (a3 : rf_ld ls 3 = some (zv v3)) (h : w_client_59 v1 v2 v3 s0 M K) : gx (cx0 fz) (5, 113) 188 59 ls [zv s0] (M, S) (vq_i B S K) := by
  unfold w_client_59 at h
  refine n_s1 (n := 2) rfl rfl rfl rfl (fun ls l1 ho => ?_)
  replace a0 := ho 0 _ (by decide) (fun q => by cases q.2) a0
  have l2 := ho 1 _ (by decide) (fun q => by cases q.2) a1
  have l3 := ho 2 _ (by decide) (fun q => by cases q.2) a2
  have l4 := ho 3 _ (by decide) (fun q => by cases q.2) a3
  refine g1 (n := 1) rfl rfl rfl (li_of l3) ?_
  obtain ⟨ia, h⟩ := h
  obtain ⟨h1, h⟩ := h
  by_cases e0 : v2 = 0
  · replace h := h1 e0
    refine n_sw e0 rfl rfl rfl ?_
    refine g1 (n := 1) rfl rfl rfl (li_of l4) ?_
    obtain ⟨i1, h⟩ := h
    refine n_if rfl i1 (fun c => ?_) (fun c => ?_)
    · replace h := h.1 c
      refine g1 (n := 1) rfl rfl rfl (la_of a0) ?_
      refine n_gr rfl hS.1 rfl (fun _ => rfl) hR (rk_382 hS).2 ?_
      refine g1 (n := 1) rfl rfl rfl (li_of l2) ?_
      obtain ⟨q, h⟩ := h
      refine n_ia rfl (rk_382 hS).1 (Nat.le_of_ble_eq_true rfl) q ?_
      refine g1 (n := 1) rfl rfl rfl rfl ?_
      refine n_add rfl ?_
      exact W_client_124 hS hR  h
    · replace h := h.2 c
      refine g1 (n := 1) rfl rfl rfl rfl ?_
      refine g3 rfl rfl rfl ?_
      exact W_client_124 hS hR  h
  obtain ⟨h1, h⟩ := h
  by_cases e1 : v2 = 1
  · replace h := h1 e1
    refine n_sw e1 rfl rfl rfl ?_
    refine g1 (n := 1) rfl rfl rfl (la_of a0) ?_
    refine n_gr rfl hS.1 rfl (fun _ => rfl) hR (rk_381 hS).2 ?_
    refine g1 (n := 1) rfl rfl rfl (li_of l2) ?_
    obtain ⟨q, h⟩ := h
    refine n_ia rfl (rk_381 hS).1 (Nat.le_of_ble_eq_true rfl) q ?_
    exact gx_ret rfl rfl ⟨(gi M 381 (v1).toNat), M, rfl, rfl, hR, h⟩
  obtain ⟨h1, h⟩ := h
  by_cases e2 : v2 = 2
  · replace h := h1 e2
    refine n_sw e2 rfl rfl rfl ?_
    refine g1 (n := 1) rfl rfl rfl (li_of l4) ?_
    obtain ⟨i2, h⟩ := h
    refine n_if rfl i2 (fun c => ?_) (fun c => ?_)
    · replace h := h.1 c
      refine g1 (n := 1) rfl rfl rfl (la_of a0) ?_
      refine g1 (n := 1) rfl rfl rfl (li_of l2) ?_
      refine m_iv (a := 353) (as := [zv v1]) (rest := []) rfl (by decide) hS.1 rfl rfl (Nat.le_of_ble_eq_true rfl) ⟨Nat.le_of_ble_eq_true rfl, Nat.le_of_ble_eq_true rfl, Nat.le_of_ble_eq_true rfl⟩ ?_
      refine gx_room (gx_mono (W_firstOf_m hS hR h) ?_) (Nat.le_of_ble_eq_true rfl) (Nat.le_of_ble_eq_true rfl)
      rintro _ _ ⟨z1, M1, rfl, rfl, r1, h⟩
      exact W_client_145 hS r1  h
    · replace h := h.2 c
      refine g1 (n := 1) rfl rfl rfl rfl ?_
      refine g3 rfl rfl rfl ?_
      exact W_client_145 hS hR  h
  obtain ⟨h1, h⟩ := h
  by_cases e3 : v2 = 3
  · replace h := h1 e3
    refine n_sw e3 rfl rfl rfl ?_
    refine g1 (n := 1) rfl rfl rfl (la_of a0) ?_
    refine n_gr rfl hS.1 rfl (fun _ => rfl) hR (rk_384 hS).2 ?_
    refine g1 (n := 1) rfl rfl rfl (li_of l2) ?_
    obtain ⟨q, h⟩ := h
    refine n_ia rfl (rk_384 hS).1 (Nat.le_of_ble_eq_true rfl) q ?_
    exact gx_ret rfl rfl ⟨(gi M 384 (v1).toNat), M, rfl, rfl, hR, h⟩
  obtain ⟨h1, h⟩ := h
  by_cases e4 : v2 = 4
  · replace h := h1 e4
    refine n_sw e4 rfl rfl rfl ?_
    refine g1 (n := 1) rfl rfl rfl (la_of a0) ?_
    refine n_gr rfl hS.1 rfl (fun _ => rfl) hR (rk_383 hS).2 ?_
    refine g1 (n := 1) rfl rfl rfl (li_of l2) ?_
    obtain ⟨q, h⟩ := h
    refine n_ia rfl (rk_383 hS).1 (Nat.le_of_ble_eq_true rfl) q ?_
    exact gx_ret rfl rfl ⟨(gi M 383 (v1).toNat), M, rfl, rfl, hR, h⟩
  obtain ⟨h1, h⟩ := h
  by_cases e5 : v2 = 5
  · replace h := h1 e5
    refine n_sw e5 rfl rfl rfl ?_
    refine g1 (n := 1) rfl rfl rfl (la_of a0) ?_
    refine n_gr rfl hS.1 rfl (fun _ => rfl) hR (rk_386 hS).2 ?_
    refine g1 (n := 1) rfl rfl rfl (li_of l2) ?_
    obtain ⟨q, h⟩ := h
    refine n_ia rfl (rk_386 hS).1 (Nat.le_of_ble_eq_true rfl) q ?_
    exact gx_ret rfl rfl ⟨(gi M 386 (v1).toNat), M, rfl, rfl, hR, h⟩
  obtain ⟨h1, h⟩ := h
  by_cases e6 : v2 = 6
  · replace h := h1 e6
    refine n_sw e6 rfl rfl rfl ?_
    refine g1 (n := 2) rfl rfl rfl (li_of l1) ?_
    obtain ⟨i3, h⟩ := h
    refine n_if rfl i3 (fun c => ?_) (fun c => ?_)
    · replace h := h.2 c
      refine g1 (n := 1) rfl rfl rfl (la_of a0) ?_
      refine g1 (n := 1) rfl rfl rfl (li_of l2) ?_
      refine m_iv (a := 353) (as := [zv v1]) (rest := []) rfl (by decide) hS.1 rfl rfl (Nat.le_of_ble_eq_true rfl) ⟨Nat.le_of_ble_eq_true rfl, Nat.le_of_ble_eq_true rfl, Nat.le_of_ble_eq_true rfl⟩ ?_
      refine gx_room (gx_mono (W_walkAnew_m hS hR h) ?_) (Nat.le_of_ble_eq_true rfl) (Nat.le_of_ble_eq_true rfl)
      rintro _ _ ⟨M2, rfl, rfl, r2, h⟩
      refine g1 (n := 1) rfl rfl rfl (li_of l3) ?_
      refine n_bi rfl (by decide) ?_
      obtain ⟨i4, h⟩ := h
      refine n_ic rfl i4 ⟨by decide, by decide⟩ (fun c => ?_) (fun c => ?_)
      · replace h := h.2 c
        refine g1 (n := 1) rfl rfl rfl (la_of a0) ?_
        refine n_gi rfl hS.1 rfl (fun _ => rfl) ?_
        exact W_client_211 hS r2  h
      · replace h := h.1 (Classical.not_not.mp c)
        refine g1 (n := 1) rfl rfl rfl (la_of a0) ?_
        refine n_gi rfl hS.1 rfl (fun _ => rfl) ?_
        refine g3 rfl rfl rfl ?_
        exact W_client_211 hS r2  h
    · replace h := h.1 (Classical.not_not.mp c)
      refine g1 (n := 1) rfl rfl rfl rfl ?_
      exact gx_ret rfl rfl ⟨0, M, rfl, rfl, hR, h⟩
  obtain ⟨h1, h⟩ := h
  by_cases e7 : v2 = 7
  · replace h := h1 e7
    refine n_sw e7 rfl rfl rfl ?_
    refine g1 (n := 1) rfl rfl rfl (la_of a0) ?_
    refine n_gr rfl hS.1 rfl (fun _ => rfl) hR (rk_385 hS).2 ?_
    refine g1 (n := 1) rfl rfl rfl (li_of l2) ?_
    obtain ⟨q, h⟩ := h
    refine n_za rfl (rk_385 hS).1 (Nat.le_of_ble_eq_true rfl) q ?_
    refine n_if rfl (inr_gi _ _ _) (fun c => ?_) (fun c => ?_)
    · replace h := h.1 c
      refine g1 (n := 1) rfl rfl rfl rfl ?_
      exact W_client_181 hS hR  h
    · replace h := h.2 c
      refine g1 (n := 1) rfl rfl rfl rfl ?_
      refine g3 rfl rfl rfl ?_
      exact W_client_181 hS hR  h
  replace h := h ⟨e0, e1, e2, e3, e4, e5, e6, e7⟩
  refine n_swt rfl ia (by omega) ?_
  refine g1 (n := 2) rfl rfl rfl (li_of l1) ?_
  obtain ⟨i5, h⟩ := h
  refine n_if rfl i5 (fun c => ?_) (fun c => ?_)
  · replace h := h.2 c
    refine g1 (n := 1) rfl rfl rfl (la_of a0) ?_
    refine g1 (n := 1) rfl rfl rfl (li_of l2) ?_
    refine m_iv (a := 353) (as := [zv v1]) (rest := []) rfl (by decide) hS.1 rfl rfl (Nat.le_of_ble_eq_true rfl) ⟨Nat.le_of_ble_eq_true rfl, Nat.le_of_ble_eq_true rfl, Nat.le_of_ble_eq_true rfl⟩ ?_
    refine gx_room (gx_mono (W_walkAnew_m hS hR h) ?_) (Nat.le_of_ble_eq_true rfl) (Nat.le_of_ble_eq_true rfl)
    rintro _ _ ⟨M3, rfl, rfl, r3, h⟩
    refine g1 (n := 1) rfl rfl rfl (li_of l3) ?_
    refine n_bi rfl (by decide) ?_
    obtain ⟨i6, h⟩ := h
    refine n_ic rfl i6 ⟨by decide, by decide⟩ (fun c => ?_) (fun c => ?_)
    · replace h := h.2 c
      refine g1 (n := 1) rfl rfl rfl (la_of a0) ?_
      refine n_gi rfl hS.1 rfl (fun _ => rfl) ?_
      exact W_client_211 hS r3  h
    · replace h := h.1 (Classical.not_not.mp c)
      refine g1 (n := 1) rfl rfl rfl (la_of a0) ?_
      refine n_gi rfl hS.1 rfl (fun _ => rfl) ?_
      refine g3 rfl rfl rfl ?_
      exact W_client_211 hS r3  h
  · replace h := h.1 (Classical.not_not.mp c)
    refine g1 (n := 1) rfl rfl rfl rfl ?_
    exact gx_ret rfl rfl ⟨0, M, rfl, rfl, hR, h⟩
