def w_bringBack_53 (v1 : Int) (v2 : Int) (M : rf_M) (K : rf_M → Prop) : Prop := ∃ Inv : Nat → Int → Int → rf_M → Prop, (∃ m, Inv m v1 v2 M) ∧ ∀ (m : Nat) (v1 : Int) (v2 : Int) (M : rf_M), Inv m v1 v2 M → w_bringBack_53b v1 v2 M (fun (v1' : Int) (v2' : Int) (M' : rf_M) => ∃ m', m' < m ∧ Inv m' v1' v2' M') K
theorem W_bringBack_53 {fz : Bool} {S : gS} {B : rf_M} {M : rf_M} {ls : rf_L} {v1 : Int} {v2 : Int} {K : rf_M → Prop} (hS : rk fz S B.2.2) (hR : fq B M) (a0 : rf_ld ls 0 = some (.ref 353)) (a1 : rf_ld ls 1 = some (zv v1)) (a2 : rf_ld ls 2 = some (zv v2)) (h : w_bringBack_53 v1 v2 M K) : gx (cx0 fz) (0, 0) 168 53 ls [] (M, S) (vq_v B S K) := by
  obtain ⟨Inv, ⟨m, hm⟩, hb⟩ := h
  induction m using Nat.strongRecOn generalizing ls M v1 v2 with
  | _ m ih =>
    refine W_bringBack_53b hS hR a0 a1 a2 (fun v1' v2' M' ls' hR' f0 f1 f2 ⟨m', q1, q2⟩ => ih m' q1 hR' f0 f1 f2 q2) (hb m v1 v2 M hm)
def w_bringBack_22b (v1 : Int) (v2 : Int) (M : rf_M) (b22 : Int → Int → rf_M → Prop) (K : rf_M → Prop) : Prop := inr v2 ∧ ((16 ≤ v2 → (w_bringBack_53 v1 0 M K)) ∧ (¬ (16 ≤ v2) → ((0 ≤ ((16 * v1) + v2) ∧ ((16 * v1) + v2) < 7680) ∧ ((0 ≤ v2 ∧ v2 < 16) ∧ (∀ M1 : rf_M, M1 = wl M 391 (v2).toNat (gl M 395 ((16 * v1) + v2).toNat) → (b22 v1 (v2 + 1) M1))))))
theorem W_bringBack_22b {fz : Bool} {S : gS} {B : rf_M} {M : rf_M} {ls : rf_L} {v1 : Int} {v2 : Int} {b22 : Int → Int → rf_M → Prop} {K : rf_M → Prop} (hS : rk fz S B.2.2) (hR : fq B M) (a0 : rf_ld ls 0 = some (.ref 353)) (a1 : rf_ld ls 1 = some (zv v1)) (a2 : rf_ld ls 2 = some (zv v2)) (hb22 : ∀ (v1 : Int) (v2 : Int) (M : rf_M) (ls : rf_L), fq B M → rf_ld ls 0 = some (.ref 353) → rf_ld ls 1 = some (zv v1) → rf_ld ls 2 = some (zv v2) → b22 v1 v2 M → gx (cx0 fz) (0, 0) 168 22 ls [] (M, S) (vq_v B S K)) (h : w_bringBack_22b v1 v2 M b22 K) : gx (cx0 fz) (0, 0) 168 22 ls [] (M, S) (vq_v B S K) := by
  unfold w_bringBack_22b at h
  refine g1 (n := 1) rfl rfl rfl (li_of a2) ?_
  refine n_bi rfl (by decide) ?_
  obtain ⟨i1, h⟩ := h
  refine n_ic rfl i1 ⟨by decide, by decide⟩ (fun c => ?_) (fun c => ?_)
  · replace h := h.1 c
    refine g1 (n := 1) rfl rfl rfl rfl ?_
    refine n_s1 (n := 1) rfl rfl rfl rfl (fun ls l1 ho => ?_)
    replace a0 := ho 0 _ (by decide) (fun q => by cases q.2) a0
    have l2 := ho 1 _ (by decide) (fun q => by cases q.2) a1
    exact W_bringBack_53 hS hR a0 l2 l1 h
  · replace h := h.2 c
    refine g1 (n := 1) rfl rfl rfl (la_of a0) ?_
    refine n_gr rfl hS.1 rfl (fun _ => rfl) hR (rk_391 hS).2 ?_
    refine g1 (n := 1) rfl rfl rfl (li_of a2) ?_
    refine g1 (n := 1) rfl rfl rfl (la_of a0) ?_
    refine n_gr rfl hS.1 rfl (fun _ => rfl) hR (rk_395 hS).2 ?_
    refine n_bi rfl (by decide) ?_
    refine g1 (n := 1) rfl rfl rfl (li_of a1) ?_
    refine n_mul rfl ?_
    refine g1 (n := 1) rfl rfl rfl (li_of a2) ?_
    refine n_add rfl ?_
    obtain ⟨q, h⟩ := h
    refine n_la rfl (rk_395 hS).1 (Nat.le_of_ble_eq_true rfl) q ?_
    obtain ⟨q, h⟩ := h
    refine n_ls (Nat.le_of_ble_eq_true rfl) rfl (rk_391 hS).1 (Nat.le_of_ble_eq_true rfl) q (fun M1 e r => ?_)
    replace h := h M1 e
    have r1 := hR.trans r
    refine n_ii rfl a2 (Nat.le_of_ble_eq_true rfl) (fun ls l3 ho => ?_)
    replace a0 := ho 0 _ (by decide) (fun q => by cases q.2) a0
    have l4 := ho 1 _ (by decide) (fun q => by cases q.2) a1
    refine g3 rfl rfl rfl ?_
    exact hb22 _ _ _ _ r1 a0 l4 l3 h
def w_bringBack_22 (v1 : Int) (v2 : Int) (M : rf_M) (K : rf_M → Prop) : Prop := ∃ Inv : Nat → Int → Int → rf_M → Prop, (∃ m, Inv m v1 v2 M) ∧ ∀ (m : Nat) (v1 : Int) (v2 : Int) (M : rf_M), Inv m v1 v2 M → w_bringBack_22b v1 v2 M (fun (v1' : Int) (v2' : Int) (M' : rf_M) => ∃ m', m' < m ∧ Inv m' v1' v2' M') K
theorem W_bringBack_22 {fz : Bool} {S : gS} {B : rf_M} {M : rf_M} {ls : rf_L} {v1 : Int} {v2 : Int} {K : rf_M → Prop} (hS : rk fz S B.2.2) (hR : fq B M) (a0 : rf_ld ls 0 = some (.ref 353)) (a1 : rf_ld ls 1 = some (zv v1)) (a2 : rf_ld ls 2 = some (zv v2)) (h : w_bringBack_22 v1 v2 M K) : gx (cx0 fz) (0, 0) 168 22 ls [] (M, S) (vq_v B S K) := by
  obtain ⟨Inv, ⟨m, hm⟩, hb⟩ := h
  induction m using Nat.strongRecOn generalizing ls M v1 v2 with
  | _ m ih =>
    refine W_bringBack_22b hS hR a0 a1 a2 (fun v1' v2' M' ls' hR' f0 f1 f2 ⟨m', q1, q2⟩ => ih m' q1 hR' f0 f1 f2 q2) (hb m v1 v2 M hm)
def w_bringBack (v1 : Int) (M : rf_M) (K : rf_M → Prop) : Prop := (0 ≤ v1 ∧ v1 < 480) ∧ (∀ M1 : rf_M, M1 = wi M 353 55 (gi M 394 (v1).toNat) → ((0 ≤ v1 ∧ v1 < 480) ∧ (∀ M2 : rf_M, M2 = wi M1 353 58 (gi M1 397 (v1).toNat) → (w_bringBack_22 v1 0 M2 K))))
theorem W_bringBack {fz : Bool} {S : gS} {B : rf_M} {M : rf_M} {ls : rf_L} {v1 : Int} {K : rf_M → Prop} (hS : rk fz S B.2.2) (hR : fq B M) (a0 : rf_ld ls 0 = some (.ref 353)) (a1 : rf_ld ls 1 = some (zv v1)) (h : w_bringBack v1 M K) : gx (cx0 fz) (0, 0) 168 0 ls [] (M, S) (vq_v B S K) := by
  unfold w_bringBack at h
  refine g1 (n := 1) rfl rfl rfl (la_of a0) ?_
  refine g1 (n := 1) rfl rfl rfl (la_of a0) ?_
  refine n_gr rfl hS.1 rfl (fun _ => rfl) hR (rk_394 hS).2 ?_
  refine g1 (n := 1) rfl rfl rfl (li_of a1) ?_
  obtain ⟨q, h⟩ := h
  refine n_ia rfl (rk_394 hS).1 (Nat.le_of_ble_eq_true rfl) q ?_
  refine n_pi (Nat.le_of_ble_eq_true rfl) rfl hS.1 rfl (fun _ _ => rfl) (fun M1 e r => ?_)
  replace h := h M1 e
  have r1 := hR.trans r
  refine g1 (n := 1) rfl rfl rfl (la_of a0) ?_
  refine g1 (n := 1) rfl rfl rfl (la_of a0) ?_
  refine n_gr rfl hS.1 rfl (fun _ => rfl) r1 (rk_397 hS).2 ?_
  refine g1 (n := 1) rfl rfl rfl (li_of a1) ?_
  obtain ⟨q, h⟩ := h
  refine n_ia rfl (rk_397 hS).1 (Nat.le_of_ble_eq_true rfl) q ?_
  refine n_pi (Nat.le_of_ble_eq_true rfl) rfl hS.1 rfl (fun _ _ => rfl) (fun M2 e r => ?_)
  replace h := h M2 e
  have r2 := r1.trans r
  refine g1 (n := 1) rfl rfl rfl rfl ?_
  refine n_s1 (n := 1) rfl rfl rfl rfl (fun ls l1 ho => ?_)
  replace a0 := ho 0 _ (by decide) (fun q => by cases q.2) a0
  have l2 := ho 1 _ (by decide) (fun q => by cases q.2) a1
  exact W_bringBack_22 hS r2 a0 l2 l1 h
def wm_bringBack (x0 : Int) (M : rf_M) (K : rf_M → Prop) : Prop := w_bringBack x0 M K
theorem W_bringBack_m {fz : Bool} {S : gS} {B : rf_M} {M : rf_M} {x0 : Int} {K : rf_M → Prop} (hS : rk fz S B.2.2) (hR : fq B M) (h : wm_bringBack x0 M K) : gx (cx0 fz) (0, 0) 168 0 (lv_args 0 [.ref 353, zv x0]) [] (M, S) (vq_v B S K) :=
  W_bringBack hS hR rfl rfl h
def w_behind_52 (s0 : Int) (M : rf_M) (K : Int → rf_M → Prop) : Prop := K s0 M
theorem W_behind_52 {fz : Bool} {S : gS} {B : rf_M} {M : rf_M} {ls : rf_L} {s0 : Int} {K : Int → rf_M → Prop} (hS : rk fz S B.2.2) (hR : fq B M) (h : w_behind_52 s0 M K) : gx (cx0 fz) (0, 0) 170 52 ls [zv s0] (M, S) (vq_i B S K) := by
  unfold w_behind_52 at h
  exact gx_ret rfl rfl ⟨s0, M, rfl, rfl, hR, h⟩
def w_behind_38 (v2 : Int) (M : rf_M) (K : Int → rf_M → Prop) : Prop := inr v2 ∧ ((0 ≤ v2 → ((0 ≤ v2 ∧ v2 < 480) ∧ (w_behind_52 (gi M 361 (v2).toNat) M K))) ∧ (¬ (0 ≤ v2) → (w_behind_52 (-1) M K)))
theorem W_behind_38 {fz : Bool} {S : gS} {B : rf_M} {M : rf_M} {ls : rf_L} {v2 : Int} {K : Int → rf_M → Prop} (hS : rk fz S B.2.2) (hR : fq B M) (a0 : rf_ld ls 0 = some (.ref 353)) (a2 : rf_ld ls 2 = some (zv v2)) (h : w_behind_38 v2 M K) : gx (cx0 fz) (0, 0) 170 38 ls [] (M, S) (vq_i B S K) := by
  unfold w_behind_38 at h
  refine g1 (n := 1) rfl rfl rfl (li_of a2) ?_
  obtain ⟨i1, h⟩ := h
  refine n_if rfl i1 (fun c => ?_) (fun c => ?_)
  · replace h := h.1 c
    refine g1 (n := 1) rfl rfl rfl (la_of a0) ?_
    refine n_gr rfl hS.1 rfl (fun _ => rfl) hR (rk_361 hS).2 ?_
    refine g1 (n := 1) rfl rfl rfl (li_of a2) ?_
    obtain ⟨q, h⟩ := h
    refine n_ia rfl (rk_361 hS).1 (Nat.le_of_ble_eq_true rfl) q ?_
    exact W_behind_52 hS hR  h
  · replace h := h.2 c
    refine g1 (n := 1) rfl rfl rfl rfl ?_
    refine g3 rfl rfl rfl ?_
    exact W_behind_52 hS hR  h
def w_behind_2b (v2 : Int) (M : rf_M) (b2 : Int → rf_M → Prop) (K : Int → rf_M → Prop) : Prop := inr v2 ∧ ((v2 < 0 → (w_behind_38 v2 M K)) ∧ (¬ (v2 < 0) → ((0 ≤ v2 ∧ v2 < 480) ∧ ((0 ≤ (gi M 361 (v2).toNat) → (w_behind_38 v2 M K)) ∧ (¬ (0 ≤ (gi M 361 (v2).toNat)) → ((0 ≤ v2 ∧ v2 < 480) ∧ (((gi M 362 (v2).toNat) < 0 → (b2 (gi M 362 (v2).toNat) M)) ∧ (¬ ((gi M 362 (v2).toNat) < 0) → ((0 ≤ (gi M 362 (v2).toNat) ∧ (gi M 362 (v2).toNat) < 480) ∧ (((gi M 360 (gi M 362 (v2).toNat).toNat) = 2 → (K (gi M 362 (v2).toNat) M)) ∧ (¬ (gi M 360 (gi M 362 (v2).toNat).toNat) = 2 → (b2 (gi M 362 (v2).toNat) M))))))))))))
theorem W_behind_2b {fz : Bool} {S : gS} {B : rf_M} {M : rf_M} {ls : rf_L} {v2 : Int} {b2 : Int → rf_M → Prop} {K : Int → rf_M → Prop} (hS : rk fz S B.2.2) (hR : fq B M) (a0 : rf_ld ls 0 = some (.ref 353)) (a2 : rf_ld ls 2 = some (zv v2)) (hb2 : ∀ (v2 : Int) (M : rf_M) (ls : rf_L), fq B M → rf_ld ls 0 = some (.ref 353) → rf_ld ls 2 = some (zv v2) → b2 v2 M → gx (cx0 fz) (0, 0) 170 2 ls [] (M, S) (vq_i B S K)) (h : w_behind_2b v2 M b2 K) : gx (cx0 fz) (0, 0) 170 2 ls [] (M, S) (vq_i B S K) := by
  unfold w_behind_2b at h
  refine g1 (n := 1) rfl rfl rfl (li_of a2) ?_
  obtain ⟨i1, h⟩ := h
  refine n_if rfl i1 (fun c => ?_) (fun c => ?_)
  · replace h := h.1 c
    exact W_behind_38 hS hR a0 a2 h
  · replace h := h.2 c
    refine g1 (n := 1) rfl rfl rfl (la_of a0) ?_
    refine n_gr rfl hS.1 rfl (fun _ => rfl) hR (rk_361 hS).2 ?_
    refine g1 (n := 1) rfl rfl rfl (li_of a2) ?_
    obtain ⟨q, h⟩ := h
    refine n_ia rfl (rk_361 hS).1 (Nat.le_of_ble_eq_true rfl) q ?_
    refine n_if rfl (inr_gi _ _ _) (fun c => ?_) (fun c => ?_)
    · replace h := h.1 c
      exact W_behind_38 hS hR a0 a2 h
    · replace h := h.2 c
      refine g1 (n := 1) rfl rfl rfl (la_of a0) ?_
      refine n_gr rfl hS.1 rfl (fun _ => rfl) hR (rk_362 hS).2 ?_
      refine g1 (n := 1) rfl rfl rfl (li_of a2) ?_
      obtain ⟨q, h⟩ := h
      refine n_ia rfl (rk_362 hS).1 (Nat.le_of_ble_eq_true rfl) q ?_
      refine n_s1 (n := 1) rfl rfl rfl rfl (fun ls l1 ho => ?_)
      replace a0 := ho 0 _ (by decide) (fun q => by cases q.2) a0
      refine g1 (n := 1) rfl rfl rfl (li_of l1) ?_
      refine n_if rfl (inr_gi _ _ _) (fun c => ?_) (fun c => ?_)
      · replace h := h.1 c
        exact hb2 _ _ _ hR a0 l1 h
      · replace h := h.2 c
        refine g1 (n := 1) rfl rfl rfl (la_of a0) ?_
        refine n_gr rfl hS.1 rfl (fun _ => rfl) hR (rk_360 hS).2 ?_
        refine g1 (n := 1) rfl rfl rfl (li_of l1) ?_
        obtain ⟨q, h⟩ := h
        refine n_ia rfl (rk_360 hS).1 (Nat.le_of_ble_eq_true rfl) q ?_
        refine g1 (n := 1) rfl rfl rfl rfl ?_
        refine n_ic rfl (inr_gi _ _ _) ⟨by decide, by decide⟩ (fun c => ?_) (fun c => ?_)
        · replace h := h.2 c
          exact hb2 _ _ _ hR a0 l1 h
        · replace h := h.1 (Classical.not_not.mp c)
          refine g1 (n := 1) rfl rfl rfl (li_of l1) ?_
          exact gx_ret rfl rfl ⟨(gi M 362 (v2).toNat), M, rfl, rfl, hR, h⟩
def w_behind_2 (v2 : Int) (M : rf_M) (K : Int → rf_M → Prop) : Prop := ∃ Inv : Nat → Int → rf_M → Prop, (∃ m, Inv m v2 M) ∧ ∀ (m : Nat) (v2 : Int) (M : rf_M), Inv m v2 M → w_behind_2b v2 M (fun (v2' : Int) (M' : rf_M) => ∃ m', m' < m ∧ Inv m' v2' M') K
theorem W_behind_2 {fz : Bool} {S : gS} {B : rf_M} {M : rf_M} {ls : rf_L} {v2 : Int} {K : Int → rf_M → Prop} (hS : rk fz S B.2.2) (hR : fq B M) (a0 : rf_ld ls 0 = some (.ref 353)) (a2 : rf_ld ls 2 = some (zv v2)) (h : w_behind_2 v2 M K) : gx (cx0 fz) (0, 0) 170 2 ls [] (M, S) (vq_i B S K) := by
  obtain ⟨Inv, ⟨m, hm⟩, hb⟩ := h
  induction m using Nat.strongRecOn generalizing ls M v2 with
  | _ m ih =>
    refine W_behind_2b hS hR a0 a2 (fun v2' M' ls' hR' f0 f1 ⟨m', q1, q2⟩ => ih m' q1 hR' f0 f1 q2) (hb m v2 M hm)
def w_behind (v1 : Int) (M : rf_M) (K : Int → rf_M → Prop) : Prop := w_behind_2 v1 M K
theorem W_behind {fz : Bool} {S : gS} {B : rf_M} {M : rf_M} {ls : rf_L} {v1 : Int} {K : Int → rf_M → Prop} (hS : rk fz S B.2.2) (hR : fq B M) (a0 : rf_ld ls 0 = some (.ref 353)) (a1 : rf_ld ls 1 = some (zv v1)) (h : w_behind v1 M K) : gx (cx0 fz) (0, 0) 170 0 ls [] (M, S) (vq_i B S K) := by
  unfold w_behind at h
  refine g1 (n := 1) rfl rfl rfl (li_of a1) ?_
  refine n_s1 (n := 1) rfl rfl rfl rfl (fun ls l1 ho => ?_)
  replace a0 := ho 0 _ (by decide) (fun q => by cases q.2) a0
  exact W_behind_2 hS hR a0 l1 h
def wm_behind (x0 : Int) (M : rf_M) (K : Int → rf_M → Prop) : Prop := w_behind x0 M K
theorem W_behind_m {fz : Bool} {S : gS} {B : rf_M} {M : rf_M} {x0 : Int} {K : Int → rf_M → Prop} (hS : rk fz S B.2.2) (hR : fq B M) (h : wm_behind x0 M K) : gx (cx0 fz) (0, 0) 170 0 (lv_args 0 [.ref 353, zv x0]) [] (M, S) (vq_i B S K) :=
  W_behind hS hR rfl rfl h
def w_goIn_28 (s1 : Int) (M : rf_M) (K : rf_M → Prop) : Prop := ∀ M1 : rf_M, M1 = wi M 353 60 s1 → (K M1)
theorem W_goIn_28 {fz : Bool} {S : gS} {B : rf_M} {M : rf_M} {ls : rf_L} {s1 : Int} {K : rf_M → Prop} (hS : rk fz S B.2.2) (hR : fq B M) (h : w_goIn_28 s1 M K) : gx (cx0 fz) (1, 22) 169 28 ls [zv s1, .ref 353] (M, S) (vq_v B S K) := by
  unfold w_goIn_28 at h
  refine n_pi (Nat.le_of_ble_eq_true rfl) rfl hS.1 rfl (fun _ _ => rfl) (fun M1 e r => ?_)
  replace h := h M1 e
  have r1 := hR.trans r
  exact gx_ret rfl rfl ⟨M1, rfl, rfl, r1, h⟩
def w_goIn (v1 : Int) (v2 : Int) (M : rf_M) (K : rf_M → Prop) : Prop := inr v2 ∧ ((v2 < 0 → ((0 ≤ v1 ∧ v1 < 480) ∧ (((gi M 360 (v1).toNat) = 2 → (w_goIn_28 v1 M K)) ∧ (¬ (gi M 360 (v1).toNat) = 2 → (wm_behind v1 M (fun (z1 : Int) (M1 : rf_M) => w_goIn_28 z1 M1 K)))))) ∧ (¬ (v2 < 0) → (w_goIn_28 v2 M K)))
theorem W_goIn {fz : Bool} {S : gS} {B : rf_M} {M : rf_M} {ls : rf_L} {v1 : Int} {v2 : Int} {K : rf_M → Prop} (hS : rk fz S B.2.2) (hR : fq B M) (a0 : rf_ld ls 0 = some (.ref 353)) (a1 : rf_ld ls 1 = some (zv v1)) (a2 : rf_ld ls 2 = some (zv v2)) (h : w_goIn v1 v2 M K) : gx (cx0 fz) (1, 22) 169 0 ls [] (M, S) (vq_v B S K) := by
  unfold w_goIn at h
  refine g1 (n := 1) rfl rfl rfl (la_of a0) ?_
  refine g1 (n := 1) rfl rfl rfl (li_of a2) ?_
  obtain ⟨i1, h⟩ := h
  refine n_if rfl i1 (fun c => ?_) (fun c => ?_)
  · replace h := h.1 c
    refine g1 (n := 1) rfl rfl rfl (la_of a0) ?_
    refine n_gr rfl hS.1 rfl (fun _ => rfl) hR (rk_360 hS).2 ?_
    refine g1 (n := 1) rfl rfl rfl (li_of a1) ?_
    obtain ⟨q, h⟩ := h
    refine n_ia rfl (rk_360 hS).1 (Nat.le_of_ble_eq_true rfl) q ?_
    refine g1 (n := 1) rfl rfl rfl rfl ?_
    refine n_ic rfl (inr_gi _ _ _) ⟨by decide, by decide⟩ (fun c => ?_) (fun c => ?_)
    · replace h := h.2 c
      refine g1 (n := 1) rfl rfl rfl (la_of a0) ?_
      refine g1 (n := 1) rfl rfl rfl (li_of a1) ?_
      refine m_iv (a := 353) (as := [zv v1]) (rest := [.ref 353]) rfl (by decide) hS.1 rfl rfl (Nat.le_of_ble_eq_true rfl) ⟨Nat.le_of_ble_eq_true rfl, Nat.le_of_ble_eq_true rfl, Nat.le_of_ble_eq_true rfl⟩ ?_
      refine gx_room (gx_mono (W_behind_m hS hR h) ?_) (Nat.le_of_ble_eq_true rfl) (Nat.le_of_ble_eq_true rfl)
      rintro _ _ ⟨z1, M1, rfl, rfl, r1, h⟩
      exact W_goIn_28 hS r1  h
    · replace h := h.1 (Classical.not_not.mp c)
      refine g1 (n := 1) rfl rfl rfl (li_of a1) ?_
      refine g3 rfl rfl rfl ?_
      exact W_goIn_28 hS hR  h
  · replace h := h.2 c
    refine g1 (n := 1) rfl rfl rfl (li_of a2) ?_
    refine g3 rfl rfl rfl ?_
    exact W_goIn_28 hS hR  h
def wm_goIn (x0 : Int) (x1 : Int) (M : rf_M) (K : rf_M → Prop) : Prop := w_goIn x0 x1 M K
theorem W_goIn_m {fz : Bool} {S : gS} {B : rf_M} {M : rf_M} {x0 : Int} {x1 : Int} {K : rf_M → Prop} (hS : rk fz S B.2.2) (hR : fq B M) (h : wm_goIn x0 x1 M K) : gx (cx0 fz) (1, 22) 169 0 (lv_args 0 [.ref 353, zv x0, zv x1]) [] (M, S) (vq_v B S K) :=
  W_goIn hS hR rfl rfl rfl h
def w_throwFrom (v1 : Int) (M : rf_M) (K : Int → rf_M → Prop) : Prop := wm_around v1 7 M (fun (z1 : Int) (M1 : rf_M) => inr z1 ∧ ((0 ≤ z1 → (wm_bringBack z1 M1 (fun (M2 : rf_M) => (0 ≤ z1 ∧ z1 < 480) ∧ ((0 ≤ ((gi M2 367 (z1).toNat) - 16) ∧ ((gi M2 367 (z1).toNat) - 16) < 10) ∧ (∀ M3 : rf_M, M3 = wl M2 392 ((gi M2 367 (z1).toNat) - 16).toNat (gl M2 353 66) → ((0 ≤ z1 ∧ z1 < 480) ∧ (wm_goIn z1 (gi M3 366 (z1).toNat) M3 (fun (M4 : rf_M) => K 0 M4)))))))) ∧ (¬ (0 ≤ z1) → (K 2 M1))))
theorem W_throwFrom {fz : Bool} {S : gS} {B : rf_M} {M : rf_M} {ls : rf_L} {v1 : Int} {K : Int → rf_M → Prop} (hS : rk fz S B.2.2) (hR : fq B M) (a0 : rf_ld ls 0 = some (.ref 353)) (a1 : rf_ld ls 1 = some (zv v1)) (h : w_throwFrom v1 M K) : gx (cx0 fz) (2, 44) 166 0 ls [] (M, S) (vq_i B S K) := by
  unfold w_throwFrom at h
  refine g1 (n := 1) rfl rfl rfl (la_of a0) ?_
  refine g1 (n := 1) rfl rfl rfl (li_of a1) ?_
  refine n_bi rfl (by decide) ?_
  refine m_iv (a := 353) (as := [zv v1, zv 7]) (rest := []) rfl (by decide) hS.1 rfl rfl (Nat.le_of_ble_eq_true rfl) ⟨Nat.le_of_ble_eq_true rfl, Nat.le_of_ble_eq_true rfl, Nat.le_of_ble_eq_true rfl⟩ ?_
  refine gx_room (gx_mono (W_around_m hS hR h) ?_) (Nat.le_of_ble_eq_true rfl) (Nat.le_of_ble_eq_true rfl)
  rintro _ _ ⟨z1, M1, rfl, rfl, r1, h⟩
  refine n_s1 (n := 1) rfl rfl rfl rfl (fun ls l1 ho => ?_)
  replace a0 := ho 0 _ (by decide) (fun q => by cases q.2) a0
  refine g1 (n := 1) rfl rfl rfl (li_of l1) ?_
  obtain ⟨i1, h⟩ := h
  refine n_if rfl i1 (fun c => ?_) (fun c => ?_)
  · replace h := h.1 c
    refine g1 (n := 1) rfl rfl rfl (la_of a0) ?_
    refine g1 (n := 1) rfl rfl rfl (li_of l1) ?_
    refine m_iv (a := 353) (as := [zv z1]) (rest := []) rfl (by decide) hS.1 rfl rfl (Nat.le_of_ble_eq_true rfl) ⟨Nat.le_of_ble_eq_true rfl, Nat.le_of_ble_eq_true rfl, Nat.le_of_ble_eq_true rfl⟩ ?_
    refine gx_room (gx_mono (W_bringBack_m hS r1 h) ?_) (Nat.le_of_ble_eq_true rfl) (Nat.le_of_ble_eq_true rfl)
    rintro _ _ ⟨M2, rfl, rfl, r2, h⟩
    refine g1 (n := 1) rfl rfl rfl (la_of a0) ?_
    refine n_gr rfl hS.1 rfl (fun _ => rfl) r2 (rk_392 hS).2 ?_
    refine g1 (n := 1) rfl rfl rfl (la_of a0) ?_
    refine n_gr rfl hS.1 rfl (fun _ => rfl) r2 (rk_367 hS).2 ?_
    refine g1 (n := 1) rfl rfl rfl (li_of l1) ?_
    obtain ⟨q, h⟩ := h
    refine n_ia rfl (rk_367 hS).1 (Nat.le_of_ble_eq_true rfl) q ?_
    refine n_bi rfl (by decide) ?_
    refine n_sub rfl ?_
    refine g1 (n := 1) rfl rfl rfl (la_of a0) ?_
    refine n_gl rfl hS.1 rfl (fun _ => rfl) ?_
    obtain ⟨q, h⟩ := h
    refine n_ls (Nat.le_of_ble_eq_true rfl) rfl (rk_392 hS).1 (Nat.le_of_ble_eq_true rfl) q (fun M3 e r => ?_)
    replace h := h M3 e
    have r3 := r2.trans r
    refine g1 (n := 1) rfl rfl rfl (la_of a0) ?_
    refine g1 (n := 1) rfl rfl rfl (li_of l1) ?_
    refine g1 (n := 1) rfl rfl rfl (la_of a0) ?_
    refine n_gr rfl hS.1 rfl (fun _ => rfl) r3 (rk_366 hS).2 ?_
    refine g1 (n := 1) rfl rfl rfl (li_of l1) ?_
    obtain ⟨q, h⟩ := h
    refine n_ia rfl (rk_366 hS).1 (Nat.le_of_ble_eq_true rfl) q ?_
    refine m_iv (a := 353) (as := [zv z1, zv (gi M3 366 (z1).toNat)]) (rest := []) rfl (by decide) hS.1 rfl rfl (Nat.le_of_ble_eq_true rfl) ⟨Nat.le_of_ble_eq_true rfl, Nat.le_of_ble_eq_true rfl, Nat.le_of_ble_eq_true rfl⟩ ?_
    refine gx_room (gx_mono (W_goIn_m hS r3 h) ?_) (Nat.le_of_ble_eq_true rfl) (Nat.le_of_ble_eq_true rfl)
    rintro _ _ ⟨M4, rfl, rfl, r4, h⟩
    refine g1 (n := 1) rfl rfl rfl rfl ?_
    exact gx_ret rfl rfl ⟨0, M4, rfl, rfl, r4, h⟩
  · replace h := h.2 c
    refine g1 (n := 1) rfl rfl rfl rfl ?_
    exact gx_ret rfl rfl ⟨2, M1, rfl, rfl, r1, h⟩
def wm_throwFrom (x0 : Int) (M : rf_M) (K : Int → rf_M → Prop) : Prop := w_throwFrom x0 M K
theorem W_throwFrom_m {fz : Bool} {S : gS} {B : rf_M} {M : rf_M} {x0 : Int} {K : Int → rf_M → Prop} (hS : rk fz S B.2.2) (hR : fq B M) (h : wm_throwFrom x0 M K) : gx (cx0 fz) (2, 44) 166 0 (lv_args 0 [.ref 353, zv x0]) [] (M, S) (vq_i B S K) :=
  W_throwFrom hS hR rfl rfl h
def w_retryFrom (v1 : Int) (M : rf_M) (K : Int → rf_M → Prop) : Prop := wm_around v1 5 M (fun (z1 : Int) (M1 : rf_M) => inr z1 ∧ ((0 ≤ z1 → (wm_bringBack z1 M1 (fun (M2 : rf_M) => (0 ≤ z1 ∧ z1 < 480) ∧ (wm_goIn z1 (gi M2 366 (z1).toNat) M2 (fun (M3 : rf_M) => K 0 M3))))) ∧ (¬ (0 ≤ z1) → (K 3 M1))))
theorem W_retryFrom {fz : Bool} {S : gS} {B : rf_M} {M : rf_M} {ls : rf_L} {v1 : Int} {K : Int → rf_M → Prop} (hS : rk fz S B.2.2) (hR : fq B M) (a0 : rf_ld ls 0 = some (.ref 353)) (a1 : rf_ld ls 1 = some (zv v1)) (h : w_retryFrom v1 M K) : gx (cx0 fz) (2, 44) 171 0 ls [] (M, S) (vq_i B S K) := by
  unfold w_retryFrom at h
  refine g1 (n := 1) rfl rfl rfl (la_of a0) ?_
  refine g1 (n := 1) rfl rfl rfl (li_of a1) ?_
  refine g1 (n := 1) rfl rfl rfl rfl ?_
  refine m_iv (a := 353) (as := [zv v1, zv 5]) (rest := []) rfl (by decide) hS.1 rfl rfl (Nat.le_of_ble_eq_true rfl) ⟨Nat.le_of_ble_eq_true rfl, Nat.le_of_ble_eq_true rfl, Nat.le_of_ble_eq_true rfl⟩ ?_
  refine gx_room (gx_mono (W_around_m hS hR h) ?_) (Nat.le_of_ble_eq_true rfl) (Nat.le_of_ble_eq_true rfl)
  rintro _ _ ⟨z1, M1, rfl, rfl, r1, h⟩
  refine n_s1 (n := 1) rfl rfl rfl rfl (fun ls l1 ho => ?_)
  replace a0 := ho 0 _ (by decide) (fun q => by cases q.2) a0
  refine g1 (n := 1) rfl rfl rfl (li_of l1) ?_
  obtain ⟨i1, h⟩ := h
  refine n_if rfl i1 (fun c => ?_) (fun c => ?_)
  · replace h := h.1 c
    refine g1 (n := 1) rfl rfl rfl (la_of a0) ?_
    refine g1 (n := 1) rfl rfl rfl (li_of l1) ?_
    refine m_iv (a := 353) (as := [zv z1]) (rest := []) rfl (by decide) hS.1 rfl rfl (Nat.le_of_ble_eq_true rfl) ⟨Nat.le_of_ble_eq_true rfl, Nat.le_of_ble_eq_true rfl, Nat.le_of_ble_eq_true rfl⟩ ?_
    refine gx_room (gx_mono (W_bringBack_m hS r1 h) ?_) (Nat.le_of_ble_eq_true rfl) (Nat.le_of_ble_eq_true rfl)
    rintro _ _ ⟨M2, rfl, rfl, r2, h⟩
    refine g1 (n := 1) rfl rfl rfl (la_of a0) ?_
    refine g1 (n := 1) rfl rfl rfl (li_of l1) ?_
    refine g1 (n := 1) rfl rfl rfl (la_of a0) ?_
    refine n_gr rfl hS.1 rfl (fun _ => rfl) r2 (rk_366 hS).2 ?_
    refine g1 (n := 1) rfl rfl rfl (li_of l1) ?_
    obtain ⟨q, h⟩ := h
    refine n_ia rfl (rk_366 hS).1 (Nat.le_of_ble_eq_true rfl) q ?_
    refine m_iv (a := 353) (as := [zv z1, zv (gi M2 366 (z1).toNat)]) (rest := []) rfl (by decide) hS.1 rfl rfl (Nat.le_of_ble_eq_true rfl) ⟨Nat.le_of_ble_eq_true rfl, Nat.le_of_ble_eq_true rfl, Nat.le_of_ble_eq_true rfl⟩ ?_
    refine gx_room (gx_mono (W_goIn_m hS r2 h) ?_) (Nat.le_of_ble_eq_true rfl) (Nat.le_of_ble_eq_true rfl)
    rintro _ _ ⟨M3, rfl, rfl, r3, h⟩
    refine g1 (n := 1) rfl rfl rfl rfl ?_
    exact gx_ret rfl rfl ⟨0, M3, rfl, rfl, r3, h⟩
  · replace h := h.2 c
    refine g1 (n := 1) rfl rfl rfl rfl ?_
    exact gx_ret rfl rfl ⟨3, M1, rfl, rfl, r1, h⟩
def wm_retryFrom (x0 : Int) (M : rf_M) (K : Int → rf_M → Prop) : Prop := w_retryFrom x0 M K
theorem W_retryFrom_m {fz : Bool} {S : gS} {B : rf_M} {M : rf_M} {x0 : Int} {K : Int → rf_M → Prop} (hS : rk fz S B.2.2) (hR : fq B M) (h : wm_retryFrom x0 M K) : gx (cx0 fz) (2, 44) 171 0 (lv_args 0 [.ref 353, zv x0]) [] (M, S) (vq_i B S K) :=
  W_retryFrom hS hR rfl rfl h
def w_keep_53b (v1 : Int) (v2 : Int) (M : rf_M) (b53 : Int → Int → rf_M → Prop) (K : rf_M → Prop) : Prop := inr v2 ∧ ((10 ≤ v2 → (K M)) ∧ (¬ (10 ≤ v2) → ((0 ≤ v2 ∧ v2 < 10) ∧ ((0 ≤ ((10 * v1) + v2) ∧ ((10 * v1) + v2) < 4800) ∧ (∀ M1 : rf_M, M1 = wl M 396 ((10 * v1) + v2).toNat (gl M 392 (v2).toNat) → (b53 v1 (v2 + 1) M1))))))
theorem W_keep_53b {fz : Bool} {S : gS} {B : rf_M} {M : rf_M} {ls : rf_L} {v1 : Int} {v2 : Int} {b53 : Int → Int → rf_M → Prop} {K : rf_M → Prop} (hS : rk fz S B.2.2) (hR : fq B M) (a0 : rf_ld ls 0 = some (.ref 353)) (a1 : rf_ld ls 1 = some (zv v1)) (a2 : rf_ld ls 2 = some (zv v2)) (hb53 : ∀ (v1 : Int) (v2 : Int) (M : rf_M) (ls : rf_L), fq B M → rf_ld ls 0 = some (.ref 353) → rf_ld ls 1 = some (zv v1) → rf_ld ls 2 = some (zv v2) → b53 v1 v2 M → gx (cx0 fz) (0, 0) 172 53 ls [] (M, S) (vq_v B S K)) (h : w_keep_53b v1 v2 M b53 K) : gx (cx0 fz) (0, 0) 172 53 ls [] (M, S) (vq_v B S K) := by
  unfold w_keep_53b at h
  refine g1 (n := 1) rfl rfl rfl (li_of a2) ?_
  refine n_bi rfl (by decide) ?_
  obtain ⟨i1, h⟩ := h
  refine n_ic rfl i1 ⟨by decide, by decide⟩ (fun c => ?_) (fun c => ?_)
  · replace h := h.1 c
    exact gx_ret rfl rfl ⟨M, rfl, rfl, hR, h⟩
  · replace h := h.2 c
    refine g1 (n := 1) rfl rfl rfl (la_of a0) ?_
    refine n_gr rfl hS.1 rfl (fun _ => rfl) hR (rk_396 hS).2 ?_
    refine n_bi rfl (by decide) ?_
    refine g1 (n := 1) rfl rfl rfl (li_of a1) ?_
    refine n_mul rfl ?_
    refine g1 (n := 1) rfl rfl rfl (li_of a2) ?_
    refine n_add rfl ?_
    refine g1 (n := 1) rfl rfl rfl (la_of a0) ?_
    refine n_gr rfl hS.1 rfl (fun _ => rfl) hR (rk_392 hS).2 ?_
    refine g1 (n := 1) rfl rfl rfl (li_of a2) ?_
    obtain ⟨q, h⟩ := h
    refine n_la rfl (rk_392 hS).1 (Nat.le_of_ble_eq_true rfl) q ?_
    obtain ⟨q, h⟩ := h
    refine n_ls (Nat.le_of_ble_eq_true rfl) rfl (rk_396 hS).1 (Nat.le_of_ble_eq_true rfl) q (fun M1 e r => ?_)
    replace h := h M1 e
    have r1 := hR.trans r
    refine n_ii rfl a2 (Nat.le_of_ble_eq_true rfl) (fun ls l1 ho => ?_)
    replace a0 := ho 0 _ (by decide) (fun q => by cases q.2) a0
    have l2 := ho 1 _ (by decide) (fun q => by cases q.2) a1
    refine g3 rfl rfl rfl ?_
    exact hb53 _ _ _ _ r1 a0 l2 l1 h
def w_keep_53 (v1 : Int) (v2 : Int) (M : rf_M) (K : rf_M → Prop) : Prop := ∃ Inv : Nat → Int → Int → rf_M → Prop, (∃ m, Inv m v1 v2 M) ∧ ∀ (m : Nat) (v1 : Int) (v2 : Int) (M : rf_M), Inv m v1 v2 M → w_keep_53b v1 v2 M (fun (v1' : Int) (v2' : Int) (M' : rf_M) => ∃ m', m' < m ∧ Inv m' v1' v2' M') K
theorem W_keep_53 {fz : Bool} {S : gS} {B : rf_M} {M : rf_M} {ls : rf_L} {v1 : Int} {v2 : Int} {K : rf_M → Prop} (hS : rk fz S B.2.2) (hR : fq B M) (a0 : rf_ld ls 0 = some (.ref 353)) (a1 : rf_ld ls 1 = some (zv v1)) (a2 : rf_ld ls 2 = some (zv v2)) (h : w_keep_53 v1 v2 M K) : gx (cx0 fz) (0, 0) 172 53 ls [] (M, S) (vq_v B S K) := by
  obtain ⟨Inv, ⟨m, hm⟩, hb⟩ := h
  induction m using Nat.strongRecOn generalizing ls M v1 v2 with
  | _ m ih =>
    refine W_keep_53b hS hR a0 a1 a2 (fun v1' v2' M' ls' hR' f0 f1 f2 ⟨m', q1, q2⟩ => ih m' q1 hR' f0 f1 f2 q2) (hb m v1 v2 M hm)
def w_keep_22b (v1 : Int) (v2 : Int) (M : rf_M) (b22 : Int → Int → rf_M → Prop) (K : rf_M → Prop) : Prop := inr v2 ∧ ((16 ≤ v2 → (w_keep_53 v1 0 M K)) ∧ (¬ (16 ≤ v2) → ((0 ≤ v2 ∧ v2 < 16) ∧ ((0 ≤ ((16 * v1) + v2) ∧ ((16 * v1) + v2) < 7680) ∧ (∀ M1 : rf_M, M1 = wl M 395 ((16 * v1) + v2).toNat (gl M 391 (v2).toNat) → (b22 v1 (v2 + 1) M1))))))
theorem W_keep_22b {fz : Bool} {S : gS} {B : rf_M} {M : rf_M} {ls : rf_L} {v1 : Int} {v2 : Int} {b22 : Int → Int → rf_M → Prop} {K : rf_M → Prop} (hS : rk fz S B.2.2) (hR : fq B M) (a0 : rf_ld ls 0 = some (.ref 353)) (a1 : rf_ld ls 1 = some (zv v1)) (a2 : rf_ld ls 2 = some (zv v2)) (hb22 : ∀ (v1 : Int) (v2 : Int) (M : rf_M) (ls : rf_L), fq B M → rf_ld ls 0 = some (.ref 353) → rf_ld ls 1 = some (zv v1) → rf_ld ls 2 = some (zv v2) → b22 v1 v2 M → gx (cx0 fz) (0, 0) 172 22 ls [] (M, S) (vq_v B S K)) (h : w_keep_22b v1 v2 M b22 K) : gx (cx0 fz) (0, 0) 172 22 ls [] (M, S) (vq_v B S K) := by
  unfold w_keep_22b at h
  refine g1 (n := 1) rfl rfl rfl (li_of a2) ?_
  refine n_bi rfl (by decide) ?_
  obtain ⟨i1, h⟩ := h
  refine n_ic rfl i1 ⟨by decide, by decide⟩ (fun c => ?_) (fun c => ?_)
  · replace h := h.1 c
    refine g1 (n := 1) rfl rfl rfl rfl ?_
    refine n_s1 (n := 1) rfl rfl rfl rfl (fun ls l1 ho => ?_)
    replace a0 := ho 0 _ (by decide) (fun q => by cases q.2) a0
    have l2 := ho 1 _ (by decide) (fun q => by cases q.2) a1
    exact W_keep_53 hS hR a0 l2 l1 h
  · replace h := h.2 c
    refine g1 (n := 1) rfl rfl rfl (la_of a0) ?_
    refine n_gr rfl hS.1 rfl (fun _ => rfl) hR (rk_395 hS).2 ?_
    refine n_bi rfl (by decide) ?_
    refine g1 (n := 1) rfl rfl rfl (li_of a1) ?_
    refine n_mul rfl ?_
    refine g1 (n := 1) rfl rfl rfl (li_of a2) ?_
    refine n_add rfl ?_
    refine g1 (n := 1) rfl rfl rfl (la_of a0) ?_
    refine n_gr rfl hS.1 rfl (fun _ => rfl) hR (rk_391 hS).2 ?_
    refine g1 (n := 1) rfl rfl rfl (li_of a2) ?_
    obtain ⟨q, h⟩ := h
    refine n_la rfl (rk_391 hS).1 (Nat.le_of_ble_eq_true rfl) q ?_
    obtain ⟨q, h⟩ := h
    refine n_ls (Nat.le_of_ble_eq_true rfl) rfl (rk_395 hS).1 (Nat.le_of_ble_eq_true rfl) q (fun M1 e r => ?_)
    replace h := h M1 e
    have r1 := hR.trans r
    refine n_ii rfl a2 (Nat.le_of_ble_eq_true rfl) (fun ls l3 ho => ?_)
    replace a0 := ho 0 _ (by decide) (fun q => by cases q.2) a0
    have l4 := ho 1 _ (by decide) (fun q => by cases q.2) a1
    refine g3 rfl rfl rfl ?_
    exact hb22 _ _ _ _ r1 a0 l4 l3 h
def w_keep_22 (v1 : Int) (v2 : Int) (M : rf_M) (K : rf_M → Prop) : Prop := ∃ Inv : Nat → Int → Int → rf_M → Prop, (∃ m, Inv m v1 v2 M) ∧ ∀ (m : Nat) (v1 : Int) (v2 : Int) (M : rf_M), Inv m v1 v2 M → w_keep_22b v1 v2 M (fun (v1' : Int) (v2' : Int) (M' : rf_M) => ∃ m', m' < m ∧ Inv m' v1' v2' M') K
theorem W_keep_22 {fz : Bool} {S : gS} {B : rf_M} {M : rf_M} {ls : rf_L} {v1 : Int} {v2 : Int} {K : rf_M → Prop} (hS : rk fz S B.2.2) (hR : fq B M) (a0 : rf_ld ls 0 = some (.ref 353)) (a1 : rf_ld ls 1 = some (zv v1)) (a2 : rf_ld ls 2 = some (zv v2)) (h : w_keep_22 v1 v2 M K) : gx (cx0 fz) (0, 0) 172 22 ls [] (M, S) (vq_v B S K) := by
  obtain ⟨Inv, ⟨m, hm⟩, hb⟩ := h
  induction m using Nat.strongRecOn generalizing ls M v1 v2 with
  | _ m ih =>
    refine W_keep_22b hS hR a0 a1 a2 (fun v1' v2' M' ls' hR' f0 f1 f2 ⟨m', q1, q2⟩ => ih m' q1 hR' f0 f1 f2 q2) (hb m v1 v2 M hm)
def w_keep (v1 : Int) (M : rf_M) (K : rf_M → Prop) : Prop := (0 ≤ v1 ∧ v1 < 480) ∧ (∀ M1 : rf_M, M1 = wi M 394 (v1).toNat (gi M 353 55) → ((0 ≤ v1 ∧ v1 < 480) ∧ (∀ M2 : rf_M, M2 = wi M1 397 (v1).toNat (gi M1 353 58) → (w_keep_22 v1 0 M2 K))))
theorem W_keep {fz : Bool} {S : gS} {B : rf_M} {M : rf_M} {ls : rf_L} {v1 : Int} {K : rf_M → Prop} (hS : rk fz S B.2.2) (hR : fq B M) (a0 : rf_ld ls 0 = some (.ref 353)) (a1 : rf_ld ls 1 = some (zv v1)) (h : w_keep v1 M K) : gx (cx0 fz) (0, 0) 172 0 ls [] (M, S) (vq_v B S K) := by
  unfold w_keep at h
  refine g1 (n := 1) rfl rfl rfl (la_of a0) ?_
  refine n_gr rfl hS.1 rfl (fun _ => rfl) hR (rk_394 hS).2 ?_
  refine g1 (n := 1) rfl rfl rfl (li_of a1) ?_
  refine g1 (n := 1) rfl rfl rfl (la_of a0) ?_
  refine n_gi rfl hS.1 rfl (fun _ => rfl) ?_
  obtain ⟨q, h⟩ := h
  refine n_is (Nat.le_of_ble_eq_true rfl) rfl (rk_394 hS).1 (Nat.le_of_ble_eq_true rfl) q (fun M1 e r => ?_)
  replace h := h M1 e
  have r1 := hR.trans r
  refine g1 (n := 1) rfl rfl rfl (la_of a0) ?_
  refine n_gr rfl hS.1 rfl (fun _ => rfl) r1 (rk_397 hS).2 ?_
  refine g1 (n := 1) rfl rfl rfl (li_of a1) ?_
  refine g1 (n := 1) rfl rfl rfl (la_of a0) ?_
  refine n_gi rfl hS.1 rfl (fun _ => rfl) ?_
  obtain ⟨q, h⟩ := h
  refine n_is (Nat.le_of_ble_eq_true rfl) rfl (rk_397 hS).1 (Nat.le_of_ble_eq_true rfl) q (fun M2 e r => ?_)
  replace h := h M2 e
  have r2 := r1.trans r
  refine g1 (n := 1) rfl rfl rfl rfl ?_
  refine n_s1 (n := 1) rfl rfl rfl rfl (fun ls l1 ho => ?_)
  replace a0 := ho 0 _ (by decide) (fun q => by cases q.2) a0
  have l2 := ho 1 _ (by decide) (fun q => by cases q.2) a1
  exact W_keep_22 hS r2 a0 l2 l1 h
