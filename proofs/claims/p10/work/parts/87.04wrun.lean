def w_keepRead_12 (v1 : Int) (v2 : Int) (M : rf_M) (K : rf_M → Prop) : Prop := ∃ Inv : Nat → Int → Int → rf_M → Prop, (∃ m, Inv m v1 v2 M) ∧ ∀ (m : Nat) (v1 : Int) (v2 : Int) (M : rf_M), Inv m v1 v2 M → w_keepRead_12b v1 v2 M (fun (v1' : Int) (v2' : Int) (M' : rf_M) => ∃ m', m' < m ∧ Inv m' v1' v2' M') K
theorem W_keepRead_12 {fz : Bool} {S : gS} {B : rf_M} {M : rf_M} {ls : rf_L} {v1 : Int} {v2 : Int} {K : rf_M → Prop} (hS : rk fz S B.2.2) (hR : fq B M) (a0 : rf_ld ls 0 = some (.ref 353)) (a1 : rf_ld ls 1 = some (zv v1)) (a2 : rf_ld ls 2 = some (zv v2)) (h : w_keepRead_12 v1 v2 M K) : gx (cx0 fz) (0, 0) 173 12 ls [] (M, S) (vq_v B S K) := by
  obtain ⟨Inv, ⟨m, hm⟩, hb⟩ := h
  induction m using Nat.strongRecOn generalizing ls M v1 v2 with
  | _ m ih =>
    refine W_keepRead_12b hS hR a0 a1 a2 (fun v1' v2' M' ls' hR' f0 f1 f2 ⟨m', q1, q2⟩ => ih m' q1 hR' f0 f1 f2 q2) (hb m v1 v2 M hm)
def w_keepRead (v1 : Int) (M : rf_M) (K : rf_M → Prop) : Prop := (0 ≤ v1 ∧ v1 < 8) ∧ (∀ M1 : rf_M, M1 = wi M 386 (v1).toNat (gi M 353 52) → (w_keepRead_12 v1 0 M1 K))
theorem W_keepRead {fz : Bool} {S : gS} {B : rf_M} {M : rf_M} {ls : rf_L} {v1 : Int} {K : rf_M → Prop} (hS : rk fz S B.2.2) (hR : fq B M) (a0 : rf_ld ls 0 = some (.ref 353)) (a1 : rf_ld ls 1 = some (zv v1)) (h : w_keepRead v1 M K) : gx (cx0 fz) (0, 0) 173 0 ls [] (M, S) (vq_v B S K) := by
  unfold w_keepRead at h
  refine g1 (n := 1) rfl rfl rfl (la_of a0) ?_
  refine n_gr rfl hS.1 rfl (fun _ => rfl) hR (rk_386 hS).2 ?_
  refine g1 (n := 1) rfl rfl rfl (li_of a1) ?_
  refine g1 (n := 1) rfl rfl rfl (la_of a0) ?_
  refine n_gi rfl hS.1 rfl (fun _ => rfl) ?_
  obtain ⟨q, h⟩ := h
  refine n_is (Nat.le_of_ble_eq_true rfl) rfl (rk_386 hS).1 (Nat.le_of_ble_eq_true rfl) q (fun M1 e r => ?_)
  replace h := h M1 e
  have r1 := hR.trans r
  refine g1 (n := 1) rfl rfl rfl rfl ?_
  refine n_s1 (n := 1) rfl rfl rfl rfl (fun ls l1 ho => ?_)
  replace a0 := ho 0 _ (by decide) (fun q => by cases q.2) a0
  have l2 := ho 1 _ (by decide) (fun q => by cases q.2) a1
  exact W_keepRead_12 hS r1 a0 l2 l1 h
def wm_keepRead (x0 : Int) (M : rf_M) (K : rf_M → Prop) : Prop := w_keepRead x0 M K
theorem W_keepRead_m {fz : Bool} {S : gS} {B : rf_M} {M : rf_M} {x0 : Int} {K : rf_M → Prop} (hS : rk fz S B.2.2) (hR : fq B M) (h : wm_keepRead x0 M K) : gx (cx0 fz) (0, 0) 173 0 (lv_args 0 [.ref 353, zv x0]) [] (M, S) (vq_v B S K) :=
  W_keepRead hS hR rfl rfl h
def w_cutRun_60 (s1 : Int) (s2 : Int) (M : rf_M) (K : Int → rf_M → Prop) : Prop := (0 ≤ s1 ∧ s1 < 8) ∧ (∀ M1 : rf_M, M1 = wi M 385 (s1).toNat (Int32.ofInt s2 &&& 1).toInt → (K 3 M1))
theorem W_cutRun_60 {fz : Bool} {S : gS} {B : rf_M} {M : rf_M} {ls : rf_L} {s1 : Int} {s2 : Int} {K : Int → rf_M → Prop} (hS : rk fz S B.2.2) (hR : fq B M) (h : w_cutRun_60 s1 s2 M K) : gx (cx0 fz) (0, 0) 174 60 ls [zv s2, zv s1, .ref 385] (M, S) (vq_i B S K) := by
  unfold w_cutRun_60 at h
  obtain ⟨q, h⟩ := h
  refine n_zs (Nat.le_of_ble_eq_true rfl) rfl (rk_385 hS).1 (Nat.le_of_ble_eq_true rfl) q (fun M1 e r => ?_)
  replace h := h M1 e
  have r1 := hR.trans r
  refine g1 (n := 1) rfl rfl rfl rfl ?_
  exact gx_ret rfl rfl ⟨3, M1, rfl, rfl, r1, h⟩
def w_cutRun_55 (s1 : Int) (M : rf_M) (K : Int → rf_M → Prop) : Prop := w_cutRun_60 s1 1 M K
theorem W_cutRun_55 {fz : Bool} {S : gS} {B : rf_M} {M : rf_M} {ls : rf_L} {s1 : Int} {K : Int → rf_M → Prop} (hS : rk fz S B.2.2) (hR : fq B M) (h : w_cutRun_55 s1 M K) : gx (cx0 fz) (0, 0) 174 55 ls [zv s1, .ref 385] (M, S) (vq_i B S K) := by
  unfold w_cutRun_55 at h
  refine g1 (n := 1) rfl rfl rfl rfl ?_
  refine g3 rfl rfl rfl ?_
  exact W_cutRun_60 hS hR  h
def w_cutRun (v1 : Int) (M : rf_M) (K : Int → rf_M → Prop) : Prop := (0 ≤ v1 ∧ v1 < 8) ∧ (∀ M1 : rf_M, M1 = wi M 382 (v1).toNat 0 → ((0 ≤ v1 ∧ v1 < 8) ∧ (∀ M2 : rf_M, M2 = wi M1 383 (v1).toNat 0 → ((0 ≤ v1 ∧ v1 < 8) ∧ (∀ M3 : rf_M, M3 = wi M2 386 (v1).toNat 0 → ((0 ≤ v1 ∧ v1 < 8) ∧ ((0 ≤ v1 ∧ v1 < 8) ∧ (∀ M4 : rf_M, M4 = wi M3 384 (v1).toNat ((gi M3 384 (v1).toNat) + 1) → ((0 ≤ v1 ∧ v1 < 8) ∧ (((gi M4 385 (v1).toNat) = 0 → ((0 ≤ v1 ∧ v1 < 8) ∧ (((gi M4 384 (v1).toNat) < 4 → (w_cutRun_60 v1 0 M4 K)) ∧ (¬ ((gi M4 384 (v1).toNat) < 4) → (w_cutRun_55 v1 M4 K))))) ∧ (¬ (gi M4 385 (v1).toNat) = 0 → (w_cutRun_55 v1 M4 K))))))))))))
theorem W_cutRun {fz : Bool} {S : gS} {B : rf_M} {M : rf_M} {ls : rf_L} {v1 : Int} {K : Int → rf_M → Prop} (hS : rk fz S B.2.2) (hR : fq B M) (a0 : rf_ld ls 0 = some (.ref 353)) (a1 : rf_ld ls 1 = some (zv v1)) (h : w_cutRun v1 M K) : gx (cx0 fz) (0, 0) 174 0 ls [] (M, S) (vq_i B S K) := by
  unfold w_cutRun at h
  refine g1 (n := 1) rfl rfl rfl (la_of a0) ?_
  refine n_gr rfl hS.1 rfl (fun _ => rfl) hR (rk_382 hS).2 ?_
  refine g1 (n := 1) rfl rfl rfl (li_of a1) ?_
  refine g1 (n := 1) rfl rfl rfl rfl ?_
  obtain ⟨q, h⟩ := h
  refine n_is (Nat.le_of_ble_eq_true rfl) rfl (rk_382 hS).1 (Nat.le_of_ble_eq_true rfl) q (fun M1 e r => ?_)
  replace h := h M1 e
  have r1 := hR.trans r
  refine g1 (n := 1) rfl rfl rfl (la_of a0) ?_
  refine n_gr rfl hS.1 rfl (fun _ => rfl) r1 (rk_383 hS).2 ?_
  refine g1 (n := 1) rfl rfl rfl (li_of a1) ?_
  refine g1 (n := 1) rfl rfl rfl rfl ?_
  obtain ⟨q, h⟩ := h
  refine n_is (Nat.le_of_ble_eq_true rfl) rfl (rk_383 hS).1 (Nat.le_of_ble_eq_true rfl) q (fun M2 e r => ?_)
  replace h := h M2 e
  have r2 := r1.trans r
  refine g1 (n := 1) rfl rfl rfl (la_of a0) ?_
  refine n_gr rfl hS.1 rfl (fun _ => rfl) r2 (rk_386 hS).2 ?_
  refine g1 (n := 1) rfl rfl rfl (li_of a1) ?_
  refine g1 (n := 1) rfl rfl rfl rfl ?_
  obtain ⟨q, h⟩ := h
  refine n_is (Nat.le_of_ble_eq_true rfl) rfl (rk_386 hS).1 (Nat.le_of_ble_eq_true rfl) q (fun M3 e r => ?_)
  replace h := h M3 e
  have r3 := r2.trans r
  refine g1 (n := 1) rfl rfl rfl (la_of a0) ?_
  refine n_gr rfl hS.1 rfl (fun _ => rfl) r3 (rk_384 hS).2 ?_
  refine g1 (n := 1) rfl rfl rfl (li_of a1) ?_
  refine g0 rfl rfl rfl ?_
  obtain ⟨q, h⟩ := h
  refine n_ia rfl (rk_384 hS).1 (Nat.le_of_ble_eq_true rfl) q ?_
  refine g1 (n := 1) rfl rfl rfl rfl ?_
  refine n_add rfl ?_
  obtain ⟨q, h⟩ := h
  refine n_is (Nat.le_of_ble_eq_true rfl) rfl (rk_384 hS).1 (Nat.le_of_ble_eq_true rfl) q (fun M4 e r => ?_)
  replace h := h M4 e
  have r4 := r3.trans r
  refine g1 (n := 1) rfl rfl rfl (la_of a0) ?_
  refine n_gr rfl hS.1 rfl (fun _ => rfl) r4 (rk_385 hS).2 ?_
  refine g1 (n := 1) rfl rfl rfl (li_of a1) ?_
  refine g1 (n := 1) rfl rfl rfl (la_of a0) ?_
  refine n_gr rfl hS.1 rfl (fun _ => rfl) r4 (rk_385 hS).2 ?_
  refine g1 (n := 1) rfl rfl rfl (li_of a1) ?_
  obtain ⟨q, h⟩ := h
  refine n_za rfl (rk_385 hS).1 (Nat.le_of_ble_eq_true rfl) q ?_
  refine n_if rfl (inr_gi _ _ _) (fun c => ?_) (fun c => ?_)
  · replace h := h.2 c
    exact W_cutRun_55 hS r4  h
  · replace h := h.1 (Classical.not_not.mp c)
    refine g1 (n := 1) rfl rfl rfl (la_of a0) ?_
    refine n_gr rfl hS.1 rfl (fun _ => rfl) r4 (rk_384 hS).2 ?_
    refine g1 (n := 1) rfl rfl rfl (li_of a1) ?_
    obtain ⟨q, h⟩ := h
    refine n_ia rfl (rk_384 hS).1 (Nat.le_of_ble_eq_true rfl) q ?_
    refine g1 (n := 1) rfl rfl rfl rfl ?_
    refine n_ic rfl (inr_gi _ _ _) ⟨by decide, by decide⟩ (fun c => ?_) (fun c => ?_)
    · replace h := h.1 c
      refine g1 (n := 1) rfl rfl rfl rfl ?_
      exact W_cutRun_60 hS r4  h
    · replace h := h.2 c
      exact W_cutRun_55 hS r4  h
def wm_cutRun (x0 : Int) (M : rf_M) (K : Int → rf_M → Prop) : Prop := w_cutRun x0 M K
theorem W_cutRun_m {fz : Bool} {S : gS} {B : rf_M} {M : rf_M} {x0 : Int} {K : Int → rf_M → Prop} (hS : rk fz S B.2.2) (hR : fq B M) (h : wm_cutRun x0 M K) : gx (cx0 fz) (0, 0) 174 0 (lv_args 0 [.ref 353, zv x0]) [] (M, S) (vq_i B S K) :=
  W_cutRun hS hR rfl rfl h
def w_isHeld_33 (v1 : Int) (v3 : Int) (s0 : Int) (M : rf_M) (b4 : Int → Int → Int → rf_M → Prop) (K : Int → rf_M → Prop) : Prop := b4 v1 s0 (v3 + 1) M
theorem W_isHeld_33 {fz : Bool} {S : gS} {B : rf_M} {M : rf_M} {ls : rf_L} {v1 : Int} {v3 : Int} {s0 : Int} {b4 : Int → Int → Int → rf_M → Prop} {K : Int → rf_M → Prop} (hS : rk fz S B.2.2) (hR : fq B M) (a0 : rf_ld ls 0 = some (.ref 353)) (a1 : rf_ld ls 1 = some (zv v1)) (a3 : rf_ld ls 3 = some (zv v3)) (hb4 : ∀ (v1 : Int) (v2 : Int) (v3 : Int) (M : rf_M) (ls : rf_L), fq B M → rf_ld ls 0 = some (.ref 353) → rf_ld ls 1 = some (zv v1) → rf_ld ls 2 = some (zv v2) → rf_ld ls 3 = some (zv v3) → b4 v1 v2 v3 M → gx (cx0 fz) (0, 0) 175 4 ls [] (M, S) (vq_i B S K)) (h : w_isHeld_33 v1 v3 s0 M b4 K) : gx (cx0 fz) (0, 0) 175 33 ls [zv s0] (M, S) (vq_i B S K) := by
  unfold w_isHeld_33 at h
  refine n_s1 (n := 1) rfl rfl rfl rfl (fun ls l1 ho => ?_)
  replace a0 := ho 0 _ (by decide) (fun q => by cases q.2) a0
  have l2 := ho 1 _ (by decide) (fun q => by cases q.2) a1
  have l3 := ho 3 _ (by decide) (fun q => by cases q.2) a3
  refine n_ii rfl l3 (Nat.le_of_ble_eq_true rfl) (fun ls l4 ho => ?_)
  replace a0 := ho 0 _ (by decide) (fun q => by cases q.2) a0
  have l5 := ho 1 _ (by decide) (fun q => by cases q.2) l2
  have l6 := ho 2 _ (by decide) (fun q => by cases q.2) l1
  refine g3 rfl rfl rfl ?_
  exact hb4 _ _ _ _ _ hR a0 l5 l6 l4 h
def w_isHeld_28 (v1 : Int) (v3 : Int) (M : rf_M) (b4 : Int → Int → Int → rf_M → Prop) (K : Int → rf_M → Prop) : Prop := w_isHeld_33 v1 v3 1 M b4 K
theorem W_isHeld_28 {fz : Bool} {S : gS} {B : rf_M} {M : rf_M} {ls : rf_L} {v1 : Int} {v3 : Int} {b4 : Int → Int → Int → rf_M → Prop} {K : Int → rf_M → Prop} (hS : rk fz S B.2.2) (hR : fq B M) (a0 : rf_ld ls 0 = some (.ref 353)) (a1 : rf_ld ls 1 = some (zv v1)) (a3 : rf_ld ls 3 = some (zv v3)) (hb4 : ∀ (v1 : Int) (v2 : Int) (v3 : Int) (M : rf_M) (ls : rf_L), fq B M → rf_ld ls 0 = some (.ref 353) → rf_ld ls 1 = some (zv v1) → rf_ld ls 2 = some (zv v2) → rf_ld ls 3 = some (zv v3) → b4 v1 v2 v3 M → gx (cx0 fz) (0, 0) 175 4 ls [] (M, S) (vq_i B S K)) (h : w_isHeld_28 v1 v3 M b4 K) : gx (cx0 fz) (0, 0) 175 28 ls [] (M, S) (vq_i B S K) := by
  unfold w_isHeld_28 at h
  refine g1 (n := 1) rfl rfl rfl rfl ?_
  refine g3 rfl rfl rfl ?_
  exact W_isHeld_33 hS hR a0 a1 a3 hb4 h
def w_isHeld_32 (v1 : Int) (v3 : Int) (M : rf_M) (b4 : Int → Int → Int → rf_M → Prop) (K : Int → rf_M → Prop) : Prop := w_isHeld_33 v1 v3 0 M b4 K
theorem W_isHeld_32 {fz : Bool} {S : gS} {B : rf_M} {M : rf_M} {ls : rf_L} {v1 : Int} {v3 : Int} {b4 : Int → Int → Int → rf_M → Prop} {K : Int → rf_M → Prop} (hS : rk fz S B.2.2) (hR : fq B M) (a0 : rf_ld ls 0 = some (.ref 353)) (a1 : rf_ld ls 1 = some (zv v1)) (a3 : rf_ld ls 3 = some (zv v3)) (hb4 : ∀ (v1 : Int) (v2 : Int) (v3 : Int) (M : rf_M) (ls : rf_L), fq B M → rf_ld ls 0 = some (.ref 353) → rf_ld ls 1 = some (zv v1) → rf_ld ls 2 = some (zv v2) → rf_ld ls 3 = some (zv v3) → b4 v1 v2 v3 M → gx (cx0 fz) (0, 0) 175 4 ls [] (M, S) (vq_i B S K)) (h : w_isHeld_32 v1 v3 M b4 K) : gx (cx0 fz) (0, 0) 175 32 ls [] (M, S) (vq_i B S K) := by
  unfold w_isHeld_32 at h
  refine g1 (n := 1) rfl rfl rfl rfl ?_
  exact W_isHeld_33 hS hR a0 a1 a3 hb4 h
def w_isHeld_58 (s0 : Int) (M : rf_M) (K : Int → rf_M → Prop) : Prop := (s0 = 0 ∨ s0 = 1) ∧ K s0 M
theorem W_isHeld_58 {fz : Bool} {S : gS} {B : rf_M} {M : rf_M} {ls : rf_L} {s0 : Int} {K : Int → rf_M → Prop} (hS : rk fz S B.2.2) (hR : fq B M) (h : w_isHeld_58 s0 M K) : gx (cx0 fz) (0, 0) 175 58 ls [zv s0] (M, S) (vq_i B S K) := by
  unfold w_isHeld_58 at h
  exact n_rb rfl rfl h.1 hR h.2
def w_isHeld_57 (M : rf_M) (K : Int → rf_M → Prop) : Prop := w_isHeld_58 0 M K
theorem W_isHeld_57 {fz : Bool} {S : gS} {B : rf_M} {M : rf_M} {ls : rf_L} {K : Int → rf_M → Prop} (hS : rk fz S B.2.2) (hR : fq B M) (h : w_isHeld_57 M K) : gx (cx0 fz) (0, 0) 175 57 ls [] (M, S) (vq_i B S K) := by
  unfold w_isHeld_57 at h
  refine g1 (n := 1) rfl rfl rfl rfl ?_
  exact W_isHeld_58 hS hR  h
def w_isHeld_4b (v1 : Int) (v2 : Int) (v3 : Int) (M : rf_M) (b4 : Int → Int → Int → rf_M → Prop) (K : Int → rf_M → Prop) : Prop := inr v3 ∧ ((8 ≤ v3 → (inr v2 ∧ ((v2 = 0 → (w_isHeld_57 M K)) ∧ (¬ (v2 = 0) → ((0 ≤ v1 ∧ v1 < 8) ∧ (((gi M 385 (v1).toNat) = 0 → (w_isHeld_58 1 M K)) ∧ (¬ (gi M 385 (v1).toNat) = 0 → (w_isHeld_57 M K)))))))) ∧ (¬ (8 ≤ v3) → (inr v2 ∧ ((v2 = 0 → (inr v3 ∧ (inr v1 ∧ ((v3 = v1 → (w_isHeld_32 v1 v3 M b4 K)) ∧ (¬ (v3 = v1) → ((0 ≤ v3 ∧ v3 < 8) ∧ (((gi M 385 (v3).toNat) = 0 → (w_isHeld_32 v1 v3 M b4 K)) ∧ (¬ ((gi M 385 (v3).toNat) = 0) → (w_isHeld_28 v1 v3 M b4 K))))))))) ∧ (¬ v2 = 0 → (w_isHeld_28 v1 v3 M b4 K))))))
theorem W_isHeld_4b {fz : Bool} {S : gS} {B : rf_M} {M : rf_M} {ls : rf_L} {v1 : Int} {v2 : Int} {v3 : Int} {b4 : Int → Int → Int → rf_M → Prop} {K : Int → rf_M → Prop} (hS : rk fz S B.2.2) (hR : fq B M) (a0 : rf_ld ls 0 = some (.ref 353)) (a1 : rf_ld ls 1 = some (zv v1)) (a2 : rf_ld ls 2 = some (zv v2)) (a3 : rf_ld ls 3 = some (zv v3)) (hb4 : ∀ (v1 : Int) (v2 : Int) (v3 : Int) (M : rf_M) (ls : rf_L), fq B M → rf_ld ls 0 = some (.ref 353) → rf_ld ls 1 = some (zv v1) → rf_ld ls 2 = some (zv v2) → rf_ld ls 3 = some (zv v3) → b4 v1 v2 v3 M → gx (cx0 fz) (0, 0) 175 4 ls [] (M, S) (vq_i B S K)) (h : w_isHeld_4b v1 v2 v3 M b4 K) : gx (cx0 fz) (0, 0) 175 4 ls [] (M, S) (vq_i B S K) := by
  unfold w_isHeld_4b at h
  refine g1 (n := 1) rfl rfl rfl (li_of a3) ?_
  refine n_bi rfl (by decide) ?_
  obtain ⟨i1, h⟩ := h
  refine n_ic rfl i1 ⟨by decide, by decide⟩ (fun c => ?_) (fun c => ?_)
  · replace h := h.1 c
    refine g1 (n := 1) rfl rfl rfl (li_of a2) ?_
    obtain ⟨i2, h⟩ := h
    refine n_if rfl i2 (fun c => ?_) (fun c => ?_)
    · replace h := h.1 c
      exact W_isHeld_57 hS hR  h
    · replace h := h.2 c
      refine g1 (n := 1) rfl rfl rfl (la_of a0) ?_
      refine n_gr rfl hS.1 rfl (fun _ => rfl) hR (rk_385 hS).2 ?_
      refine g1 (n := 1) rfl rfl rfl (li_of a1) ?_
      obtain ⟨q, h⟩ := h
      refine n_za rfl (rk_385 hS).1 (Nat.le_of_ble_eq_true rfl) q ?_
      refine n_if rfl (inr_gi _ _ _) (fun c => ?_) (fun c => ?_)
      · replace h := h.2 c
        exact W_isHeld_57 hS hR  h
      · replace h := h.1 (Classical.not_not.mp c)
        refine g1 (n := 1) rfl rfl rfl rfl ?_
        refine g3 rfl rfl rfl ?_
        exact W_isHeld_58 hS hR  h
  · replace h := h.2 c
    refine g1 (n := 1) rfl rfl rfl (li_of a2) ?_
    obtain ⟨i3, h⟩ := h
    refine n_if rfl i3 (fun c => ?_) (fun c => ?_)
    · replace h := h.2 c
      exact W_isHeld_28 hS hR a0 a1 a3 hb4 h
    · replace h := h.1 (Classical.not_not.mp c)
      refine g1 (n := 1) rfl rfl rfl (li_of a3) ?_
      refine g1 (n := 1) rfl rfl rfl (li_of a1) ?_
      obtain ⟨i4, h⟩ := h
      obtain ⟨i5, h⟩ := h
      refine n_ic rfl i4 i5 (fun c => ?_) (fun c => ?_)
      · replace h := h.1 c
        exact W_isHeld_32 hS hR a0 a1 a3 hb4 h
      · replace h := h.2 c
        refine g1 (n := 1) rfl rfl rfl (la_of a0) ?_
        refine n_gr rfl hS.1 rfl (fun _ => rfl) hR (rk_385 hS).2 ?_
        refine g1 (n := 1) rfl rfl rfl (li_of a3) ?_
        obtain ⟨q, h⟩ := h
        refine n_za rfl (rk_385 hS).1 (Nat.le_of_ble_eq_true rfl) q ?_
        refine n_if rfl (inr_gi _ _ _) (fun c => ?_) (fun c => ?_)
        · replace h := h.1 c
          exact W_isHeld_32 hS hR a0 a1 a3 hb4 h
        · replace h := h.2 c
          exact W_isHeld_28 hS hR a0 a1 a3 hb4 h
def w_isHeld_4 (v1 : Int) (v2 : Int) (v3 : Int) (M : rf_M) (K : Int → rf_M → Prop) : Prop := ∃ Inv : Nat → Int → Int → Int → rf_M → Prop, (∃ m, Inv m v1 v2 v3 M) ∧ ∀ (m : Nat) (v1 : Int) (v2 : Int) (v3 : Int) (M : rf_M), Inv m v1 v2 v3 M → w_isHeld_4b v1 v2 v3 M (fun (v1' : Int) (v2' : Int) (v3' : Int) (M' : rf_M) => ∃ m', m' < m ∧ Inv m' v1' v2' v3' M') K
theorem W_isHeld_4 {fz : Bool} {S : gS} {B : rf_M} {M : rf_M} {ls : rf_L} {v1 : Int} {v2 : Int} {v3 : Int} {K : Int → rf_M → Prop} (hS : rk fz S B.2.2) (hR : fq B M) (a0 : rf_ld ls 0 = some (.ref 353)) (a1 : rf_ld ls 1 = some (zv v1)) (a2 : rf_ld ls 2 = some (zv v2)) (a3 : rf_ld ls 3 = some (zv v3)) (h : w_isHeld_4 v1 v2 v3 M K) : gx (cx0 fz) (0, 0) 175 4 ls [] (M, S) (vq_i B S K) := by
  obtain ⟨Inv, ⟨m, hm⟩, hb⟩ := h
  induction m using Nat.strongRecOn generalizing ls M v1 v2 v3 with
  | _ m ih =>
    refine W_isHeld_4b hS hR a0 a1 a2 a3 (fun v1' v2' v3' M' ls' hR' f0 f1 f2 f3 ⟨m', q1, q2⟩ => ih m' q1 hR' f0 f1 f2 f3 q2) (hb m v1 v2 v3 M hm)
def w_isHeld (v1 : Int) (M : rf_M) (K : Int → rf_M → Prop) : Prop := w_isHeld_4 v1 0 0 M K
theorem W_isHeld {fz : Bool} {S : gS} {B : rf_M} {M : rf_M} {ls : rf_L} {v1 : Int} {K : Int → rf_M → Prop} (hS : rk fz S B.2.2) (hR : fq B M) (a0 : rf_ld ls 0 = some (.ref 353)) (a1 : rf_ld ls 1 = some (zv v1)) (h : w_isHeld v1 M K) : gx (cx0 fz) (0, 0) 175 0 ls [] (M, S) (vq_i B S K) := by
  unfold w_isHeld at h
  refine g1 (n := 1) rfl rfl rfl rfl ?_
  refine n_s1 (n := 1) rfl rfl rfl rfl (fun ls l1 ho => ?_)
  replace a0 := ho 0 _ (by decide) (fun q => by cases q.2) a0
  have l2 := ho 1 _ (by decide) (fun q => by cases q.2) a1
  refine g1 (n := 1) rfl rfl rfl rfl ?_
  refine n_s1 (n := 1) rfl rfl rfl rfl (fun ls l3 ho => ?_)
  replace a0 := ho 0 _ (by decide) (fun q => by cases q.2) a0
  have l4 := ho 1 _ (by decide) (fun q => by cases q.2) l2
  have l5 := ho 2 _ (by decide) (fun q => by cases q.2) l1
  exact W_isHeld_4 hS hR a0 l4 l5 l3 h
def wm_isHeld (x0 : Int) (M : rf_M) (K : Int → rf_M → Prop) : Prop := w_isHeld x0 M K
theorem W_isHeld_m {fz : Bool} {S : gS} {B : rf_M} {M : rf_M} {x0 : Int} {K : Int → rf_M → Prop} (hS : rk fz S B.2.2) (hR : fq B M) (h : wm_isHeld x0 M K) : gx (cx0 fz) (0, 0) 175 0 (lv_args 0 [.ref 353, zv x0]) [] (M, S) (vq_i B S K) :=
  W_isHeld hS hR rfl rfl h
def w_addRow (v1 : Int) (v2 : Int) (v3 : Int) (v4 : Int) (v5 : Int) (v6 : Int64) (M : rf_M) (K : rf_M → Prop) : Prop := (0 ≤ (gi M 353 69) ∧ (gi M 353 69) < 300) ∧ (∀ M1 : rf_M, M1 = wi M 400 (gi M 353 69).toNat v1 → ((0 ≤ (gi M1 353 69) ∧ (gi M1 353 69) < 300) ∧ (∀ M2 : rf_M, M2 = wi M1 401 (gi M1 353 69).toNat v2 → ((0 ≤ (gi M2 353 69) ∧ (gi M2 353 69) < 300) ∧ (∀ M3 : rf_M, M3 = wi M2 402 (gi M2 353 69).toNat v3 → ((0 ≤ (gi M3 353 69) ∧ (gi M3 353 69) < 300) ∧ (∀ M4 : rf_M, M4 = wi M3 403 (gi M3 353 69).toNat v4 → ((0 ≤ (gi M4 353 69) ∧ (gi M4 353 69) < 300) ∧ (∀ M5 : rf_M, M5 = wi M4 404 (gi M4 353 69).toNat v5 → ((0 ≤ (gi M5 353 69) ∧ (gi M5 353 69) < 300) ∧ (∀ M6 : rf_M, M6 = wl M5 405 (gi M5 353 69).toNat v6 → (∀ M7 : rf_M, M7 = wi M6 353 69 ((gi M6 353 69) + 1) → (K M7)))))))))))))
theorem W_addRow {fz : Bool} {S : gS} {B : rf_M} {M : rf_M} {ls : rf_L} {v1 : Int} {v2 : Int} {v3 : Int} {v4 : Int} {v5 : Int} {v6 : Int64} {K : rf_M → Prop} (hS : rk fz S B.2.2) (hR : fq B M) (a0 : rf_ld ls 0 = some (.ref 353)) (a1 : rf_ld ls 1 = some (zv v1)) (a2 : rf_ld ls 2 = some (zv v2)) (a3 : rf_ld ls 3 = some (zv v3)) (a4 : rf_ld ls 4 = some (zv v4)) (a5 : rf_ld ls 5 = some (zv v5)) (a6 : rf_ld ls 6 = some (.long v6)) (h : w_addRow v1 v2 v3 v4 v5 v6 M K) : gx (cx0 fz) (0, 0) 177 0 ls [] (M, S) (vq_v B S K) := by
  unfold w_addRow at h
  refine g1 (n := 1) rfl rfl rfl (la_of a0) ?_
  refine n_gr rfl hS.1 rfl (fun _ => rfl) hR (rk_400 hS).2 ?_
  refine g1 (n := 1) rfl rfl rfl (la_of a0) ?_
  refine n_gi rfl hS.1 rfl (fun _ => rfl) ?_
  refine g1 (n := 1) rfl rfl rfl (li_of a1) ?_
  obtain ⟨q, h⟩ := h
  refine n_is (Nat.le_of_ble_eq_true rfl) rfl (rk_400 hS).1 (Nat.le_of_ble_eq_true rfl) q (fun M1 e r => ?_)
  replace h := h M1 e
  have r1 := hR.trans r
  refine g1 (n := 1) rfl rfl rfl (la_of a0) ?_
  refine n_gr rfl hS.1 rfl (fun _ => rfl) r1 (rk_401 hS).2 ?_
  refine g1 (n := 1) rfl rfl rfl (la_of a0) ?_
  refine n_gi rfl hS.1 rfl (fun _ => rfl) ?_
  refine g1 (n := 1) rfl rfl rfl (li_of a2) ?_
  obtain ⟨q, h⟩ := h
  refine n_is (Nat.le_of_ble_eq_true rfl) rfl (rk_401 hS).1 (Nat.le_of_ble_eq_true rfl) q (fun M2 e r => ?_)
  replace h := h M2 e
  have r2 := r1.trans r
  refine g1 (n := 1) rfl rfl rfl (la_of a0) ?_
  refine n_gr rfl hS.1 rfl (fun _ => rfl) r2 (rk_402 hS).2 ?_
  refine g1 (n := 1) rfl rfl rfl (la_of a0) ?_
  refine n_gi rfl hS.1 rfl (fun _ => rfl) ?_
  refine g1 (n := 1) rfl rfl rfl (li_of a3) ?_
  obtain ⟨q, h⟩ := h
  refine n_is (Nat.le_of_ble_eq_true rfl) rfl (rk_402 hS).1 (Nat.le_of_ble_eq_true rfl) q (fun M3 e r => ?_)
  replace h := h M3 e
  have r3 := r2.trans r
  refine g1 (n := 1) rfl rfl rfl (la_of a0) ?_
  refine n_gr rfl hS.1 rfl (fun _ => rfl) r3 (rk_403 hS).2 ?_
  refine g1 (n := 1) rfl rfl rfl (la_of a0) ?_
  refine n_gi rfl hS.1 rfl (fun _ => rfl) ?_
  refine g1 (n := 2) rfl rfl rfl (li_of a4) ?_
  obtain ⟨q, h⟩ := h
  refine n_is (Nat.le_of_ble_eq_true rfl) rfl (rk_403 hS).1 (Nat.le_of_ble_eq_true rfl) q (fun M4 e r => ?_)
  replace h := h M4 e
  have r4 := r3.trans r
  refine g1 (n := 1) rfl rfl rfl (la_of a0) ?_
  refine n_gr rfl hS.1 rfl (fun _ => rfl) r4 (rk_404 hS).2 ?_
  refine g1 (n := 1) rfl rfl rfl (la_of a0) ?_
  refine n_gi rfl hS.1 rfl (fun _ => rfl) ?_
  refine g1 (n := 2) rfl rfl rfl (li_of a5) ?_
  obtain ⟨q, h⟩ := h
  refine n_is (Nat.le_of_ble_eq_true rfl) rfl (rk_404 hS).1 (Nat.le_of_ble_eq_true rfl) q (fun M5 e r => ?_)
  replace h := h M5 e
  have r5 := r4.trans r
  refine g1 (n := 1) rfl rfl rfl (la_of a0) ?_
  refine n_gr rfl hS.1 rfl (fun _ => rfl) r5 (rk_405 hS).2 ?_
  refine g1 (n := 1) rfl rfl rfl (la_of a0) ?_
  refine n_gi rfl hS.1 rfl (fun _ => rfl) ?_
  refine g1 (n := 2) rfl rfl rfl (ll_of a6) ?_
  obtain ⟨q, h⟩ := h
  refine n_ls (Nat.le_of_ble_eq_true rfl) rfl (rk_405 hS).1 (Nat.le_of_ble_eq_true rfl) q (fun M6 e r => ?_)
  replace h := h M6 e
  have r6 := r5.trans r
  refine g1 (n := 1) rfl rfl rfl (la_of a0) ?_
  refine g0 rfl rfl rfl ?_
  refine n_gi rfl hS.1 rfl (fun _ => rfl) ?_
  refine g1 (n := 1) rfl rfl rfl rfl ?_
  refine n_add rfl ?_
  refine n_pi (Nat.le_of_ble_eq_true rfl) rfl hS.1 rfl (fun _ _ => rfl) (fun M7 e r => ?_)
  replace h := h M7 e
  have r7 := r6.trans r
  exact gx_ret rfl rfl ⟨M7, rfl, rfl, r7, h⟩
def wm_addRow (x0 : Int) (x1 : Int) (x2 : Int) (x3 : Int) (x4 : Int) (x5 : Int64) (M : rf_M) (K : rf_M → Prop) : Prop := w_addRow x0 x1 x2 x3 x4 x5 M K
theorem W_addRow_m {fz : Bool} {S : gS} {B : rf_M} {M : rf_M} {x0 : Int} {x1 : Int} {x2 : Int} {x3 : Int} {x4 : Int} {x5 : Int64} {K : rf_M → Prop} (hS : rk fz S B.2.2) (hR : fq B M) (h : wm_addRow x0 x1 x2 x3 x4 x5 M K) : gx (cx0 fz) (0, 0) 177 0 (lv_args 0 [.ref 353, zv x0, zv x1, zv x2, zv x3, zv x4, .long x5]) [] (M, S) (vq_v B S K) :=
  W_addRow hS hR rfl rfl rfl rfl rfl rfl rfl h
def w_over_47b (v1 : Int) (v2 : Int) (M : rf_M) (b47 : Int → Int → rf_M → Prop) (K : rf_M → Prop) : Prop := (0 ≤ v1 ∧ v1 < 8) ∧ (inr v2 ∧ (((gi M 381 (v1).toNat) ≤ v2 → (K M)) ∧ (¬ ((gi M 381 (v1).toNat) ≤ v2) → ((0 ≤ (((16 * v1) + v2) + 1) ∧ (((16 * v1) + v2) + 1) < 128) ∧ ((0 ≤ ((16 * v1) + v2) ∧ ((16 * v1) + v2) < 128) ∧ (∀ M1 : rf_M, M1 = wi M 380 ((16 * v1) + v2).toNat (gi M 380 (((16 * v1) + v2) + 1).toNat) → (b47 v1 (v2 + 1) M1)))))))
theorem W_over_47b {fz : Bool} {S : gS} {B : rf_M} {M : rf_M} {ls : rf_L} {v1 : Int} {v2 : Int} {b47 : Int → Int → rf_M → Prop} {K : rf_M → Prop} (hS : rk fz S B.2.2) (hR : fq B M) (a0 : rf_ld ls 0 = some (.ref 353)) (a1 : rf_ld ls 1 = some (zv v1)) (a2 : rf_ld ls 2 = some (zv v2)) (hb47 : ∀ (v1 : Int) (v2 : Int) (M : rf_M) (ls : rf_L), fq B M → rf_ld ls 0 = some (.ref 353) → rf_ld ls 1 = some (zv v1) → rf_ld ls 2 = some (zv v2) → b47 v1 v2 M → gx (cx0 fz) (0, 0) 178 47 ls [] (M, S) (vq_v B S K)) (h : w_over_47b v1 v2 M b47 K) : gx (cx0 fz) (0, 0) 178 47 ls [] (M, S) (vq_v B S K) := by
  unfold w_over_47b at h
  refine g1 (n := 1) rfl rfl rfl (li_of a2) ?_
  refine g1 (n := 1) rfl rfl rfl (la_of a0) ?_
  refine n_gr rfl hS.1 rfl (fun _ => rfl) hR (rk_381 hS).2 ?_
  refine g1 (n := 1) rfl rfl rfl (li_of a1) ?_
  obtain ⟨q, h⟩ := h
  refine n_ia rfl (rk_381 hS).1 (Nat.le_of_ble_eq_true rfl) q ?_
  obtain ⟨i1, h⟩ := h
  refine n_ic rfl i1 (inr_gi _ _ _) (fun c => ?_) (fun c => ?_)
  · replace h := h.1 c
    exact gx_ret rfl rfl ⟨M, rfl, rfl, hR, h⟩
  · replace h := h.2 c
    refine g1 (n := 1) rfl rfl rfl (la_of a0) ?_
    refine n_gr rfl hS.1 rfl (fun _ => rfl) hR (rk_380 hS).2 ?_
    refine n_bi rfl (by decide) ?_
    refine g1 (n := 1) rfl rfl rfl (li_of a1) ?_
    refine n_mul rfl ?_
    refine g1 (n := 1) rfl rfl rfl (li_of a2) ?_
    refine n_add rfl ?_
    refine g1 (n := 1) rfl rfl rfl (la_of a0) ?_
    refine n_gr rfl hS.1 rfl (fun _ => rfl) hR (rk_380 hS).2 ?_
    refine n_bi rfl (by decide) ?_
    refine g1 (n := 1) rfl rfl rfl (li_of a1) ?_
    refine n_mul rfl ?_
    refine g1 (n := 1) rfl rfl rfl (li_of a2) ?_
    refine n_add rfl ?_
    refine g1 (n := 1) rfl rfl rfl rfl ?_
    refine n_add rfl ?_
    obtain ⟨q, h⟩ := h
    refine n_ia rfl (rk_380 hS).1 (Nat.le_of_ble_eq_true rfl) q ?_
    obtain ⟨q, h⟩ := h
    refine n_is (Nat.le_of_ble_eq_true rfl) rfl (rk_380 hS).1 (Nat.le_of_ble_eq_true rfl) q (fun M1 e r => ?_)
    replace h := h M1 e
    have r1 := hR.trans r
    refine n_ii rfl a2 (Nat.le_of_ble_eq_true rfl) (fun ls l1 ho => ?_)
    replace a0 := ho 0 _ (by decide) (fun q => by cases q.2) a0
    have l2 := ho 1 _ (by decide) (fun q => by cases q.2) a1
    refine g3 rfl rfl rfl ?_
    exact hb47 _ _ _ _ r1 a0 l2 l1 h
def w_over_47 (v1 : Int) (v2 : Int) (M : rf_M) (K : rf_M → Prop) : Prop := ∃ Inv : Nat → Int → Int → rf_M → Prop, (∃ m, Inv m v1 v2 M) ∧ ∀ (m : Nat) (v1 : Int) (v2 : Int) (M : rf_M), Inv m v1 v2 M → w_over_47b v1 v2 M (fun (v1' : Int) (v2' : Int) (M' : rf_M) => ∃ m', m' < m ∧ Inv m' v1' v2' M') K
theorem W_over_47 {fz : Bool} {S : gS} {B : rf_M} {M : rf_M} {ls : rf_L} {v1 : Int} {v2 : Int} {K : rf_M → Prop} (hS : rk fz S B.2.2) (hR : fq B M) (a0 : rf_ld ls 0 = some (.ref 353)) (a1 : rf_ld ls 1 = some (zv v1)) (a2 : rf_ld ls 2 = some (zv v2)) (h : w_over_47 v1 v2 M K) : gx (cx0 fz) (0, 0) 178 47 ls [] (M, S) (vq_v B S K) := by
  obtain ⟨Inv, ⟨m, hm⟩, hb⟩ := h
  induction m using Nat.strongRecOn generalizing ls M v1 v2 with
  | _ m ih =>
    refine W_over_47b hS hR a0 a1 a2 (fun v1' v2' M' ls' hR' f0 f1 f2 ⟨m', q1, q2⟩ => ih m' q1 hR' f0 f1 f2 q2) (hb m v1 v2 M hm)
def w_over (v1 : Int) (M : rf_M) (K : rf_M → Prop) : Prop := (0 ≤ v1 ∧ v1 < 8) ∧ (∀ M1 : rf_M, M1 = wi M 382 (v1).toNat 0 → ((0 ≤ v1 ∧ v1 < 8) ∧ (∀ M2 : rf_M, M2 = wi M1 383 (v1).toNat 0 → ((0 ≤ v1 ∧ v1 < 8) ∧ (∀ M3 : rf_M, M3 = wi M2 386 (v1).toNat 0 → ((0 ≤ v1 ∧ v1 < 8) ∧ (∀ M4 : rf_M, M4 = wi M3 384 (v1).toNat 0 → ((0 ≤ v1 ∧ v1 < 8) ∧ (∀ M5 : rf_M, M5 = wi M4 385 (v1).toNat (Int32.ofInt 0 &&& 1).toInt → ((0 ≤ v1 ∧ v1 < 8) ∧ ((0 ≤ v1 ∧ v1 < 8) ∧ (∀ M6 : rf_M, M6 = wi M5 381 (v1).toNat ((gi M5 381 (v1).toNat) - 1) → (w_over_47 v1 0 M6 K)))))))))))))
theorem W_over {fz : Bool} {S : gS} {B : rf_M} {M : rf_M} {ls : rf_L} {v1 : Int} {K : rf_M → Prop} (hS : rk fz S B.2.2) (hR : fq B M) (a0 : rf_ld ls 0 = some (.ref 353)) (a1 : rf_ld ls 1 = some (zv v1)) (h : w_over v1 M K) : gx (cx0 fz) (0, 0) 178 0 ls [] (M, S) (vq_v B S K) := by
  unfold w_over at h
  refine g1 (n := 1) rfl rfl rfl (la_of a0) ?_
  refine n_gr rfl hS.1 rfl (fun _ => rfl) hR (rk_382 hS).2 ?_
  refine g1 (n := 1) rfl rfl rfl (li_of a1) ?_
  refine g1 (n := 1) rfl rfl rfl rfl ?_
  obtain ⟨q, h⟩ := h
  refine n_is (Nat.le_of_ble_eq_true rfl) rfl (rk_382 hS).1 (Nat.le_of_ble_eq_true rfl) q (fun M1 e r => ?_)
  replace h := h M1 e
  have r1 := hR.trans r
  refine g1 (n := 1) rfl rfl rfl (la_of a0) ?_
  refine n_gr rfl hS.1 rfl (fun _ => rfl) r1 (rk_383 hS).2 ?_
  refine g1 (n := 1) rfl rfl rfl (li_of a1) ?_
  refine g1 (n := 1) rfl rfl rfl rfl ?_
  obtain ⟨q, h⟩ := h
  refine n_is (Nat.le_of_ble_eq_true rfl) rfl (rk_383 hS).1 (Nat.le_of_ble_eq_true rfl) q (fun M2 e r => ?_)
  replace h := h M2 e
  have r2 := r1.trans r
  refine g1 (n := 1) rfl rfl rfl (la_of a0) ?_
  refine n_gr rfl hS.1 rfl (fun _ => rfl) r2 (rk_386 hS).2 ?_
  refine g1 (n := 1) rfl rfl rfl (li_of a1) ?_
  refine g1 (n := 1) rfl rfl rfl rfl ?_
  obtain ⟨q, h⟩ := h
  refine n_is (Nat.le_of_ble_eq_true rfl) rfl (rk_386 hS).1 (Nat.le_of_ble_eq_true rfl) q (fun M3 e r => ?_)
  replace h := h M3 e
  have r3 := r2.trans r
  refine g1 (n := 1) rfl rfl rfl (la_of a0) ?_
  refine n_gr rfl hS.1 rfl (fun _ => rfl) r3 (rk_384 hS).2 ?_
  refine g1 (n := 1) rfl rfl rfl (li_of a1) ?_
  refine g1 (n := 1) rfl rfl rfl rfl ?_
  obtain ⟨q, h⟩ := h
  refine n_is (Nat.le_of_ble_eq_true rfl) rfl (rk_384 hS).1 (Nat.le_of_ble_eq_true rfl) q (fun M4 e r => ?_)
  replace h := h M4 e
  have r4 := r3.trans r
  refine g1 (n := 1) rfl rfl rfl (la_of a0) ?_
  refine n_gr rfl hS.1 rfl (fun _ => rfl) r4 (rk_385 hS).2 ?_
  refine g1 (n := 1) rfl rfl rfl (li_of a1) ?_
  refine g1 (n := 1) rfl rfl rfl rfl ?_
  obtain ⟨q, h⟩ := h
  refine n_zs (Nat.le_of_ble_eq_true rfl) rfl (rk_385 hS).1 (Nat.le_of_ble_eq_true rfl) q (fun M5 e r => ?_)
  replace h := h M5 e
  have r5 := r4.trans r
  refine g1 (n := 1) rfl rfl rfl (la_of a0) ?_
  refine n_gr rfl hS.1 rfl (fun _ => rfl) r5 (rk_381 hS).2 ?_
  refine g1 (n := 1) rfl rfl rfl (li_of a1) ?_
  refine g0 rfl rfl rfl ?_
  obtain ⟨q, h⟩ := h
  refine n_ia rfl (rk_381 hS).1 (Nat.le_of_ble_eq_true rfl) q ?_
  refine g1 (n := 1) rfl rfl rfl rfl ?_
  refine n_sub rfl ?_
  obtain ⟨q, h⟩ := h
  refine n_is (Nat.le_of_ble_eq_true rfl) rfl (rk_381 hS).1 (Nat.le_of_ble_eq_true rfl) q (fun M6 e r => ?_)
  replace h := h M6 e
  have r6 := r5.trans r
  refine g1 (n := 1) rfl rfl rfl rfl ?_
  refine n_s1 (n := 1) rfl rfl rfl rfl (fun ls l1 ho => ?_)
  replace a0 := ho 0 _ (by decide) (fun q => by cases q.2) a0
  have l2 := ho 1 _ (by decide) (fun q => by cases q.2) a1
  exact W_over_47 hS r6 a0 l2 l1 h
def wm_over (x0 : Int) (M : rf_M) (K : rf_M → Prop) : Prop := w_over x0 M K
theorem W_over_m {fz : Bool} {S : gS} {B : rf_M} {M : rf_M} {x0 : Int} {K : rf_M → Prop} (hS : rk fz S B.2.2) (hR : fq B M) (h : wm_over x0 M K) : gx (cx0 fz) (0, 0) 178 0 (lv_args 0 [.ref 353, zv x0]) [] (M, S) (vq_v B S K) :=
  W_over hS hR rfl rfl h
def w_endThrown (v1 : Int) (v2 : Int64) (M : rf_M) (K : Int → rf_M → Prop) : Prop := ((gi M 353 69) = 300 → (K (-1) M)) ∧ (¬ (gi M 353 69) = 300 → (wm_firstOf v1 M (fun (z1 : Int) (M1 : rf_M) => (0 ≤ v1 ∧ v1 < 8) ∧ ((0 ≤ v1 ∧ v1 < 8) ∧ (wm_addRow 2 v1 z1 ((gi M1 383 (v1).toNat) + 1) (gi M1 384 (v1).toNat) v2 M1 (fun (M2 : rf_M) => wm_over v1 M2 (fun (M3 : rf_M) => K 2 M3)))))))
theorem W_endThrown {fz : Bool} {S : gS} {B : rf_M} {M : rf_M} {ls : rf_L} {v1 : Int} {v2 : Int64} {K : Int → rf_M → Prop} (hS : rk fz S B.2.2) (hR : fq B M) (a0 : rf_ld ls 0 = some (.ref 353)) (a1 : rf_ld ls 1 = some (zv v1)) (a2 : rf_ld ls 2 = some (.long v2)) (h : w_endThrown v1 v2 M K) : gx (cx0 fz) (1, 27) 176 0 ls [] (M, S) (vq_i B S K) := by
  unfold w_endThrown at h
  refine g1 (n := 1) rfl rfl rfl (la_of a0) ?_
  refine n_gi rfl hS.1 rfl (fun _ => rfl) ?_
  refine n_si rfl (by decide) ?_
  refine n_ic rfl (inr_gi _ _ _) ⟨by decide, by decide⟩ (fun c => ?_) (fun c => ?_)
  · replace h := h.2 c
    refine g1 (n := 1) rfl rfl rfl (la_of a0) ?_
    refine g1 (n := 1) rfl rfl rfl rfl ?_
    refine g1 (n := 1) rfl rfl rfl (li_of a1) ?_
    refine g1 (n := 1) rfl rfl rfl (la_of a0) ?_
    refine g1 (n := 1) rfl rfl rfl (li_of a1) ?_
    refine m_iv (a := 353) (as := [zv v1]) (rest := [zv v1, zv 2, .ref 353]) rfl (by decide) hS.1 rfl rfl (Nat.le_of_ble_eq_true rfl) ⟨Nat.le_of_ble_eq_true rfl, Nat.le_of_ble_eq_true rfl, Nat.le_of_ble_eq_true rfl⟩ ?_
    refine gx_room (gx_mono (W_firstOf_m hS hR h) ?_) (Nat.le_of_ble_eq_true rfl) (Nat.le_of_ble_eq_true rfl)
    rintro _ _ ⟨z1, M1, rfl, rfl, r1, h⟩
    refine g1 (n := 1) rfl rfl rfl (la_of a0) ?_
    refine n_gr rfl hS.1 rfl (fun _ => rfl) r1 (rk_383 hS).2 ?_
    refine g1 (n := 1) rfl rfl rfl (li_of a1) ?_
    obtain ⟨q, h⟩ := h
    refine n_ia rfl (rk_383 hS).1 (Nat.le_of_ble_eq_true rfl) q ?_
    refine g1 (n := 1) rfl rfl rfl rfl ?_
    refine n_add rfl ?_
    refine g1 (n := 1) rfl rfl rfl (la_of a0) ?_
    refine n_gr rfl hS.1 rfl (fun _ => rfl) r1 (rk_384 hS).2 ?_
    refine g1 (n := 1) rfl rfl rfl (li_of a1) ?_
    obtain ⟨q, h⟩ := h
    refine n_ia rfl (rk_384 hS).1 (Nat.le_of_ble_eq_true rfl) q ?_
    refine g1 (n := 1) rfl rfl rfl (ll_of a2) ?_
    refine m_iv (a := 353) (as := [zv 2, zv v1, zv z1, zv ((gi M1 383 (v1).toNat) + 1), zv (gi M1 384 (v1).toNat), .long v2]) (rest := []) rfl (by decide) hS.1 rfl rfl (Nat.le_of_ble_eq_true rfl) ⟨Nat.le_of_ble_eq_true rfl, Nat.le_of_ble_eq_true rfl, Nat.le_of_ble_eq_true rfl⟩ ?_
    refine gx_room (gx_mono (W_addRow_m hS r1 h) ?_) (Nat.le_of_ble_eq_true rfl) (Nat.le_of_ble_eq_true rfl)
    rintro _ _ ⟨M2, rfl, rfl, r2, h⟩
    refine g1 (n := 1) rfl rfl rfl (la_of a0) ?_
    refine g1 (n := 1) rfl rfl rfl (li_of a1) ?_
    refine m_iv (a := 353) (as := [zv v1]) (rest := []) rfl (by decide) hS.1 rfl rfl (Nat.le_of_ble_eq_true rfl) ⟨Nat.le_of_ble_eq_true rfl, Nat.le_of_ble_eq_true rfl, Nat.le_of_ble_eq_true rfl⟩ ?_
    refine gx_room (gx_mono (W_over_m hS r2 h) ?_) (Nat.le_of_ble_eq_true rfl) (Nat.le_of_ble_eq_true rfl)
    rintro _ _ ⟨M3, rfl, rfl, r3, h⟩
    refine g1 (n := 1) rfl rfl rfl rfl ?_
    exact gx_ret rfl rfl ⟨2, M3, rfl, rfl, r3, h⟩
  · replace h := h.1 (Classical.not_not.mp c)
    refine g1 (n := 1) rfl rfl rfl rfl ?_
    exact gx_ret rfl rfl ⟨(-1), M, rfl, rfl, hR, h⟩
