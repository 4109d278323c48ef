def wm_endThrown (x0 : Int) (x1 : Int64) (M : rf_M) (K : Int → rf_M → Prop) : Prop := w_endThrown x0 x1 M K
theorem W_endThrown_m {fz : Bool} {S : gS} {B : rf_M} {M : rf_M} {x0 : Int} {x1 : Int64} {K : Int → rf_M → Prop} (hS : rk fz S B.2.2) (hR : fq B M) (h : wm_endThrown x0 x1 M K) : gx (cx0 fz) (1, 27) 176 0 (lv_args 0 [.ref 353, zv x0, .long x1]) [] (M, S) (vq_i B S K) :=
  W_endThrown hS hR rfl rfl rfl h
def w_holds_30 (s0 : Int) (M : rf_M) (K : Int → rf_M → Prop) : Prop := (s0 = 0 ∨ s0 = 1) ∧ K s0 M
theorem W_holds_30 {fz : Bool} {S : gS} {B : rf_M} {M : rf_M} {ls : rf_L} {s0 : Int} {K : Int → rf_M → Prop} (hS : rk fz S B.2.2) (hR : fq B M) (h : w_holds_30 s0 M K) : gx (cx0 fz) (3, 67) 181 30 ls [zv s0] (M, S) (vq_i B S K) := by
  unfold w_holds_30 at h
  exact n_rb rfl rfl h.1 hR h.2
def w_holds_29 (M : rf_M) (K : Int → rf_M → Prop) : Prop := w_holds_30 0 M K
theorem W_holds_29 {fz : Bool} {S : gS} {B : rf_M} {M : rf_M} {ls : rf_L} {K : Int → rf_M → Prop} (hS : rk fz S B.2.2) (hR : fq B M) (h : w_holds_29 M K) : gx (cx0 fz) (3, 67) 181 29 ls [] (M, S) (vq_i B S K) := by
  unfold w_holds_29 at h
  refine g1 (n := 1) rfl rfl rfl rfl ?_
  exact W_holds_30 hS hR  h
def w_holds (v1 : Int) (M : rf_M) (K : Int → rf_M → Prop) : Prop := ∀ M1 : rf_M, M1 = wi M 353 65 0 → (wm_work v1 1 M1 (fun (z2 : Int64) (M2 : rf_M) => ((gi M2 353 65) = 0 → (((lg_cmp z2 (Int64.ofNat 0)).toInt = 0 → (w_holds_29 M2 K)) ∧ (¬ ((lg_cmp z2 (Int64.ofNat 0)).toInt = 0) → (w_holds_30 1 M2 K)))) ∧ (¬ (gi M2 353 65) = 0 → (w_holds_29 M2 K))))
theorem W_holds {fz : Bool} {S : gS} {B : rf_M} {M : rf_M} {ls : rf_L} {v1 : Int} {K : Int → rf_M → Prop} (hS : rk fz S B.2.2) (hR : fq B M) (a0 : rf_ld ls 0 = some (.ref 353)) (a1 : rf_ld ls 1 = some (zv v1)) (h : w_holds v1 M K) : gx (cx0 fz) (3, 67) 181 0 ls [] (M, S) (vq_i B S K) := by
  unfold w_holds at h
  refine g1 (n := 1) rfl rfl rfl (la_of a0) ?_
  refine g1 (n := 1) rfl rfl rfl rfl ?_
  refine n_pi (Nat.le_of_ble_eq_true rfl) rfl hS.1 rfl (fun _ _ => rfl) (fun M1 e r => ?_)
  replace h := h M1 e
  have r1 := hR.trans r
  refine g1 (n := 1) rfl rfl rfl (la_of a0) ?_
  refine g1 (n := 1) rfl rfl rfl (li_of a1) ?_
  refine g1 (n := 1) rfl rfl rfl rfl ?_
  refine m_iv (a := 353) (as := [zv v1, zv 1]) (rest := []) rfl (by decide) hS.1 rfl rfl (Nat.le_of_ble_eq_true rfl) ⟨Nat.le_of_ble_eq_true rfl, Nat.le_of_ble_eq_true rfl, Nat.le_of_ble_eq_true rfl⟩ ?_
  refine gx_room (gx_mono (W_work_m hS r1 h) ?_) (Nat.le_of_ble_eq_true rfl) (Nat.le_of_ble_eq_true rfl)
  rintro _ _ ⟨z2, M2, rfl, rfl, r2, h⟩
  refine n_s2 (n := 1) rfl rfl rfl rfl (fun ls l1 ho => ?_)
  replace a0 := ho 0 _ (by decide) (by decide) (fun q => by cases q.2) a0
  refine g1 (n := 1) rfl rfl rfl (la_of a0) ?_
  refine n_gi rfl hS.1 rfl (fun _ => rfl) ?_
  refine n_if rfl (inr_gi _ _ _) (fun c => ?_) (fun c => ?_)
  · replace h := h.2 c
    exact W_holds_29 hS r2  h
  · replace h := h.1 (Classical.not_not.mp c)
    refine g1 (n := 1) rfl rfl rfl (ll_of l1) ?_
    refine g1 (n := 1) rfl rfl rfl rfl ?_
    refine n_op (T := (lg_cmp z2 (Int64.ofNat 0))) rfl rfl rfl ?_
    refine n_if rfl (inr_ti _) (fun c => ?_) (fun c => ?_)
    · replace h := h.1 c
      exact W_holds_29 hS r2  h
    · replace h := h.2 c
      refine g1 (n := 1) rfl rfl rfl rfl ?_
      refine g3 rfl rfl rfl ?_
      exact W_holds_30 hS r2  h
def wm_holds (x0 : Int) (M : rf_M) (K : Int → rf_M → Prop) : Prop := w_holds x0 M K
theorem W_holds_m {fz : Bool} {S : gS} {B : rf_M} {M : rf_M} {x0 : Int} {K : Int → rf_M → Prop} (hS : rk fz S B.2.2) (hR : fq B M) (h : wm_holds x0 M K) : gx (cx0 fz) (3, 67) 181 0 (lv_args 0 [.ref 353, zv x0]) [] (M, S) (vq_i B S K) :=
  W_holds hS hR rfl rfl h
def w_rulesHold_46 (v1 : Int) (M : rf_M) (K : Int → rf_M → Prop) : Prop := (v1 = 0 ∨ v1 = 1) ∧ K v1 M
theorem W_rulesHold_46 {fz : Bool} {S : gS} {B : rf_M} {M : rf_M} {ls : rf_L} {v1 : Int} {K : Int → rf_M → Prop} (hS : rk fz S B.2.2) (hR : fq B M) (a1 : rf_ld ls 1 = some (zv v1)) (h : w_rulesHold_46 v1 M K) : gx (cx0 fz) (4, 90) 180 46 ls [] (M, S) (vq_i B S K) := by
  unfold w_rulesHold_46 at h
  refine g1 (n := 1) rfl rfl rfl (li_of a1) ?_
  exact n_rb rfl rfl h.1 hR h.2
def w_rulesHold_4b (v1 : Int) (v2 : Int) (M : rf_M) (b4 : Int → Int → rf_M → Prop) (K : Int → rf_M → Prop) : Prop := (0 ≤ (gi M 353 42) ∧ (gi M 353 42) < 2) ∧ (inr v2 ∧ (((gi M 378 (gi M 353 42).toNat) ≤ v2 → (w_rulesHold_46 v1 M K)) ∧ (¬ ((gi M 378 (gi M 353 42).toNat) ≤ v2) → (inr v1 ∧ ((v1 = 0 → (w_rulesHold_46 v1 M K)) ∧ (¬ (v1 = 0) → ((0 ≤ ((32 * (gi M 353 42)) + v2) ∧ ((32 * (gi M 353 42)) + v2) < 64) ∧ (wm_holds (gi M 379 ((32 * (gi M 353 42)) + v2).toNat) M (fun (z1 : Int) (M1 : rf_M) => b4 z1 (v2 + 1) M1)))))))))
theorem W_rulesHold_4b {fz : Bool} {S : gS} {B : rf_M} {M : rf_M} {ls : rf_L} {v1 : Int} {v2 : Int} {b4 : Int → Int → rf_M → Prop} {K : Int → rf_M → Prop} (hS : rk fz S B.2.2) (hR : fq B M) (a0 : rf_ld ls 0 = some (.ref 353)) (a1 : rf_ld ls 1 = some (zv v1)) (a2 : rf_ld ls 2 = some (zv v2)) (hb4 : ∀ (v1 : Int) (v2 : Int) (M : rf_M) (ls : rf_L), fq B M → rf_ld ls 0 = some (.ref 353) → rf_ld ls 1 = some (zv v1) → rf_ld ls 2 = some (zv v2) → b4 v1 v2 M → gx (cx0 fz) (4, 90) 180 4 ls [] (M, S) (vq_i B S K)) (h : w_rulesHold_4b v1 v2 M b4 K) : gx (cx0 fz) (4, 90) 180 4 ls [] (M, S) (vq_i B S K) := by
  unfold w_rulesHold_4b at h
  refine g1 (n := 1) rfl rfl rfl (li_of a2) ?_
  refine g1 (n := 1) rfl rfl rfl (la_of a0) ?_
  refine n_gr rfl hS.1 rfl (fun _ => rfl) hR (rk_378 hS).2 ?_
  refine g1 (n := 1) rfl rfl rfl (la_of a0) ?_
  refine n_gi rfl hS.1 rfl (fun _ => rfl) ?_
  obtain ⟨q, h⟩ := h
  refine n_ia rfl (rk_378 hS).1 (Nat.le_of_ble_eq_true rfl) q ?_
  obtain ⟨i1, h⟩ := h
  refine n_ic rfl i1 (inr_gi _ _ _) (fun c => ?_) (fun c => ?_)
  · replace h := h.1 c
    exact W_rulesHold_46 hS hR a1 h
  · replace h := h.2 c
    refine g1 (n := 1) rfl rfl rfl (li_of a1) ?_
    obtain ⟨i2, h⟩ := h
    refine n_if rfl i2 (fun c => ?_) (fun c => ?_)
    · replace h := h.1 c
      exact W_rulesHold_46 hS hR a1 h
    · replace h := h.2 c
      refine g1 (n := 1) rfl rfl rfl (la_of a0) ?_
      refine g1 (n := 1) rfl rfl rfl (la_of a0) ?_
      refine n_gr rfl hS.1 rfl (fun _ => rfl) hR (rk_379 hS).2 ?_
      refine n_bi rfl (by decide) ?_
      refine g1 (n := 1) rfl rfl rfl (la_of a0) ?_
      refine n_gi rfl hS.1 rfl (fun _ => rfl) ?_
      refine n_mul rfl ?_
      refine g1 (n := 1) rfl rfl rfl (li_of a2) ?_
      refine n_add rfl ?_
      obtain ⟨q, h⟩ := h
      refine n_ia rfl (rk_379 hS).1 (Nat.le_of_ble_eq_true rfl) q ?_
      refine m_iv (a := 353) (as := [zv (gi M 379 ((32 * (gi M 353 42)) + v2).toNat)]) (rest := []) rfl (by decide) hS.1 rfl rfl (Nat.le_of_ble_eq_true rfl) ⟨Nat.le_of_ble_eq_true rfl, Nat.le_of_ble_eq_true rfl, Nat.le_of_ble_eq_true rfl⟩ ?_
      refine gx_room (gx_mono (W_holds_m hS hR h) ?_) (Nat.le_of_ble_eq_true rfl) (Nat.le_of_ble_eq_true rfl)
      rintro _ _ ⟨z1, M1, rfl, rfl, r1, h⟩
      refine n_s1 (n := 1) rfl rfl rfl rfl (fun ls l1 ho => ?_)
      replace a0 := ho 0 _ (by decide) (fun q => by cases q.2) a0
      have l2 := ho 2 _ (by decide) (fun q => by cases q.2) a2
      refine n_ii rfl l2 (Nat.le_of_ble_eq_true rfl) (fun ls l3 ho => ?_)
      replace a0 := ho 0 _ (by decide) (fun q => by cases q.2) a0
      have l4 := ho 1 _ (by decide) (fun q => by cases q.2) l1
      refine g3 rfl rfl rfl ?_
      exact hb4 _ _ _ _ r1 a0 l4 l3 h
def w_rulesHold_4 (v1 : Int) (v2 : Int) (M : rf_M) (K : Int → rf_M → Prop) : Prop := ∃ Inv : Nat → Int → Int → rf_M → Prop, (∃ m, Inv m v1 v2 M) ∧ ∀ (m : Nat) (v1 : Int) (v2 : Int) (M : rf_M), Inv m v1 v2 M → w_rulesHold_4b v1 v2 M (fun (v1' : Int) (v2' : Int) (M' : rf_M) => ∃ m', m' < m ∧ Inv m' v1' v2' M') K
theorem W_rulesHold_4 {fz : Bool} {S : gS} {B : rf_M} {M : rf_M} {ls : rf_L} {v1 : Int} {v2 : Int} {K : Int → rf_M → Prop} (hS : rk fz S B.2.2) (hR : fq B M) (a0 : rf_ld ls 0 = some (.ref 353)) (a1 : rf_ld ls 1 = some (zv v1)) (a2 : rf_ld ls 2 = some (zv v2)) (h : w_rulesHold_4 v1 v2 M K) : gx (cx0 fz) (4, 90) 180 4 ls [] (M, S) (vq_i B S K) := by
  obtain ⟨Inv, ⟨m, hm⟩, hb⟩ := h
  induction m using Nat.strongRecOn generalizing ls M v1 v2 with
  | _ m ih =>
    refine W_rulesHold_4b hS hR a0 a1 a2 (fun v1' v2' M' ls' hR' f0 f1 f2 ⟨m', q1, q2⟩ => ih m' q1 hR' f0 f1 f2 q2) (hb m v1 v2 M hm)
def w_rulesHold (M : rf_M) (K : Int → rf_M → Prop) : Prop := w_rulesHold_4 1 0 M K
theorem W_rulesHold {fz : Bool} {S : gS} {B : rf_M} {M : rf_M} {ls : rf_L} {K : Int → rf_M → Prop} (hS : rk fz S B.2.2) (hR : fq B M) (a0 : rf_ld ls 0 = some (.ref 353)) (h : w_rulesHold M K) : gx (cx0 fz) (4, 90) 180 0 ls [] (M, S) (vq_i B S K) := by
  unfold w_rulesHold at h
  refine g1 (n := 1) rfl rfl rfl rfl ?_
  refine n_s1 (n := 1) rfl rfl rfl rfl (fun ls l1 ho => ?_)
  replace a0 := ho 0 _ (by decide) (fun q => by cases q.2) a0
  refine g1 (n := 1) rfl rfl rfl rfl ?_
  refine n_s1 (n := 1) rfl rfl rfl rfl (fun ls l2 ho => ?_)
  replace a0 := ho 0 _ (by decide) (fun q => by cases q.2) a0
  have l3 := ho 1 _ (by decide) (fun q => by cases q.2) l1
  exact W_rulesHold_4 hS hR a0 l3 l2 h
def wm_rulesHold (M : rf_M) (K : Int → rf_M → Prop) : Prop := w_rulesHold  M K
theorem W_rulesHold_m {fz : Bool} {S : gS} {B : rf_M} {M : rf_M} {K : Int → rf_M → Prop} (hS : rk fz S B.2.2) (hR : fq B M) (h : wm_rulesHold  M K) : gx (cx0 fz) (4, 90) 180 0 (lv_args 0 [.ref 353]) [] (M, S) (vq_i B S K) :=
  W_rulesHold hS hR rfl h
def w_isWell_48 (v1 : Int) (s1 : Int) (s2 : Int64) (M : rf_M) (b2 : Int → rf_M → Prop) (K : Int → rf_M → Prop) : Prop := (0 ≤ s1 ∧ s1 < 16) ∧ (∀ M1 : rf_M, M1 = wl M 399 (s1).toNat s2 → (b2 (v1 + 1) M1))
theorem W_isWell_48 {fz : Bool} {S : gS} {B : rf_M} {M : rf_M} {ls : rf_L} {v1 : Int} {s1 : Int} {s2 : Int64} {b2 : Int → rf_M → Prop} {K : Int → rf_M → Prop} (hS : rk fz S B.2.2) (hR : fq B M) (a0 : rf_ld ls 0 = some (.ref 353)) (a1 : rf_ld ls 1 = some (zv v1)) (hb2 : ∀ (v1 : Int) (M : rf_M) (ls : rf_L), fq B M → rf_ld ls 0 = some (.ref 353) → rf_ld ls 1 = some (zv v1) → b2 v1 M → gx (cx0 fz) (5, 112) 179 2 ls [] (M, S) (vq_i B S K)) (h : w_isWell_48 v1 s1 s2 M b2 K) : gx (cx0 fz) (5, 112) 179 48 ls [.long s2, zv s1, .ref 399] (M, S) (vq_i B S K) := by
  unfold w_isWell_48 at h
  obtain ⟨q, h⟩ := h
  refine n_ls (Nat.le_of_ble_eq_true rfl) rfl (rk_399 hS).1 (Nat.le_of_ble_eq_true rfl) q (fun M1 e r => ?_)
  replace h := h M1 e
  have r1 := hR.trans r
  refine n_ii rfl a1 (Nat.le_of_ble_eq_true rfl) (fun ls l1 ho => ?_)
  replace a0 := ho 0 _ (by decide) (fun q => by cases q.2) a0
  refine g3 rfl rfl rfl ?_
  exact hb2 _ _ _ r1 a0 l1 h
def w_isWell_119 (s0 : Int) (M : rf_M) (K : Int → rf_M → Prop) : Prop := (s0 = 0 ∨ s0 = 1) ∧ K s0 M
theorem W_isWell_119 {fz : Bool} {S : gS} {B : rf_M} {M : rf_M} {ls : rf_L} {s0 : Int} {K : Int → rf_M → Prop} (hS : rk fz S B.2.2) (hR : fq B M) (h : w_isWell_119 s0 M K) : gx (cx0 fz) (5, 112) 179 119 ls [zv s0] (M, S) (vq_i B S K) := by
  unfold w_isWell_119 at h
  exact n_rb rfl rfl h.1 hR h.2
def w_isWell_118 (M : rf_M) (K : Int → rf_M → Prop) : Prop := w_isWell_119 0 M K
theorem W_isWell_118 {fz : Bool} {S : gS} {B : rf_M} {M : rf_M} {ls : rf_L} {K : Int → rf_M → Prop} (hS : rk fz S B.2.2) (hR : fq B M) (h : w_isWell_118 M K) : gx (cx0 fz) (5, 112) 179 118 ls [] (M, S) (vq_i B S K) := by
  unfold w_isWell_118 at h
  refine g1 (n := 1) rfl rfl rfl rfl ?_
  exact W_isWell_119 hS hR  h
def w_isWell_91 (v1 : Int) (M : rf_M) (K : Int → rf_M → Prop) : Prop := inr v1 ∧ ((v1 = 0 → (w_isWell_118 M K)) ∧ (¬ (v1 = 0) → ((0 ≤ (gi M 353 42) ∧ (gi M 353 42) < 2) ∧ (inr ((gi M 378 (gi M 353 42).toNat) + (gi M 353 58)) ∧ ((32 < ((gi M 378 (gi M 353 42).toNat) + (gi M 353 58)) → (w_isWell_118 M K)) ∧ (¬ (32 < ((gi M 378 (gi M 353 42).toNat) + (gi M 353 58))) → (w_isWell_119 1 M K)))))))
theorem W_isWell_91 {fz : Bool} {S : gS} {B : rf_M} {M : rf_M} {ls : rf_L} {v1 : Int} {K : Int → rf_M → Prop} (hS : rk fz S B.2.2) (hR : fq B M) (a0 : rf_ld ls 0 = some (.ref 353)) (a1 : rf_ld ls 1 = some (zv v1)) (h : w_isWell_91 v1 M K) : gx (cx0 fz) (5, 112) 179 91 ls [] (M, S) (vq_i B S K) := by
  unfold w_isWell_91 at h
  refine g1 (n := 1) rfl rfl rfl (li_of a1) ?_
  obtain ⟨i1, h⟩ := h
  refine n_if rfl i1 (fun c => ?_) (fun c => ?_)
  · replace h := h.1 c
    exact W_isWell_118 hS hR  h
  · replace h := h.2 c
    refine g1 (n := 1) rfl rfl rfl (la_of a0) ?_
    refine n_gr rfl hS.1 rfl (fun _ => rfl) hR (rk_378 hS).2 ?_
    refine g1 (n := 1) rfl rfl rfl (la_of a0) ?_
    refine n_gi rfl hS.1 rfl (fun _ => rfl) ?_
    obtain ⟨q, h⟩ := h
    refine n_ia rfl (rk_378 hS).1 (Nat.le_of_ble_eq_true rfl) q ?_
    refine g1 (n := 1) rfl rfl rfl (la_of a0) ?_
    refine n_gi rfl hS.1 rfl (fun _ => rfl) ?_
    refine n_add rfl ?_
    refine n_bi rfl (by decide) ?_
    obtain ⟨i2, h⟩ := h
    refine n_ic rfl i2 ⟨by decide, by decide⟩ (fun c => ?_) (fun c => ?_)
    · replace h := h.1 c
      exact W_isWell_118 hS hR  h
    · replace h := h.2 c
      refine g1 (n := 1) rfl rfl rfl rfl ?_
      refine g3 rfl rfl rfl ?_
      exact W_isWell_119 hS hR  h
def w_isWell_62b (v1 : Int) (v2 : Int) (M : rf_M) (b62 : Int → Int → rf_M → Prop) (K : Int → rf_M → Prop) : Prop := inr v2 ∧ (((gi M 353 58) ≤ v2 → (w_isWell_91 v1 M K)) ∧ (¬ ((gi M 353 58) ≤ v2) → (inr v1 ∧ ((v1 = 0 → (w_isWell_91 v1 M K)) ∧ (¬ (v1 = 0) → ((0 ≤ v2 ∧ v2 < 400) ∧ (wm_holds (gi M 393 (v2).toNat) M (fun (z1 : Int) (M1 : rf_M) => b62 z1 (v2 + 1) M1))))))))
theorem W_isWell_62b {fz : Bool} {S : gS} {B : rf_M} {M : rf_M} {ls : rf_L} {v1 : Int} {v2 : Int} {b62 : Int → Int → rf_M → Prop} {K : Int → rf_M → Prop} (hS : rk fz S B.2.2) (hR : fq B M) (a0 : rf_ld ls 0 = some (.ref 353)) (a1 : rf_ld ls 1 = some (zv v1)) (a2 : rf_ld ls 2 = some (zv v2)) (hb62 : ∀ (v1 : Int) (v2 : Int) (M : rf_M) (ls : rf_L), fq B M → rf_ld ls 0 = some (.ref 353) → rf_ld ls 1 = some (zv v1) → rf_ld ls 2 = some (zv v2) → b62 v1 v2 M → gx (cx0 fz) (5, 112) 179 62 ls [] (M, S) (vq_i B S K)) (h : w_isWell_62b v1 v2 M b62 K) : gx (cx0 fz) (5, 112) 179 62 ls [] (M, S) (vq_i B S K) := by
  unfold w_isWell_62b at h
  refine g1 (n := 1) rfl rfl rfl (li_of a2) ?_
  refine g1 (n := 1) rfl rfl rfl (la_of a0) ?_
  refine n_gi rfl hS.1 rfl (fun _ => rfl) ?_
  obtain ⟨i1, h⟩ := h
  refine n_ic rfl i1 (inr_gi _ _ _) (fun c => ?_) (fun c => ?_)
  · replace h := h.1 c
    exact W_isWell_91 hS hR a0 a1 h
  · replace h := h.2 c
    refine g1 (n := 1) rfl rfl rfl (li_of a1) ?_
    obtain ⟨i2, h⟩ := h
    refine n_if rfl i2 (fun c => ?_) (fun c => ?_)
    · replace h := h.1 c
      exact W_isWell_91 hS hR a0 a1 h
    · replace h := h.2 c
      refine g1 (n := 1) rfl rfl rfl (la_of a0) ?_
      refine g1 (n := 1) rfl rfl rfl (la_of a0) ?_
      refine n_gr rfl hS.1 rfl (fun _ => rfl) hR (rk_393 hS).2 ?_
      refine g1 (n := 1) rfl rfl rfl (li_of a2) ?_
      obtain ⟨q, h⟩ := h
      refine n_ia rfl (rk_393 hS).1 (Nat.le_of_ble_eq_true rfl) q ?_
      refine m_iv (a := 353) (as := [zv (gi M 393 (v2).toNat)]) (rest := []) rfl (by decide) hS.1 rfl rfl (Nat.le_of_ble_eq_true rfl) ⟨Nat.le_of_ble_eq_true rfl, Nat.le_of_ble_eq_true rfl, Nat.le_of_ble_eq_true rfl⟩ ?_
      refine gx_room (gx_mono (W_holds_m hS hR h) ?_) (Nat.le_of_ble_eq_true rfl) (Nat.le_of_ble_eq_true rfl)
      rintro _ _ ⟨z1, M1, rfl, rfl, r1, h⟩
      refine n_s1 (n := 1) rfl rfl rfl rfl (fun ls l1 ho => ?_)
      replace a0 := ho 0 _ (by decide) (fun q => by cases q.2) a0
      have l2 := ho 2 _ (by decide) (fun q => by cases q.2) a2
      refine n_ii rfl l2 (Nat.le_of_ble_eq_true rfl) (fun ls l3 ho => ?_)
      replace a0 := ho 0 _ (by decide) (fun q => by cases q.2) a0
      have l4 := ho 1 _ (by decide) (fun q => by cases q.2) l1
      refine g3 rfl rfl rfl ?_
      exact hb62 _ _ _ _ r1 a0 l4 l3 h
def w_isWell_62 (v1 : Int) (v2 : Int) (M : rf_M) (K : Int → rf_M → Prop) : Prop := ∃ Inv : Nat → Int → Int → rf_M → Prop, (∃ m, Inv m v1 v2 M) ∧ ∀ (m : Nat) (v1 : Int) (v2 : Int) (M : rf_M), Inv m v1 v2 M → w_isWell_62b v1 v2 M (fun (v1' : Int) (v2' : Int) (M' : rf_M) => ∃ m', m' < m ∧ Inv m' v1' v2' M') K
theorem W_isWell_62 {fz : Bool} {S : gS} {B : rf_M} {M : rf_M} {ls : rf_L} {v1 : Int} {v2 : Int} {K : Int → rf_M → Prop} (hS : rk fz S B.2.2) (hR : fq B M) (a0 : rf_ld ls 0 = some (.ref 353)) (a1 : rf_ld ls 1 = some (zv v1)) (a2 : rf_ld ls 2 = some (zv v2)) (h : w_isWell_62 v1 v2 M K) : gx (cx0 fz) (5, 112) 179 62 ls [] (M, S) (vq_i B S K) := by
  obtain ⟨Inv, ⟨m, hm⟩, hb⟩ := h
  induction m using Nat.strongRecOn generalizing ls M v1 v2 with
  | _ m ih =>
    refine W_isWell_62b hS hR a0 a1 a2 (fun v1' v2' M' ls' hR' f0 f1 f2 ⟨m', q1, q2⟩ => ih m' q1 hR' f0 f1 f2 q2) (hb m v1 v2 M hm)
def w_isWell_2b (v1 : Int) (M : rf_M) (b2 : Int → rf_M → Prop) (K : Int → rf_M → Prop) : Prop := inr v1 ∧ ((16 ≤ v1 → (wm_rulesHold  M (fun (z1 : Int) (M1 : rf_M) => w_isWell_62 z1 0 M1 K))) ∧ (¬ (16 ≤ v1) → (((Int32.ofInt (Int32.ofInt (gi M 353 55) >>> (Int32.ofInt v1 &&& 31)).toInt &&& Int32.ofInt 1).toInt = 1 → ((0 ≤ v1 ∧ v1 < 16) ∧ (w_isWell_48 v1 v1 (gl M 391 (v1).toNat) M b2 K))) ∧ (¬ (Int32.ofInt (Int32.ofInt (gi M 353 55) >>> (Int32.ofInt v1 &&& 31)).toInt &&& Int32.ofInt 1).toInt = 1 → ((0 ≤ ((16 * (gi M 353 42)) + v1) ∧ ((16 * (gi M 353 42)) + v1) < 32) ∧ (w_isWell_48 v1 v1 (gl M 376 ((16 * (gi M 353 42)) + v1).toNat) M b2 K))))))
theorem W_isWell_2b {fz : Bool} {S : gS} {B : rf_M} {M : rf_M} {ls : rf_L} {v1 : Int} {b2 : Int → rf_M → Prop} {K : Int → rf_M → Prop} (hS : rk fz S B.2.2) (hR : fq B M) (a0 : rf_ld ls 0 = some (.ref 353)) (a1 : rf_ld ls 1 = some (zv v1)) (hb2 : ∀ (v1 : Int) (M : rf_M) (ls : rf_L), fq B M → rf_ld ls 0 = some (.ref 353) → rf_ld ls 1 = some (zv v1) → b2 v1 M → gx (cx0 fz) (5, 112) 179 2 ls [] (M, S) (vq_i B S K)) (h : w_isWell_2b v1 M b2 K) : gx (cx0 fz) (5, 112) 179 2 ls [] (M, S) (vq_i B S K) := by
  unfold w_isWell_2b at h
  refine g1 (n := 1) rfl rfl rfl (li_of a1) ?_
  refine n_bi rfl (by decide) ?_
  obtain ⟨i1, h⟩ := h
  refine n_ic rfl i1 ⟨by decide, by decide⟩ (fun c => ?_) (fun c => ?_)
  · replace h := h.1 c
    refine g1 (n := 1) rfl rfl rfl (la_of a0) ?_
    refine m_iv (a := 353) (as := []) (rest := []) rfl (by decide) hS.1 rfl rfl (Nat.le_of_ble_eq_true rfl) ⟨Nat.le_of_ble_eq_true rfl, Nat.le_of_ble_eq_true rfl, Nat.le_of_ble_eq_true rfl⟩ ?_
    refine gx_room (gx_mono (W_rulesHold_m hS hR h) ?_) (Nat.le_of_ble_eq_true rfl) (Nat.le_of_ble_eq_true rfl)
    rintro _ _ ⟨z1, M1, rfl, rfl, r1, h⟩
    refine n_s1 (n := 1) rfl rfl rfl rfl (fun ls l1 ho => ?_)
    replace a0 := ho 0 _ (by decide) (fun q => by cases q.2) a0
    refine g1 (n := 1) rfl rfl rfl rfl ?_
    refine n_s1 (n := 1) rfl rfl rfl rfl (fun ls l2 ho => ?_)
    replace a0 := ho 0 _ (by decide) (fun q => by cases q.2) a0
    have l3 := ho 1 _ (by decide) (fun q => by cases q.2) l1
    exact W_isWell_62 hS r1 a0 l3 l2 h
  · replace h := h.2 c
    refine g1 (n := 1) rfl rfl rfl (la_of a0) ?_
    refine n_gr rfl hS.1 rfl (fun _ => rfl) hR (rk_399 hS).2 ?_
    refine g1 (n := 1) rfl rfl rfl (li_of a1) ?_
    refine g1 (n := 1) rfl rfl rfl (la_of a0) ?_
    refine n_gi rfl hS.1 rfl (fun _ => rfl) ?_
    refine g1 (n := 1) rfl rfl rfl (li_of a1) ?_
    refine n_op (T := (Int32.ofInt (gi M 353 55) >>> (Int32.ofInt v1 &&& 31))) rfl rfl rfl ?_
    refine g1 (n := 1) rfl rfl rfl rfl ?_
    refine n_op (T := (Int32.ofInt (Int32.ofInt (gi M 353 55) >>> (Int32.ofInt v1 &&& 31)).toInt &&& Int32.ofInt 1)) rfl rfl rfl ?_
    refine g1 (n := 1) rfl rfl rfl rfl ?_
    refine n_ic rfl (inr_ti _) ⟨by decide, by decide⟩ (fun c => ?_) (fun c => ?_)
    · replace h := h.2 c
      refine g1 (n := 1) rfl rfl rfl (la_of a0) ?_
      refine n_gr rfl hS.1 rfl (fun _ => rfl) hR (rk_376 hS).2 ?_
      refine n_bi rfl (by decide) ?_
      refine g1 (n := 1) rfl rfl rfl (la_of a0) ?_
      refine n_gi rfl hS.1 rfl (fun _ => rfl) ?_
      refine n_mul rfl ?_
      refine g1 (n := 1) rfl rfl rfl (li_of a1) ?_
      refine n_add rfl ?_
      obtain ⟨q, h⟩ := h
      refine n_la rfl (rk_376 hS).1 (Nat.le_of_ble_eq_true rfl) q ?_
      exact W_isWell_48 hS hR a0 a1 hb2 h
    · replace h := h.1 (Classical.not_not.mp c)
      refine g1 (n := 1) rfl rfl rfl (la_of a0) ?_
      refine n_gr rfl hS.1 rfl (fun _ => rfl) hR (rk_391 hS).2 ?_
      refine g1 (n := 1) rfl rfl rfl (li_of a1) ?_
      obtain ⟨q, h⟩ := h
      refine n_la rfl (rk_391 hS).1 (Nat.le_of_ble_eq_true rfl) q ?_
      refine g3 rfl rfl rfl ?_
      exact W_isWell_48 hS hR a0 a1 hb2 h
def w_isWell_2 (v1 : Int) (M : rf_M) (K : Int → rf_M → Prop) : Prop := ∃ Inv : Nat → Int → rf_M → Prop, (∃ m, Inv m v1 M) ∧ ∀ (m : Nat) (v1 : Int) (M : rf_M), Inv m v1 M → w_isWell_2b v1 M (fun (v1' : Int) (M' : rf_M) => ∃ m', m' < m ∧ Inv m' v1' M') K
theorem W_isWell_2 {fz : Bool} {S : gS} {B : rf_M} {M : rf_M} {ls : rf_L} {v1 : Int} {K : Int → rf_M → Prop} (hS : rk fz S B.2.2) (hR : fq B M) (a0 : rf_ld ls 0 = some (.ref 353)) (a1 : rf_ld ls 1 = some (zv v1)) (h : w_isWell_2 v1 M K) : gx (cx0 fz) (5, 112) 179 2 ls [] (M, S) (vq_i B S K) := by
  obtain ⟨Inv, ⟨m, hm⟩, hb⟩ := h
  induction m using Nat.strongRecOn generalizing ls M v1 with
  | _ m ih =>
    refine W_isWell_2b hS hR a0 a1 (fun v1' M' ls' hR' f0 f1 ⟨m', q1, q2⟩ => ih m' q1 hR' f0 f1 q2) (hb m v1 M hm)
def w_isWell (M : rf_M) (K : Int → rf_M → Prop) : Prop := w_isWell_2 0 M K
theorem W_isWell {fz : Bool} {S : gS} {B : rf_M} {M : rf_M} {ls : rf_L} {K : Int → rf_M → Prop} (hS : rk fz S B.2.2) (hR : fq B M) (a0 : rf_ld ls 0 = some (.ref 353)) (h : w_isWell M K) : gx (cx0 fz) (5, 112) 179 0 ls [] (M, S) (vq_i B S K) := by
  unfold w_isWell at h
  refine g1 (n := 1) rfl rfl rfl rfl ?_
  refine n_s1 (n := 1) rfl rfl rfl rfl (fun ls l1 ho => ?_)
  replace a0 := ho 0 _ (by decide) (fun q => by cases q.2) a0
  exact W_isWell_2 hS hR a0 l1 h
def wm_isWell (M : rf_M) (K : Int → rf_M → Prop) : Prop := w_isWell  M K
theorem W_isWell_m {fz : Bool} {S : gS} {B : rf_M} {M : rf_M} {K : Int → rf_M → Prop} (hS : rk fz S B.2.2) (hR : fq B M) (h : wm_isWell  M K) : gx (cx0 fz) (5, 112) 179 0 (lv_args 0 [.ref 353]) [] (M, S) (vq_i B S K) :=
  W_isWell hS hR rfl h
def w_bringIn_58 (v1 : Int) (M : rf_M) (b2 : Int → rf_M → Prop) (K : rf_M → Prop) : Prop := b2 (v1 + 1) M
theorem W_bringIn_58 {fz : Bool} {S : gS} {B : rf_M} {M : rf_M} {ls : rf_L} {v1 : Int} {b2 : Int → rf_M → Prop} {K : rf_M → Prop} (hS : rk fz S B.2.2) (hR : fq B M) (a0 : rf_ld ls 0 = some (.ref 353)) (a1 : rf_ld ls 1 = some (zv v1)) (hb2 : ∀ (v1 : Int) (M : rf_M) (ls : rf_L), fq B M → rf_ld ls 0 = some (.ref 353) → rf_ld ls 1 = some (zv v1) → b2 v1 M → gx (cx0 fz) (0, 0) 182 2 ls [] (M, S) (vq_v B S K)) (h : w_bringIn_58 v1 M b2 K) : gx (cx0 fz) (0, 0) 182 58 ls [] (M, S) (vq_v B S K) := by
  unfold w_bringIn_58 at h
  refine n_ii rfl a1 (Nat.le_of_ble_eq_true rfl) (fun ls l1 ho => ?_)
  replace a0 := ho 0 _ (by decide) (fun q => by cases q.2) a0
  refine g3 rfl rfl rfl ?_
  exact hb2 _ _ _ hR a0 l1 h
def w_bringIn_66b (v1 : Int) (M : rf_M) (b66 : Int → rf_M → Prop) (K : rf_M → Prop) : Prop := inr v1 ∧ (((gi M 353 58) ≤ v1 → (K M)) ∧ (¬ ((gi M 353 58) ≤ v1) → ((0 ≤ (gi M 353 42) ∧ (gi M 353 42) < 2) ∧ ((0 ≤ v1 ∧ v1 < 400) ∧ ((0 ≤ ((32 * (gi M 353 42)) + (gi M 378 (gi M 353 42).toNat)) ∧ ((32 * (gi M 353 42)) + (gi M 378 (gi M 353 42).toNat)) < 64) ∧ (∀ M1 : rf_M, M1 = wi M 379 ((32 * (gi M 353 42)) + (gi M 378 (gi M 353 42).toNat)).toNat (gi M 393 (v1).toNat) → ((0 ≤ (gi M1 353 42) ∧ (gi M1 353 42) < 2) ∧ ((0 ≤ (gi M1 353 42) ∧ (gi M1 353 42) < 2) ∧ (∀ M2 : rf_M, M2 = wi M1 378 (gi M1 353 42).toNat ((gi M1 378 (gi M1 353 42).toNat) + 1) → (b66 (v1 + 1) M2))))))))))
theorem W_bringIn_66b {fz : Bool} {S : gS} {B : rf_M} {M : rf_M} {ls : rf_L} {v1 : Int} {b66 : Int → rf_M → Prop} {K : rf_M → Prop} (hS : rk fz S B.2.2) (hR : fq B M) (a0 : rf_ld ls 0 = some (.ref 353)) (a1 : rf_ld ls 1 = some (zv v1)) (hb66 : ∀ (v1 : Int) (M : rf_M) (ls : rf_L), fq B M → rf_ld ls 0 = some (.ref 353) → rf_ld ls 1 = some (zv v1) → b66 v1 M → gx (cx0 fz) (0, 0) 182 66 ls [] (M, S) (vq_v B S K)) (h : w_bringIn_66b v1 M b66 K) : gx (cx0 fz) (0, 0) 182 66 ls [] (M, S) (vq_v B S K) := by
  unfold w_bringIn_66b at h
  refine g1 (n := 1) rfl rfl rfl (li_of a1) ?_
  refine g1 (n := 1) rfl rfl rfl (la_of a0) ?_
  refine n_gi rfl hS.1 rfl (fun _ => rfl) ?_
  obtain ⟨i1, h⟩ := h
  refine n_ic rfl i1 (inr_gi _ _ _) (fun c => ?_) (fun c => ?_)
  · replace h := h.1 c
    exact gx_ret rfl rfl ⟨M, rfl, rfl, hR, h⟩
  · replace h := h.2 c
    refine g1 (n := 1) rfl rfl rfl (la_of a0) ?_
    refine n_gr rfl hS.1 rfl (fun _ => rfl) hR (rk_379 hS).2 ?_
    refine n_bi rfl (by decide) ?_
    refine g1 (n := 1) rfl rfl rfl (la_of a0) ?_
    refine n_gi rfl hS.1 rfl (fun _ => rfl) ?_
    refine n_mul rfl ?_
    refine g1 (n := 1) rfl rfl rfl (la_of a0) ?_
    refine n_gr rfl hS.1 rfl (fun _ => rfl) hR (rk_378 hS).2 ?_
    refine g1 (n := 1) rfl rfl rfl (la_of a0) ?_
    refine n_gi rfl hS.1 rfl (fun _ => rfl) ?_
    obtain ⟨q, h⟩ := h
    refine n_ia rfl (rk_378 hS).1 (Nat.le_of_ble_eq_true rfl) q ?_
    refine n_add rfl ?_
    refine g1 (n := 1) rfl rfl rfl (la_of a0) ?_
    refine n_gr rfl hS.1 rfl (fun _ => rfl) hR (rk_393 hS).2 ?_
    refine g1 (n := 1) rfl rfl rfl (li_of a1) ?_
    obtain ⟨q, h⟩ := h
    refine n_ia rfl (rk_393 hS).1 (Nat.le_of_ble_eq_true rfl) q ?_
    obtain ⟨q, h⟩ := h
    refine n_is (Nat.le_of_ble_eq_true rfl) rfl (rk_379 hS).1 (Nat.le_of_ble_eq_true rfl) q (fun M1 e r => ?_)
    replace h := h M1 e
    have r1 := hR.trans r
    refine g1 (n := 1) rfl rfl rfl (la_of a0) ?_
    refine n_gr rfl hS.1 rfl (fun _ => rfl) r1 (rk_378 hS).2 ?_
    refine g1 (n := 1) rfl rfl rfl (la_of a0) ?_
    refine n_gi rfl hS.1 rfl (fun _ => rfl) ?_
    refine g0 rfl rfl rfl ?_
    obtain ⟨q, h⟩ := h
    refine n_ia rfl (rk_378 hS).1 (Nat.le_of_ble_eq_true rfl) q ?_
    refine g1 (n := 1) rfl rfl rfl rfl ?_
    refine n_add rfl ?_
    obtain ⟨q, h⟩ := h
    refine n_is (Nat.le_of_ble_eq_true rfl) rfl (rk_378 hS).1 (Nat.le_of_ble_eq_true rfl) q (fun M2 e r => ?_)
    replace h := h M2 e
    have r2 := r1.trans r
    refine n_ii rfl a1 (Nat.le_of_ble_eq_true rfl) (fun ls l1 ho => ?_)
    replace a0 := ho 0 _ (by decide) (fun q => by cases q.2) a0
    refine g3 rfl rfl rfl ?_
    exact hb66 _ _ _ r2 a0 l1 h
def w_bringIn_66 (v1 : Int) (M : rf_M) (K : rf_M → Prop) : Prop := ∃ Inv : Nat → Int → rf_M → Prop, (∃ m, Inv m v1 M) ∧ ∀ (m : Nat) (v1 : Int) (M : rf_M), Inv m v1 M → w_bringIn_66b v1 M (fun (v1' : Int) (M' : rf_M) => ∃ m', m' < m ∧ Inv m' v1' M') K
theorem W_bringIn_66 {fz : Bool} {S : gS} {B : rf_M} {M : rf_M} {ls : rf_L} {v1 : Int} {K : rf_M → Prop} (hS : rk fz S B.2.2) (hR : fq B M) (a0 : rf_ld ls 0 = some (.ref 353)) (a1 : rf_ld ls 1 = some (zv v1)) (h : w_bringIn_66 v1 M K) : gx (cx0 fz) (0, 0) 182 66 ls [] (M, S) (vq_v B S K) := by
  obtain ⟨Inv, ⟨m, hm⟩, hb⟩ := h
  induction m using Nat.strongRecOn generalizing ls M v1 with
  | _ m ih =>
    refine W_bringIn_66b hS hR a0 a1 (fun v1' M' ls' hR' f0 f1 ⟨m', q1, q2⟩ => ih m' q1 hR' f0 f1 q2) (hb m v1 M hm)
def w_bringIn_2b (v1 : Int) (M : rf_M) (b2 : Int → rf_M → Prop) (K : rf_M → Prop) : Prop := inr v1 ∧ ((16 ≤ v1 → (w_bringIn_66 0 M K)) ∧ (¬ (16 ≤ v1) → (((Int32.ofInt (Int32.ofInt (gi M 353 55) >>> (Int32.ofInt v1 &&& 31)).toInt &&& Int32.ofInt 1).toInt = 1 → ((0 ≤ v1 ∧ v1 < 16) ∧ ((0 ≤ ((16 * (gi M 353 42)) + v1) ∧ ((16 * (gi M 353 42)) + v1) < 32) ∧ (∀ M1 : rf_M, M1 = wl M 376 ((16 * (gi M 353 42)) + v1).toNat (gl M 391 (v1).toNat) → ((0 ≤ ((16 * (gi M1 353 42)) + v1) ∧ ((16 * (gi M1 353 42)) + v1) < 32) ∧ ((0 ≤ ((16 * (gi M1 353 42)) + v1) ∧ ((16 * (gi M1 353 42)) + v1) < 32) ∧ (∀ M2 : rf_M, M2 = wi M1 377 ((16 * (gi M1 353 42)) + v1).toNat ((gi M1 377 ((16 * (gi M1 353 42)) + v1).toNat) + 1) → (w_bringIn_58 v1 M2 b2 K)))))))) ∧ (¬ (Int32.ofInt (Int32.ofInt (gi M 353 55) >>> (Int32.ofInt v1 &&& 31)).toInt &&& Int32.ofInt 1).toInt = 1 → (w_bringIn_58 v1 M b2 K)))))
theorem W_bringIn_2b {fz : Bool} {S : gS} {B : rf_M} {M : rf_M} {ls : rf_L} {v1 : Int} {b2 : Int → rf_M → Prop} {K : rf_M → Prop} (hS : rk fz S B.2.2) (hR : fq B M) (a0 : rf_ld ls 0 = some (.ref 353)) (a1 : rf_ld ls 1 = some (zv v1)) (hb2 : ∀ (v1 : Int) (M : rf_M) (ls : rf_L), fq B M → rf_ld ls 0 = some (.ref 353) → rf_ld ls 1 = some (zv v1) → b2 v1 M → gx (cx0 fz) (0, 0) 182 2 ls [] (M, S) (vq_v B S K)) (h : w_bringIn_2b v1 M b2 K) : gx (cx0 fz) (0, 0) 182 2 ls [] (M, S) (vq_v B S K) := by
  unfold w_bringIn_2b at h
  refine g1 (n := 1) rfl rfl rfl (li_of a1) ?_
  refine n_bi rfl (by decide) ?_
  obtain ⟨i1, h⟩ := h
  refine n_ic rfl i1 ⟨by decide, by decide⟩ (fun c => ?_) (fun c => ?_)
  · replace h := h.1 c
    refine g1 (n := 1) rfl rfl rfl rfl ?_
    refine n_s1 (n := 1) rfl rfl rfl rfl (fun ls l1 ho => ?_)
    replace a0 := ho 0 _ (by decide) (fun q => by cases q.2) a0
    exact W_bringIn_66 hS hR a0 l1 h
  · replace h := h.2 c
    refine g1 (n := 1) rfl rfl rfl (la_of a0) ?_
    refine n_gi rfl hS.1 rfl (fun _ => rfl) ?_
    refine g1 (n := 1) rfl rfl rfl (li_of a1) ?_
    refine n_op (T := (Int32.ofInt (gi M 353 55) >>> (Int32.ofInt v1 &&& 31))) rfl rfl rfl ?_
    refine g1 (n := 1) rfl rfl rfl rfl ?_
    refine n_op (T := (Int32.ofInt (Int32.ofInt (gi M 353 55) >>> (Int32.ofInt v1 &&& 31)).toInt &&& Int32.ofInt 1)) rfl rfl rfl ?_
    refine g1 (n := 1) rfl rfl rfl rfl ?_
    refine n_ic rfl (inr_ti _) ⟨by decide, by decide⟩ (fun c => ?_) (fun c => ?_)
    · replace h := h.2 c
      exact W_bringIn_58 hS hR a0 a1 hb2 h
    · replace h := h.1 (Classical.not_not.mp c)
      refine g1 (n := 1) rfl rfl rfl (la_of a0) ?_
      refine n_gr rfl hS.1 rfl (fun _ => rfl) hR (rk_376 hS).2 ?_
      refine n_bi rfl (by decide) ?_
      refine g1 (n := 1) rfl rfl rfl (la_of a0) ?_
      refine n_gi rfl hS.1 rfl (fun _ => rfl) ?_
      refine n_mul rfl ?_
      refine g1 (n := 1) rfl rfl rfl (li_of a1) ?_
      refine n_add rfl ?_
      refine g1 (n := 1) rfl rfl rfl (la_of a0) ?_
      refine n_gr rfl hS.1 rfl (fun _ => rfl) hR (rk_391 hS).2 ?_
      refine g1 (n := 1) rfl rfl rfl (li_of a1) ?_
      obtain ⟨q, h⟩ := h
      refine n_la rfl (rk_391 hS).1 (Nat.le_of_ble_eq_true rfl) q ?_
      obtain ⟨q, h⟩ := h
      refine n_ls (Nat.le_of_ble_eq_true rfl) rfl (rk_376 hS).1 (Nat.le_of_ble_eq_true rfl) q (fun M1 e r => ?_)
      replace h := h M1 e
      have r1 := hR.trans r
      refine g1 (n := 1) rfl rfl rfl (la_of a0) ?_
      refine n_gr rfl hS.1 rfl (fun _ => rfl) r1 (rk_377 hS).2 ?_
      refine n_bi rfl (by decide) ?_
      refine g1 (n := 1) rfl rfl rfl (la_of a0) ?_
      refine n_gi rfl hS.1 rfl (fun _ => rfl) ?_
      refine n_mul rfl ?_
      refine g1 (n := 1) rfl rfl rfl (li_of a1) ?_
      refine n_add rfl ?_
      refine g0 rfl rfl rfl ?_
      obtain ⟨q, h⟩ := h
      refine n_ia rfl (rk_377 hS).1 (Nat.le_of_ble_eq_true rfl) q ?_
      refine g1 (n := 1) rfl rfl rfl rfl ?_
      refine n_add rfl ?_
      obtain ⟨q, h⟩ := h
      refine n_is (Nat.le_of_ble_eq_true rfl) rfl (rk_377 hS).1 (Nat.le_of_ble_eq_true rfl) q (fun M2 e r => ?_)
      replace h := h M2 e
      have r2 := r1.trans r
      exact W_bringIn_58 hS r2 a0 a1 hb2 h
