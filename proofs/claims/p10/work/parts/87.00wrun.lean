/-! the methods as formulas (printed by wip/tools/vc.py) -/
def w_isClient_15 (s0 : Int) (M : rf_M) (K : Int → rf_M → Prop) : Prop := (s0 = 0 ∨ s0 = 1) ∧ K s0 M
theorem W_isClient_15 {fz : Bool} {S : gS} {B : rf_M} {M : rf_M} {ls : rf_L} {s0 : Int} {K : Int → rf_M → Prop} (hS : rk fz S B.2.2) (hR : fq B M) (h : w_isClient_15 s0 M K) : gx (cx0 fz) (0, 0) 155 15 ls [zv s0] (M, S) (vq_i B S K) := by
  unfold w_isClient_15 at h
  exact n_rb rfl rfl h.1 hR h.2
def w_isClient_14 (M : rf_M) (K : Int → rf_M → Prop) : Prop := w_isClient_15 0 M K
theorem W_isClient_14 {fz : Bool} {S : gS} {B : rf_M} {M : rf_M} {ls : rf_L} {K : Int → rf_M → Prop} (hS : rk fz S B.2.2) (hR : fq B M) (h : w_isClient_14 M K) : gx (cx0 fz) (0, 0) 155 14 ls [] (M, S) (vq_i B S K) := by
  unfold w_isClient_14 at h
  refine g1 (n := 1) rfl rfl rfl rfl ?_
  exact W_isClient_15 hS hR  h
def w_isClient (v1 : Int) (M : rf_M) (K : Int → rf_M → Prop) : Prop := inr v1 ∧ ((v1 < 0 → (w_isClient_14 M K)) ∧ (¬ (v1 < 0) → (inr v1 ∧ ((8 ≤ v1 → (w_isClient_14 M K)) ∧ (¬ (8 ≤ v1) → (w_isClient_15 1 M K))))))
theorem W_isClient {fz : Bool} {S : gS} {B : rf_M} {M : rf_M} {ls : rf_L} {v1 : Int} {K : Int → rf_M → Prop} (hS : rk fz S B.2.2) (hR : fq B M) (a1 : rf_ld ls 1 = some (zv v1)) (h : w_isClient v1 M K) : gx (cx0 fz) (0, 0) 155 0 ls [] (M, S) (vq_i B S K) := by
  unfold w_isClient at h
  refine g1 (n := 1) rfl rfl rfl (li_of a1) ?_
  obtain ⟨i1, h⟩ := h
  refine n_if rfl i1 (fun c => ?_) (fun c => ?_)
  · replace h := h.1 c
    exact W_isClient_14 hS hR  h
  · replace h := h.2 c
    refine g1 (n := 1) rfl rfl rfl (li_of a1) ?_
    refine n_bi rfl (by decide) ?_
    obtain ⟨i2, h⟩ := h
    refine n_ic rfl i2 ⟨by decide, by decide⟩ (fun c => ?_) (fun c => ?_)
    · replace h := h.1 c
      exact W_isClient_14 hS hR  h
    · replace h := h.2 c
      refine g1 (n := 1) rfl rfl rfl rfl ?_
      refine g3 rfl rfl rfl ?_
      exact W_isClient_15 hS hR  h
def wm_isClient (x0 : Int) (M : rf_M) (K : Int → rf_M → Prop) : Prop := w_isClient x0 M K
theorem W_isClient_m {fz : Bool} {S : gS} {B : rf_M} {M : rf_M} {x0 : Int} {K : Int → rf_M → Prop} (hS : rk fz S B.2.2) (hR : fq B M) (h : wm_isClient x0 M K) : gx (cx0 fz) (0, 0) 155 0 (lv_args 0 [.ref 353, zv x0]) [] (M, S) (vq_i B S K) :=
  W_isClient hS hR rfl h
def w_bringRead_12b (v1 : Int) (v2 : Int) (M : rf_M) (b12 : Int → Int → rf_M → Prop) (K : rf_M → Prop) : Prop := inr v2 ∧ ((16 ≤ v2 → (K M)) ∧ (¬ (16 ≤ v2) → ((0 ≤ ((16 * v1) + v2) ∧ ((16 * v1) + v2) < 128) ∧ ((0 ≤ v2 ∧ v2 < 16) ∧ (∀ M1 : rf_M, M1 = wl M 389 (v2).toNat (gl M 387 ((16 * v1) + v2).toNat) → ((0 ≤ ((16 * v1) + v2) ∧ ((16 * v1) + v2) < 128) ∧ ((0 ≤ v2 ∧ v2 < 16) ∧ (∀ M2 : rf_M, M2 = wi M1 390 (v2).toNat (gi M1 388 ((16 * v1) + v2).toNat) → (b12 v1 (v2 + 1) M2)))))))))
theorem W_bringRead_12b {fz : Bool} {S : gS} {B : rf_M} {M : rf_M} {ls : rf_L} {v1 : Int} {v2 : Int} {b12 : Int → Int → rf_M → Prop} {K : rf_M → Prop} (hS : rk fz S B.2.2) (hR : fq B M) (a0 : rf_ld ls 0 = some (.ref 353)) (a1 : rf_ld ls 1 = some (zv v1)) (a2 : rf_ld ls 2 = some (zv v2)) (hb12 : ∀ (v1 : Int) (v2 : Int) (M : rf_M) (ls : rf_L), fq B M → rf_ld ls 0 = some (.ref 353) → rf_ld ls 1 = some (zv v1) → rf_ld ls 2 = some (zv v2) → b12 v1 v2 M → gx (cx0 fz) (0, 0) 157 12 ls [] (M, S) (vq_v B S K)) (h : w_bringRead_12b v1 v2 M b12 K) : gx (cx0 fz) (0, 0) 157 12 ls [] (M, S) (vq_v B S K) := by
  unfold w_bringRead_12b at h
  refine g1 (n := 1) rfl rfl rfl (li_of a2) ?_
  refine n_bi rfl (by decide) ?_
  obtain ⟨i1, h⟩ := h
  refine n_ic rfl i1 ⟨by decide, by decide⟩ (fun c => ?_) (fun c => ?_)
  · replace h := h.1 c
    exact gx_ret rfl rfl ⟨M, rfl, rfl, hR, h⟩
  · replace h := h.2 c
    refine g1 (n := 1) rfl rfl rfl (la_of a0) ?_
    refine n_gr rfl hS.1 rfl (fun _ => rfl) hR (rk_389 hS).2 ?_
    refine g1 (n := 1) rfl rfl rfl (li_of a2) ?_
    refine g1 (n := 1) rfl rfl rfl (la_of a0) ?_
    refine n_gr rfl hS.1 rfl (fun _ => rfl) hR (rk_387 hS).2 ?_
    refine n_bi rfl (by decide) ?_
    refine g1 (n := 1) rfl rfl rfl (li_of a1) ?_
    refine n_mul rfl ?_
    refine g1 (n := 1) rfl rfl rfl (li_of a2) ?_
    refine n_add rfl ?_
    obtain ⟨q, h⟩ := h
    refine n_la rfl (rk_387 hS).1 (Nat.le_of_ble_eq_true rfl) q ?_
    obtain ⟨q, h⟩ := h
    refine n_ls (Nat.le_of_ble_eq_true rfl) rfl (rk_389 hS).1 (Nat.le_of_ble_eq_true rfl) q (fun M1 e r => ?_)
    replace h := h M1 e
    have r1 := hR.trans r
    refine g1 (n := 1) rfl rfl rfl (la_of a0) ?_
    refine n_gr rfl hS.1 rfl (fun _ => rfl) r1 (rk_390 hS).2 ?_
    refine g1 (n := 1) rfl rfl rfl (li_of a2) ?_
    refine g1 (n := 1) rfl rfl rfl (la_of a0) ?_
    refine n_gr rfl hS.1 rfl (fun _ => rfl) r1 (rk_388 hS).2 ?_
    refine n_bi rfl (by decide) ?_
    refine g1 (n := 1) rfl rfl rfl (li_of a1) ?_
    refine n_mul rfl ?_
    refine g1 (n := 1) rfl rfl rfl (li_of a2) ?_
    refine n_add rfl ?_
    obtain ⟨q, h⟩ := h
    refine n_ia rfl (rk_388 hS).1 (Nat.le_of_ble_eq_true rfl) q ?_
    obtain ⟨q, h⟩ := h
    refine n_is (Nat.le_of_ble_eq_true rfl) rfl (rk_390 hS).1 (Nat.le_of_ble_eq_true rfl) q (fun M2 e r => ?_)
    replace h := h M2 e
    have r2 := r1.trans r
    refine n_ii rfl a2 (Nat.le_of_ble_eq_true rfl) (fun ls l1 ho => ?_)
    replace a0 := ho 0 _ (by decide) (fun q => by cases q.2) a0
    have l2 := ho 1 _ (by decide) (fun q => by cases q.2) a1
    refine g3 rfl rfl rfl ?_
    exact hb12 _ _ _ _ r2 a0 l2 l1 h
def w_bringRead_12 (v1 : Int) (v2 : Int) (M : rf_M) (K : rf_M → Prop) : Prop := ∃ Inv : Nat → Int → Int → rf_M → Prop, (∃ m, Inv m v1 v2 M) ∧ ∀ (m : Nat) (v1 : Int) (v2 : Int) (M : rf_M), Inv m v1 v2 M → w_bringRead_12b v1 v2 M (fun (v1' : Int) (v2' : Int) (M' : rf_M) => ∃ m', m' < m ∧ Inv m' v1' v2' M') K
theorem W_bringRead_12 {fz : Bool} {S : gS} {B : rf_M} {M : rf_M} {ls : rf_L} {v1 : Int} {v2 : Int} {K : rf_M → Prop} (hS : rk fz S B.2.2) (hR : fq B M) (a0 : rf_ld ls 0 = some (.ref 353)) (a1 : rf_ld ls 1 = some (zv v1)) (a2 : rf_ld ls 2 = some (zv v2)) (h : w_bringRead_12 v1 v2 M K) : gx (cx0 fz) (0, 0) 157 12 ls [] (M, S) (vq_v B S K) := by
  obtain ⟨Inv, ⟨m, hm⟩, hb⟩ := h
  induction m using Nat.strongRecOn generalizing ls M v1 v2 with
  | _ m ih =>
    refine W_bringRead_12b hS hR a0 a1 a2 (fun v1' v2' M' ls' hR' f0 f1 f2 ⟨m', q1, q2⟩ => ih m' q1 hR' f0 f1 f2 q2) (hb m v1 v2 M hm)
def w_bringRead (v1 : Int) (M : rf_M) (K : rf_M → Prop) : Prop := (0 ≤ v1 ∧ v1 < 8) ∧ (∀ M1 : rf_M, M1 = wi M 353 52 (gi M 386 (v1).toNat) → (w_bringRead_12 v1 0 M1 K))
theorem W_bringRead {fz : Bool} {S : gS} {B : rf_M} {M : rf_M} {ls : rf_L} {v1 : Int} {K : rf_M → Prop} (hS : rk fz S B.2.2) (hR : fq B M) (a0 : rf_ld ls 0 = some (.ref 353)) (a1 : rf_ld ls 1 = some (zv v1)) (h : w_bringRead v1 M K) : gx (cx0 fz) (0, 0) 157 0 ls [] (M, S) (vq_v B S K) := by
  unfold w_bringRead at h
  refine g1 (n := 1) rfl rfl rfl (la_of a0) ?_
  refine g1 (n := 1) rfl rfl rfl (la_of a0) ?_
  refine n_gr rfl hS.1 rfl (fun _ => rfl) hR (rk_386 hS).2 ?_
  refine g1 (n := 1) rfl rfl rfl (li_of a1) ?_
  obtain ⟨q, h⟩ := h
  refine n_ia rfl (rk_386 hS).1 (Nat.le_of_ble_eq_true rfl) q ?_
  refine n_pi (Nat.le_of_ble_eq_true rfl) rfl hS.1 rfl (fun _ _ => rfl) (fun M1 e r => ?_)
  replace h := h M1 e
  have r1 := hR.trans r
  refine g1 (n := 1) rfl rfl rfl rfl ?_
  refine n_s1 (n := 1) rfl rfl rfl rfl (fun ls l1 ho => ?_)
  replace a0 := ho 0 _ (by decide) (fun q => by cases q.2) a0
  have l2 := ho 1 _ (by decide) (fun q => by cases q.2) a1
  exact W_bringRead_12 hS r1 a0 l2 l1 h
def wm_bringRead (x0 : Int) (M : rf_M) (K : rf_M → Prop) : Prop := w_bringRead x0 M K
theorem W_bringRead_m {fz : Bool} {S : gS} {B : rf_M} {M : rf_M} {x0 : Int} {K : rf_M → Prop} (hS : rk fz S B.2.2) (hR : fq B M) (h : wm_bringRead x0 M K) : gx (cx0 fz) (0, 0) 157 0 (lv_args 0 [.ref 353, zv x0]) [] (M, S) (vq_v B S K) :=
  W_bringRead hS hR rfl rfl h
def w_isChanged_45 (v1 : Int) (M : rf_M) (b2 : Int → rf_M → Prop) (K : Int → rf_M → Prop) : Prop := b2 (v1 + 1) M
theorem W_isChanged_45 {fz : Bool} {S : gS} {B : rf_M} {M : rf_M} {ls : rf_L} {v1 : Int} {b2 : Int → rf_M → Prop} {K : Int → rf_M → Prop} (hS : rk fz S B.2.2) (hR : fq B M) (a0 : rf_ld ls 0 = some (.ref 353)) (a1 : rf_ld ls 1 = some (zv v1)) (hb2 : ∀ (v1 : Int) (M : rf_M) (ls : rf_L), fq B M → rf_ld ls 0 = some (.ref 353) → rf_ld ls 1 = some (zv v1) → b2 v1 M → gx (cx0 fz) (0, 0) 158 2 ls [] (M, S) (vq_i B S K)) (h : w_isChanged_45 v1 M b2 K) : gx (cx0 fz) (0, 0) 158 45 ls [] (M, S) (vq_i B S K) := by
  unfold w_isChanged_45 at h
  refine n_ii rfl a1 (Nat.le_of_ble_eq_true rfl) (fun ls l1 ho => ?_)
  replace a0 := ho 0 _ (by decide) (fun q => by cases q.2) a0
  refine g3 rfl rfl rfl ?_
  exact hb2 _ _ _ hR a0 l1 h
def w_isChanged_2b (v1 : Int) (M : rf_M) (b2 : Int → rf_M → Prop) (K : Int → rf_M → Prop) : Prop := inr v1 ∧ ((16 ≤ v1 → (K 0 M)) ∧ (¬ (16 ≤ v1) → (((Int32.ofInt (Int32.ofInt (gi M 353 52) >>> (Int32.ofInt v1 &&& 31)).toInt &&& Int32.ofInt 1).toInt = 1 → ((0 ≤ v1 ∧ v1 < 16) ∧ ((0 ≤ ((16 * (gi M 353 42)) + v1) ∧ ((16 * (gi M 353 42)) + v1) < 32) ∧ (((gi M 390 (v1).toNat) = (gi M 377 ((16 * (gi M 353 42)) + v1).toNat) → (w_isChanged_45 v1 M b2 K)) ∧ (¬ ((gi M 390 (v1).toNat) = (gi M 377 ((16 * (gi M 353 42)) + v1).toNat)) → (K 1 M)))))) ∧ (¬ (Int32.ofInt (Int32.ofInt (gi M 353 52) >>> (Int32.ofInt v1 &&& 31)).toInt &&& Int32.ofInt 1).toInt = 1 → (w_isChanged_45 v1 M b2 K)))))
theorem W_isChanged_2b {fz : Bool} {S : gS} {B : rf_M} {M : rf_M} {ls : rf_L} {v1 : Int} {b2 : Int → rf_M → Prop} {K : Int → rf_M → Prop} (hS : rk fz S B.2.2) (hR : fq B M) (a0 : rf_ld ls 0 = some (.ref 353)) (a1 : rf_ld ls 1 = some (zv v1)) (hb2 : ∀ (v1 : Int) (M : rf_M) (ls : rf_L), fq B M → rf_ld ls 0 = some (.ref 353) → rf_ld ls 1 = some (zv v1) → b2 v1 M → gx (cx0 fz) (0, 0) 158 2 ls [] (M, S) (vq_i B S K)) (h : w_isChanged_2b v1 M b2 K) : gx (cx0 fz) (0, 0) 158 2 ls [] (M, S) (vq_i B S K) := by
  unfold w_isChanged_2b at h
  refine g1 (n := 1) rfl rfl rfl (li_of a1) ?_
  refine n_bi rfl (by decide) ?_
  obtain ⟨i1, h⟩ := h
  refine n_ic rfl i1 ⟨by decide, by decide⟩ (fun c => ?_) (fun c => ?_)
  · replace h := h.1 c
    refine g1 (n := 1) rfl rfl rfl rfl ?_
    exact n_rb rfl rfl (Or.inl rfl) hR h
  · replace h := h.2 c
    refine g1 (n := 1) rfl rfl rfl (la_of a0) ?_
    refine n_gi rfl hS.1 rfl (fun _ => rfl) ?_
    refine g1 (n := 1) rfl rfl rfl (li_of a1) ?_
    refine n_op (T := (Int32.ofInt (gi M 353 52) >>> (Int32.ofInt v1 &&& 31))) rfl rfl rfl ?_
    refine g1 (n := 1) rfl rfl rfl rfl ?_
    refine n_op (T := (Int32.ofInt (Int32.ofInt (gi M 353 52) >>> (Int32.ofInt v1 &&& 31)).toInt &&& Int32.ofInt 1)) rfl rfl rfl ?_
    refine g1 (n := 1) rfl rfl rfl rfl ?_
    refine n_ic rfl (inr_ti _) ⟨by decide, by decide⟩ (fun c => ?_) (fun c => ?_)
    · replace h := h.2 c
      exact W_isChanged_45 hS hR a0 a1 hb2 h
    · replace h := h.1 (Classical.not_not.mp c)
      refine g1 (n := 1) rfl rfl rfl (la_of a0) ?_
      refine n_gr rfl hS.1 rfl (fun _ => rfl) hR (rk_390 hS).2 ?_
      refine g1 (n := 1) rfl rfl rfl (li_of a1) ?_
      obtain ⟨q, h⟩ := h
      refine n_ia rfl (rk_390 hS).1 (Nat.le_of_ble_eq_true rfl) q ?_
      refine g1 (n := 1) rfl rfl rfl (la_of a0) ?_
      refine n_gr rfl hS.1 rfl (fun _ => rfl) hR (rk_377 hS).2 ?_
      refine n_bi rfl (by decide) ?_
      refine g1 (n := 1) rfl rfl rfl (la_of a0) ?_
      refine n_gi rfl hS.1 rfl (fun _ => rfl) ?_
      refine n_mul rfl ?_
      refine g1 (n := 1) rfl rfl rfl (li_of a1) ?_
      refine n_add rfl ?_
      obtain ⟨q, h⟩ := h
      refine n_ia rfl (rk_377 hS).1 (Nat.le_of_ble_eq_true rfl) q ?_
      refine n_ic rfl (inr_gi _ _ _) (inr_gi _ _ _) (fun c => ?_) (fun c => ?_)
      · replace h := h.1 c
        exact W_isChanged_45 hS hR a0 a1 hb2 h
      · replace h := h.2 c
        refine g1 (n := 1) rfl rfl rfl rfl ?_
        exact n_rb rfl rfl (Or.inr rfl) hR h
def w_isChanged_2 (v1 : Int) (M : rf_M) (K : Int → rf_M → Prop) : Prop := ∃ Inv : Nat → Int → rf_M → Prop, (∃ m, Inv m v1 M) ∧ ∀ (m : Nat) (v1 : Int) (M : rf_M), Inv m v1 M → w_isChanged_2b v1 M (fun (v1' : Int) (M' : rf_M) => ∃ m', m' < m ∧ Inv m' v1' M') K
theorem W_isChanged_2 {fz : Bool} {S : gS} {B : rf_M} {M : rf_M} {ls : rf_L} {v1 : Int} {K : Int → rf_M → Prop} (hS : rk fz S B.2.2) (hR : fq B M) (a0 : rf_ld ls 0 = some (.ref 353)) (a1 : rf_ld ls 1 = some (zv v1)) (h : w_isChanged_2 v1 M K) : gx (cx0 fz) (0, 0) 158 2 ls [] (M, S) (vq_i B S K) := by
  obtain ⟨Inv, ⟨m, hm⟩, hb⟩ := h
  induction m using Nat.strongRecOn generalizing ls M v1 with
  | _ m ih =>
    refine W_isChanged_2b hS hR a0 a1 (fun v1' M' ls' hR' f0 f1 ⟨m', q1, q2⟩ => ih m' q1 hR' f0 f1 q2) (hb m v1 M hm)
def w_isChanged (M : rf_M) (K : Int → rf_M → Prop) : Prop := w_isChanged_2 0 M K
theorem W_isChanged {fz : Bool} {S : gS} {B : rf_M} {M : rf_M} {ls : rf_L} {K : Int → rf_M → Prop} (hS : rk fz S B.2.2) (hR : fq B M) (a0 : rf_ld ls 0 = some (.ref 353)) (h : w_isChanged M K) : gx (cx0 fz) (0, 0) 158 0 ls [] (M, S) (vq_i B S K) := by
  unfold w_isChanged at h
  refine g1 (n := 1) rfl rfl rfl rfl ?_
  refine n_s1 (n := 1) rfl rfl rfl rfl (fun ls l1 ho => ?_)
  replace a0 := ho 0 _ (by decide) (fun q => by cases q.2) a0
  exact W_isChanged_2 hS hR a0 l1 h
def wm_isChanged (M : rf_M) (K : Int → rf_M → Prop) : Prop := w_isChanged  M K
theorem W_isChanged_m {fz : Bool} {S : gS} {B : rf_M} {M : rf_M} {K : Int → rf_M → Prop} (hS : rk fz S B.2.2) (hR : fq B M) (h : wm_isChanged  M K) : gx (cx0 fz) (0, 0) 158 0 (lv_args 0 [.ref 353]) [] (M, S) (vq_i B S K) :=
  W_isChanged hS hR rfl h
def w_firstOf (v1 : Int) (M : rf_M) (K : Int → rf_M → Prop) : Prop := (0 ≤ (16 * v1) ∧ (16 * v1) < 128) ∧ (K (gi M 380 (16 * v1).toNat) M)
theorem W_firstOf {fz : Bool} {S : gS} {B : rf_M} {M : rf_M} {ls : rf_L} {v1 : Int} {K : Int → rf_M → Prop} (hS : rk fz S B.2.2) (hR : fq B M) (a0 : rf_ld ls 0 = some (.ref 353)) (a1 : rf_ld ls 1 = some (zv v1)) (h : w_firstOf v1 M K) : gx (cx0 fz) (0, 0) 160 0 ls [] (M, S) (vq_i B S K) := by
  unfold w_firstOf at h
  refine g1 (n := 1) rfl rfl rfl (la_of a0) ?_
  refine n_gr rfl hS.1 rfl (fun _ => rfl) hR (rk_380 hS).2 ?_
  refine n_bi rfl (by decide) ?_
  refine g1 (n := 1) rfl rfl rfl (li_of a1) ?_
  refine n_mul rfl ?_
  obtain ⟨q, h⟩ := h
  refine n_ia rfl (rk_380 hS).1 (Nat.le_of_ble_eq_true rfl) q ?_
  exact gx_ret rfl rfl ⟨(gi M 380 (16 * v1).toNat), M, rfl, rfl, hR, h⟩
def wm_firstOf (x0 : Int) (M : rf_M) (K : Int → rf_M → Prop) : Prop := w_firstOf x0 M K
theorem W_firstOf_m {fz : Bool} {S : gS} {B : rf_M} {M : rf_M} {x0 : Int} {K : Int → rf_M → Prop} (hS : rk fz S B.2.2) (hR : fq B M) (h : wm_firstOf x0 M K) : gx (cx0 fz) (0, 0) 160 0 (lv_args 0 [.ref 353, zv x0]) [] (M, S) (vq_i B S K) :=
  W_firstOf hS hR rfl rfl h
def w_beginWalk_12b (v1 : Int) (v2 : Int) (M : rf_M) (b12 : Int → Int → rf_M → Prop) (K : rf_M → Prop) : Prop := inr v2 ∧ ((10 ≤ v2 → ((0 ≤ v1 ∧ v1 < 12) ∧ (∀ M1 : rf_M, M1 = wi M 353 60 (gi M 358 (v1).toNat) → (K M1)))) ∧ (¬ (10 ≤ v2) → ((0 ≤ v2 ∧ v2 < 10) ∧ (∀ M2 : rf_M, M2 = wl M 392 (v2).toNat (Int64.ofNat 0) → (b12 v1 (v2 + 1) M2)))))
theorem W_beginWalk_12b {fz : Bool} {S : gS} {B : rf_M} {M : rf_M} {ls : rf_L} {v1 : Int} {v2 : Int} {b12 : Int → Int → rf_M → Prop} {K : rf_M → Prop} (hS : rk fz S B.2.2) (hR : fq B M) (a0 : rf_ld ls 0 = some (.ref 353)) (a1 : rf_ld ls 1 = some (zv v1)) (a2 : rf_ld ls 2 = some (zv v2)) (hb12 : ∀ (v1 : Int) (v2 : Int) (M : rf_M) (ls : rf_L), fq B M → rf_ld ls 0 = some (.ref 353) → rf_ld ls 1 = some (zv v1) → rf_ld ls 2 = some (zv v2) → b12 v1 v2 M → gx (cx0 fz) (0, 0) 161 12 ls [] (M, S) (vq_v B S K)) (h : w_beginWalk_12b v1 v2 M b12 K) : gx (cx0 fz) (0, 0) 161 12 ls [] (M, S) (vq_v B S K) := by
  unfold w_beginWalk_12b at h
  refine g1 (n := 1) rfl rfl rfl (li_of a2) ?_
  refine n_bi rfl (by decide) ?_
  obtain ⟨i1, h⟩ := h
  refine n_ic rfl i1 ⟨by decide, by decide⟩ (fun c => ?_) (fun c => ?_)
  · replace h := h.1 c
    refine g1 (n := 1) rfl rfl rfl (la_of a0) ?_
    refine g1 (n := 1) rfl rfl rfl (la_of a0) ?_
    refine n_gr rfl hS.1 rfl (fun _ => rfl) hR (rk_358 hS).2 ?_
    refine g1 (n := 1) rfl rfl rfl (li_of a1) ?_
    obtain ⟨q, h⟩ := h
    refine n_ia rfl (rk_358 hS).1 (Nat.le_of_ble_eq_true rfl) q ?_
    refine n_pi (Nat.le_of_ble_eq_true rfl) rfl hS.1 rfl (fun _ _ => rfl) (fun M1 e r => ?_)
    replace h := h M1 e
    have r1 := hR.trans r
    exact gx_ret rfl rfl ⟨M1, rfl, rfl, r1, h⟩
  · replace h := h.2 c
    refine g1 (n := 1) rfl rfl rfl (la_of a0) ?_
    refine n_gr rfl hS.1 rfl (fun _ => rfl) hR (rk_392 hS).2 ?_
    refine g1 (n := 1) rfl rfl rfl (li_of a2) ?_
    refine g1 (n := 1) rfl rfl rfl rfl ?_
    obtain ⟨q, h⟩ := h
    refine n_ls (Nat.le_of_ble_eq_true rfl) rfl (rk_392 hS).1 (Nat.le_of_ble_eq_true rfl) q (fun M2 e r => ?_)
    replace h := h M2 e
    have r2 := hR.trans r
    refine n_ii rfl a2 (Nat.le_of_ble_eq_true rfl) (fun ls l1 ho => ?_)
    replace a0 := ho 0 _ (by decide) (fun q => by cases q.2) a0
    have l2 := ho 1 _ (by decide) (fun q => by cases q.2) a1
    refine g3 rfl rfl rfl ?_
    exact hb12 _ _ _ _ r2 a0 l2 l1 h
def w_beginWalk_12 (v1 : Int) (v2 : Int) (M : rf_M) (K : rf_M → Prop) : Prop := ∃ Inv : Nat → Int → Int → rf_M → Prop, (∃ m, Inv m v1 v2 M) ∧ ∀ (m : Nat) (v1 : Int) (v2 : Int) (M : rf_M), Inv m v1 v2 M → w_beginWalk_12b v1 v2 M (fun (v1' : Int) (v2' : Int) (M' : rf_M) => ∃ m', m' < m ∧ Inv m' v1' v2' M') K
theorem W_beginWalk_12 {fz : Bool} {S : gS} {B : rf_M} {M : rf_M} {ls : rf_L} {v1 : Int} {v2 : Int} {K : rf_M → Prop} (hS : rk fz S B.2.2) (hR : fq B M) (a0 : rf_ld ls 0 = some (.ref 353)) (a1 : rf_ld ls 1 = some (zv v1)) (a2 : rf_ld ls 2 = some (zv v2)) (h : w_beginWalk_12 v1 v2 M K) : gx (cx0 fz) (0, 0) 161 12 ls [] (M, S) (vq_v B S K) := by
  obtain ⟨Inv, ⟨m, hm⟩, hb⟩ := h
  induction m using Nat.strongRecOn generalizing ls M v1 v2 with
  | _ m ih =>
    refine W_beginWalk_12b hS hR a0 a1 a2 (fun v1' v2' M' ls' hR' f0 f1 f2 ⟨m', q1, q2⟩ => ih m' q1 hR' f0 f1 f2 q2) (hb m v1 v2 M hm)
def w_beginWalk (v1 : Int) (M : rf_M) (K : rf_M → Prop) : Prop := ∀ M1 : rf_M, M1 = wi M 353 55 0 → (∀ M2 : rf_M, M2 = wi M1 353 58 0 → (w_beginWalk_12 v1 0 M2 K))
theorem W_beginWalk {fz : Bool} {S : gS} {B : rf_M} {M : rf_M} {ls : rf_L} {v1 : Int} {K : rf_M → Prop} (hS : rk fz S B.2.2) (hR : fq B M) (a0 : rf_ld ls 0 = some (.ref 353)) (a1 : rf_ld ls 1 = some (zv v1)) (h : w_beginWalk v1 M K) : gx (cx0 fz) (0, 0) 161 0 ls [] (M, S) (vq_v B S K) := by
  unfold w_beginWalk at h
  refine g1 (n := 1) rfl rfl rfl (la_of a0) ?_
  refine g1 (n := 1) rfl rfl rfl rfl ?_
  refine n_pi (Nat.le_of_ble_eq_true rfl) rfl hS.1 rfl (fun _ _ => rfl) (fun M1 e r => ?_)
  replace h := h M1 e
  have r1 := hR.trans r
  refine g1 (n := 1) rfl rfl rfl (la_of a0) ?_
  refine g1 (n := 1) rfl rfl rfl rfl ?_
  refine n_pi (Nat.le_of_ble_eq_true rfl) rfl hS.1 rfl (fun _ _ => rfl) (fun M2 e r => ?_)
  replace h := h M2 e
  have r2 := r1.trans r
  refine g1 (n := 1) rfl rfl rfl rfl ?_
  refine n_s1 (n := 1) rfl rfl rfl rfl (fun ls l1 ho => ?_)
  replace a0 := ho 0 _ (by decide) (fun q => by cases q.2) a0
  have l2 := ho 1 _ (by decide) (fun q => by cases q.2) a1
  exact W_beginWalk_12 hS r2 a0 l2 l1 h
def wm_beginWalk (x0 : Int) (M : rf_M) (K : rf_M → Prop) : Prop := w_beginWalk x0 M K
theorem W_beginWalk_m {fz : Bool} {S : gS} {B : rf_M} {M : rf_M} {x0 : Int} {K : rf_M → Prop} (hS : rk fz S B.2.2) (hR : fq B M) (h : wm_beginWalk x0 M K) : gx (cx0 fz) (0, 0) 161 0 (lv_args 0 [.ref 353, zv x0]) [] (M, S) (vq_v B S K) :=
  W_beginWalk hS hR rfl rfl h
def w_valueOf_112 (v1 : Int) (M : rf_M) (K : Int64 → rf_M → Prop) : Prop := (0 ≤ v1 ∧ v1 < 16) ∧ (K (gl M 389 (v1).toNat) M)
theorem W_valueOf_112 {fz : Bool} {S : gS} {B : rf_M} {M : rf_M} {ls : rf_L} {v1 : Int} {K : Int64 → rf_M → Prop} (hS : rk fz S B.2.2) (hR : fq B M) (a0 : rf_ld ls 0 = some (.ref 353)) (a1 : rf_ld ls 1 = some (zv v1)) (h : w_valueOf_112 v1 M K) : gx (cx0 fz) (1, 21) 164 112 ls [] (M, S) (vq_l B S K) := by
  unfold w_valueOf_112 at h
  refine g1 (n := 1) rfl rfl rfl (la_of a0) ?_
  refine n_gr rfl hS.1 rfl (fun _ => rfl) hR (rk_389 hS).2 ?_
  refine g1 (n := 1) rfl rfl rfl (li_of a1) ?_
  obtain ⟨q, h⟩ := h
  refine n_la rfl (rk_389 hS).1 (Nat.le_of_ble_eq_true rfl) q ?_
  exact gx_ret rfl rfl ⟨(gl M 389 (v1).toNat), M, rfl, rfl, hR, h⟩
def w_valueOf (v1 : Int) (M : rf_M) (K : Int64 → rf_M → Prop) : Prop := inr v1 ∧ ((v1 < 16 → (((Int32.ofInt (Int32.ofInt (gi M 353 55) >>> (Int32.ofInt v1 &&& 31)).toInt &&& Int32.ofInt 1).toInt = 1 → ((0 ≤ v1 ∧ v1 < 16) ∧ (K (gl M 391 (v1).toNat) M))) ∧ (¬ (Int32.ofInt (Int32.ofInt (gi M 353 55) >>> (Int32.ofInt v1 &&& 31)).toInt &&& Int32.ofInt 1).toInt = 1 → (((Int32.ofInt (Int32.ofInt (gi M 353 52) >>> (Int32.ofInt v1 &&& 31)).toInt &&& Int32.ofInt 1).toInt = 0 → (wm_isChanged  M (fun (z1 : Int) (M1 : rf_M) => inr z1 ∧ ((z1 = 0 → (∀ M2 : rf_M, M2 = wi M1 353 52 (Int32.ofInt (gi M1 353 52) ||| Int32.ofInt (Int32.ofInt 1 <<< (Int32.ofInt v1 &&& 31)).toInt).toInt → ((0 ≤ ((16 * (gi M2 353 42)) + v1) ∧ ((16 * (gi M2 353 42)) + v1) < 32) ∧ ((0 ≤ v1 ∧ v1 < 16) ∧ (∀ M3 : rf_M, M3 = wl M2 389 (v1).toNat (gl M2 376 ((16 * (gi M2 353 42)) + v1).toNat) → ((0 ≤ ((16 * (gi M3 353 42)) + v1) ∧ ((16 * (gi M3 353 42)) + v1) < 32) ∧ ((0 ≤ v1 ∧ v1 < 16) ∧ (∀ M4 : rf_M, M4 = wi M3 390 (v1).toNat (gi M3 377 ((16 * (gi M3 353 42)) + v1).toNat) → (w_valueOf_112 v1 M4 K))))))))) ∧ (¬ (z1 = 0) → (∀ M5 : rf_M, M5 = wi M1 353 65 2 → (K (Int64.ofNat 0) M5))))))) ∧ (¬ (Int32.ofInt (Int32.ofInt (gi M 353 52) >>> (Int32.ofInt v1 &&& 31)).toInt &&& Int32.ofInt 1).toInt = 0 → (w_valueOf_112 v1 M K)))))) ∧ (¬ (v1 < 16) → ((0 ≤ (v1 - 16) ∧ (v1 - 16) < 10) ∧ (K (gl M 392 (v1 - 16).toNat) M))))
theorem W_valueOf {fz : Bool} {S : gS} {B : rf_M} {M : rf_M} {ls : rf_L} {v1 : Int} {K : Int64 → rf_M → Prop} (hS : rk fz S B.2.2) (hR : fq B M) (a0 : rf_ld ls 0 = some (.ref 353)) (a1 : rf_ld ls 1 = some (zv v1)) (h : w_valueOf v1 M K) : gx (cx0 fz) (1, 21) 164 0 ls [] (M, S) (vq_l B S K) := by
  unfold w_valueOf at h
  refine g1 (n := 1) rfl rfl rfl (li_of a1) ?_
  refine n_bi rfl (by decide) ?_
  obtain ⟨i1, h⟩ := h
  refine n_ic rfl i1 ⟨by decide, by decide⟩ (fun c => ?_) (fun c => ?_)
  · replace h := h.1 c
    refine g1 (n := 1) rfl rfl rfl (la_of a0) ?_
    refine n_gi rfl hS.1 rfl (fun _ => rfl) ?_
    refine g1 (n := 1) rfl rfl rfl (li_of a1) ?_
    refine n_op (T := (Int32.ofInt (gi M 353 55) >>> (Int32.ofInt v1 &&& 31))) rfl rfl rfl ?_
    refine g1 (n := 1) rfl rfl rfl rfl ?_
    refine n_op (T := (Int32.ofInt (Int32.ofInt (gi M 353 55) >>> (Int32.ofInt v1 &&& 31)).toInt &&& Int32.ofInt 1)) rfl rfl rfl ?_
    refine g1 (n := 1) rfl rfl rfl rfl ?_
    refine n_ic rfl (inr_ti _) ⟨by decide, by decide⟩ (fun c => ?_) (fun c => ?_)
    · replace h := h.2 c
      refine g1 (n := 1) rfl rfl rfl (la_of a0) ?_
      refine n_gi rfl hS.1 rfl (fun _ => rfl) ?_
      refine g1 (n := 1) rfl rfl rfl (li_of a1) ?_
      refine n_op (T := (Int32.ofInt (gi M 353 52) >>> (Int32.ofInt v1 &&& 31))) rfl rfl rfl ?_
      refine g1 (n := 1) rfl rfl rfl rfl ?_
      refine n_op (T := (Int32.ofInt (Int32.ofInt (gi M 353 52) >>> (Int32.ofInt v1 &&& 31)).toInt &&& Int32.ofInt 1)) rfl rfl rfl ?_
      refine n_if rfl (inr_ti _) (fun c => ?_) (fun c => ?_)
      · replace h := h.2 c
        exact W_valueOf_112 hS hR a0 a1 h
      · replace h := h.1 (Classical.not_not.mp c)
        refine g1 (n := 1) rfl rfl rfl (la_of a0) ?_
        refine m_iv (a := 353) (as := []) (rest := []) rfl (by decide) hS.1 rfl rfl (Nat.le_of_ble_eq_true rfl) ⟨Nat.le_of_ble_eq_true rfl, Nat.le_of_ble_eq_true rfl, Nat.le_of_ble_eq_true rfl⟩ ?_
        refine gx_room (gx_mono (W_isChanged_m hS hR h) ?_) (Nat.le_of_ble_eq_true rfl) (Nat.le_of_ble_eq_true rfl)
        rintro _ _ ⟨z1, M1, rfl, rfl, r1, h⟩
        obtain ⟨i2, h⟩ := h
        refine n_if rfl i2 (fun c => ?_) (fun c => ?_)
        · replace h := h.1 c
          refine g1 (n := 1) rfl rfl rfl (la_of a0) ?_
          refine g1 (n := 1) rfl rfl rfl (la_of a0) ?_
          refine n_gi rfl hS.1 rfl (fun _ => rfl) ?_
          refine g1 (n := 1) rfl rfl rfl rfl ?_
          refine g1 (n := 1) rfl rfl rfl (li_of a1) ?_
          refine n_op (T := (Int32.ofInt 1 <<< (Int32.ofInt v1 &&& 31))) rfl rfl rfl ?_
          refine n_op (T := (Int32.ofInt (gi M1 353 52) ||| Int32.ofInt (Int32.ofInt 1 <<< (Int32.ofInt v1 &&& 31)).toInt)) rfl rfl rfl ?_
          refine n_pi (Nat.le_of_ble_eq_true rfl) rfl hS.1 rfl (fun _ _ => rfl) (fun M2 e r => ?_)
          replace h := h M2 e
          have r2 := r1.trans r
          refine g1 (n := 1) rfl rfl rfl (la_of a0) ?_
          refine n_gr rfl hS.1 rfl (fun _ => rfl) r2 (rk_389 hS).2 ?_
          refine g1 (n := 1) rfl rfl rfl (li_of a1) ?_
          refine g1 (n := 1) rfl rfl rfl (la_of a0) ?_
          refine n_gr rfl hS.1 rfl (fun _ => rfl) r2 (rk_376 hS).2 ?_
          refine n_bi rfl (by decide) ?_
          refine g1 (n := 1) rfl rfl rfl (la_of a0) ?_
          refine n_gi rfl hS.1 rfl (fun _ => rfl) ?_
          refine n_mul rfl ?_
          refine g1 (n := 1) rfl rfl rfl (li_of a1) ?_
          refine n_add rfl ?_
          obtain ⟨q, h⟩ := h
          refine n_la rfl (rk_376 hS).1 (Nat.le_of_ble_eq_true rfl) q ?_
          obtain ⟨q, h⟩ := h
          refine n_ls (Nat.le_of_ble_eq_true rfl) rfl (rk_389 hS).1 (Nat.le_of_ble_eq_true rfl) q (fun M3 e r => ?_)
          replace h := h M3 e
          have r3 := r2.trans r
          refine g1 (n := 1) rfl rfl rfl (la_of a0) ?_
          refine n_gr rfl hS.1 rfl (fun _ => rfl) r3 (rk_390 hS).2 ?_
          refine g1 (n := 1) rfl rfl rfl (li_of a1) ?_
          refine g1 (n := 1) rfl rfl rfl (la_of a0) ?_
          refine n_gr rfl hS.1 rfl (fun _ => rfl) r3 (rk_377 hS).2 ?_
          refine n_bi rfl (by decide) ?_
          refine g1 (n := 1) rfl rfl rfl (la_of a0) ?_
          refine n_gi rfl hS.1 rfl (fun _ => rfl) ?_
          refine n_mul rfl ?_
          refine g1 (n := 1) rfl rfl rfl (li_of a1) ?_
          refine n_add rfl ?_
          obtain ⟨q, h⟩ := h
          refine n_ia rfl (rk_377 hS).1 (Nat.le_of_ble_eq_true rfl) q ?_
          obtain ⟨q, h⟩ := h
          refine n_is (Nat.le_of_ble_eq_true rfl) rfl (rk_390 hS).1 (Nat.le_of_ble_eq_true rfl) q (fun M4 e r => ?_)
          replace h := h M4 e
          have r4 := r3.trans r
          exact W_valueOf_112 hS r4 a0 a1 h
        · replace h := h.2 c
          refine g1 (n := 1) rfl rfl rfl (la_of a0) ?_
          refine g1 (n := 1) rfl rfl rfl rfl ?_
          refine n_pi (Nat.le_of_ble_eq_true rfl) rfl hS.1 rfl (fun _ _ => rfl) (fun M5 e r => ?_)
          replace h := h M5 e
          have r5 := r1.trans r
          refine g1 (n := 1) rfl rfl rfl rfl ?_
          exact gx_ret rfl rfl ⟨(Int64.ofNat 0), M5, rfl, rfl, r5, h⟩
    · replace h := h.1 (Classical.not_not.mp c)
      refine g1 (n := 1) rfl rfl rfl (la_of a0) ?_
      refine n_gr rfl hS.1 rfl (fun _ => rfl) hR (rk_391 hS).2 ?_
      refine g1 (n := 1) rfl rfl rfl (li_of a1) ?_
      obtain ⟨q, h⟩ := h
      refine n_la rfl (rk_391 hS).1 (Nat.le_of_ble_eq_true rfl) q ?_
      exact gx_ret rfl rfl ⟨(gl M 391 (v1).toNat), M, rfl, rfl, hR, h⟩
  · replace h := h.2 c
    refine g1 (n := 1) rfl rfl rfl (la_of a0) ?_
    refine n_gr rfl hS.1 rfl (fun _ => rfl) hR (rk_392 hS).2 ?_
    refine g1 (n := 1) rfl rfl rfl (li_of a1) ?_
    refine n_bi rfl (by decide) ?_
    refine n_sub rfl ?_
    obtain ⟨q, h⟩ := h
    refine n_la rfl (rk_392 hS).1 (Nat.le_of_ble_eq_true rfl) q ?_
    exact gx_ret rfl rfl ⟨(gl M 392 (v1 - 16).toNat), M, rfl, rfl, hR, h⟩
def wm_valueOf (x0 : Int) (M : rf_M) (K : Int64 → rf_M → Prop) : Prop := w_valueOf x0 M K
theorem W_valueOf_m {fz : Bool} {S : gS} {B : rf_M} {M : rf_M} {x0 : Int} {K : Int64 → rf_M → Prop} (hS : rk fz S B.2.2) (hR : fq B M) (h : wm_valueOf x0 M K) : gx (cx0 fz) (1, 21) 164 0 (lv_args 0 [.ref 353, zv x0]) [] (M, S) (vq_l B S K) :=
  W_valueOf hS hR rfl rfl h
def w_two_85 (s0 : Int64) (M : rf_M) (K : Int64 → rf_M → Prop) : Prop := K s0 M
theorem W_two_85 {fz : Bool} {S : gS} {B : rf_M} {M : rf_M} {ls : rf_L} {s0 : Int64} {K : Int64 → rf_M → Prop} (hS : rk fz S B.2.2) (hR : fq B M) (h : w_two_85 s0 M K) : gx (cx0 fz) (0, 0) 165 85 ls [.long s0] (M, S) (vq_l B S K) := by
  unfold w_two_85 at h
  exact gx_ret rfl rfl ⟨s0, M, rfl, rfl, hR, h⟩
def w_two_72 (s0 : Int64) (M : rf_M) (K : Int64 → rf_M → Prop) : Prop := K s0 M
theorem W_two_72 {fz : Bool} {S : gS} {B : rf_M} {M : rf_M} {ls : rf_L} {s0 : Int64} {K : Int64 → rf_M → Prop} (hS : rk fz S B.2.2) (hR : fq B M) (h : w_two_72 s0 M K) : gx (cx0 fz) (0, 0) 165 72 ls [.long s0] (M, S) (vq_l B S K) := by
  unfold w_two_72 at h
  exact gx_ret rfl rfl ⟨s0, M, rfl, rfl, hR, h⟩
def w_two_98 (s0 : Int64) (M : rf_M) (K : Int64 → rf_M → Prop) : Prop := K s0 M
theorem W_two_98 {fz : Bool} {S : gS} {B : rf_M} {M : rf_M} {ls : rf_L} {s0 : Int64} {K : Int64 → rf_M → Prop} (hS : rk fz S B.2.2) (hR : fq B M) (h : w_two_98 s0 M K) : gx (cx0 fz) (0, 0) 165 98 ls [.long s0] (M, S) (vq_l B S K) := by
  unfold w_two_98 at h
  exact gx_ret rfl rfl ⟨s0, M, rfl, rfl, hR, h⟩
def w_two_179 (s0 : Int64) (M : rf_M) (K : Int64 → rf_M → Prop) : Prop := K s0 M
theorem W_two_179 {fz : Bool} {S : gS} {B : rf_M} {M : rf_M} {ls : rf_L} {s0 : Int64} {K : Int64 → rf_M → Prop} (hS : rk fz S B.2.2) (hR : fq B M) (h : w_two_179 s0 M K) : gx (cx0 fz) (0, 0) 165 179 ls [.long s0] (M, S) (vq_l B S K) := by
  unfold w_two_179 at h
  exact gx_ret rfl rfl ⟨s0, M, rfl, rfl, hR, h⟩
def w_two (v1 : Int) (v2 : Int64) (v4 : Int64) (M : rf_M) (K : Int64 → rf_M → Prop) : Prop := inr v1 ∧ ((v1 = 35 → (((lg_cmp v2 v4).toInt = 0 → (w_two_98 (Int64.ofNat 0) M K)) ∧ (¬ ((lg_cmp v2 v4).toInt = 0) → (w_two_98 (Int64.ofNat 1) M K)))) ∧ (v1 = 42 → (K (v2 * v4) M)) ∧ (v1 = 43 → (K (v2 + v4) M)) ∧ (v1 = 45 → (K (v2 - v4) M)) ∧ (v1 = 60 → ((0 ≤ (lg_cmp v2 v4).toInt → (w_two_72 (Int64.ofNat 0) M K)) ∧ (¬ (0 ≤ (lg_cmp v2 v4).toInt) → (w_two_72 (Int64.ofNat 1) M K)))) ∧ (v1 = 61 → (((lg_cmp v2 v4).toInt = 0 → (w_two_85 (Int64.ofNat 1) M K)) ∧ (¬ (lg_cmp v2 v4).toInt = 0 → (w_two_85 (Int64.ofNat 0) M K)))) ∧ (¬ v1 = 35 ∧ ¬ v1 = 42 ∧ ¬ v1 = 43 ∧ ¬ v1 = 45 ∧ ¬ v1 = 60 ∧ ¬ v1 = 61 → (((lg_cmp v4 (Int64.ofNat 0)).toInt = 0 → (∀ M1 : rf_M, M1 = wi M 353 65 1 → (∀ M2 : rf_M, M2 = wl M1 353 66 (Int64.ofNat 18446744073709551615) → (K (Int64.ofNat 0) M2)))) ∧ (¬ (lg_cmp v4 (Int64.ofNat 0)).toInt = 0 → (inr v1 ∧ ((v1 = 47 → (((lg_cmp v4 (Int64.ofNat 18446744073709551615)).toInt = 0 → (w_two_179 (-v2) M K)) ∧ (¬ (lg_cmp v4 (Int64.ofNat 18446744073709551615)).toInt = 0 → (¬ v4 = 0 ∧ (w_two_179 (v2 / v4) M K))))) ∧ (¬ v1 = 47 → (((lg_cmp v4 (Int64.ofNat 18446744073709551615)).toInt = 0 → (w_two_179 (Int64.ofNat 0) M K)) ∧ (¬ (lg_cmp v4 (Int64.ofNat 18446744073709551615)).toInt = 0 → (¬ v4 = 0 ∧ (w_two_179 (v2 - v2 / v4 * v4) M K)))))))))))
