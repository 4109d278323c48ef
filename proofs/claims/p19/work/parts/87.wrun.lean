/-! the methods as formulas (printed by wip/tools/vc.py) -/
def w_isClient_15 (s0 : Int) (M : rf_M) (K : Int → rf_M → Prop) : Prop := (s0 = 0 ∨ s0 = 1) ∧ K s0 M
theorem W_isClient_15 {fz : Bool} {S : gS} {B : rf_M} {M : rf_M} {ls : rf_L} {s0 : Int} {K : Int → rf_M → Prop} (hS : rk fz S B.2.2) (hR : fq B M) (h : w_isClient_15 s0 M K) : gx (cx0 fz) (0, 0) 155 15 ls [zv s0] (M, S) (vq_i B S K) := by
  unfold w_isClient_15 at h
  exact n_rb rfl rfl h.1 hR h.2
def w_isClient_14 (M : rf_M) (K : Int → rf_M → Prop) : Prop := w_isClient_15 0 M K
theorem W_isClient_14 {fz : Bool} {S : gS} {B : rf_M} {M : rf_M} {ls : rf_L} {K : Int → rf_M → Prop} (hS : rk fz S B.2.2) (hR : fq B M) (h : w_isClient_14 M K) : gx (cx0 fz) (0, 0) 155 14 ls [] (M, S) (vq_i B S K) := by
  unfold w_isClient_14 at h
  refine g1 (n := 1) rfl rfl rfl rfl ?_
  exact W_isClient_15 hS hR  h
def w_isClient (v1 : Int) (M : rf_M) (K : Int → rf_M → Prop) : Prop := inr v1 ∧ ((v1 < 0 → (w_isClient_14 M K)) ∧ (¬ (v1 < 0) → (inr v1 ∧ ((8 ≤ v1 → (w_isClient_14 M K)) ∧ (¬ (8 ≤ v1) → (w_isClient_15 1 M K))))))
theorem W_isClient {fz : Bool} {S : gS} {B : rf_M} {M : rf_M} {ls : rf_L} {v1 : Int} {K : Int → rf_M → Prop} (hS : rk fz S B.2.2) (hR : fq B M) (a1 : rf_ld ls 1 = some (zv v1)) (h : w_isClient v1 M K) : gx (cx0 fz) (0, 0) 155 0 ls [] (M, S) (vq_i B S K) := by
  unfold w_isClient at h
  refine g1 (n := 1) rfl rfl rfl (li_of a1) ?_
  obtain ⟨i1, h⟩ := h
  refine n_if rfl i1 (fun c => ?_) (fun c => ?_)
  · replace h := h.1 c
    exact W_isClient_14 hS hR  h
  · replace h := h.2 c
    refine g1 (n := 1) rfl rfl rfl (li_of a1) ?_
    refine n_bi rfl (by decide) ?_
    obtain ⟨i2, h⟩ := h
    refine n_ic rfl i2 ⟨by decide, by decide⟩ (fun c => ?_) (fun c => ?_)
    · replace h := h.1 c
      exact W_isClient_14 hS hR  h
    · replace h := h.2 c
      refine g1 (n := 1) rfl rfl rfl rfl ?_
      refine g3 rfl rfl rfl ?_
      exact W_isClient_15 hS hR  h
def wm_isClient (x0 : Int) (M : rf_M) (K : Int → rf_M → Prop) : Prop := w_isClient x0 M K
theorem W_isClient_m {fz : Bool} {S : gS} {B : rf_M} {M : rf_M} {x0 : Int} {K : Int → rf_M → Prop} (hS : rk fz S B.2.2) (hR : fq B M) (h : wm_isClient x0 M K) : gx (cx0 fz) (0, 0) 155 0 (lv_args 0 [.ref 353, zv x0]) [] (M, S) (vq_i B S K) :=
  W_isClient hS hR rfl h
def w_bringRead_12b (v1 : Int) (v2 : Int) (M : rf_M) (b12 : Int → Int → rf_M → Prop) (K : rf_M → Prop) : Prop := inr v2 ∧ ((16 ≤ v2 → (K M)) ∧ (¬ (16 ≤ v2) → ((0 ≤ ((16 * v1) + v2) ∧ ((16 * v1) + v2) < 128) ∧ ((0 ≤ v2 ∧ v2 < 16) ∧ (∀ M1 : rf_M, M1 = wl M 389 (v2).toNat (gl M 387 ((16 * v1) + v2).toNat) → ((0 ≤ ((16 * v1) + v2) ∧ ((16 * v1) + v2) < 128) ∧ ((0 ≤ v2 ∧ v2 < 16) ∧ (∀ M2 : rf_M, M2 = wi M1 390 (v2).toNat (gi M1 388 ((16 * v1) + v2).toNat) → (b12 v1 (v2 + 1) M2)))))))))
theorem W_bringRead_12b {fz : Bool} {S : gS} {B : rf_M} {M : rf_M} {ls : rf_L} {v1 : Int} {v2 : Int} {b12 : Int → Int → rf_M → Prop} {K : rf_M → Prop} (hS : rk fz S B.2.2) (hR : fq B M) (a0 : rf_ld ls 0 = some (.ref 353)) (a1 : rf_ld ls 1 = some (zv v1)) (a2 : rf_ld ls 2 = some (zv v2)) (hb12 : ∀ (v1 : Int) (v2 : Int) (M : rf_M) (ls : rf_L), fq B M → rf_ld ls 0 = some (.ref 353) → rf_ld ls 1 = some (zv v1) → rf_ld ls 2 = some (zv v2) → b12 v1 v2 M → gx (cx0 fz) (0, 0) 157 12 ls [] (M, S) (vq_v B S K)) (h : w_bringRead_12b v1 v2 M b12 K) : gx (cx0 fz) (0, 0) 157 12 ls [] (M, S) (vq_v B S K) := by
  unfold w_bringRead_12b at h
  refine g1 (n := 1) rfl rfl rfl (li_of a2) ?_
  refine n_bi rfl (by decide) ?_
  obtain ⟨i1, h⟩ := h
  refine n_ic rfl i1 ⟨by decide, by decide⟩ (fun c => ?_) (fun c => ?_)
  · replace h := h.1 c
    exact gx_ret rfl rfl ⟨M, rfl, rfl, hR, h⟩
  · replace h := h.2 c
    refine g1 (n := 1) rfl rfl rfl (la_of a0) ?_
    refine n_gr rfl hS.1 rfl (fun _ => rfl) hR (rk_389 hS).2 ?_
    refine g1 (n := 1) rfl rfl rfl (li_of a2) ?_
    refine g1 (n := 1) rfl rfl rfl (la_of a0) ?_
    refine n_gr rfl hS.1 rfl (fun _ => rfl) hR (rk_387 hS).2 ?_
    refine n_bi rfl (by decide) ?_
    refine g1 (n := 1) rfl rfl rfl (li_of a1) ?_
    refine n_mul rfl ?_
    refine g1 (n := 1) rfl rfl rfl (li_of a2) ?_
    refine n_add rfl ?_
    obtain ⟨q, h⟩ := h
    refine n_la rfl (rk_387 hS).1 (Nat.le_of_ble_eq_true rfl) q ?_
    obtain ⟨q, h⟩ := h
    refine n_ls (Nat.le_of_ble_eq_true rfl) rfl (rk_389 hS).1 (Nat.le_of_ble_eq_true rfl) q (fun M1 e r => ?_)
    replace h := h M1 e
    have r1 := hR.trans r
    refine g1 (n := 1) rfl rfl rfl (la_of a0) ?_
    refine n_gr rfl hS.1 rfl (fun _ => rfl) r1 (rk_390 hS).2 ?_
    refine g1 (n := 1) rfl rfl rfl (li_of a2) ?_
    refine g1 (n := 1) rfl rfl rfl (la_of a0) ?_
    refine n_gr rfl hS.1 rfl (fun _ => rfl) r1 (rk_388 hS).2 ?_
    refine n_bi rfl (by decide) ?_
    refine g1 (n := 1) rfl rfl rfl (li_of a1) ?_
    refine n_mul rfl ?_
    refine g1 (n := 1) rfl rfl rfl (li_of a2) ?_
    refine n_add rfl ?_
    obtain ⟨q, h⟩ := h
    refine n_ia rfl (rk_388 hS).1 (Nat.le_of_ble_eq_true rfl) q ?_
    obtain ⟨q, h⟩ := h
    refine n_is (Nat.le_of_ble_eq_true rfl) rfl (rk_390 hS).1 (Nat.le_of_ble_eq_true rfl) q (fun M2 e r => ?_)
    replace h := h M2 e
    have r2 := r1.trans r
    refine n_ii rfl a2 (Nat.le_of_ble_eq_true rfl) (fun ls l1 ho => ?_)
    replace a0 := ho 0 _ (by decide) (fun q => by cases q.2) a0
    have l2 := ho 1 _ (by decide) (fun q => by cases q.2) a1
    refine g3 rfl rfl rfl ?_
    exact hb12 _ _ _ _ r2 a0 l2 l1 h
def w_bringRead_12 (v1 : Int) (v2 : Int) (M : rf_M) (K : rf_M → Prop) : Prop := ∃ Inv : Nat → Int → Int → rf_M → Prop, (∃ m, Inv m v1 v2 M) ∧ ∀ (m : Nat) (v1 : Int) (v2 : Int) (M : rf_M), Inv m v1 v2 M → w_bringRead_12b v1 v2 M (fun (v1' : Int) (v2' : Int) (M' : rf_M) => ∃ m', m' < m ∧ Inv m' v1' v2' M') K
theorem W_bringRead_12 {fz : Bool} {S : gS} {B : rf_M} {M : rf_M} {ls : rf_L} {v1 : Int} {v2 : Int} {K : rf_M → Prop} (hS : rk fz S B.2.2) (hR : fq B M) (a0 : rf_ld ls 0 = some (.ref 353)) (a1 : rf_ld ls 1 = some (zv v1)) (a2 : rf_ld ls 2 = some (zv v2)) (h : w_bringRead_12 v1 v2 M K) : gx (cx0 fz) (0, 0) 157 12 ls [] (M, S) (vq_v B S K) := by
  obtain ⟨Inv, ⟨m, hm⟩, hb⟩ := h
  induction m using Nat.strongRecOn generalizing ls M v1 v2 with
  | _ m ih =>
    refine W_bringRead_12b hS hR a0 a1 a2 (fun v1' v2' M' ls' hR' f0 f1 f2 ⟨m', q1, q2⟩ => ih m' q1 hR' f0 f1 f2 q2) (hb m v1 v2 M hm)
def w_bringRead (v1 : Int) (M : rf_M) (K : rf_M → Prop) : Prop := (0 ≤ v1 ∧ v1 < 8) ∧ (∀ M1 : rf_M, M1 = wi M 353 52 (gi M 386 (v1).toNat) → (w_bringRead_12 v1 0 M1 K))
theorem W_bringRead {fz : Bool} {S : gS} {B : rf_M} {M : rf_M} {ls : rf_L} {v1 : Int} {K : rf_M → Prop} (hS : rk fz S B.2.2) (hR : fq B M) (a0 : rf_ld ls 0 = some (.ref 353)) (a1 : rf_ld ls 1 = some (zv v1)) (h : w_bringRead v1 M K) : gx (cx0 fz) (0, 0) 157 0 ls [] (M, S) (vq_v B S K) := by
  unfold w_bringRead at h
  refine g1 (n := 1) rfl rfl rfl (la_of a0) ?_
  refine g1 (n := 1) rfl rfl rfl (la_of a0) ?_
  refine n_gr rfl hS.1 rfl (fun _ => rfl) hR (rk_386 hS).2 ?_
  refine g1 (n := 1) rfl rfl rfl (li_of a1) ?_
  obtain ⟨q, h⟩ := h
  refine n_ia rfl (rk_386 hS).1 (Nat.le_of_ble_eq_true rfl) q ?_
  refine n_pi (Nat.le_of_ble_eq_true rfl) rfl hS.1 rfl (fun _ _ => rfl) (fun M1 e r => ?_)
  replace h := h M1 e
  have r1 := hR.trans r
  refine g1 (n := 1) rfl rfl rfl rfl ?_
  refine n_s1 (n := 1) rfl rfl rfl rfl (fun ls l1 ho => ?_)
  replace a0 := ho 0 _ (by decide) (fun q => by cases q.2) a0
  have l2 := ho 1 _ (by decide) (fun q => by cases q.2) a1
  exact W_bringRead_12 hS r1 a0 l2 l1 h
def wm_bringRead (x0 : Int) (M : rf_M) (K : rf_M → Prop) : Prop := w_bringRead x0 M K
theorem W_bringRead_m {fz : Bool} {S : gS} {B : rf_M} {M : rf_M} {x0 : Int} {K : rf_M → Prop} (hS : rk fz S B.2.2) (hR : fq B M) (h : wm_bringRead x0 M K) : gx (cx0 fz) (0, 0) 157 0 (lv_args 0 [.ref 353, zv x0]) [] (M, S) (vq_v B S K) :=
  W_bringRead hS hR rfl rfl h
def w_isChanged_45 (v1 : Int) (M : rf_M) (b2 : Int → rf_M → Prop) (K : Int → rf_M → Prop) : Prop := b2 (v1 + 1) M
theorem W_isChanged_45 {fz : Bool} {S : gS} {B : rf_M} {M : rf_M} {ls : rf_L} {v1 : Int} {b2 : Int → rf_M → Prop} {K : Int → rf_M → Prop} (hS : rk fz S B.2.2) (hR : fq B M) (a0 : rf_ld ls 0 = some (.ref 353)) (a1 : rf_ld ls 1 = some (zv v1)) (hb2 : ∀ (v1 : Int) (M : rf_M) (ls : rf_L), fq B M → rf_ld ls 0 = some (.ref 353) → rf_ld ls 1 = some (zv v1) → b2 v1 M → gx (cx0 fz) (0, 0) 158 2 ls [] (M, S) (vq_i B S K)) (h : w_isChanged_45 v1 M b2 K) : gx (cx0 fz) (0, 0) 158 45 ls [] (M, S) (vq_i B S K) := by
  unfold w_isChanged_45 at h
  refine n_ii rfl a1 (Nat.le_of_ble_eq_true rfl) (fun ls l1 ho => ?_)
  replace a0 := ho 0 _ (by decide) (fun q => by cases q.2) a0
  refine g3 rfl rfl rfl ?_
  exact hb2 _ _ _ hR a0 l1 h
def w_isChanged_2b (v1 : Int) (M : rf_M) (b2 : Int → rf_M → Prop) (K : Int → rf_M → Prop) : Prop := inr v1 ∧ ((16 ≤ v1 → (K 0 M)) ∧ (¬ (16 ≤ v1) → (((Int32.ofInt (Int32.ofInt (gi M 353 52) >>> (Int32.ofInt v1 &&& 31)).toInt &&& Int32.ofInt 1).toInt = 1 → ((0 ≤ v1 ∧ v1 < 16) ∧ ((0 ≤ ((16 * (gi M 353 42)) + v1) ∧ ((16 * (gi M 353 42)) + v1) < 32) ∧ (((gi M 390 (v1).toNat) = (gi M 377 ((16 * (gi M 353 42)) + v1).toNat) → (w_isChanged_45 v1 M b2 K)) ∧ (¬ ((gi M 390 (v1).toNat) = (gi M 377 ((16 * (gi M 353 42)) + v1).toNat)) → (K 1 M)))))) ∧ (¬ (Int32.ofInt (Int32.ofInt (gi M 353 52) >>> (Int32.ofInt v1 &&& 31)).toInt &&& Int32.ofInt 1).toInt = 1 → (w_isChanged_45 v1 M b2 K)))))
theorem W_isChanged_2b {fz : Bool} {S : gS} {B : rf_M} {M : rf_M} {ls : rf_L} {v1 : Int} {b2 : Int → rf_M → Prop} {K : Int → rf_M → Prop} (hS : rk fz S B.2.2) (hR : fq B M) (a0 : rf_ld ls 0 = some (.ref 353)) (a1 : rf_ld ls 1 = some (zv v1)) (hb2 : ∀ (v1 : Int) (M : rf_M) (ls : rf_L), fq B M → rf_ld ls 0 = some (.ref 353) → rf_ld ls 1 = some (zv v1) → b2 v1 M → gx (cx0 fz) (0, 0) 158 2 ls [] (M, S) (vq_i B S K)) (h : w_isChanged_2b v1 M b2 K) : gx (cx0 fz) (0, 0) 158 2 ls [] (M, S) (vq_i B S K) := by
  unfold w_isChanged_2b at h
  refine g1 (n := 1) rfl rfl rfl (li_of a1) ?_
  refine n_bi rfl (by decide) ?_
  obtain ⟨i1, h⟩ := h
  refine n_ic rfl i1 ⟨by decide, by decide⟩ (fun c => ?_) (fun c => ?_)
  · replace h := h.1 c
    refine g1 (n := 1) rfl rfl rfl rfl ?_
    exact n_rb rfl rfl (Or.inl rfl) hR h
  · replace h := h.2 c
    refine g1 (n := 1) rfl rfl rfl (la_of a0) ?_
    refine n_gi rfl hS.1 rfl (fun _ => rfl) ?_
    refine g1 (n := 1) rfl rfl rfl (li_of a1) ?_
    refine n_op (T := (Int32.ofInt (gi M 353 52) >>> (Int32.ofInt v1 &&& 31))) rfl rfl rfl ?_
    refine g1 (n := 1) rfl rfl rfl rfl ?_
    refine n_op (T := (Int32.ofInt (Int32.ofInt (gi M 353 52) >>> (Int32.ofInt v1 &&& 31)).toInt &&& Int32.ofInt 1)) rfl rfl rfl ?_
    refine g1 (n := 1) rfl rfl rfl rfl ?_
    refine n_ic rfl (inr_ti _) ⟨by decide, by decide⟩ (fun c => ?_) (fun c => ?_)
    · replace h := h.2 c
      exact W_isChanged_45 hS hR a0 a1 hb2 h
    · replace h := h.1 (Classical.not_not.mp c)
      refine g1 (n := 1) rfl rfl rfl (la_of a0) ?_
      refine n_gr rfl hS.1 rfl (fun _ => rfl) hR (rk_390 hS).2 ?_
      refine g1 (n := 1) rfl rfl rfl (li_of a1) ?_
      obtain ⟨q, h⟩ := h
      refine n_ia rfl (rk_390 hS).1 (Nat.le_of_ble_eq_true rfl) q ?_
      refine g1 (n := 1) rfl rfl rfl (la_of a0) ?_
      refine n_gr rfl hS.1 rfl (fun _ => rfl) hR (rk_377 hS).2 ?_
      refine n_bi rfl (by decide) ?_
      refine g1 (n := 1) rfl rfl rfl (la_of a0) ?_
      refine n_gi rfl hS.1 rfl (fun _ => rfl) ?_
      refine n_mul rfl ?_
      refine g1 (n := 1) rfl rfl rfl (li_of a1) ?_
      refine n_add rfl ?_
      obtain ⟨q, h⟩ := h
      refine n_ia rfl (rk_377 hS).1 (Nat.le_of_ble_eq_true rfl) q ?_
      refine n_ic rfl (inr_gi _ _ _) (inr_gi _ _ _) (fun c => ?_) (fun c => ?_)
      · replace h := h.1 c
        exact W_isChanged_45 hS hR a0 a1 hb2 h
      · replace h := h.2 c
        refine g1 (n := 1) rfl rfl rfl rfl ?_
        exact n_rb rfl rfl (Or.inr rfl) hR h
def w_isChanged_2 (v1 : Int) (M : rf_M) (K : Int → rf_M → Prop) : Prop := ∃ Inv : Nat → Int → rf_M → Prop, (∃ m, Inv m v1 M) ∧ ∀ (m : Nat) (v1 : Int) (M : rf_M), Inv m v1 M → w_isChanged_2b v1 M (fun (v1' : Int) (M' : rf_M) => ∃ m', m' < m ∧ Inv m' v1' M') K
theorem W_isChanged_2 {fz : Bool} {S : gS} {B : rf_M} {M : rf_M} {ls : rf_L} {v1 : Int} {K : Int → rf_M → Prop} (hS : rk fz S B.2.2) (hR : fq B M) (a0 : rf_ld ls 0 = some (.ref 353)) (a1 : rf_ld ls 1 = some (zv v1)) (h : w_isChanged_2 v1 M K) : gx (cx0 fz) (0, 0) 158 2 ls [] (M, S) (vq_i B S K) := by
  obtain ⟨Inv, ⟨m, hm⟩, hb⟩ := h
  induction m using Nat.strongRecOn generalizing ls M v1 with
  | _ m ih =>
    refine W_isChanged_2b hS hR a0 a1 (fun v1' M' ls' hR' f0 f1 ⟨m', q1, q2⟩ => ih m' q1 hR' f0 f1 q2) (hb m v1 M hm)
def w_isChanged (M : rf_M) (K : Int → rf_M → Prop) : Prop := w_isChanged_2 0 M K
theorem W_isChanged {fz : Bool} {S : gS} {B : rf_M} {M : rf_M} {ls : rf_L} {K : Int → rf_M → Prop} (hS : rk fz S B.2.2) (hR : fq B M) (a0 : rf_ld ls 0 = some (.ref 353)) (h : w_isChanged M K) : gx (cx0 fz) (0, 0) 158 0 ls [] (M, S) (vq_i B S K) := by
  unfold w_isChanged at h
  refine g1 (n := 1) rfl rfl rfl rfl ?_
  refine n_s1 (n := 1) rfl rfl rfl rfl (fun ls l1 ho => ?_)
  replace a0 := ho 0 _ (by decide) (fun q => by cases q.2) a0
  exact W_isChanged_2 hS hR a0 l1 h
def wm_isChanged (M : rf_M) (K : Int → rf_M → Prop) : Prop := w_isChanged  M K
theorem W_isChanged_m {fz : Bool} {S : gS} {B : rf_M} {M : rf_M} {K : Int → rf_M → Prop} (hS : rk fz S B.2.2) (hR : fq B M) (h : wm_isChanged  M K) : gx (cx0 fz) (0, 0) 158 0 (lv_args 0 [.ref 353]) [] (M, S) (vq_i B S K) :=
  W_isChanged hS hR rfl h
def w_firstOf (v1 : Int) (M : rf_M) (K : Int → rf_M → Prop) : Prop := (0 ≤ (16 * v1) ∧ (16 * v1) < 128) ∧ (K (gi M 380 (16 * v1).toNat) M)
theorem W_firstOf {fz : Bool} {S : gS} {B : rf_M} {M : rf_M} {ls : rf_L} {v1 : Int} {K : Int → rf_M → Prop} (hS : rk fz S B.2.2) (hR : fq B M) (a0 : rf_ld ls 0 = some (.ref 353)) (a1 : rf_ld ls 1 = some (zv v1)) (h : w_firstOf v1 M K) : gx (cx0 fz) (0, 0) 160 0 ls [] (M, S) (vq_i B S K) := by
  unfold w_firstOf at h
  refine g1 (n := 1) rfl rfl rfl (la_of a0) ?_
  refine n_gr rfl hS.1 rfl (fun _ => rfl) hR (rk_380 hS).2 ?_
  refine n_bi rfl (by decide) ?_
  refine g1 (n := 1) rfl rfl rfl (li_of a1) ?_
  refine n_mul rfl ?_
  obtain ⟨q, h⟩ := h
  refine n_ia rfl (rk_380 hS).1 (Nat.le_of_ble_eq_true rfl) q ?_
  exact gx_ret rfl rfl ⟨(gi M 380 (16 * v1).toNat), M, rfl, rfl, hR, h⟩
def wm_firstOf (x0 : Int) (M : rf_M) (K : Int → rf_M → Prop) : Prop := w_firstOf x0 M K
theorem W_firstOf_m {fz : Bool} {S : gS} {B : rf_M} {M : rf_M} {x0 : Int} {K : Int → rf_M → Prop} (hS : rk fz S B.2.2) (hR : fq B M) (h : wm_firstOf x0 M K) : gx (cx0 fz) (0, 0) 160 0 (lv_args 0 [.ref 353, zv x0]) [] (M, S) (vq_i B S K) :=
  W_firstOf hS hR rfl rfl h
def w_beginWalk_12b (v1 : Int) (v2 : Int) (M : rf_M) (b12 : Int → Int → rf_M → Prop) (K : rf_M → Prop) : Prop := inr v2 ∧ ((10 ≤ v2 → ((0 ≤ v1 ∧ v1 < 12) ∧ (∀ M1 : rf_M, M1 = wi M 353 60 (gi M 358 (v1).toNat) → (K M1)))) ∧ (¬ (10 ≤ v2) → ((0 ≤ v2 ∧ v2 < 10) ∧ (∀ M2 : rf_M, M2 = wl M 392 (v2).toNat (Int64.ofNat 0) → (b12 v1 (v2 + 1) M2)))))
theorem W_beginWalk_12b {fz : Bool} {S : gS} {B : rf_M} {M : rf_M} {ls : rf_L} {v1 : Int} {v2 : Int} {b12 : Int → Int → rf_M → Prop} {K : rf_M → Prop} (hS : rk fz S B.2.2) (hR : fq B M) (a0 : rf_ld ls 0 = some (.ref 353)) (a1 : rf_ld ls 1 = some (zv v1)) (a2 : rf_ld ls 2 = some (zv v2)) (hb12 : ∀ (v1 : Int) (v2 : Int) (M : rf_M) (ls : rf_L), fq B M → rf_ld ls 0 = some (.ref 353) → rf_ld ls 1 = some (zv v1) → rf_ld ls 2 = some (zv v2) → b12 v1 v2 M → gx (cx0 fz) (0, 0) 161 12 ls [] (M, S) (vq_v B S K)) (h : w_beginWalk_12b v1 v2 M b12 K) : gx (cx0 fz) (0, 0) 161 12 ls [] (M, S) (vq_v B S K) := by
  unfold w_beginWalk_12b at h
  refine g1 (n := 1) rfl rfl rfl (li_of a2) ?_
  refine n_bi rfl (by decide) ?_
  obtain ⟨i1, h⟩ := h
  refine n_ic rfl i1 ⟨by decide, by decide⟩ (fun c => ?_) (fun c => ?_)
  · replace h := h.1 c
    refine g1 (n := 1) rfl rfl rfl (la_of a0) ?_
    refine g1 (n := 1) rfl rfl rfl (la_of a0) ?_
    refine n_gr rfl hS.1 rfl (fun _ => rfl) hR (rk_358 hS).2 ?_
    refine g1 (n := 1) rfl rfl rfl (li_of a1) ?_
    obtain ⟨q, h⟩ := h
    refine n_ia rfl (rk_358 hS).1 (Nat.le_of_ble_eq_true rfl) q ?_
    refine n_pi (Nat.le_of_ble_eq_true rfl) rfl hS.1 rfl (fun _ _ => rfl) (fun M1 e r => ?_)
    replace h := h M1 e
    have r1 := hR.trans r
    exact gx_ret rfl rfl ⟨M1, rfl, rfl, r1, h⟩
  · replace h := h.2 c
    refine g1 (n := 1) rfl rfl rfl (la_of a0) ?_
    refine n_gr rfl hS.1 rfl (fun _ => rfl) hR (rk_392 hS).2 ?_
    refine g1 (n := 1) rfl rfl rfl (li_of a2) ?_
    refine g1 (n := 1) rfl rfl rfl rfl ?_
    obtain ⟨q, h⟩ := h
    refine n_ls (Nat.le_of_ble_eq_true rfl) rfl (rk_392 hS).1 (Nat.le_of_ble_eq_true rfl) q (fun M2 e r => ?_)
    replace h := h M2 e
    have r2 := hR.trans r
    refine n_ii rfl a2 (Nat.le_of_ble_eq_true rfl) (fun ls l1 ho => ?_)
    replace a0 := ho 0 _ (by decide) (fun q => by cases q.2) a0
    have l2 := ho 1 _ (by decide) (fun q => by cases q.2) a1
    refine g3 rfl rfl rfl ?_
    exact hb12 _ _ _ _ r2 a0 l2 l1 h
def w_beginWalk_12 (v1 : Int) (v2 : Int) (M : rf_M) (K : rf_M → Prop) : Prop := ∃ Inv : Nat → Int → Int → rf_M → Prop, (∃ m, Inv m v1 v2 M) ∧ ∀ (m : Nat) (v1 : Int) (v2 : Int) (M : rf_M), Inv m v1 v2 M → w_beginWalk_12b v1 v2 M (fun (v1' : Int) (v2' : Int) (M' : rf_M) => ∃ m', m' < m ∧ Inv m' v1' v2' M') K
theorem W_beginWalk_12 {fz : Bool} {S : gS} {B : rf_M} {M : rf_M} {ls : rf_L} {v1 : Int} {v2 : Int} {K : rf_M → Prop} (hS : rk fz S B.2.2) (hR : fq B M) (a0 : rf_ld ls 0 = some (.ref 353)) (a1 : rf_ld ls 1 = some (zv v1)) (a2 : rf_ld ls 2 = some (zv v2)) (h : w_beginWalk_12 v1 v2 M K) : gx (cx0 fz) (0, 0) 161 12 ls [] (M, S) (vq_v B S K) := by
  obtain ⟨Inv, ⟨m, hm⟩, hb⟩ := h
  induction m using Nat.strongRecOn generalizing ls M v1 v2 with
  | _ m ih =>
    refine W_beginWalk_12b hS hR a0 a1 a2 (fun v1' v2' M' ls' hR' f0 f1 f2 ⟨m', q1, q2⟩ => ih m' q1 hR' f0 f1 f2 q2) (hb m v1 v2 M hm)
def w_beginWalk (v1 : Int) (M : rf_M) (K : rf_M → Prop) : Prop := ∀ M1 : rf_M, M1 = wi M 353 55 0 → (∀ M2 : rf_M, M2 = wi M1 353 58 0 → (w_beginWalk_12 v1 0 M2 K))
theorem W_beginWalk {fz : Bool} {S : gS} {B : rf_M} {M : rf_M} {ls : rf_L} {v1 : Int} {K : rf_M → Prop} (hS : rk fz S B.2.2) (hR : fq B M) (a0 : rf_ld ls 0 = some (.ref 353)) (a1 : rf_ld ls 1 = some (zv v1)) (h : w_beginWalk v1 M K) : gx (cx0 fz) (0, 0) 161 0 ls [] (M, S) (vq_v B S K) := by
  unfold w_beginWalk at h
  refine g1 (n := 1) rfl rfl rfl (la_of a0) ?_
  refine g1 (n := 1) rfl rfl rfl rfl ?_
  refine n_pi (Nat.le_of_ble_eq_true rfl) rfl hS.1 rfl (fun _ _ => rfl) (fun M1 e r => ?_)
  replace h := h M1 e
  have r1 := hR.trans r
  refine g1 (n := 1) rfl rfl rfl (la_of a0) ?_
  refine g1 (n := 1) rfl rfl rfl rfl ?_
  refine n_pi (Nat.le_of_ble_eq_true rfl) rfl hS.1 rfl (fun _ _ => rfl) (fun M2 e r => ?_)
  replace h := h M2 e
  have r2 := r1.trans r
  refine g1 (n := 1) rfl rfl rfl rfl ?_
  refine n_s1 (n := 1) rfl rfl rfl rfl (fun ls l1 ho => ?_)
  replace a0 := ho 0 _ (by decide) (fun q => by cases q.2) a0
  have l2 := ho 1 _ (by decide) (fun q => by cases q.2) a1
  exact W_beginWalk_12 hS r2 a0 l2 l1 h
def wm_beginWalk (x0 : Int) (M : rf_M) (K : rf_M → Prop) : Prop := w_beginWalk x0 M K
theorem W_beginWalk_m {fz : Bool} {S : gS} {B : rf_M} {M : rf_M} {x0 : Int} {K : rf_M → Prop} (hS : rk fz S B.2.2) (hR : fq B M) (h : wm_beginWalk x0 M K) : gx (cx0 fz) (0, 0) 161 0 (lv_args 0 [.ref 353, zv x0]) [] (M, S) (vq_v B S K) :=
  W_beginWalk hS hR rfl rfl h
def w_valueOf_112 (v1 : Int) (M : rf_M) (K : Int64 → rf_M → Prop) : Prop := (0 ≤ v1 ∧ v1 < 16) ∧ (K (gl M 389 (v1).toNat) M)
theorem W_valueOf_112 {fz : Bool} {S : gS} {B : rf_M} {M : rf_M} {ls : rf_L} {v1 : Int} {K : Int64 → rf_M → Prop} (hS : rk fz S B.2.2) (hR : fq B M) (a0 : rf_ld ls 0 = some (.ref 353)) (a1 : rf_ld ls 1 = some (zv v1)) (h : w_valueOf_112 v1 M K) : gx (cx0 fz) (1, 21) 164 112 ls [] (M, S) (vq_l B S K) := by
  unfold w_valueOf_112 at h
  refine g1 (n := 1) rfl rfl rfl (la_of a0) ?_
  refine n_gr rfl hS.1 rfl (fun _ => rfl) hR (rk_389 hS).2 ?_
  refine g1 (n := 1) rfl rfl rfl (li_of a1) ?_
  obtain ⟨q, h⟩ := h
  refine n_la rfl (rk_389 hS).1 (Nat.le_of_ble_eq_true rfl) q ?_
  exact gx_ret rfl rfl ⟨(gl M 389 (v1).toNat), M, rfl, rfl, hR, h⟩
def w_valueOf (v1 : Int) (M : rf_M) (K : Int64 → rf_M → Prop) : Prop := inr v1 ∧ ((v1 < 16 → (((Int32.ofInt (Int32.ofInt (gi M 353 55) >>> (Int32.ofInt v1 &&& 31)).toInt &&& Int32.ofInt 1).toInt = 1 → ((0 ≤ v1 ∧ v1 < 16) ∧ (K (gl M 391 (v1).toNat) M))) ∧ (¬ (Int32.ofInt (Int32.ofInt (gi M 353 55) >>> (Int32.ofInt v1 &&& 31)).toInt &&& Int32.ofInt 1).toInt = 1 → (((Int32.ofInt (Int32.ofInt (gi M 353 52) >>> (Int32.ofInt v1 &&& 31)).toInt &&& Int32.ofInt 1).toInt = 0 → (wm_isChanged  M (fun (z1 : Int) (M1 : rf_M) => inr z1 ∧ ((z1 = 0 → (∀ M2 : rf_M, M2 = wi M1 353 52 (Int32.ofInt (gi M1 353 52) ||| Int32.ofInt (Int32.ofInt 1 <<< (Int32.ofInt v1 &&& 31)).toInt).toInt → ((0 ≤ ((16 * (gi M2 353 42)) + v1) ∧ ((16 * (gi M2 353 42)) + v1) < 32) ∧ ((0 ≤ v1 ∧ v1 < 16) ∧ (∀ M3 : rf_M, M3 = wl M2 389 (v1).toNat (gl M2 376 ((16 * (gi M2 353 42)) + v1).toNat) → ((0 ≤ ((16 * (gi M3 353 42)) + v1) ∧ ((16 * (gi M3 353 42)) + v1) < 32) ∧ ((0 ≤ v1 ∧ v1 < 16) ∧ (∀ M4 : rf_M, M4 = wi M3 390 (v1).toNat (gi M3 377 ((16 * (gi M3 353 42)) + v1).toNat) → (w_valueOf_112 v1 M4 K))))))))) ∧ (¬ (z1 = 0) → (∀ M5 : rf_M, M5 = wi M1 353 65 2 → (K (Int64.ofNat 0) M5))))))) ∧ (¬ (Int32.ofInt (Int32.ofInt (gi M 353 52) >>> (Int32.ofInt v1 &&& 31)).toInt &&& Int32.ofInt 1).toInt = 0 → (w_valueOf_112 v1 M K)))))) ∧ (¬ (v1 < 16) → ((0 ≤ (v1 - 16) ∧ (v1 - 16) < 10) ∧ (K (gl M 392 (v1 - 16).toNat) M))))
theorem W_valueOf {fz : Bool} {S : gS} {B : rf_M} {M : rf_M} {ls : rf_L} {v1 : Int} {K : Int64 → rf_M → Prop} (hS : rk fz S B.2.2) (hR : fq B M) (a0 : rf_ld ls 0 = some (.ref 353)) (a1 : rf_ld ls 1 = some (zv v1)) (h : w_valueOf v1 M K) : gx (cx0 fz) (1, 21) 164 0 ls [] (M, S) (vq_l B S K) := by
  unfold w_valueOf at h
  refine g1 (n := 1) rfl rfl rfl (li_of a1) ?_
  refine n_bi rfl (by decide) ?_
  obtain ⟨i1, h⟩ := h
  refine n_ic rfl i1 ⟨by decide, by decide⟩ (fun c => ?_) (fun c => ?_)
  · replace h := h.1 c
    refine g1 (n := 1) rfl rfl rfl (la_of a0) ?_
    refine n_gi rfl hS.1 rfl (fun _ => rfl) ?_
    refine g1 (n := 1) rfl rfl rfl (li_of a1) ?_
    refine n_op (T := (Int32.ofInt (gi M 353 55) >>> (Int32.ofInt v1 &&& 31))) rfl rfl rfl ?_
    refine g1 (n := 1) rfl rfl rfl rfl ?_
    refine n_op (T := (Int32.ofInt (Int32.ofInt (gi M 353 55) >>> (Int32.ofInt v1 &&& 31)).toInt &&& Int32.ofInt 1)) rfl rfl rfl ?_
    refine g1 (n := 1) rfl rfl rfl rfl ?_
    refine n_ic rfl (inr_ti _) ⟨by decide, by decide⟩ (fun c => ?_) (fun c => ?_)
    · replace h := h.2 c
      refine g1 (n := 1) rfl rfl rfl (la_of a0) ?_
      refine n_gi rfl hS.1 rfl (fun _ => rfl) ?_
      refine g1 (n := 1) rfl rfl rfl (li_of a1) ?_
      refine n_op (T := (Int32.ofInt (gi M 353 52) >>> (Int32.ofInt v1 &&& 31))) rfl rfl rfl ?_
      refine g1 (n := 1) rfl rfl rfl rfl ?_
      refine n_op (T := (Int32.ofInt (Int32.ofInt (gi M 353 52) >>> (Int32.ofInt v1 &&& 31)).toInt &&& Int32.ofInt 1)) rfl rfl rfl ?_
      refine n_if rfl (inr_ti _) (fun c => ?_) (fun c => ?_)
      · replace h := h.2 c
        exact W_valueOf_112 hS hR a0 a1 h
      · replace h := h.1 (Classical.not_not.mp c)
        refine g1 (n := 1) rfl rfl rfl (la_of a0) ?_
        refine m_iv (a := 353) (as := []) (rest := []) rfl (by decide) hS.1 rfl rfl (Nat.le_of_ble_eq_true rfl) ⟨Nat.le_of_ble_eq_true rfl, Nat.le_of_ble_eq_true rfl, Nat.le_of_ble_eq_true rfl⟩ ?_
        refine gx_room (gx_mono (W_isChanged_m hS hR h) ?_) (Nat.le_of_ble_eq_true rfl) (Nat.le_of_ble_eq_true rfl)
        rintro _ _ ⟨z1, M1, rfl, rfl, r1, h⟩
        obtain ⟨i2, h⟩ := h
        refine n_if rfl i2 (fun c => ?_) (fun c => ?_)
        · replace h := h.1 c
          refine g1 (n := 1) rfl rfl rfl (la_of a0) ?_
          refine g1 (n := 1) rfl rfl rfl (la_of a0) ?_
          refine n_gi rfl hS.1 rfl (fun _ => rfl) ?_
          refine g1 (n := 1) rfl rfl rfl rfl ?_
          refine g1 (n := 1) rfl rfl rfl (li_of a1) ?_
          refine n_op (T := (Int32.ofInt 1 <<< (Int32.ofInt v1 &&& 31))) rfl rfl rfl ?_
          refine n_op (T := (Int32.ofInt (gi M1 353 52) ||| Int32.ofInt (Int32.ofInt 1 <<< (Int32.ofInt v1 &&& 31)).toInt)) rfl rfl rfl ?_
          refine n_pi (Nat.le_of_ble_eq_true rfl) rfl hS.1 rfl (fun _ _ => rfl) (fun M2 e r => ?_)
          replace h := h M2 e
          have r2 := r1.trans r
          refine g1 (n := 1) rfl rfl rfl (la_of a0) ?_
          refine n_gr rfl hS.1 rfl (fun _ => rfl) r2 (rk_389 hS).2 ?_
          refine g1 (n := 1) rfl rfl rfl (li_of a1) ?_
          refine g1 (n := 1) rfl rfl rfl (la_of a0) ?_
          refine n_gr rfl hS.1 rfl (fun _ => rfl) r2 (rk_376 hS).2 ?_
          refine n_bi rfl (by decide) ?_
          refine g1 (n := 1) rfl rfl rfl (la_of a0) ?_
          refine n_gi rfl hS.1 rfl (fun _ => rfl) ?_
          refine n_mul rfl ?_
          refine g1 (n := 1) rfl rfl rfl (li_of a1) ?_
          refine n_add rfl ?_
          obtain ⟨q, h⟩ := h
          refine n_la rfl (rk_376 hS).1 (Nat.le_of_ble_eq_true rfl) q ?_
          obtain ⟨q, h⟩ := h
          refine n_ls (Nat.le_of_ble_eq_true rfl) rfl (rk_389 hS).1 (Nat.le_of_ble_eq_true rfl) q (fun M3 e r => ?_)
          replace h := h M3 e
          have r3 := r2.trans r
          refine g1 (n := 1) rfl rfl rfl (la_of a0) ?_
          refine n_gr rfl hS.1 rfl (fun _ => rfl) r3 (rk_390 hS).2 ?_
          refine g1 (n := 1) rfl rfl rfl (li_of a1) ?_
          refine g1 (n := 1) rfl rfl rfl (la_of a0) ?_
          refine n_gr rfl hS.1 rfl (fun _ => rfl) r3 (rk_377 hS).2 ?_
          refine n_bi rfl (by decide) ?_
          refine g1 (n := 1) rfl rfl rfl (la_of a0) ?_
          refine n_gi rfl hS.1 rfl (fun _ => rfl) ?_
          refine n_mul rfl ?_
          refine g1 (n := 1) rfl rfl rfl (li_of a1) ?_
          refine n_add rfl ?_
          obtain ⟨q, h⟩ := h
          refine n_ia rfl (rk_377 hS).1 (Nat.le_of_ble_eq_true rfl) q ?_
          obtain ⟨q, h⟩ := h
          refine n_is (Nat.le_of_ble_eq_true rfl) rfl (rk_390 hS).1 (Nat.le_of_ble_eq_true rfl) q (fun M4 e r => ?_)
          replace h := h M4 e
          have r4 := r3.trans r
          exact W_valueOf_112 hS r4 a0 a1 h
        · replace h := h.2 c
          refine g1 (n := 1) rfl rfl rfl (la_of a0) ?_
          refine g1 (n := 1) rfl rfl rfl rfl ?_
          refine n_pi (Nat.le_of_ble_eq_true rfl) rfl hS.1 rfl (fun _ _ => rfl) (fun M5 e r => ?_)
          replace h := h M5 e
          have r5 := r1.trans r
          refine g1 (n := 1) rfl rfl rfl rfl ?_
          exact gx_ret rfl rfl ⟨(Int64.ofNat 0), M5, rfl, rfl, r5, h⟩
    · replace h := h.1 (Classical.not_not.mp c)
      refine g1 (n := 1) rfl rfl rfl (la_of a0) ?_
      refine n_gr rfl hS.1 rfl (fun _ => rfl) hR (rk_391 hS).2 ?_
      refine g1 (n := 1) rfl rfl rfl (li_of a1) ?_
      obtain ⟨q, h⟩ := h
      refine n_la rfl (rk_391 hS).1 (Nat.le_of_ble_eq_true rfl) q ?_
      exact gx_ret rfl rfl ⟨(gl M 391 (v1).toNat), M, rfl, rfl, hR, h⟩
  · replace h := h.2 c
    refine g1 (n := 1) rfl rfl rfl (la_of a0) ?_
    refine n_gr rfl hS.1 rfl (fun _ => rfl) hR (rk_392 hS).2 ?_
    refine g1 (n := 1) rfl rfl rfl (li_of a1) ?_
    refine n_bi rfl (by decide) ?_
    refine n_sub rfl ?_
    obtain ⟨q, h⟩ := h
    refine n_la rfl (rk_392 hS).1 (Nat.le_of_ble_eq_true rfl) q ?_
    exact gx_ret rfl rfl ⟨(gl M 392 (v1 - 16).toNat), M, rfl, rfl, hR, h⟩
def wm_valueOf (x0 : Int) (M : rf_M) (K : Int64 → rf_M → Prop) : Prop := w_valueOf x0 M K
theorem W_valueOf_m {fz : Bool} {S : gS} {B : rf_M} {M : rf_M} {x0 : Int} {K : Int64 → rf_M → Prop} (hS : rk fz S B.2.2) (hR : fq B M) (h : wm_valueOf x0 M K) : gx (cx0 fz) (1, 21) 164 0 (lv_args 0 [.ref 353, zv x0]) [] (M, S) (vq_l B S K) :=
  W_valueOf hS hR rfl rfl h
def w_two_85 (s0 : Int64) (M : rf_M) (K : Int64 → rf_M → Prop) : Prop := K s0 M
theorem W_two_85 {fz : Bool} {S : gS} {B : rf_M} {M : rf_M} {ls : rf_L} {s0 : Int64} {K : Int64 → rf_M → Prop} (hS : rk fz S B.2.2) (hR : fq B M) (h : w_two_85 s0 M K) : gx (cx0 fz) (0, 0) 165 85 ls [.long s0] (M, S) (vq_l B S K) := by
  unfold w_two_85 at h
  exact gx_ret rfl rfl ⟨s0, M, rfl, rfl, hR, h⟩
def w_two_72 (s0 : Int64) (M : rf_M) (K : Int64 → rf_M → Prop) : Prop := K s0 M
theorem W_two_72 {fz : Bool} {S : gS} {B : rf_M} {M : rf_M} {ls : rf_L} {s0 : Int64} {K : Int64 → rf_M → Prop} (hS : rk fz S B.2.2) (hR : fq B M) (h : w_two_72 s0 M K) : gx (cx0 fz) (0, 0) 165 72 ls [.long s0] (M, S) (vq_l B S K) := by
  unfold w_two_72 at h
  exact gx_ret rfl rfl ⟨s0, M, rfl, rfl, hR, h⟩
def w_two_98 (s0 : Int64) (M : rf_M) (K : Int64 → rf_M → Prop) : Prop := K s0 M
theorem W_two_98 {fz : Bool} {S : gS} {B : rf_M} {M : rf_M} {ls : rf_L} {s0 : Int64} {K : Int64 → rf_M → Prop} (hS : rk fz S B.2.2) (hR : fq B M) (h : w_two_98 s0 M K) : gx (cx0 fz) (0, 0) 165 98 ls [.long s0] (M, S) (vq_l B S K) := by
  unfold w_two_98 at h
  exact gx_ret rfl rfl ⟨s0, M, rfl, rfl, hR, h⟩
def w_two_179 (s0 : Int64) (M : rf_M) (K : Int64 → rf_M → Prop) : Prop := K s0 M
theorem W_two_179 {fz : Bool} {S : gS} {B : rf_M} {M : rf_M} {ls : rf_L} {s0 : Int64} {K : Int64 → rf_M → Prop} (hS : rk fz S B.2.2) (hR : fq B M) (h : w_two_179 s0 M K) : gx (cx0 fz) (0, 0) 165 179 ls [.long s0] (M, S) (vq_l B S K) := by
  unfold w_two_179 at h
  exact gx_ret rfl rfl ⟨s0, M, rfl, rfl, hR, h⟩
def w_two (v1 : Int) (v2 : Int64) (v4 : Int64) (M : rf_M) (K : Int64 → rf_M → Prop) : Prop := inr v1 ∧ ((v1 = 35 → (((lg_cmp v2 v4).toInt = 0 → (w_two_98 (Int64.ofNat 0) M K)) ∧ (¬ ((lg_cmp v2 v4).toInt = 0) → (w_two_98 (Int64.ofNat 1) M K)))) ∧ (v1 = 42 → (K (v2 * v4) M)) ∧ (v1 = 43 → (K (v2 + v4) M)) ∧ (v1 = 45 → (K (v2 - v4) M)) ∧ (v1 = 60 → ((0 ≤ (lg_cmp v2 v4).toInt → (w_two_72 (Int64.ofNat 0) M K)) ∧ (¬ (0 ≤ (lg_cmp v2 v4).toInt) → (w_two_72 (Int64.ofNat 1) M K)))) ∧ (v1 = 61 → (((lg_cmp v2 v4).toInt = 0 → (w_two_85 (Int64.ofNat 1) M K)) ∧ (¬ (lg_cmp v2 v4).toInt = 0 → (w_two_85 (Int64.ofNat 0) M K)))) ∧ (¬ v1 = 35 ∧ ¬ v1 = 42 ∧ ¬ v1 = 43 ∧ ¬ v1 = 45 ∧ ¬ v1 = 60 ∧ ¬ v1 = 61 → (((lg_cmp v4 (Int64.ofNat 0)).toInt = 0 → (∀ M1 : rf_M, M1 = wi M 353 65 1 → (∀ M2 : rf_M, M2 = wl M1 353 66 (Int64.ofNat 18446744073709551615) → (K (Int64.ofNat 0) M2)))) ∧ (¬ (lg_cmp v4 (Int64.ofNat 0)).toInt = 0 → (inr v1 ∧ ((v1 = 47 → (((lg_cmp v4 (Int64.ofNat 18446744073709551615)).toInt = 0 → (w_two_179 (-v2) M K)) ∧ (¬ (lg_cmp v4 (Int64.ofNat 18446744073709551615)).toInt = 0 → (¬ v4 = 0 ∧ (w_two_179 (v2 / v4) M K))))) ∧ (¬ v1 = 47 → (((lg_cmp v4 (Int64.ofNat 18446744073709551615)).toInt = 0 → (w_two_179 (Int64.ofNat 0) M K)) ∧ (¬ (lg_cmp v4 (Int64.ofNat 18446744073709551615)).toInt = 0 → (¬ v4 = 0 ∧ (w_two_179 (v2 - v2 / v4 * v4) M K)))))))))))
theorem W_two {fz : Bool} {S : gS} {B : rf_M} {M : rf_M} {ls : rf_L} {v1 : Int} {v2 : Int64} {v4 : Int64} {K : Int64 → rf_M → Prop} (hS : rk fz S B.2.2) (hR : fq B M) (a0 : rf_ld ls 0 = some (.ref 353)) (a1 : rf_ld ls 1 = some (zv v1)) (a2 : rf_ld ls 2 = some (.long v2)) (a4 : rf_ld ls 4 = some (.long v4)) (h : w_two v1 v2 v4 M K) : gx (cx0 fz) (0, 0) 165 0 ls [] (M, S) (vq_l B S K) := by
  unfold w_two at h
  refine g1 (n := 1) rfl rfl rfl (li_of a1) ?_
  obtain ⟨ia, h⟩ := h
  obtain ⟨h1, h⟩ := h
  by_cases e35 : v1 = 35
  · replace h := h1 e35
    refine n_sw (pc' := 86) e35 rfl rfl rfl ?_
    refine g1 (n := 1) rfl rfl rfl (ll_of a2) ?_
    refine g1 (n := 2) rfl rfl rfl (ll_of a4) ?_
    refine n_op (T := (lg_cmp v2 v4)) rfl rfl rfl ?_
    refine n_if rfl (inr_ti _) (fun c => ?_) (fun c => ?_)
    · replace h := h.1 c
      refine g1 (n := 1) rfl rfl rfl rfl ?_
      exact W_two_98 hS hR  h
    · replace h := h.2 c
      refine g1 (n := 1) rfl rfl rfl rfl ?_
      refine g3 rfl rfl rfl ?_
      exact W_two_98 hS hR  h
  obtain ⟨h1, h⟩ := h
  by_cases e42 : v1 = 42
  · replace h := h1 e42
    refine n_sw (pc' := 109) e42 rfl rfl rfl ?_
    refine g1 (n := 1) rfl rfl rfl (ll_of a2) ?_
    refine g1 (n := 2) rfl rfl rfl (ll_of a4) ?_
    refine g0 rfl rfl rfl ?_
    exact gx_ret rfl rfl ⟨(v2 * v4), M, rfl, rfl, hR, h⟩
  obtain ⟨h1, h⟩ := h
  by_cases e43 : v1 = 43
  · replace h := h1 e43
    refine n_sw (pc' := 99) e43 rfl rfl rfl ?_
    refine g1 (n := 1) rfl rfl rfl (ll_of a2) ?_
    refine g1 (n := 2) rfl rfl rfl (ll_of a4) ?_
    refine g0 rfl rfl rfl ?_
    exact gx_ret rfl rfl ⟨(v2 + v4), M, rfl, rfl, hR, h⟩
  obtain ⟨h1, h⟩ := h
  by_cases e45 : v1 = 45
  · replace h := h1 e45
    refine n_sw (pc' := 104) e45 rfl rfl rfl ?_
    refine g1 (n := 1) rfl rfl rfl (ll_of a2) ?_
    refine g1 (n := 2) rfl rfl rfl (ll_of a4) ?_
    refine g0 rfl rfl rfl ?_
    exact gx_ret rfl rfl ⟨(v2 - v4), M, rfl, rfl, hR, h⟩
  obtain ⟨h1, h⟩ := h
  by_cases e60 : v1 = 60
  · replace h := h1 e60
    refine n_sw (pc' := 60) e60 rfl rfl rfl ?_
    refine g1 (n := 1) rfl rfl rfl (ll_of a2) ?_
    refine g1 (n := 2) rfl rfl rfl (ll_of a4) ?_
    refine n_op (T := (lg_cmp v2 v4)) rfl rfl rfl ?_
    refine n_if rfl (inr_ti _) (fun c => ?_) (fun c => ?_)
    · replace h := h.1 c
      refine g1 (n := 1) rfl rfl rfl rfl ?_
      exact W_two_72 hS hR  h
    · replace h := h.2 c
      refine g1 (n := 1) rfl rfl rfl rfl ?_
      refine g3 rfl rfl rfl ?_
      exact W_two_72 hS hR  h
  obtain ⟨h1, h⟩ := h
  by_cases e61 : v1 = 61
  · replace h := h1 e61
    refine n_sw (pc' := 73) e61 rfl rfl rfl ?_
    refine g1 (n := 1) rfl rfl rfl (ll_of a2) ?_
    refine g1 (n := 2) rfl rfl rfl (ll_of a4) ?_
    refine n_op (T := (lg_cmp v2 v4)) rfl rfl rfl ?_
    refine n_if rfl (inr_ti _) (fun c => ?_) (fun c => ?_)
    · replace h := h.2 c
      refine g1 (n := 1) rfl rfl rfl rfl ?_
      exact W_two_85 hS hR  h
    · replace h := h.1 (Classical.not_not.mp c)
      refine g1 (n := 1) rfl rfl rfl rfl ?_
      refine g3 rfl rfl rfl ?_
      exact W_two_85 hS hR  h
  replace h := h ⟨e35, e42, e43, e45, e60, e61⟩
  refine n_swl (t := 114) rfl ia (by simp only [List.tail_cons, rf_sw, if_neg (Ne.symm e35), if_neg (Ne.symm e42), if_neg (Ne.symm e43), if_neg (Ne.symm e45), if_neg (Ne.symm e60), if_neg (Ne.symm e61)]; rfl) ?_
  refine g1 (n := 2) rfl rfl rfl (ll_of a4) ?_
  refine g1 (n := 1) rfl rfl rfl rfl ?_
  refine n_op (T := (lg_cmp v4 (Int64.ofNat 0))) rfl rfl rfl ?_
  refine n_if rfl (inr_ti _) (fun c => ?_) (fun c => ?_)
  · replace h := h.2 c
    refine g1 (n := 1) rfl rfl rfl (li_of a1) ?_
    refine n_bi rfl (by decide) ?_
    obtain ⟨i1, h⟩ := h
    refine n_ic rfl i1 ⟨by decide, by decide⟩ (fun c => ?_) (fun c => ?_)
    · replace h := h.2 c
      refine g1 (n := 2) rfl rfl rfl (ll_of a4) ?_
      refine g7 (n := 3) rfl rfl rfl rfl ?_
      refine n_op (T := (lg_cmp v4 (Int64.ofNat 18446744073709551615))) rfl rfl rfl ?_
      refine n_if rfl (inr_ti _) (fun c => ?_) (fun c => ?_)
      · replace h := h.2 c
        refine g1 (n := 1) rfl rfl rfl (ll_of a2) ?_
        refine g1 (n := 2) rfl rfl rfl (ll_of a4) ?_
        obtain ⟨q, h⟩ := h
        refine g0 rfl rfl (if_neg q) ?_
        exact W_two_179 hS hR  h
      · replace h := h.1 (Classical.not_not.mp c)
        refine g1 (n := 1) rfl rfl rfl rfl ?_
        refine g3 rfl rfl rfl ?_
        exact W_two_179 hS hR  h
    · replace h := h.1 (Classical.not_not.mp c)
      refine g1 (n := 2) rfl rfl rfl (ll_of a4) ?_
      refine g7 (n := 3) rfl rfl rfl rfl ?_
      refine n_op (T := (lg_cmp v4 (Int64.ofNat 18446744073709551615))) rfl rfl rfl ?_
      refine n_if rfl (inr_ti _) (fun c => ?_) (fun c => ?_)
      · replace h := h.2 c
        refine g1 (n := 1) rfl rfl rfl (ll_of a2) ?_
        refine g1 (n := 2) rfl rfl rfl (ll_of a4) ?_
        obtain ⟨q, h⟩ := h
        refine g0 rfl rfl (if_neg q) ?_
        refine g3 rfl rfl rfl ?_
        exact W_two_179 hS hR  h
      · replace h := h.1 (Classical.not_not.mp c)
        refine g1 (n := 1) rfl rfl rfl (ll_of a2) ?_
        refine g0 rfl rfl rfl ?_
        refine g3 rfl rfl rfl ?_
        exact W_two_179 hS hR  h
  · replace h := h.1 (Classical.not_not.mp c)
    refine g1 (n := 1) rfl rfl rfl (la_of a0) ?_
    refine g1 (n := 1) rfl rfl rfl rfl ?_
    refine n_pi (Nat.le_of_ble_eq_true rfl) rfl hS.1 rfl (fun _ _ => rfl) (fun M1 e r => ?_)
    replace h := h M1 e
    have r1 := hR.trans r
    refine g1 (n := 1) rfl rfl rfl (la_of a0) ?_
    refine g7 (n := 3) rfl rfl rfl rfl ?_
    refine n_pl (Nat.le_of_ble_eq_true rfl) rfl hS.1 rfl (fun _ _ => rfl) (fun M2 e r => ?_)
    replace h := h M2 e
    have r2 := r1.trans r
    refine g1 (n := 1) rfl rfl rfl rfl ?_
    exact gx_ret rfl rfl ⟨(Int64.ofNat 0), M2, rfl, rfl, r2, h⟩
def wm_two (x0 : Int) (x1 : Int64) (x2 : Int64) (M : rf_M) (K : Int64 → rf_M → Prop) : Prop := w_two x0 x1 x2 M K
theorem W_two_m {fz : Bool} {S : gS} {B : rf_M} {M : rf_M} {x0 : Int} {x1 : Int64} {x2 : Int64} {K : Int64 → rf_M → Prop} (hS : rk fz S B.2.2) (hR : fq B M) (h : wm_two x0 x1 x2 M K) : gx (cx0 fz) (0, 0) 165 0 (lv_args 0 [.ref 353, zv x0, .long x1, .long x2]) [] (M, S) (vq_l B S K) :=
  W_two hS hR rfl rfl rfl rfl h
def w_work_162 (v2 : Int) (v3 : Int) (v4 : Int) (M : rf_M) (b5 : Int → Int → Int → rf_M → Prop) (K : Int64 → rf_M → Prop) : Prop := b5 v2 v3 (v4 + 1) M
theorem W_work_162 {fz : Bool} {S : gS} {B : rf_M} {M : rf_M} {ls : rf_L} {v2 : Int} {v3 : Int} {v4 : Int} {b5 : Int → Int → Int → rf_M → Prop} {K : Int64 → rf_M → Prop} (hS : rk fz S B.2.2) (hR : fq B M) (a0 : rf_ld ls 0 = some (.ref 353)) (a2 : rf_ld ls 2 = some (zv v2)) (a3 : rf_ld ls 3 = some (zv v3)) (a4 : rf_ld ls 4 = some (zv v4)) (hb5 : ∀ (v2 : Int) (v3 : Int) (v4 : Int) (M : rf_M) (ls : rf_L), fq B M → rf_ld ls 0 = some (.ref 353) → rf_ld ls 2 = some (zv v2) → rf_ld ls 3 = some (zv v3) → rf_ld ls 4 = some (zv v4) → b5 v2 v3 v4 M → gx (cx0 fz) (2, 42) 163 5 ls [] (M, S) (vq_l B S K)) (h : w_work_162 v2 v3 v4 M b5 K) : gx (cx0 fz) (2, 42) 163 162 ls [] (M, S) (vq_l B S K) := by
  unfold w_work_162 at h
  refine n_ii rfl a4 (Nat.le_of_ble_eq_true rfl) (fun ls l1 ho => ?_)
  replace a0 := ho 0 _ (by decide) (fun q => by cases q.2) a0
  have l2 := ho 2 _ (by decide) (fun q => by cases q.2) a2
  have l3 := ho 3 _ (by decide) (fun q => by cases q.2) a3
  refine g3 rfl rfl rfl ?_
  exact hb5 _ _ _ _ _ hR a0 l2 l3 l1 h
def w_work_98 (v2 : Int) (v3 : Int) (v4 : Int) (s1 : Int) (s2 : Int64) (M : rf_M) (b5 : Int → Int → Int → rf_M → Prop) (K : Int64 → rf_M → Prop) : Prop := (0 ≤ s1 ∧ s1 < 64) ∧ (∀ M1 : rf_M, M1 = wl M 398 (s1).toNat s2 → (w_work_162 v2 (v3 + 1) v4 M1 b5 K))
theorem W_work_98 {fz : Bool} {S : gS} {B : rf_M} {M : rf_M} {ls : rf_L} {v2 : Int} {v3 : Int} {v4 : Int} {s1 : Int} {s2 : Int64} {b5 : Int → Int → Int → rf_M → Prop} {K : Int64 → rf_M → Prop} (hS : rk fz S B.2.2) (hR : fq B M) (a0 : rf_ld ls 0 = some (.ref 353)) (a2 : rf_ld ls 2 = some (zv v2)) (a3 : rf_ld ls 3 = some (zv v3)) (a4 : rf_ld ls 4 = some (zv v4)) (hb5 : ∀ (v2 : Int) (v3 : Int) (v4 : Int) (M : rf_M) (ls : rf_L), fq B M → rf_ld ls 0 = some (.ref 353) → rf_ld ls 2 = some (zv v2) → rf_ld ls 3 = some (zv v3) → rf_ld ls 4 = some (zv v4) → b5 v2 v3 v4 M → gx (cx0 fz) (2, 42) 163 5 ls [] (M, S) (vq_l B S K)) (h : w_work_98 v2 v3 v4 s1 s2 M b5 K) : gx (cx0 fz) (2, 42) 163 98 ls [.long s2, zv s1, .ref 398] (M, S) (vq_l B S K) := by
  unfold w_work_98 at h
  obtain ⟨q, h⟩ := h
  refine n_ls (Nat.le_of_ble_eq_true rfl) rfl (rk_398 hS).1 (Nat.le_of_ble_eq_true rfl) q (fun M1 e r => ?_)
  replace h := h M1 e
  have r1 := hR.trans r
  refine n_ii rfl a3 (Nat.le_of_ble_eq_true rfl) (fun ls l1 ho => ?_)
  replace a0 := ho 0 _ (by decide) (fun q => by cases q.2) a0
  have l2 := ho 2 _ (by decide) (fun q => by cases q.2) a2
  have l3 := ho 4 _ (by decide) (fun q => by cases q.2) a4
  refine g3 rfl rfl rfl ?_
  exact W_work_162 hS r1 a0 l2 l1 l3 hb5 h
def w_work_185 (s0 : Int64) (M : rf_M) (K : Int64 → rf_M → Prop) : Prop := K s0 M
theorem W_work_185 {fz : Bool} {S : gS} {B : rf_M} {M : rf_M} {ls : rf_L} {s0 : Int64} {K : Int64 → rf_M → Prop} (hS : rk fz S B.2.2) (hR : fq B M) (h : w_work_185 s0 M K) : gx (cx0 fz) (2, 42) 163 185 ls [.long s0] (M, S) (vq_l B S K) := by
  unfold w_work_185 at h
  exact gx_ret rfl rfl ⟨s0, M, rfl, rfl, hR, h⟩
def w_work_168 (M : rf_M) (K : Int64 → rf_M → Prop) : Prop := ((gi M 353 65) = 0 → ((0 ≤ (0 : Int) ∧ (0 : Int) < 64) ∧ (w_work_185 (gl M 398 0) M K))) ∧ (¬ (gi M 353 65) = 0 → (w_work_185 (Int64.ofNat 0) M K))
theorem W_work_168 {fz : Bool} {S : gS} {B : rf_M} {M : rf_M} {ls : rf_L} {K : Int64 → rf_M → Prop} (hS : rk fz S B.2.2) (hR : fq B M) (a0 : rf_ld ls 0 = some (.ref 353)) (h : w_work_168 M K) : gx (cx0 fz) (2, 42) 163 168 ls [] (M, S) (vq_l B S K) := by
  unfold w_work_168 at h
  refine g1 (n := 1) rfl rfl rfl (la_of a0) ?_
  refine n_gi rfl hS.1 rfl (fun _ => rfl) ?_
  refine n_if rfl (inr_gi _ _ _) (fun c => ?_) (fun c => ?_)
  · replace h := h.2 c
    refine g1 (n := 1) rfl rfl rfl rfl ?_
    exact W_work_185 hS hR  h
  · replace h := h.1 (Classical.not_not.mp c)
    refine g1 (n := 1) rfl rfl rfl (la_of a0) ?_
    refine n_gr rfl hS.1 rfl (fun _ => rfl) hR (rk_398 hS).2 ?_
    refine g1 (n := 1) rfl rfl rfl rfl ?_
    obtain ⟨q, h⟩ := h
    refine n_la rfl (rk_398 hS).1 (Nat.le_of_ble_eq_true rfl) q ?_
    refine g3 rfl rfl rfl ?_
    exact W_work_185 hS hR  h
def w_work_5b (v2 : Int) (v3 : Int) (v4 : Int) (M : rf_M) (b5 : Int → Int → Int → rf_M → Prop) (K : Int64 → rf_M → Prop) : Prop := (0 ≤ v4 ∧ v4 < 2400) ∧ (((gi M 368 (v4).toNat) = 4 → (w_work_168 M K)) ∧ (¬ ((gi M 368 (v4).toNat) = 4) → (((gi M 353 65) = 0 → ((0 ≤ v4 ∧ v4 < 2400) ∧ (((gi M 368 (v4).toNat) = 1 → ((0 ≤ v4 ∧ v4 < 2400) ∧ ((0 ≤ v3 ∧ v3 < 64) ∧ (∀ M5 : rf_M, M5 = wl M 398 (v3).toNat (gl M 370 (v4).toNat) → (w_work_162 v2 (v3 + 1) v4 M5 b5 K))))) ∧ (¬ (gi M 368 (v4).toNat) = 1 → (((gi M 368 (v4).toNat) = 2 → (inr v2 ∧ ((v2 = 0 → ((0 ≤ v4 ∧ v4 < 2400) ∧ (wm_valueOf (gi M 369 (v4).toNat) M (fun (z4 : Int64) (M4 : rf_M) => w_work_98 v2 v3 v4 v3 z4 M4 b5 K)))) ∧ (¬ (v2 = 0) → ((0 ≤ v4 ∧ v4 < 2400) ∧ ((0 ≤ (gi M 369 (v4).toNat) ∧ (gi M 369 (v4).toNat) < 16) ∧ (w_work_98 v2 v3 v4 v3 (gl M 399 (gi M 369 (v4).toNat).toNat) M b5 K))))))) ∧ (¬ (gi M 368 (v4).toNat) = 2 → (((gi M 368 (v4).toNat) = 3 → ((0 ≤ (v3 - 1) ∧ (v3 - 1) < 64) ∧ ((0 ≤ (v3 - 1) ∧ (v3 - 1) < 64) ∧ (∀ M3 : rf_M, M3 = wl M 398 (v3 - 1).toNat (-(gl M 398 (v3 - 1).toNat)) → (w_work_162 v2 v3 v4 M3 b5 K))))) ∧ (¬ (gi M 368 (v4).toNat) = 3 → ((0 ≤ ((v3 + (-1)) - 1) ∧ ((v3 + (-1)) - 1) < 64) ∧ ((0 ≤ (v3 + (-1)) ∧ (v3 + (-1)) < 64) ∧ (wm_two (gi M 368 (v4).toNat) (gl M 398 ((v3 + (-1)) - 1).toNat) (gl M 398 (v3 + (-1)).toNat) M (fun (z1 : Int64) (M1 : rf_M) => (0 ≤ ((v3 + (-1)) - 1) ∧ ((v3 + (-1)) - 1) < 64) ∧ (∀ M2 : rf_M, M2 = wl M1 398 ((v3 + (-1)) - 1).toNat z1 → (w_work_162 v2 (v3 + (-1)) v4 M2 b5 K)))))))))))))) ∧ (¬ (gi M 353 65) = 0 → (w_work_168 M K)))))
theorem W_work_5b {fz : Bool} {S : gS} {B : rf_M} {M : rf_M} {ls : rf_L} {v2 : Int} {v3 : Int} {v4 : Int} {b5 : Int → Int → Int → rf_M → Prop} {K : Int64 → rf_M → Prop} (hS : rk fz S B.2.2) (hR : fq B M) (a0 : rf_ld ls 0 = some (.ref 353)) (a2 : rf_ld ls 2 = some (zv v2)) (a3 : rf_ld ls 3 = some (zv v3)) (a4 : rf_ld ls 4 = some (zv v4)) (hb5 : ∀ (v2 : Int) (v3 : Int) (v4 : Int) (M : rf_M) (ls : rf_L), fq B M → rf_ld ls 0 = some (.ref 353) → rf_ld ls 2 = some (zv v2) → rf_ld ls 3 = some (zv v3) → rf_ld ls 4 = some (zv v4) → b5 v2 v3 v4 M → gx (cx0 fz) (2, 42) 163 5 ls [] (M, S) (vq_l B S K)) (h : w_work_5b v2 v3 v4 M b5 K) : gx (cx0 fz) (2, 42) 163 5 ls [] (M, S) (vq_l B S K) := by
  unfold w_work_5b at h
  refine g1 (n := 1) rfl rfl rfl (la_of a0) ?_
  refine n_gr rfl hS.1 rfl (fun _ => rfl) hR (rk_368 hS).2 ?_
  refine g1 (n := 2) rfl rfl rfl (li_of a4) ?_
  obtain ⟨q, h⟩ := h
  refine n_ia rfl (rk_368 hS).1 (Nat.le_of_ble_eq_true rfl) q ?_
  refine g1 (n := 1) rfl rfl rfl rfl ?_
  refine n_ic rfl (inr_gi _ _ _) ⟨by decide, by decide⟩ (fun c => ?_) (fun c => ?_)
  · replace h := h.1 c
    exact W_work_168 hS hR a0 h
  · replace h := h.2 c
    refine g1 (n := 1) rfl rfl rfl (la_of a0) ?_
    refine n_gi rfl hS.1 rfl (fun _ => rfl) ?_
    refine n_if rfl (inr_gi _ _ _) (fun c => ?_) (fun c => ?_)
    · replace h := h.2 c
      exact W_work_168 hS hR a0 h
    · replace h := h.1 (Classical.not_not.mp c)
      refine g1 (n := 1) rfl rfl rfl (la_of a0) ?_
      refine n_gr rfl hS.1 rfl (fun _ => rfl) hR (rk_368 hS).2 ?_
      refine g1 (n := 2) rfl rfl rfl (li_of a4) ?_
      obtain ⟨q, h⟩ := h
      refine n_ia rfl (rk_368 hS).1 (Nat.le_of_ble_eq_true rfl) q ?_
      refine n_s1 (n := 2) rfl rfl rfl rfl (fun ls l1 ho => ?_)
      replace a0 := ho 0 _ (by decide) (fun q => by cases q.2) a0
      have l2 := ho 2 _ (by decide) (fun q => by cases q.2) a2
      have l3 := ho 3 _ (by decide) (fun q => by cases q.2) a3
      have l4 := ho 4 _ (by decide) (fun q => by cases q.2) a4
      refine g1 (n := 2) rfl rfl rfl (li_of l1) ?_
      refine g1 (n := 1) rfl rfl rfl rfl ?_
      refine n_ic rfl (inr_gi _ _ _) ⟨by decide, by decide⟩ (fun c => ?_) (fun c => ?_)
      · replace h := h.2 c
        refine g1 (n := 2) rfl rfl rfl (li_of l1) ?_
        refine g1 (n := 1) rfl rfl rfl rfl ?_
        refine n_ic rfl (inr_gi _ _ _) ⟨by decide, by decide⟩ (fun c => ?_) (fun c => ?_)
        · replace h := h.2 c
          refine g1 (n := 2) rfl rfl rfl (li_of l1) ?_
          refine g1 (n := 1) rfl rfl rfl rfl ?_
          refine n_ic rfl (inr_gi _ _ _) ⟨by decide, by decide⟩ (fun c => ?_) (fun c => ?_)
          · replace h := h.2 c
            refine n_ii rfl l3 (Nat.le_of_ble_eq_true rfl) (fun ls l5 ho => ?_)
            replace a0 := ho 0 _ (by decide) (fun q => by cases q.2) a0
            have l6 := ho 2 _ (by decide) (fun q => by cases q.2) l2
            have l7 := ho 4 _ (by decide) (fun q => by cases q.2) l4
            have l8 := ho 5 _ (by decide) (fun q => by cases q.2) l1
            refine g1 (n := 1) rfl rfl rfl (la_of a0) ?_
            refine n_gr rfl hS.1 rfl (fun _ => rfl) hR (rk_398 hS).2 ?_
            refine g1 (n := 1) rfl rfl rfl (li_of l5) ?_
            refine g1 (n := 1) rfl rfl rfl rfl ?_
            refine n_sub rfl ?_
            refine g1 (n := 1) rfl rfl rfl (la_of a0) ?_
            refine g1 (n := 2) rfl rfl rfl (li_of l8) ?_
            refine g1 (n := 1) rfl rfl rfl (la_of a0) ?_
            refine n_gr rfl hS.1 rfl (fun _ => rfl) hR (rk_398 hS).2 ?_
            refine g1 (n := 1) rfl rfl rfl (li_of l5) ?_
            refine g1 (n := 1) rfl rfl rfl rfl ?_
            refine n_sub rfl ?_
            obtain ⟨q, h⟩ := h
            refine n_la rfl (rk_398 hS).1 (Nat.le_of_ble_eq_true rfl) q ?_
            refine g1 (n := 1) rfl rfl rfl (la_of a0) ?_
            refine n_gr rfl hS.1 rfl (fun _ => rfl) hR (rk_398 hS).2 ?_
            refine g1 (n := 1) rfl rfl rfl (li_of l5) ?_
            obtain ⟨q, h⟩ := h
            refine n_la rfl (rk_398 hS).1 (Nat.le_of_ble_eq_true rfl) q ?_
            refine m_iv (a := 353) (as := [zv (gi M 368 (v4).toNat), .long (gl M 398 ((v3 + (-1)) - 1).toNat), .long (gl M 398 (v3 + (-1)).toNat)]) (rest := [zv ((v3 + (-1)) - 1), .ref 398]) rfl (by decide) hS.1 rfl rfl (Nat.le_of_ble_eq_true rfl) ⟨Nat.le_of_ble_eq_true rfl, Nat.le_of_ble_eq_true rfl, Nat.le_of_ble_eq_true rfl⟩ ?_
            refine gx_room (gx_mono (W_two_m hS hR h) ?_) (Nat.le_of_ble_eq_true rfl) (Nat.le_of_ble_eq_true rfl)
            rintro _ _ ⟨z1, M1, rfl, rfl, r1, h⟩
            obtain ⟨q, h⟩ := h
            refine n_ls (Nat.le_of_ble_eq_true rfl) rfl (rk_398 hS).1 (Nat.le_of_ble_eq_true rfl) q (fun M2 e r => ?_)
            replace h := h M2 e
            have r2 := r1.trans r
            exact W_work_162 hS r2 a0 l6 l5 l7 hb5 h
          · replace h := h.1 (Classical.not_not.mp c)
            refine g1 (n := 1) rfl rfl rfl (la_of a0) ?_
            refine n_gr rfl hS.1 rfl (fun _ => rfl) hR (rk_398 hS).2 ?_
            refine g1 (n := 1) rfl rfl rfl (li_of l3) ?_
            refine g1 (n := 1) rfl rfl rfl rfl ?_
            refine n_sub rfl ?_
            refine g1 (n := 1) rfl rfl rfl (la_of a0) ?_
            refine n_gr rfl hS.1 rfl (fun _ => rfl) hR (rk_398 hS).2 ?_
            refine g1 (n := 1) rfl rfl rfl (li_of l3) ?_
            refine g1 (n := 1) rfl rfl rfl rfl ?_
            refine n_sub rfl ?_
            obtain ⟨q, h⟩ := h
            refine n_la rfl (rk_398 hS).1 (Nat.le_of_ble_eq_true rfl) q ?_
            refine g0 rfl rfl rfl ?_
            obtain ⟨q, h⟩ := h
            refine n_ls (Nat.le_of_ble_eq_true rfl) rfl (rk_398 hS).1 (Nat.le_of_ble_eq_true rfl) q (fun M3 e r => ?_)
            replace h := h M3 e
            have r3 := hR.trans r
            refine g3 rfl rfl rfl ?_
            exact W_work_162 hS r3 a0 l2 l3 l4 hb5 h
        · replace h := h.1 (Classical.not_not.mp c)
          refine g1 (n := 1) rfl rfl rfl (la_of a0) ?_
          refine n_gr rfl hS.1 rfl (fun _ => rfl) hR (rk_398 hS).2 ?_
          refine g1 (n := 1) rfl rfl rfl (li_of l3) ?_
          refine g1 (n := 1) rfl rfl rfl (li_of l2) ?_
          obtain ⟨i1, h⟩ := h
          refine n_if rfl i1 (fun c => ?_) (fun c => ?_)
          · replace h := h.1 c
            refine g1 (n := 1) rfl rfl rfl (la_of a0) ?_
            refine g1 (n := 1) rfl rfl rfl (la_of a0) ?_
            refine n_gr rfl hS.1 rfl (fun _ => rfl) hR (rk_369 hS).2 ?_
            refine g1 (n := 2) rfl rfl rfl (li_of l4) ?_
            obtain ⟨q, h⟩ := h
            refine n_ia rfl (rk_369 hS).1 (Nat.le_of_ble_eq_true rfl) q ?_
            refine m_iv (a := 353) (as := [zv (gi M 369 (v4).toNat)]) (rest := [zv v3, .ref 398]) rfl (by decide) hS.1 rfl rfl (Nat.le_of_ble_eq_true rfl) ⟨Nat.le_of_ble_eq_true rfl, Nat.le_of_ble_eq_true rfl, Nat.le_of_ble_eq_true rfl⟩ ?_
            refine gx_room (gx_mono (W_valueOf_m hS hR h) ?_) (Nat.le_of_ble_eq_true rfl) (Nat.le_of_ble_eq_true rfl)
            rintro _ _ ⟨z4, M4, rfl, rfl, r4, h⟩
            exact W_work_98 hS r4 a0 l2 l3 l4 hb5 h
          · replace h := h.2 c
            refine g1 (n := 1) rfl rfl rfl (la_of a0) ?_
            refine n_gr rfl hS.1 rfl (fun _ => rfl) hR (rk_399 hS).2 ?_
            refine g1 (n := 1) rfl rfl rfl (la_of a0) ?_
            refine n_gr rfl hS.1 rfl (fun _ => rfl) hR (rk_369 hS).2 ?_
            refine g1 (n := 2) rfl rfl rfl (li_of l4) ?_
            obtain ⟨q, h⟩ := h
            refine n_ia rfl (rk_369 hS).1 (Nat.le_of_ble_eq_true rfl) q ?_
            obtain ⟨q, h⟩ := h
            refine n_la rfl (rk_399 hS).1 (Nat.le_of_ble_eq_true rfl) q ?_
            refine g3 rfl rfl rfl ?_
            exact W_work_98 hS hR a0 l2 l3 l4 hb5 h
      · replace h := h.1 (Classical.not_not.mp c)
        refine g1 (n := 1) rfl rfl rfl (la_of a0) ?_
        refine n_gr rfl hS.1 rfl (fun _ => rfl) hR (rk_398 hS).2 ?_
        refine g1 (n := 1) rfl rfl rfl (li_of l3) ?_
        refine g1 (n := 1) rfl rfl rfl (la_of a0) ?_
        refine n_gr rfl hS.1 rfl (fun _ => rfl) hR (rk_370 hS).2 ?_
        refine g1 (n := 2) rfl rfl rfl (li_of l4) ?_
        obtain ⟨q, h⟩ := h
        refine n_la rfl (rk_370 hS).1 (Nat.le_of_ble_eq_true rfl) q ?_
        obtain ⟨q, h⟩ := h
        refine n_ls (Nat.le_of_ble_eq_true rfl) rfl (rk_398 hS).1 (Nat.le_of_ble_eq_true rfl) q (fun M5 e r => ?_)
        replace h := h M5 e
        have r5 := hR.trans r
        refine n_ii rfl l3 (Nat.le_of_ble_eq_true rfl) (fun ls l9 ho => ?_)
        replace a0 := ho 0 _ (by decide) (fun q => by cases q.2) a0
        have l10 := ho 2 _ (by decide) (fun q => by cases q.2) l2
        have l11 := ho 4 _ (by decide) (fun q => by cases q.2) l4
        refine g3 rfl rfl rfl ?_
        exact W_work_162 hS r5 a0 l10 l9 l11 hb5 h
def w_work_5 (v2 : Int) (v3 : Int) (v4 : Int) (M : rf_M) (K : Int64 → rf_M → Prop) : Prop := ∃ Inv : Nat → Int → Int → Int → rf_M → Prop, (∃ m, Inv m v2 v3 v4 M) ∧ ∀ (m : Nat) (v2 : Int) (v3 : Int) (v4 : Int) (M : rf_M), Inv m v2 v3 v4 M → w_work_5b v2 v3 v4 M (fun (v2' : Int) (v3' : Int) (v4' : Int) (M' : rf_M) => ∃ m', m' < m ∧ Inv m' v2' v3' v4' M') K
theorem W_work_5 {fz : Bool} {S : gS} {B : rf_M} {M : rf_M} {ls : rf_L} {v2 : Int} {v3 : Int} {v4 : Int} {K : Int64 → rf_M → Prop} (hS : rk fz S B.2.2) (hR : fq B M) (a0 : rf_ld ls 0 = some (.ref 353)) (a2 : rf_ld ls 2 = some (zv v2)) (a3 : rf_ld ls 3 = some (zv v3)) (a4 : rf_ld ls 4 = some (zv v4)) (h : w_work_5 v2 v3 v4 M K) : gx (cx0 fz) (2, 42) 163 5 ls [] (M, S) (vq_l B S K) := by
  obtain ⟨Inv, ⟨m, hm⟩, hb⟩ := h
  induction m using Nat.strongRecOn generalizing ls M v2 v3 v4 with
  | _ m ih =>
    refine W_work_5b hS hR a0 a2 a3 a4 (fun v2' v3' v4' M' ls' hR' f0 f1 f2 f3 ⟨m', q1, q2⟩ => ih m' q1 hR' f0 f1 f2 f3 q2) (hb m v2 v3 v4 M hm)
def w_work (v1 : Int) (v2 : Int) (M : rf_M) (K : Int64 → rf_M → Prop) : Prop := w_work_5 v2 0 v1 M K
theorem W_work {fz : Bool} {S : gS} {B : rf_M} {M : rf_M} {ls : rf_L} {v1 : Int} {v2 : Int} {K : Int64 → rf_M → Prop} (hS : rk fz S B.2.2) (hR : fq B M) (a0 : rf_ld ls 0 = some (.ref 353)) (a1 : rf_ld ls 1 = some (zv v1)) (a2 : rf_ld ls 2 = some (zv v2)) (h : w_work v1 v2 M K) : gx (cx0 fz) (2, 42) 163 0 ls [] (M, S) (vq_l B S K) := by
  unfold w_work at h
  refine g1 (n := 1) rfl rfl rfl rfl ?_
  refine n_s1 (n := 1) rfl rfl rfl rfl (fun ls l1 ho => ?_)
  replace a0 := ho 0 _ (by decide) (fun q => by cases q.2) a0
  have l2 := ho 1 _ (by decide) (fun q => by cases q.2) a1
  have l3 := ho 2 _ (by decide) (fun q => by cases q.2) a2
  refine g1 (n := 1) rfl rfl rfl (li_of l2) ?_
  refine n_s1 (n := 2) rfl rfl rfl rfl (fun ls l4 ho => ?_)
  replace a0 := ho 0 _ (by decide) (fun q => by cases q.2) a0
  have l5 := ho 2 _ (by decide) (fun q => by cases q.2) l3
  have l6 := ho 3 _ (by decide) (fun q => by cases q.2) l1
  exact W_work_5 hS hR a0 l5 l6 l4 h
def wm_work (x0 : Int) (x1 : Int) (M : rf_M) (K : Int64 → rf_M → Prop) : Prop := w_work x0 x1 M K
theorem W_work_m {fz : Bool} {S : gS} {B : rf_M} {M : rf_M} {x0 : Int} {x1 : Int} {K : Int64 → rf_M → Prop} (hS : rk fz S B.2.2) (hR : fq B M) (h : wm_work x0 x1 M K) : gx (cx0 fz) (2, 42) 163 0 (lv_args 0 [.ref 353, zv x0, zv x1]) [] (M, S) (vq_l B S K) :=
  W_work hS hR rfl rfl rfl h
def w_around_42 (v2 : Int) (v4 : Int) (M : rf_M) (b2 : Int → Int → rf_M → Prop) (K : Int → rf_M → Prop) : Prop := b2 v2 v4 M
theorem W_around_42 {fz : Bool} {S : gS} {B : rf_M} {M : rf_M} {ls : rf_L} {v2 : Int} {v4 : Int} {b2 : Int → Int → rf_M → Prop} {K : Int → rf_M → Prop} (hS : rk fz S B.2.2) (hR : fq B M) (a0 : rf_ld ls 0 = some (.ref 353)) (a2 : rf_ld ls 2 = some (zv v2)) (a4 : rf_ld ls 4 = some (zv v4)) (hb2 : ∀ (v2 : Int) (v3 : Int) (M : rf_M) (ls : rf_L), fq B M → rf_ld ls 0 = some (.ref 353) → rf_ld ls 2 = some (zv v2) → rf_ld ls 3 = some (zv v3) → b2 v2 v3 M → gx (cx0 fz) (0, 0) 167 2 ls [] (M, S) (vq_i B S K)) (h : w_around_42 v2 v4 M b2 K) : gx (cx0 fz) (0, 0) 167 42 ls [] (M, S) (vq_i B S K) := by
  unfold w_around_42 at h
  refine g1 (n := 2) rfl rfl rfl (li_of a4) ?_
  refine n_s1 (n := 1) rfl rfl rfl rfl (fun ls l1 ho => ?_)
  replace a0 := ho 0 _ (by decide) (fun q => by cases q.2) a0
  have l2 := ho 2 _ (by decide) (fun q => by cases q.2) a2
  refine g3 rfl rfl rfl ?_
  exact hb2 _ _ _ _ hR a0 l2 l1 h
def w_around_2b (v2 : Int) (v3 : Int) (M : rf_M) (b2 : Int → Int → rf_M → Prop) (K : Int → rf_M → Prop) : Prop := inr v3 ∧ ((v3 < 0 → (K (-1) M)) ∧ (¬ (v3 < 0) → ((0 ≤ v3 ∧ v3 < 480) ∧ (((gi M 362 (v3).toNat) < 0 → (w_around_42 v2 (gi M 362 (v3).toNat) M b2 K)) ∧ (¬ ((gi M 362 (v3).toNat) < 0) → ((0 ≤ (gi M 362 (v3).toNat) ∧ (gi M 362 (v3).toNat) < 480) ∧ (inr v2 ∧ (((gi M 360 (gi M 362 (v3).toNat).toNat) = v2 → ((0 ≤ v3 ∧ v3 < 480) ∧ (((gi M 363 (v3).toNat) = 0 → (K (gi M 362 (v3).toNat) M)) ∧ (¬ (gi M 363 (v3).toNat) = 0 → (w_around_42 v2 (gi M 362 (v3).toNat) M b2 K))))) ∧ (¬ (gi M 360 (gi M 362 (v3).toNat).toNat) = v2 → (w_around_42 v2 (gi M 362 (v3).toNat) M b2 K))))))))))
theorem W_around_2b {fz : Bool} {S : gS} {B : rf_M} {M : rf_M} {ls : rf_L} {v2 : Int} {v3 : Int} {b2 : Int → Int → rf_M → Prop} {K : Int → rf_M → Prop} (hS : rk fz S B.2.2) (hR : fq B M) (a0 : rf_ld ls 0 = some (.ref 353)) (a2 : rf_ld ls 2 = some (zv v2)) (a3 : rf_ld ls 3 = some (zv v3)) (hb2 : ∀ (v2 : Int) (v3 : Int) (M : rf_M) (ls : rf_L), fq B M → rf_ld ls 0 = some (.ref 353) → rf_ld ls 2 = some (zv v2) → rf_ld ls 3 = some (zv v3) → b2 v2 v3 M → gx (cx0 fz) (0, 0) 167 2 ls [] (M, S) (vq_i B S K)) (h : w_around_2b v2 v3 M b2 K) : gx (cx0 fz) (0, 0) 167 2 ls [] (M, S) (vq_i B S K) := by
  unfold w_around_2b at h
  refine g1 (n := 1) rfl rfl rfl (li_of a3) ?_
  obtain ⟨i1, h⟩ := h
  refine n_if rfl i1 (fun c => ?_) (fun c => ?_)
  · replace h := h.1 c
    refine g1 (n := 1) rfl rfl rfl rfl ?_
    exact gx_ret rfl rfl ⟨(-1), M, rfl, rfl, hR, h⟩
  · replace h := h.2 c
    refine g1 (n := 1) rfl rfl rfl (la_of a0) ?_
    refine n_gr rfl hS.1 rfl (fun _ => rfl) hR (rk_362 hS).2 ?_
    refine g1 (n := 1) rfl rfl rfl (li_of a3) ?_
    obtain ⟨q, h⟩ := h
    refine n_ia rfl (rk_362 hS).1 (Nat.le_of_ble_eq_true rfl) q ?_
    refine n_s1 (n := 2) rfl rfl rfl rfl (fun ls l1 ho => ?_)
    replace a0 := ho 0 _ (by decide) (fun q => by cases q.2) a0
    have l2 := ho 2 _ (by decide) (fun q => by cases q.2) a2
    have l3 := ho 3 _ (by decide) (fun q => by cases q.2) a3
    refine g1 (n := 2) rfl rfl rfl (li_of l1) ?_
    refine n_if rfl (inr_gi _ _ _) (fun c => ?_) (fun c => ?_)
    · replace h := h.1 c
      exact W_around_42 hS hR a0 l2 l1 hb2 h
    · replace h := h.2 c
      refine g1 (n := 1) rfl rfl rfl (la_of a0) ?_
      refine n_gr rfl hS.1 rfl (fun _ => rfl) hR (rk_360 hS).2 ?_
      refine g1 (n := 2) rfl rfl rfl (li_of l1) ?_
      obtain ⟨q, h⟩ := h
      refine n_ia rfl (rk_360 hS).1 (Nat.le_of_ble_eq_true rfl) q ?_
      refine g1 (n := 1) rfl rfl rfl (li_of l2) ?_
      obtain ⟨i2, h⟩ := h
      refine n_ic rfl (inr_gi _ _ _) i2 (fun c => ?_) (fun c => ?_)
      · replace h := h.2 c
        exact W_around_42 hS hR a0 l2 l1 hb2 h
      · replace h := h.1 (Classical.not_not.mp c)
        refine g1 (n := 1) rfl rfl rfl (la_of a0) ?_
        refine n_gr rfl hS.1 rfl (fun _ => rfl) hR (rk_363 hS).2 ?_
        refine g1 (n := 1) rfl rfl rfl (li_of l3) ?_
        obtain ⟨q, h⟩ := h
        refine n_ia rfl (rk_363 hS).1 (Nat.le_of_ble_eq_true rfl) q ?_
        refine n_if rfl (inr_gi _ _ _) (fun c => ?_) (fun c => ?_)
        · replace h := h.2 c
          exact W_around_42 hS hR a0 l2 l1 hb2 h
        · replace h := h.1 (Classical.not_not.mp c)
          refine g1 (n := 2) rfl rfl rfl (li_of l1) ?_
          exact gx_ret rfl rfl ⟨(gi M 362 (v3).toNat), M, rfl, rfl, hR, h⟩
def w_around_2 (v2 : Int) (v3 : Int) (M : rf_M) (K : Int → rf_M → Prop) : Prop := ∃ Inv : Nat → Int → Int → rf_M → Prop, (∃ m, Inv m v2 v3 M) ∧ ∀ (m : Nat) (v2 : Int) (v3 : Int) (M : rf_M), Inv m v2 v3 M → w_around_2b v2 v3 M (fun (v2' : Int) (v3' : Int) (M' : rf_M) => ∃ m', m' < m ∧ Inv m' v2' v3' M') K
theorem W_around_2 {fz : Bool} {S : gS} {B : rf_M} {M : rf_M} {ls : rf_L} {v2 : Int} {v3 : Int} {K : Int → rf_M → Prop} (hS : rk fz S B.2.2) (hR : fq B M) (a0 : rf_ld ls 0 = some (.ref 353)) (a2 : rf_ld ls 2 = some (zv v2)) (a3 : rf_ld ls 3 = some (zv v3)) (h : w_around_2 v2 v3 M K) : gx (cx0 fz) (0, 0) 167 2 ls [] (M, S) (vq_i B S K) := by
  obtain ⟨Inv, ⟨m, hm⟩, hb⟩ := h
  induction m using Nat.strongRecOn generalizing ls M v2 v3 with
  | _ m ih =>
    refine W_around_2b hS hR a0 a2 a3 (fun v2' v3' M' ls' hR' f0 f1 f2 ⟨m', q1, q2⟩ => ih m' q1 hR' f0 f1 f2 q2) (hb m v2 v3 M hm)
def w_around (v1 : Int) (v2 : Int) (M : rf_M) (K : Int → rf_M → Prop) : Prop := w_around_2 v2 v1 M K
theorem W_around {fz : Bool} {S : gS} {B : rf_M} {M : rf_M} {ls : rf_L} {v1 : Int} {v2 : Int} {K : Int → rf_M → Prop} (hS : rk fz S B.2.2) (hR : fq B M) (a0 : rf_ld ls 0 = some (.ref 353)) (a1 : rf_ld ls 1 = some (zv v1)) (a2 : rf_ld ls 2 = some (zv v2)) (h : w_around v1 v2 M K) : gx (cx0 fz) (0, 0) 167 0 ls [] (M, S) (vq_i B S K) := by
  unfold w_around at h
  refine g1 (n := 1) rfl rfl rfl (li_of a1) ?_
  refine n_s1 (n := 1) rfl rfl rfl rfl (fun ls l1 ho => ?_)
  replace a0 := ho 0 _ (by decide) (fun q => by cases q.2) a0
  have l2 := ho 2 _ (by decide) (fun q => by cases q.2) a2
  exact W_around_2 hS hR a0 l2 l1 h
def wm_around (x0 : Int) (x1 : Int) (M : rf_M) (K : Int → rf_M → Prop) : Prop := w_around x0 x1 M K
theorem W_around_m {fz : Bool} {S : gS} {B : rf_M} {M : rf_M} {x0 : Int} {x1 : Int} {K : Int → rf_M → Prop} (hS : rk fz S B.2.2) (hR : fq B M) (h : wm_around x0 x1 M K) : gx (cx0 fz) (0, 0) 167 0 (lv_args 0 [.ref 353, zv x0, zv x1]) [] (M, S) (vq_i B S K) :=
  W_around hS hR rfl rfl rfl h
def w_bringBack_53b (v1 : Int) (v2 : Int) (M : rf_M) (b53 : Int → Int → rf_M → Prop) (K : rf_M → Prop) : Prop := inr v2 ∧ ((10 ≤ v2 → (K M)) ∧ (¬ (10 ≤ v2) → ((0 ≤ ((10 * v1) + v2) ∧ ((10 * v1) + v2) < 4800) ∧ ((0 ≤ v2 ∧ v2 < 10) ∧ (∀ M1 : rf_M, M1 = wl M 392 (v2).toNat (gl M 396 ((10 * v1) + v2).toNat) → (b53 v1 (v2 + 1) M1))))))
theorem W_bringBack_53b {fz : Bool} {S : gS} {B : rf_M} {M : rf_M} {ls : rf_L} {v1 : Int} {v2 : Int} {b53 : Int → Int → rf_M → Prop} {K : rf_M → Prop} (hS : rk fz S B.2.2) (hR : fq B M) (a0 : rf_ld ls 0 = some (.ref 353)) (a1 : rf_ld ls 1 = some (zv v1)) (a2 : rf_ld ls 2 = some (zv v2)) (hb53 : ∀ (v1 : Int) (v2 : Int) (M : rf_M) (ls : rf_L), fq B M → rf_ld ls 0 = some (.ref 353) → rf_ld ls 1 = some (zv v1) → rf_ld ls 2 = some (zv v2) → b53 v1 v2 M → gx (cx0 fz) (0, 0) 168 53 ls [] (M, S) (vq_v B S K)) (h : w_bringBack_53b v1 v2 M b53 K) : gx (cx0 fz) (0, 0) 168 53 ls [] (M, S) (vq_v B S K) := by
  unfold w_bringBack_53b at h
  refine g1 (n := 1) rfl rfl rfl (li_of a2) ?_
  refine n_bi rfl (by decide) ?_
  obtain ⟨i1, h⟩ := h
  refine n_ic rfl i1 ⟨by decide, by decide⟩ (fun c => ?_) (fun c => ?_)
  · replace h := h.1 c
    exact gx_ret rfl rfl ⟨M, rfl, rfl, hR, h⟩
  · replace h := h.2 c
    refine g1 (n := 1) rfl rfl rfl (la_of a0) ?_
    refine n_gr rfl hS.1 rfl (fun _ => rfl) hR (rk_392 hS).2 ?_
    refine g1 (n := 1) rfl rfl rfl (li_of a2) ?_
    refine g1 (n := 1) rfl rfl rfl (la_of a0) ?_
    refine n_gr rfl hS.1 rfl (fun _ => rfl) hR (rk_396 hS).2 ?_
    refine n_bi rfl (by decide) ?_
    refine g1 (n := 1) rfl rfl rfl (li_of a1) ?_
    refine n_mul rfl ?_
    refine g1 (n := 1) rfl rfl rfl (li_of a2) ?_
    refine n_add rfl ?_
    obtain ⟨q, h⟩ := h
    refine n_la rfl (rk_396 hS).1 (Nat.le_of_ble_eq_true rfl) q ?_
    obtain ⟨q, h⟩ := h
    refine n_ls (Nat.le_of_ble_eq_true rfl) rfl (rk_392 hS).1 (Nat.le_of_ble_eq_true rfl) q (fun M1 e r => ?_)
    replace h := h M1 e
    have r1 := hR.trans r
    refine n_ii rfl a2 (Nat.le_of_ble_eq_true rfl) (fun ls l1 ho => ?_)
    replace a0 := ho 0 _ (by decide) (fun q => by cases q.2) a0
    have l2 := ho 1 _ (by decide) (fun q => by cases q.2) a1
    refine g3 rfl rfl rfl ?_
    exact hb53 _ _ _ _ r1 a0 l2 l1 h
def w_bringBack_53 (v1 : Int) (v2 : Int) (M : rf_M) (K : rf_M → Prop) : Prop := ∃ Inv : Nat → Int → Int → rf_M → Prop, (∃ m, Inv m v1 v2 M) ∧ ∀ (m : Nat) (v1 : Int) (v2 : Int) (M : rf_M), Inv m v1 v2 M → w_bringBack_53b v1 v2 M (fun (v1' : Int) (v2' : Int) (M' : rf_M) => ∃ m', m' < m ∧ Inv m' v1' v2' M') K
theorem W_bringBack_53 {fz : Bool} {S : gS} {B : rf_M} {M : rf_M} {ls : rf_L} {v1 : Int} {v2 : Int} {K : rf_M → Prop} (hS : rk fz S B.2.2) (hR : fq B M) (a0 : rf_ld ls 0 = some (.ref 353)) (a1 : rf_ld ls 1 = some (zv v1)) (a2 : rf_ld ls 2 = some (zv v2)) (h : w_bringBack_53 v1 v2 M K) : gx (cx0 fz) (0, 0) 168 53 ls [] (M, S) (vq_v B S K) := by
  obtain ⟨Inv, ⟨m, hm⟩, hb⟩ := h
  induction m using Nat.strongRecOn generalizing ls M v1 v2 with
  | _ m ih =>
    refine W_bringBack_53b hS hR a0 a1 a2 (fun v1' v2' M' ls' hR' f0 f1 f2 ⟨m', q1, q2⟩ => ih m' q1 hR' f0 f1 f2 q2) (hb m v1 v2 M hm)
def w_bringBack_22b (v1 : Int) (v2 : Int) (M : rf_M) (b22 : Int → Int → rf_M → Prop) (K : rf_M → Prop) : Prop := inr v2 ∧ ((16 ≤ v2 → (w_bringBack_53 v1 0 M K)) ∧ (¬ (16 ≤ v2) → ((0 ≤ ((16 * v1) + v2) ∧ ((16 * v1) + v2) < 7680) ∧ ((0 ≤ v2 ∧ v2 < 16) ∧ (∀ M1 : rf_M, M1 = wl M 391 (v2).toNat (gl M 395 ((16 * v1) + v2).toNat) → (b22 v1 (v2 + 1) M1))))))
theorem W_bringBack_22b {fz : Bool} {S : gS} {B : rf_M} {M : rf_M} {ls : rf_L} {v1 : Int} {v2 : Int} {b22 : Int → Int → rf_M → Prop} {K : rf_M → Prop} (hS : rk fz S B.2.2) (hR : fq B M) (a0 : rf_ld ls 0 = some (.ref 353)) (a1 : rf_ld ls 1 = some (zv v1)) (a2 : rf_ld ls 2 = some (zv v2)) (hb22 : ∀ (v1 : Int) (v2 : Int) (M : rf_M) (ls : rf_L), fq B M → rf_ld ls 0 = some (.ref 353) → rf_ld ls 1 = some (zv v1) → rf_ld ls 2 = some (zv v2) → b22 v1 v2 M → gx (cx0 fz) (0, 0) 168 22 ls [] (M, S) (vq_v B S K)) (h : w_bringBack_22b v1 v2 M b22 K) : gx (cx0 fz) (0, 0) 168 22 ls [] (M, S) (vq_v B S K) := by
  unfold w_bringBack_22b at h
  refine g1 (n := 1) rfl rfl rfl (li_of a2) ?_
  refine n_bi rfl (by decide) ?_
  obtain ⟨i1, h⟩ := h
  refine n_ic rfl i1 ⟨by decide, by decide⟩ (fun c => ?_) (fun c => ?_)
  · replace h := h.1 c
    refine g1 (n := 1) rfl rfl rfl rfl ?_
    refine n_s1 (n := 1) rfl rfl rfl rfl (fun ls l1 ho => ?_)
    replace a0 := ho 0 _ (by decide) (fun q => by cases q.2) a0
    have l2 := ho 1 _ (by decide) (fun q => by cases q.2) a1
    exact W_bringBack_53 hS hR a0 l2 l1 h
  · replace h := h.2 c
    refine g1 (n := 1) rfl rfl rfl (la_of a0) ?_
    refine n_gr rfl hS.1 rfl (fun _ => rfl) hR (rk_391 hS).2 ?_
    refine g1 (n := 1) rfl rfl rfl (li_of a2) ?_
    refine g1 (n := 1) rfl rfl rfl (la_of a0) ?_
    refine n_gr rfl hS.1 rfl (fun _ => rfl) hR (rk_395 hS).2 ?_
    refine n_bi rfl (by decide) ?_
    refine g1 (n := 1) rfl rfl rfl (li_of a1) ?_
    refine n_mul rfl ?_
    refine g1 (n := 1) rfl rfl rfl (li_of a2) ?_
    refine n_add rfl ?_
    obtain ⟨q, h⟩ := h
    refine n_la rfl (rk_395 hS).1 (Nat.le_of_ble_eq_true rfl) q ?_
    obtain ⟨q, h⟩ := h
    refine n_ls (Nat.le_of_ble_eq_true rfl) rfl (rk_391 hS).1 (Nat.le_of_ble_eq_true rfl) q (fun M1 e r => ?_)
    replace h := h M1 e
    have r1 := hR.trans r
    refine n_ii rfl a2 (Nat.le_of_ble_eq_true rfl) (fun ls l3 ho => ?_)
    replace a0 := ho 0 _ (by decide) (fun q => by cases q.2) a0
    have l4 := ho 1 _ (by decide) (fun q => by cases q.2) a1
    refine g3 rfl rfl rfl ?_
    exact hb22 _ _ _ _ r1 a0 l4 l3 h
def w_bringBack_22 (v1 : Int) (v2 : Int) (M : rf_M) (K : rf_M → Prop) : Prop := ∃ Inv : Nat → Int → Int → rf_M → Prop, (∃ m, Inv m v1 v2 M) ∧ ∀ (m : Nat) (v1 : Int) (v2 : Int) (M : rf_M), Inv m v1 v2 M → w_bringBack_22b v1 v2 M (fun (v1' : Int) (v2' : Int) (M' : rf_M) => ∃ m', m' < m ∧ Inv m' v1' v2' M') K
theorem W_bringBack_22 {fz : Bool} {S : gS} {B : rf_M} {M : rf_M} {ls : rf_L} {v1 : Int} {v2 : Int} {K : rf_M → Prop} (hS : rk fz S B.2.2) (hR : fq B M) (a0 : rf_ld ls 0 = some (.ref 353)) (a1 : rf_ld ls 1 = some (zv v1)) (a2 : rf_ld ls 2 = some (zv v2)) (h : w_bringBack_22 v1 v2 M K) : gx (cx0 fz) (0, 0) 168 22 ls [] (M, S) (vq_v B S K) := by
  obtain ⟨Inv, ⟨m, hm⟩, hb⟩ := h
  induction m using Nat.strongRecOn generalizing ls M v1 v2 with
  | _ m ih =>
    refine W_bringBack_22b hS hR a0 a1 a2 (fun v1' v2' M' ls' hR' f0 f1 f2 ⟨m', q1, q2⟩ => ih m' q1 hR' f0 f1 f2 q2) (hb m v1 v2 M hm)
def w_bringBack (v1 : Int) (M : rf_M) (K : rf_M → Prop) : Prop := (0 ≤ v1 ∧ v1 < 480) ∧ (∀ M1 : rf_M, M1 = wi M 353 55 (gi M 394 (v1).toNat) → ((0 ≤ v1 ∧ v1 < 480) ∧ (∀ M2 : rf_M, M2 = wi M1 353 58 (gi M1 397 (v1).toNat) → (w_bringBack_22 v1 0 M2 K))))
theorem W_bringBack {fz : Bool} {S : gS} {B : rf_M} {M : rf_M} {ls : rf_L} {v1 : Int} {K : rf_M → Prop} (hS : rk fz S B.2.2) (hR : fq B M) (a0 : rf_ld ls 0 = some (.ref 353)) (a1 : rf_ld ls 1 = some (zv v1)) (h : w_bringBack v1 M K) : gx (cx0 fz) (0, 0) 168 0 ls [] (M, S) (vq_v B S K) := by
  unfold w_bringBack at h
  refine g1 (n := 1) rfl rfl rfl (la_of a0) ?_
  refine g1 (n := 1) rfl rfl rfl (la_of a0) ?_
  refine n_gr rfl hS.1 rfl (fun _ => rfl) hR (rk_394 hS).2 ?_
  refine g1 (n := 1) rfl rfl rfl (li_of a1) ?_
  obtain ⟨q, h⟩ := h
  refine n_ia rfl (rk_394 hS).1 (Nat.le_of_ble_eq_true rfl) q ?_
  refine n_pi (Nat.le_of_ble_eq_true rfl) rfl hS.1 rfl (fun _ _ => rfl) (fun M1 e r => ?_)
  replace h := h M1 e
  have r1 := hR.trans r
  refine g1 (n := 1) rfl rfl rfl (la_of a0) ?_
  refine g1 (n := 1) rfl rfl rfl (la_of a0) ?_
  refine n_gr rfl hS.1 rfl (fun _ => rfl) r1 (rk_397 hS).2 ?_
  refine g1 (n := 1) rfl rfl rfl (li_of a1) ?_
  obtain ⟨q, h⟩ := h
  refine n_ia rfl (rk_397 hS).1 (Nat.le_of_ble_eq_true rfl) q ?_
  refine n_pi (Nat.le_of_ble_eq_true rfl) rfl hS.1 rfl (fun _ _ => rfl) (fun M2 e r => ?_)
  replace h := h M2 e
  have r2 := r1.trans r
  refine g1 (n := 1) rfl rfl rfl rfl ?_
  refine n_s1 (n := 1) rfl rfl rfl rfl (fun ls l1 ho => ?_)
  replace a0 := ho 0 _ (by decide) (fun q => by cases q.2) a0
  have l2 := ho 1 _ (by decide) (fun q => by cases q.2) a1
  exact W_bringBack_22 hS r2 a0 l2 l1 h
def wm_bringBack (x0 : Int) (M : rf_M) (K : rf_M → Prop) : Prop := w_bringBack x0 M K
theorem W_bringBack_m {fz : Bool} {S : gS} {B : rf_M} {M : rf_M} {x0 : Int} {K : rf_M → Prop} (hS : rk fz S B.2.2) (hR : fq B M) (h : wm_bringBack x0 M K) : gx (cx0 fz) (0, 0) 168 0 (lv_args 0 [.ref 353, zv x0]) [] (M, S) (vq_v B S K) :=
  W_bringBack hS hR rfl rfl h
def w_behind_52 (s0 : Int) (M : rf_M) (K : Int → rf_M → Prop) : Prop := K s0 M
theorem W_behind_52 {fz : Bool} {S : gS} {B : rf_M} {M : rf_M} {ls : rf_L} {s0 : Int} {K : Int → rf_M → Prop} (hS : rk fz S B.2.2) (hR : fq B M) (h : w_behind_52 s0 M K) : gx (cx0 fz) (0, 0) 170 52 ls [zv s0] (M, S) (vq_i B S K) := by
  unfold w_behind_52 at h
  exact gx_ret rfl rfl ⟨s0, M, rfl, rfl, hR, h⟩
def w_behind_38 (v2 : Int) (M : rf_M) (K : Int → rf_M → Prop) : Prop := inr v2 ∧ ((0 ≤ v2 → ((0 ≤ v2 ∧ v2 < 480) ∧ (w_behind_52 (gi M 361 (v2).toNat) M K))) ∧ (¬ (0 ≤ v2) → (w_behind_52 (-1) M K)))
theorem W_behind_38 {fz : Bool} {S : gS} {B : rf_M} {M : rf_M} {ls : rf_L} {v2 : Int} {K : Int → rf_M → Prop} (hS : rk fz S B.2.2) (hR : fq B M) (a0 : rf_ld ls 0 = some (.ref 353)) (a2 : rf_ld ls 2 = some (zv v2)) (h : w_behind_38 v2 M K) : gx (cx0 fz) (0, 0) 170 38 ls [] (M, S) (vq_i B S K) := by
  unfold w_behind_38 at h
  refine g1 (n := 1) rfl rfl rfl (li_of a2) ?_
  obtain ⟨i1, h⟩ := h
  refine n_if rfl i1 (fun c => ?_) (fun c => ?_)
  · replace h := h.1 c
    refine g1 (n := 1) rfl rfl rfl (la_of a0) ?_
    refine n_gr rfl hS.1 rfl (fun _ => rfl) hR (rk_361 hS).2 ?_
    refine g1 (n := 1) rfl rfl rfl (li_of a2) ?_
    obtain ⟨q, h⟩ := h
    refine n_ia rfl (rk_361 hS).1 (Nat.le_of_ble_eq_true rfl) q ?_
    exact W_behind_52 hS hR  h
  · replace h := h.2 c
    refine g1 (n := 1) rfl rfl rfl rfl ?_
    refine g3 rfl rfl rfl ?_
    exact W_behind_52 hS hR  h
def w_behind_2b (v2 : Int) (M : rf_M) (b2 : Int → rf_M → Prop) (K : Int → rf_M → Prop) : Prop := inr v2 ∧ ((v2 < 0 → (w_behind_38 v2 M K)) ∧ (¬ (v2 < 0) → ((0 ≤ v2 ∧ v2 < 480) ∧ ((0 ≤ (gi M 361 (v2).toNat) → (w_behind_38 v2 M K)) ∧ (¬ (0 ≤ (gi M 361 (v2).toNat)) → ((0 ≤ v2 ∧ v2 < 480) ∧ (((gi M 362 (v2).toNat) < 0 → (b2 (gi M 362 (v2).toNat) M)) ∧ (¬ ((gi M 362 (v2).toNat) < 0) → ((0 ≤ (gi M 362 (v2).toNat) ∧ (gi M 362 (v2).toNat) < 480) ∧ (((gi M 360 (gi M 362 (v2).toNat).toNat) = 2 → (K (gi M 362 (v2).toNat) M)) ∧ (¬ (gi M 360 (gi M 362 (v2).toNat).toNat) = 2 → (b2 (gi M 362 (v2).toNat) M))))))))))))
theorem W_behind_2b {fz : Bool} {S : gS} {B : rf_M} {M : rf_M} {ls : rf_L} {v2 : Int} {b2 : Int → rf_M → Prop} {K : Int → rf_M → Prop} (hS : rk fz S B.2.2) (hR : fq B M) (a0 : rf_ld ls 0 = some (.ref 353)) (a2 : rf_ld ls 2 = some (zv v2)) (hb2 : ∀ (v2 : Int) (M : rf_M) (ls : rf_L), fq B M → rf_ld ls 0 = some (.ref 353) → rf_ld ls 2 = some (zv v2) → b2 v2 M → gx (cx0 fz) (0, 0) 170 2 ls [] (M, S) (vq_i B S K)) (h : w_behind_2b v2 M b2 K) : gx (cx0 fz) (0, 0) 170 2 ls [] (M, S) (vq_i B S K) := by
  unfold w_behind_2b at h
  refine g1 (n := 1) rfl rfl rfl (li_of a2) ?_
  obtain ⟨i1, h⟩ := h
  refine n_if rfl i1 (fun c => ?_) (fun c => ?_)
  · replace h := h.1 c
    exact W_behind_38 hS hR a0 a2 h
  · replace h := h.2 c
    refine g1 (n := 1) rfl rfl rfl (la_of a0) ?_
    refine n_gr rfl hS.1 rfl (fun _ => rfl) hR (rk_361 hS).2 ?_
    refine g1 (n := 1) rfl rfl rfl (li_of a2) ?_
    obtain ⟨q, h⟩ := h
    refine n_ia rfl (rk_361 hS).1 (Nat.le_of_ble_eq_true rfl) q ?_
    refine n_if rfl (inr_gi _ _ _) (fun c => ?_) (fun c => ?_)
    · replace h := h.1 c
      exact W_behind_38 hS hR a0 a2 h
    · replace h := h.2 c
      refine g1 (n := 1) rfl rfl rfl (la_of a0) ?_
      refine n_gr rfl hS.1 rfl (fun _ => rfl) hR (rk_362 hS).2 ?_
      refine g1 (n := 1) rfl rfl rfl (li_of a2) ?_
      obtain ⟨q, h⟩ := h
      refine n_ia rfl (rk_362 hS).1 (Nat.le_of_ble_eq_true rfl) q ?_
      refine n_s1 (n := 1) rfl rfl rfl rfl (fun ls l1 ho => ?_)
      replace a0 := ho 0 _ (by decide) (fun q => by cases q.2) a0
      refine g1 (n := 1) rfl rfl rfl (li_of l1) ?_
      refine n_if rfl (inr_gi _ _ _) (fun c => ?_) (fun c => ?_)
      · replace h := h.1 c
        exact hb2 _ _ _ hR a0 l1 h
      · replace h := h.2 c
        refine g1 (n := 1) rfl rfl rfl (la_of a0) ?_
        refine n_gr rfl hS.1 rfl (fun _ => rfl) hR (rk_360 hS).2 ?_
        refine g1 (n := 1) rfl rfl rfl (li_of l1) ?_
        obtain ⟨q, h⟩ := h
        refine n_ia rfl (rk_360 hS).1 (Nat.le_of_ble_eq_true rfl) q ?_
        refine g1 (n := 1) rfl rfl rfl rfl ?_
        refine n_ic rfl (inr_gi _ _ _) ⟨by decide, by decide⟩ (fun c => ?_) (fun c => ?_)
        · replace h := h.2 c
          exact hb2 _ _ _ hR a0 l1 h
        · replace h := h.1 (Classical.not_not.mp c)
          refine g1 (n := 1) rfl rfl rfl (li_of l1) ?_
          exact gx_ret rfl rfl ⟨(gi M 362 (v2).toNat), M, rfl, rfl, hR, h⟩
def w_behind_2 (v2 : Int) (M : rf_M) (K : Int → rf_M → Prop) : Prop := ∃ Inv : Nat → Int → rf_M → Prop, (∃ m, Inv m v2 M) ∧ ∀ (m : Nat) (v2 : Int) (M : rf_M), Inv m v2 M → w_behind_2b v2 M (fun (v2' : Int) (M' : rf_M) => ∃ m', m' < m ∧ Inv m' v2' M') K
theorem W_behind_2 {fz : Bool} {S : gS} {B : rf_M} {M : rf_M} {ls : rf_L} {v2 : Int} {K : Int → rf_M → Prop} (hS : rk fz S B.2.2) (hR : fq B M) (a0 : rf_ld ls 0 = some (.ref 353)) (a2 : rf_ld ls 2 = some (zv v2)) (h : w_behind_2 v2 M K) : gx (cx0 fz) (0, 0) 170 2 ls [] (M, S) (vq_i B S K) := by
  obtain ⟨Inv, ⟨m, hm⟩, hb⟩ := h
  induction m using Nat.strongRecOn generalizing ls M v2 with
  | _ m ih =>
    refine W_behind_2b hS hR a0 a2 (fun v2' M' ls' hR' f0 f1 ⟨m', q1, q2⟩ => ih m' q1 hR' f0 f1 q2) (hb m v2 M hm)
def w_behind (v1 : Int) (M : rf_M) (K : Int → rf_M → Prop) : Prop := w_behind_2 v1 M K
theorem W_behind {fz : Bool} {S : gS} {B : rf_M} {M : rf_M} {ls : rf_L} {v1 : Int} {K : Int → rf_M → Prop} (hS : rk fz S B.2.2) (hR : fq B M) (a0 : rf_ld ls 0 = some (.ref 353)) (a1 : rf_ld ls 1 = some (zv v1)) (h : w_behind v1 M K) : gx (cx0 fz) (0, 0) 170 0 ls [] (M, S) (vq_i B S K) := by
  unfold w_behind at h
  refine g1 (n := 1) rfl rfl rfl (li_of a1) ?_
  refine n_s1 (n := 1) rfl rfl rfl rfl (fun ls l1 ho => ?_)
  replace a0 := ho 0 _ (by decide) (fun q => by cases q.2) a0
  exact W_behind_2 hS hR a0 l1 h
def wm_behind (x0 : Int) (M : rf_M) (K : Int → rf_M → Prop) : Prop := w_behind x0 M K
theorem W_behind_m {fz : Bool} {S : gS} {B : rf_M} {M : rf_M} {x0 : Int} {K : Int → rf_M → Prop} (hS : rk fz S B.2.2) (hR : fq B M) (h : wm_behind x0 M K) : gx (cx0 fz) (0, 0) 170 0 (lv_args 0 [.ref 353, zv x0]) [] (M, S) (vq_i B S K) :=
  W_behind hS hR rfl rfl h
def w_goIn_28 (s1 : Int) (M : rf_M) (K : rf_M → Prop) : Prop := ∀ M1 : rf_M, M1 = wi M 353 60 s1 → (K M1)
theorem W_goIn_28 {fz : Bool} {S : gS} {B : rf_M} {M : rf_M} {ls : rf_L} {s1 : Int} {K : rf_M → Prop} (hS : rk fz S B.2.2) (hR : fq B M) (h : w_goIn_28 s1 M K) : gx (cx0 fz) (1, 22) 169 28 ls [zv s1, .ref 353] (M, S) (vq_v B S K) := by
  unfold w_goIn_28 at h
  refine n_pi (Nat.le_of_ble_eq_true rfl) rfl hS.1 rfl (fun _ _ => rfl) (fun M1 e r => ?_)
  replace h := h M1 e
  have r1 := hR.trans r
  exact gx_ret rfl rfl ⟨M1, rfl, rfl, r1, h⟩
def w_goIn (v1 : Int) (v2 : Int) (M : rf_M) (K : rf_M → Prop) : Prop := inr v2 ∧ ((v2 < 0 → ((0 ≤ v1 ∧ v1 < 480) ∧ (((gi M 360 (v1).toNat) = 2 → (w_goIn_28 v1 M K)) ∧ (¬ (gi M 360 (v1).toNat) = 2 → (wm_behind v1 M (fun (z1 : Int) (M1 : rf_M) => w_goIn_28 z1 M1 K)))))) ∧ (¬ (v2 < 0) → (w_goIn_28 v2 M K)))
theorem W_goIn {fz : Bool} {S : gS} {B : rf_M} {M : rf_M} {ls : rf_L} {v1 : Int} {v2 : Int} {K : rf_M → Prop} (hS : rk fz S B.2.2) (hR : fq B M) (a0 : rf_ld ls 0 = some (.ref 353)) (a1 : rf_ld ls 1 = some (zv v1)) (a2 : rf_ld ls 2 = some (zv v2)) (h : w_goIn v1 v2 M K) : gx (cx0 fz) (1, 22) 169 0 ls [] (M, S) (vq_v B S K) := by
  unfold w_goIn at h
  refine g1 (n := 1) rfl rfl rfl (la_of a0) ?_
  refine g1 (n := 1) rfl rfl rfl (li_of a2) ?_
  obtain ⟨i1, h⟩ := h
  refine n_if rfl i1 (fun c => ?_) (fun c => ?_)
  · replace h := h.1 c
    refine g1 (n := 1) rfl rfl rfl (la_of a0) ?_
    refine n_gr rfl hS.1 rfl (fun _ => rfl) hR (rk_360 hS).2 ?_
    refine g1 (n := 1) rfl rfl rfl (li_of a1) ?_
    obtain ⟨q, h⟩ := h
    refine n_ia rfl (rk_360 hS).1 (Nat.le_of_ble_eq_true rfl) q ?_
    refine g1 (n := 1) rfl rfl rfl rfl ?_
    refine n_ic rfl (inr_gi _ _ _) ⟨by decide, by decide⟩ (fun c => ?_) (fun c => ?_)
    · replace h := h.2 c
      refine g1 (n := 1) rfl rfl rfl (la_of a0) ?_
      refine g1 (n := 1) rfl rfl rfl (li_of a1) ?_
      refine m_iv (a := 353) (as := [zv v1]) (rest := [.ref 353]) rfl (by decide) hS.1 rfl rfl (Nat.le_of_ble_eq_true rfl) ⟨Nat.le_of_ble_eq_true rfl, Nat.le_of_ble_eq_true rfl, Nat.le_of_ble_eq_true rfl⟩ ?_
      refine gx_room (gx_mono (W_behind_m hS hR h) ?_) (Nat.le_of_ble_eq_true rfl) (Nat.le_of_ble_eq_true rfl)
      rintro _ _ ⟨z1, M1, rfl, rfl, r1, h⟩
      exact W_goIn_28 hS r1  h
    · replace h := h.1 (Classical.not_not.mp c)
      refine g1 (n := 1) rfl rfl rfl (li_of a1) ?_
      refine g3 rfl rfl rfl ?_
      exact W_goIn_28 hS hR  h
  · replace h := h.2 c
    refine g1 (n := 1) rfl rfl rfl (li_of a2) ?_
    refine g3 rfl rfl rfl ?_
    exact W_goIn_28 hS hR  h
def wm_goIn (x0 : Int) (x1 : Int) (M : rf_M) (K : rf_M → Prop) : Prop := w_goIn x0 x1 M K
theorem W_goIn_m {fz : Bool} {S : gS} {B : rf_M} {M : rf_M} {x0 : Int} {x1 : Int} {K : rf_M → Prop} (hS : rk fz S B.2.2) (hR : fq B M) (h : wm_goIn x0 x1 M K) : gx (cx0 fz) (1, 22) 169 0 (lv_args 0 [.ref 353, zv x0, zv x1]) [] (M, S) (vq_v B S K) :=
  W_goIn hS hR rfl rfl rfl h
def w_throwFrom (v1 : Int) (M : rf_M) (K : Int → rf_M → Prop) : Prop := wm_around v1 7 M (fun (z1 : Int) (M1 : rf_M) => inr z1 ∧ ((0 ≤ z1 → (wm_bringBack z1 M1 (fun (M2 : rf_M) => (0 ≤ z1 ∧ z1 < 480) ∧ ((0 ≤ ((gi M2 367 (z1).toNat) - 16) ∧ ((gi M2 367 (z1).toNat) - 16) < 10) ∧ (∀ M3 : rf_M, M3 = wl M2 392 ((gi M2 367 (z1).toNat) - 16).toNat (gl M2 353 66) → ((0 ≤ z1 ∧ z1 < 480) ∧ (wm_goIn z1 (gi M3 366 (z1).toNat) M3 (fun (M4 : rf_M) => K 0 M4)))))))) ∧ (¬ (0 ≤ z1) → (K 2 M1))))
theorem W_throwFrom {fz : Bool} {S : gS} {B : rf_M} {M : rf_M} {ls : rf_L} {v1 : Int} {K : Int → rf_M → Prop} (hS : rk fz S B.2.2) (hR : fq B M) (a0 : rf_ld ls 0 = some (.ref 353)) (a1 : rf_ld ls 1 = some (zv v1)) (h : w_throwFrom v1 M K) : gx (cx0 fz) (2, 44) 166 0 ls [] (M, S) (vq_i B S K) := by
  unfold w_throwFrom at h
  refine g1 (n := 1) rfl rfl rfl (la_of a0) ?_
  refine g1 (n := 1) rfl rfl rfl (li_of a1) ?_
  refine n_bi rfl (by decide) ?_
  refine m_iv (a := 353) (as := [zv v1, zv 7]) (rest := []) rfl (by decide) hS.1 rfl rfl (Nat.le_of_ble_eq_true rfl) ⟨Nat.le_of_ble_eq_true rfl, Nat.le_of_ble_eq_true rfl, Nat.le_of_ble_eq_true rfl⟩ ?_
  refine gx_room (gx_mono (W_around_m hS hR h) ?_) (Nat.le_of_ble_eq_true rfl) (Nat.le_of_ble_eq_true rfl)
  rintro _ _ ⟨z1, M1, rfl, rfl, r1, h⟩
  refine n_s1 (n := 1) rfl rfl rfl rfl (fun ls l1 ho => ?_)
  replace a0 := ho 0 _ (by decide) (fun q => by cases q.2) a0
  refine g1 (n := 1) rfl rfl rfl (li_of l1) ?_
  obtain ⟨i1, h⟩ := h
  refine n_if rfl i1 (fun c => ?_) (fun c => ?_)
  · replace h := h.1 c
    refine g1 (n := 1) rfl rfl rfl (la_of a0) ?_
    refine g1 (n := 1) rfl rfl rfl (li_of l1) ?_
    refine m_iv (a := 353) (as := [zv z1]) (rest := []) rfl (by decide) hS.1 rfl rfl (Nat.le_of_ble_eq_true rfl) ⟨Nat.le_of_ble_eq_true rfl, Nat.le_of_ble_eq_true rfl, Nat.le_of_ble_eq_true rfl⟩ ?_
    refine gx_room (gx_mono (W_bringBack_m hS r1 h) ?_) (Nat.le_of_ble_eq_true rfl) (Nat.le_of_ble_eq_true rfl)
    rintro _ _ ⟨M2, rfl, rfl, r2, h⟩
    refine g1 (n := 1) rfl rfl rfl (la_of a0) ?_
    refine n_gr rfl hS.1 rfl (fun _ => rfl) r2 (rk_392 hS).2 ?_
    refine g1 (n := 1) rfl rfl rfl (la_of a0) ?_
    refine n_gr rfl hS.1 rfl (fun _ => rfl) r2 (rk_367 hS).2 ?_
    refine g1 (n := 1) rfl rfl rfl (li_of l1) ?_
    obtain ⟨q, h⟩ := h
    refine n_ia rfl (rk_367 hS).1 (Nat.le_of_ble_eq_true rfl) q ?_
    refine n_bi rfl (by decide) ?_
    refine n_sub rfl ?_
    refine g1 (n := 1) rfl rfl rfl (la_of a0) ?_
    refine n_gl rfl hS.1 rfl (fun _ => rfl) ?_
    obtain ⟨q, h⟩ := h
    refine n_ls (Nat.le_of_ble_eq_true rfl) rfl (rk_392 hS).1 (Nat.le_of_ble_eq_true rfl) q (fun M3 e r => ?_)
    replace h := h M3 e
    have r3 := r2.trans r
    refine g1 (n := 1) rfl rfl rfl (la_of a0) ?_
    refine g1 (n := 1) rfl rfl rfl (li_of l1) ?_
    refine g1 (n := 1) rfl rfl rfl (la_of a0) ?_
    refine n_gr rfl hS.1 rfl (fun _ => rfl) r3 (rk_366 hS).2 ?_
    refine g1 (n := 1) rfl rfl rfl (li_of l1) ?_
    obtain ⟨q, h⟩ := h
    refine n_ia rfl (rk_366 hS).1 (Nat.le_of_ble_eq_true rfl) q ?_
    refine m_iv (a := 353) (as := [zv z1, zv (gi M3 366 (z1).toNat)]) (rest := []) rfl (by decide) hS.1 rfl rfl (Nat.le_of_ble_eq_true rfl) ⟨Nat.le_of_ble_eq_true rfl, Nat.le_of_ble_eq_true rfl, Nat.le_of_ble_eq_true rfl⟩ ?_
    refine gx_room (gx_mono (W_goIn_m hS r3 h) ?_) (Nat.le_of_ble_eq_true rfl) (Nat.le_of_ble_eq_true rfl)
    rintro _ _ ⟨M4, rfl, rfl, r4, h⟩
    refine g1 (n := 1) rfl rfl rfl rfl ?_
    exact gx_ret rfl rfl ⟨0, M4, rfl, rfl, r4, h⟩
  · replace h := h.2 c
    refine g1 (n := 1) rfl rfl rfl rfl ?_
    exact gx_ret rfl rfl ⟨2, M1, rfl, rfl, r1, h⟩
def wm_throwFrom (x0 : Int) (M : rf_M) (K : Int → rf_M → Prop) : Prop := w_throwFrom x0 M K
theorem W_throwFrom_m {fz : Bool} {S : gS} {B : rf_M} {M : rf_M} {x0 : Int} {K : Int → rf_M → Prop} (hS : rk fz S B.2.2) (hR : fq B M) (h : wm_throwFrom x0 M K) : gx (cx0 fz) (2, 44) 166 0 (lv_args 0 [.ref 353, zv x0]) [] (M, S) (vq_i B S K) :=
  W_throwFrom hS hR rfl rfl h
def w_retryFrom (v1 : Int) (M : rf_M) (K : Int → rf_M → Prop) : Prop := wm_around v1 5 M (fun (z1 : Int) (M1 : rf_M) => inr z1 ∧ ((0 ≤ z1 → (wm_bringBack z1 M1 (fun (M2 : rf_M) => (0 ≤ z1 ∧ z1 < 480) ∧ (wm_goIn z1 (gi M2 366 (z1).toNat) M2 (fun (M3 : rf_M) => K 0 M3))))) ∧ (¬ (0 ≤ z1) → (K 3 M1))))
theorem W_retryFrom {fz : Bool} {S : gS} {B : rf_M} {M : rf_M} {ls : rf_L} {v1 : Int} {K : Int → rf_M → Prop} (hS : rk fz S B.2.2) (hR : fq B M) (a0 : rf_ld ls 0 = some (.ref 353)) (a1 : rf_ld ls 1 = some (zv v1)) (h : w_retryFrom v1 M K) : gx (cx0 fz) (2, 44) 171 0 ls [] (M, S) (vq_i B S K) := by
  unfold w_retryFrom at h
  refine g1 (n := 1) rfl rfl rfl (la_of a0) ?_
  refine g1 (n := 1) rfl rfl rfl (li_of a1) ?_
  refine g1 (n := 1) rfl rfl rfl rfl ?_
  refine m_iv (a := 353) (as := [zv v1, zv 5]) (rest := []) rfl (by decide) hS.1 rfl rfl (Nat.le_of_ble_eq_true rfl) ⟨Nat.le_of_ble_eq_true rfl, Nat.le_of_ble_eq_true rfl, Nat.le_of_ble_eq_true rfl⟩ ?_
  refine gx_room (gx_mono (W_around_m hS hR h) ?_) (Nat.le_of_ble_eq_true rfl) (Nat.le_of_ble_eq_true rfl)
  rintro _ _ ⟨z1, M1, rfl, rfl, r1, h⟩
  refine n_s1 (n := 1) rfl rfl rfl rfl (fun ls l1 ho => ?_)
  replace a0 := ho 0 _ (by decide) (fun q => by cases q.2) a0
  refine g1 (n := 1) rfl rfl rfl (li_of l1) ?_
  obtain ⟨i1, h⟩ := h
  refine n_if rfl i1 (fun c => ?_) (fun c => ?_)
  · replace h := h.1 c
    refine g1 (n := 1) rfl rfl rfl (la_of a0) ?_
    refine g1 (n := 1) rfl rfl rfl (li_of l1) ?_
    refine m_iv (a := 353) (as := [zv z1]) (rest := []) rfl (by decide) hS.1 rfl rfl (Nat.le_of_ble_eq_true rfl) ⟨Nat.le_of_ble_eq_true rfl, Nat.le_of_ble_eq_true rfl, Nat.le_of_ble_eq_true rfl⟩ ?_
    refine gx_room (gx_mono (W_bringBack_m hS r1 h) ?_) (Nat.le_of_ble_eq_true rfl) (Nat.le_of_ble_eq_true rfl)
    rintro _ _ ⟨M2, rfl, rfl, r2, h⟩
    refine g1 (n := 1) rfl rfl rfl (la_of a0) ?_
    refine g1 (n := 1) rfl rfl rfl (li_of l1) ?_
    refine g1 (n := 1) rfl rfl rfl (la_of a0) ?_
    refine n_gr rfl hS.1 rfl (fun _ => rfl) r2 (rk_366 hS).2 ?_
    refine g1 (n := 1) rfl rfl rfl (li_of l1) ?_
    obtain ⟨q, h⟩ := h
    refine n_ia rfl (rk_366 hS).1 (Nat.le_of_ble_eq_true rfl) q ?_
    refine m_iv (a := 353) (as := [zv z1, zv (gi M2 366 (z1).toNat)]) (rest := []) rfl (by decide) hS.1 rfl rfl (Nat.le_of_ble_eq_true rfl) ⟨Nat.le_of_ble_eq_true rfl, Nat.le_of_ble_eq_true rfl, Nat.le_of_ble_eq_true rfl⟩ ?_
    refine gx_room (gx_mono (W_goIn_m hS r2 h) ?_) (Nat.le_of_ble_eq_true rfl) (Nat.le_of_ble_eq_true rfl)
    rintro _ _ ⟨M3, rfl, rfl, r3, h⟩
    refine g1 (n := 1) rfl rfl rfl rfl ?_
    exact gx_ret rfl rfl ⟨0, M3, rfl, rfl, r3, h⟩
  · replace h := h.2 c
    refine g1 (n := 1) rfl rfl rfl rfl ?_
    exact gx_ret rfl rfl ⟨3, M1, rfl, rfl, r1, h⟩
def wm_retryFrom (x0 : Int) (M : rf_M) (K : Int → rf_M → Prop) : Prop := w_retryFrom x0 M K
theorem W_retryFrom_m {fz : Bool} {S : gS} {B : rf_M} {M : rf_M} {x0 : Int} {K : Int → rf_M → Prop} (hS : rk fz S B.2.2) (hR : fq B M) (h : wm_retryFrom x0 M K) : gx (cx0 fz) (2, 44) 171 0 (lv_args 0 [.ref 353, zv x0]) [] (M, S) (vq_i B S K) :=
  W_retryFrom hS hR rfl rfl h
def w_keep_53b (v1 : Int) (v2 : Int) (M : rf_M) (b53 : Int → Int → rf_M → Prop) (K : rf_M → Prop) : Prop := inr v2 ∧ ((10 ≤ v2 → (K M)) ∧ (¬ (10 ≤ v2) → ((0 ≤ v2 ∧ v2 < 10) ∧ ((0 ≤ ((10 * v1) + v2) ∧ ((10 * v1) + v2) < 4800) ∧ (∀ M1 : rf_M, M1 = wl M 396 ((10 * v1) + v2).toNat (gl M 392 (v2).toNat) → (b53 v1 (v2 + 1) M1))))))
theorem W_keep_53b {fz : Bool} {S : gS} {B : rf_M} {M : rf_M} {ls : rf_L} {v1 : Int} {v2 : Int} {b53 : Int → Int → rf_M → Prop} {K : rf_M → Prop} (hS : rk fz S B.2.2) (hR : fq B M) (a0 : rf_ld ls 0 = some (.ref 353)) (a1 : rf_ld ls 1 = some (zv v1)) (a2 : rf_ld ls 2 = some (zv v2)) (hb53 : ∀ (v1 : Int) (v2 : Int) (M : rf_M) (ls : rf_L), fq B M → rf_ld ls 0 = some (.ref 353) → rf_ld ls 1 = some (zv v1) → rf_ld ls 2 = some (zv v2) → b53 v1 v2 M → gx (cx0 fz) (0, 0) 172 53 ls [] (M, S) (vq_v B S K)) (h : w_keep_53b v1 v2 M b53 K) : gx (cx0 fz) (0, 0) 172 53 ls [] (M, S) (vq_v B S K) := by
  unfold w_keep_53b at h
  refine g1 (n := 1) rfl rfl rfl (li_of a2) ?_
  refine n_bi rfl (by decide) ?_
  obtain ⟨i1, h⟩ := h
  refine n_ic rfl i1 ⟨by decide, by decide⟩ (fun c => ?_) (fun c => ?_)
  · replace h := h.1 c
    exact gx_ret rfl rfl ⟨M, rfl, rfl, hR, h⟩
  · replace h := h.2 c
    refine g1 (n := 1) rfl rfl rfl (la_of a0) ?_
    refine n_gr rfl hS.1 rfl (fun _ => rfl) hR (rk_396 hS).2 ?_
    refine n_bi rfl (by decide) ?_
    refine g1 (n := 1) rfl rfl rfl (li_of a1) ?_
    refine n_mul rfl ?_
    refine g1 (n := 1) rfl rfl rfl (li_of a2) ?_
    refine n_add rfl ?_
    refine g1 (n := 1) rfl rfl rfl (la_of a0) ?_
    refine n_gr rfl hS.1 rfl (fun _ => rfl) hR (rk_392 hS).2 ?_
    refine g1 (n := 1) rfl rfl rfl (li_of a2) ?_
    obtain ⟨q, h⟩ := h
    refine n_la rfl (rk_392 hS).1 (Nat.le_of_ble_eq_true rfl) q ?_
    obtain ⟨q, h⟩ := h
    refine n_ls (Nat.le_of_ble_eq_true rfl) rfl (rk_396 hS).1 (Nat.le_of_ble_eq_true rfl) q (fun M1 e r => ?_)
    replace h := h M1 e
    have r1 := hR.trans r
    refine n_ii rfl a2 (Nat.le_of_ble_eq_true rfl) (fun ls l1 ho => ?_)
    replace a0 := ho 0 _ (by decide) (fun q => by cases q.2) a0
    have l2 := ho 1 _ (by decide) (fun q => by cases q.2) a1
    refine g3 rfl rfl rfl ?_
    exact hb53 _ _ _ _ r1 a0 l2 l1 h
def w_keep_53 (v1 : Int) (v2 : Int) (M : rf_M) (K : rf_M → Prop) : Prop := ∃ Inv : Nat → Int → Int → rf_M → Prop, (∃ m, Inv m v1 v2 M) ∧ ∀ (m : Nat) (v1 : Int) (v2 : Int) (M : rf_M), Inv m v1 v2 M → w_keep_53b v1 v2 M (fun (v1' : Int) (v2' : Int) (M' : rf_M) => ∃ m', m' < m ∧ Inv m' v1' v2' M') K
theorem W_keep_53 {fz : Bool} {S : gS} {B : rf_M} {M : rf_M} {ls : rf_L} {v1 : Int} {v2 : Int} {K : rf_M → Prop} (hS : rk fz S B.2.2) (hR : fq B M) (a0 : rf_ld ls 0 = some (.ref 353)) (a1 : rf_ld ls 1 = some (zv v1)) (a2 : rf_ld ls 2 = some (zv v2)) (h : w_keep_53 v1 v2 M K) : gx (cx0 fz) (0, 0) 172 53 ls [] (M, S) (vq_v B S K) := by
  obtain ⟨Inv, ⟨m, hm⟩, hb⟩ := h
  induction m using Nat.strongRecOn generalizing ls M v1 v2 with
  | _ m ih =>
    refine W_keep_53b hS hR a0 a1 a2 (fun v1' v2' M' ls' hR' f0 f1 f2 ⟨m', q1, q2⟩ => ih m' q1 hR' f0 f1 f2 q2) (hb m v1 v2 M hm)
def w_keep_22b (v1 : Int) (v2 : Int) (M : rf_M) (b22 : Int → Int → rf_M → Prop) (K : rf_M → Prop) : Prop := inr v2 ∧ ((16 ≤ v2 → (w_keep_53 v1 0 M K)) ∧ (¬ (16 ≤ v2) → ((0 ≤ v2 ∧ v2 < 16) ∧ ((0 ≤ ((16 * v1) + v2) ∧ ((16 * v1) + v2) < 7680) ∧ (∀ M1 : rf_M, M1 = wl M 395 ((16 * v1) + v2).toNat (gl M 391 (v2).toNat) → (b22 v1 (v2 + 1) M1))))))
theorem W_keep_22b {fz : Bool} {S : gS} {B : rf_M} {M : rf_M} {ls : rf_L} {v1 : Int} {v2 : Int} {b22 : Int → Int → rf_M → Prop} {K : rf_M → Prop} (hS : rk fz S B.2.2) (hR : fq B M) (a0 : rf_ld ls 0 = some (.ref 353)) (a1 : rf_ld ls 1 = some (zv v1)) (a2 : rf_ld ls 2 = some (zv v2)) (hb22 : ∀ (v1 : Int) (v2 : Int) (M : rf_M) (ls : rf_L), fq B M → rf_ld ls 0 = some (.ref 353) → rf_ld ls 1 = some (zv v1) → rf_ld ls 2 = some (zv v2) → b22 v1 v2 M → gx (cx0 fz) (0, 0) 172 22 ls [] (M, S) (vq_v B S K)) (h : w_keep_22b v1 v2 M b22 K) : gx (cx0 fz) (0, 0) 172 22 ls [] (M, S) (vq_v B S K) := by
  unfold w_keep_22b at h
  refine g1 (n := 1) rfl rfl rfl (li_of a2) ?_
  refine n_bi rfl (by decide) ?_
  obtain ⟨i1, h⟩ := h
  refine n_ic rfl i1 ⟨by decide, by decide⟩ (fun c => ?_) (fun c => ?_)
  · replace h := h.1 c
    refine g1 (n := 1) rfl rfl rfl rfl ?_
    refine n_s1 (n := 1) rfl rfl rfl rfl (fun ls l1 ho => ?_)
    replace a0 := ho 0 _ (by decide) (fun q => by cases q.2) a0
    have l2 := ho 1 _ (by decide) (fun q => by cases q.2) a1
    exact W_keep_53 hS hR a0 l2 l1 h
  · replace h := h.2 c
    refine g1 (n := 1) rfl rfl rfl (la_of a0) ?_
    refine n_gr rfl hS.1 rfl (fun _ => rfl) hR (rk_395 hS).2 ?_
    refine n_bi rfl (by decide) ?_
    refine g1 (n := 1) rfl rfl rfl (li_of a1) ?_
    refine n_mul rfl ?_
    refine g1 (n := 1) rfl rfl rfl (li_of a2) ?_
    refine n_add rfl ?_
    refine g1 (n := 1) rfl rfl rfl (la_of a0) ?_
    refine n_gr rfl hS.1 rfl (fun _ => rfl) hR (rk_391 hS).2 ?_
    refine g1 (n := 1) rfl rfl rfl (li_of a2) ?_
    obtain ⟨q, h⟩ := h
    refine n_la rfl (rk_391 hS).1 (Nat.le_of_ble_eq_true rfl) q ?_
    obtain ⟨q, h⟩ := h
    refine n_ls (Nat.le_of_ble_eq_true rfl) rfl (rk_395 hS).1 (Nat.le_of_ble_eq_true rfl) q (fun M1 e r => ?_)
    replace h := h M1 e
    have r1 := hR.trans r
    refine n_ii rfl a2 (Nat.le_of_ble_eq_true rfl) (fun ls l3 ho => ?_)
    replace a0 := ho 0 _ (by decide) (fun q => by cases q.2) a0
    have l4 := ho 1 _ (by decide) (fun q => by cases q.2) a1
    refine g3 rfl rfl rfl ?_
    exact hb22 _ _ _ _ r1 a0 l4 l3 h
def w_keep_22 (v1 : Int) (v2 : Int) (M : rf_M) (K : rf_M → Prop) : Prop := ∃ Inv : Nat → Int → Int → rf_M → Prop, (∃ m, Inv m v1 v2 M) ∧ ∀ (m : Nat) (v1 : Int) (v2 : Int) (M : rf_M), Inv m v1 v2 M → w_keep_22b v1 v2 M (fun (v1' : Int) (v2' : Int) (M' : rf_M) => ∃ m', m' < m ∧ Inv m' v1' v2' M') K
theorem W_keep_22 {fz : Bool} {S : gS} {B : rf_M} {M : rf_M} {ls : rf_L} {v1 : Int} {v2 : Int} {K : rf_M → Prop} (hS : rk fz S B.2.2) (hR : fq B M) (a0 : rf_ld ls 0 = some (.ref 353)) (a1 : rf_ld ls 1 = some (zv v1)) (a2 : rf_ld ls 2 = some (zv v2)) (h : w_keep_22 v1 v2 M K) : gx (cx0 fz) (0, 0) 172 22 ls [] (M, S) (vq_v B S K) := by
  obtain ⟨Inv, ⟨m, hm⟩, hb⟩ := h
  induction m using Nat.strongRecOn generalizing ls M v1 v2 with
  | _ m ih =>
    refine W_keep_22b hS hR a0 a1 a2 (fun v1' v2' M' ls' hR' f0 f1 f2 ⟨m', q1, q2⟩ => ih m' q1 hR' f0 f1 f2 q2) (hb m v1 v2 M hm)
def w_keep (v1 : Int) (M : rf_M) (K : rf_M → Prop) : Prop := (0 ≤ v1 ∧ v1 < 480) ∧ (∀ M1 : rf_M, M1 = wi M 394 (v1).toNat (gi M 353 55) → ((0 ≤ v1 ∧ v1 < 480) ∧ (∀ M2 : rf_M, M2 = wi M1 397 (v1).toNat (gi M1 353 58) → (w_keep_22 v1 0 M2 K))))
theorem W_keep {fz : Bool} {S : gS} {B : rf_M} {M : rf_M} {ls : rf_L} {v1 : Int} {K : rf_M → Prop} (hS : rk fz S B.2.2) (hR : fq B M) (a0 : rf_ld ls 0 = some (.ref 353)) (a1 : rf_ld ls 1 = some (zv v1)) (h : w_keep v1 M K) : gx (cx0 fz) (0, 0) 172 0 ls [] (M, S) (vq_v B S K) := by
  unfold w_keep at h
  refine g1 (n := 1) rfl rfl rfl (la_of a0) ?_
  refine n_gr rfl hS.1 rfl (fun _ => rfl) hR (rk_394 hS).2 ?_
  refine g1 (n := 1) rfl rfl rfl (li_of a1) ?_
  refine g1 (n := 1) rfl rfl rfl (la_of a0) ?_
  refine n_gi rfl hS.1 rfl (fun _ => rfl) ?_
  obtain ⟨q, h⟩ := h
  refine n_is (Nat.le_of_ble_eq_true rfl) rfl (rk_394 hS).1 (Nat.le_of_ble_eq_true rfl) q (fun M1 e r => ?_)
  replace h := h M1 e
  have r1 := hR.trans r
  refine g1 (n := 1) rfl rfl rfl (la_of a0) ?_
  refine n_gr rfl hS.1 rfl (fun _ => rfl) r1 (rk_397 hS).2 ?_
  refine g1 (n := 1) rfl rfl rfl (li_of a1) ?_
  refine g1 (n := 1) rfl rfl rfl (la_of a0) ?_
  refine n_gi rfl hS.1 rfl (fun _ => rfl) ?_
  obtain ⟨q, h⟩ := h
  refine n_is (Nat.le_of_ble_eq_true rfl) rfl (rk_397 hS).1 (Nat.le_of_ble_eq_true rfl) q (fun M2 e r => ?_)
  replace h := h M2 e
  have r2 := r1.trans r
  refine g1 (n := 1) rfl rfl rfl rfl ?_
  refine n_s1 (n := 1) rfl rfl rfl rfl (fun ls l1 ho => ?_)
  replace a0 := ho 0 _ (by decide) (fun q => by cases q.2) a0
  have l2 := ho 1 _ (by decide) (fun q => by cases q.2) a1
  exact W_keep_22 hS r2 a0 l2 l1 h
def wm_keep (x0 : Int) (M : rf_M) (K : rf_M → Prop) : Prop := w_keep x0 M K
theorem W_keep_m {fz : Bool} {S : gS} {B : rf_M} {M : rf_M} {x0 : Int} {K : rf_M → Prop} (hS : rk fz S B.2.2) (hR : fq B M) (h : wm_keep x0 M K) : gx (cx0 fz) (0, 0) 172 0 (lv_args 0 [.ref 353, zv x0]) [] (M, S) (vq_v B S K) :=
  W_keep hS hR rfl rfl h
def w_step_346 (M : rf_M) (K : Int → rf_M → Prop) : Prop := K 0 M
theorem W_step_346 {fz : Bool} {S : gS} {B : rf_M} {M : rf_M} {ls : rf_L} {K : Int → rf_M → Prop} (hS : rk fz S B.2.2) (hR : fq B M) (h : w_step_346 M K) : gx (cx0 fz) (3, 67) 162 346 ls [] (M, S) (vq_i B S K) := by
  unfold w_step_346 at h
  refine g1 (n := 1) rfl rfl rfl rfl ?_
  exact gx_ret rfl rfl ⟨0, M, rfl, rfl, hR, h⟩
def w_step_198 (v1 : Int) (M : rf_M) (K : Int → rf_M → Prop) : Prop := wm_behind v1 M (fun (z1 : Int) (M1 : rf_M) => ∀ M2 : rf_M, M2 = wi M1 353 60 z1 → (w_step_346 M2 K))
theorem W_step_198 {fz : Bool} {S : gS} {B : rf_M} {M : rf_M} {ls : rf_L} {v1 : Int} {K : Int → rf_M → Prop} (hS : rk fz S B.2.2) (hR : fq B M) (a0 : rf_ld ls 0 = some (.ref 353)) (a1 : rf_ld ls 1 = some (zv v1)) (h : w_step_198 v1 M K) : gx (cx0 fz) (3, 67) 162 198 ls [] (M, S) (vq_i B S K) := by
  unfold w_step_198 at h
  refine g1 (n := 1) rfl rfl rfl (la_of a0) ?_
  refine g1 (n := 1) rfl rfl rfl (la_of a0) ?_
  refine g1 (n := 1) rfl rfl rfl (li_of a1) ?_
  refine m_iv (a := 353) (as := [zv v1]) (rest := [.ref 353]) rfl (by decide) hS.1 rfl rfl (Nat.le_of_ble_eq_true rfl) ⟨Nat.le_of_ble_eq_true rfl, Nat.le_of_ble_eq_true rfl, Nat.le_of_ble_eq_true rfl⟩ ?_
  refine gx_room (gx_mono (W_behind_m hS hR h) ?_) (Nat.le_of_ble_eq_true rfl) (Nat.le_of_ble_eq_true rfl)
  rintro _ _ ⟨z1, M1, rfl, rfl, r1, h⟩
  refine n_pi (Nat.le_of_ble_eq_true rfl) rfl hS.1 rfl (fun _ _ => rfl) (fun M2 e r => ?_)
  replace h := h M2 e
  have r2 := r1.trans r
  refine g3 rfl rfl rfl ?_
  exact W_step_346 hS r2  h
def w_step_51 (v1 : Int) (s0 : Int64) (M : rf_M) (K : Int → rf_M → Prop) : Prop := ((gi M 353 65) = 2 → (K 1 M)) ∧ (¬ (gi M 353 65) = 2 → (((gi M 353 65) = 1 → (wm_throwFrom v1 M (fun (z18 : Int) (M18 : rf_M) => K z18 M18))) ∧ (¬ (gi M 353 65) = 1 → ((0 ≤ v1 ∧ v1 < 480) ∧ (((gi M 360 (v1).toNat) = 0 → (((lg_cmp s0 (Int64.ofNat 0)).toInt = 0 → ((0 ≤ v1 ∧ v1 < 480) ∧ (wm_goIn v1 (gi M 366 (v1).toNat) M (fun (M1 : rf_M) => w_step_346 M1 K)))) ∧ (¬ ((lg_cmp s0 (Int64.ofNat 0)).toInt = 0) → ((0 ≤ v1 ∧ v1 < 480) ∧ (wm_goIn v1 (gi M 365 (v1).toNat) M (fun (M2 : rf_M) => w_step_346 M2 K)))))) ∧ ((gi M 360 (v1).toNat) = 2 → (((lg_cmp s0 (Int64.ofNat 0)).toInt = 0 → (wm_behind v1 M (fun (z3 : Int) (M3 : rf_M) => ∀ M4 : rf_M, M4 = wi M3 353 60 z3 → (w_step_346 M4 K)))) ∧ (¬ ((lg_cmp s0 (Int64.ofNat 0)).toInt = 0) → ((0 ≤ v1 ∧ v1 < 480) ∧ (wm_goIn v1 (gi M 365 (v1).toNat) M (fun (M5 : rf_M) => w_step_346 M5 K)))))) ∧ ((gi M 360 (v1).toNat) = 3 → (wm_retryFrom v1 M (fun (z6 : Int) (M6 : rf_M) => K z6 M6))) ∧ ((gi M 360 (v1).toNat) = 4 → (∀ M7 : rf_M, M7 = wl M 353 66 s0 → (wm_throwFrom v1 M7 (fun (z8 : Int) (M8 : rf_M) => K z8 M8)))) ∧ ((gi M 360 (v1).toNat) = 9 → ((0 ≤ v1 ∧ v1 < 480) ∧ ((0 ≤ (gi M 353 58) ∧ (gi M 353 58) < 400) ∧ (∀ M9 : rf_M, M9 = wi M 393 (gi M 353 58).toNat (gi M 364 (v1).toNat) → (∀ M10 : rf_M, M10 = wi M9 353 58 ((gi M9 353 58) + 1) → (wm_behind v1 M10 (fun (z11 : Int) (M11 : rf_M) => ∀ M12 : rf_M, M12 = wi M11 353 60 z11 → (w_step_346 M12 K)))))))) ∧ ((gi M 360 (v1).toNat) = 20 → ((0 ≤ v1 ∧ v1 < 480) ∧ (((gi M 367 (v1).toNat) < 16 → ((0 ≤ v1 ∧ v1 < 480) ∧ ((0 ≤ (gi M 367 (v1).toNat) ∧ (gi M 367 (v1).toNat) < 16) ∧ (∀ M13 : rf_M, M13 = wl M 391 (gi M 367 (v1).toNat).toNat s0 → ((0 ≤ v1 ∧ v1 < 480) ∧ (∀ M14 : rf_M, M14 = wi M13 353 55 (Int32.ofInt (gi M13 353 55) ||| Int32.ofInt (Int32.ofInt 1 <<< (Int32.ofInt (gi M13 367 (v1).toNat) &&& 31)).toInt).toInt → (w_step_198 v1 M14 K))))))) ∧ (¬ ((gi M 367 (v1).toNat) < 16) → ((0 ≤ v1 ∧ v1 < 480) ∧ ((0 ≤ ((gi M 367 (v1).toNat) - 16) ∧ ((gi M 367 (v1).toNat) - 16) < 10) ∧ (∀ M15 : rf_M, M15 = wl M 392 ((gi M 367 (v1).toNat) - 16).toNat s0 → (w_step_198 v1 M15 K)))))))) ∧ (¬ (gi M 360 (v1).toNat) = 0 ∧ ¬ (gi M 360 (v1).toNat) = 2 ∧ ¬ (gi M 360 (v1).toNat) = 3 ∧ ¬ (gi M 360 (v1).toNat) = 4 ∧ ¬ (gi M 360 (v1).toNat) = 9 ∧ ¬ (gi M 360 (v1).toNat) = 20 → (wm_keep v1 M (fun (M16 : rf_M) => (0 ≤ v1 ∧ v1 < 480) ∧ (wm_goIn v1 (gi M16 365 (v1).toNat) M16 (fun (M17 : rf_M) => w_step_346 M17 K))))))))))
theorem W_step_51 {fz : Bool} {S : gS} {B : rf_M} {M : rf_M} {ls : rf_L} {v1 : Int} {s0 : Int64} {K : Int → rf_M → Prop} (hS : rk fz S B.2.2) (hR : fq B M) (a0 : rf_ld ls 0 = some (.ref 353)) (a1 : rf_ld ls 1 = some (zv v1)) (h : w_step_51 v1 s0 M K) : gx (cx0 fz) (3, 67) 162 51 ls [.long s0] (M, S) (vq_i B S K) := by
  unfold w_step_51 at h
  refine n_s2 (n := 1) rfl rfl rfl rfl (fun ls l1 ho => ?_)
  replace a0 := ho 0 _ (by decide) (by decide) (fun q => by cases q.2) a0
  have l2 := ho 1 _ (by decide) (by decide) (fun q => by cases q.2) a1
  refine g1 (n := 1) rfl rfl rfl (la_of a0) ?_
  refine n_gi rfl hS.1 rfl (fun _ => rfl) ?_
  refine g1 (n := 1) rfl rfl rfl rfl ?_
  refine n_ic rfl (inr_gi _ _ _) ⟨by decide, by decide⟩ (fun c => ?_) (fun c => ?_)
  · replace h := h.2 c
    refine g1 (n := 1) rfl rfl rfl (la_of a0) ?_
    refine n_gi rfl hS.1 rfl (fun _ => rfl) ?_
    refine g1 (n := 1) rfl rfl rfl rfl ?_
    refine n_ic rfl (inr_gi _ _ _) ⟨by decide, by decide⟩ (fun c => ?_) (fun c => ?_)
    · replace h := h.2 c
      refine g1 (n := 1) rfl rfl rfl (la_of a0) ?_
      refine n_gr rfl hS.1 rfl (fun _ => rfl) hR (rk_360 hS).2 ?_
      refine g1 (n := 1) rfl rfl rfl (li_of l2) ?_
      obtain ⟨q, h⟩ := h
      refine n_ia rfl (rk_360 hS).1 (Nat.le_of_ble_eq_true rfl) q ?_
      have ia : inr (gi M 360 (v1).toNat) := inr_gi _ _ _
      obtain ⟨h1, h⟩ := h
      by_cases e0 : (gi M 360 (v1).toNat) = 0
      · replace h := h1 e0
        refine n_sw (pc' := 210) e0 rfl rfl rfl ?_
        refine g1 (n := 1) rfl rfl rfl (ll_of l1) ?_
        refine g1 (n := 1) rfl rfl rfl rfl ?_
        refine n_op (T := (lg_cmp s0 (Int64.ofNat 0))) rfl rfl rfl ?_
        refine n_if rfl (inr_ti _) (fun c => ?_) (fun c => ?_)
        · replace h := h.1 c
          refine g1 (n := 1) rfl rfl rfl (la_of a0) ?_
          refine g1 (n := 1) rfl rfl rfl (li_of l2) ?_
          refine g1 (n := 1) rfl rfl rfl (la_of a0) ?_
          refine n_gr rfl hS.1 rfl (fun _ => rfl) hR (rk_366 hS).2 ?_
          refine g1 (n := 1) rfl rfl rfl (li_of l2) ?_
          obtain ⟨q, h⟩ := h
          refine n_ia rfl (rk_366 hS).1 (Nat.le_of_ble_eq_true rfl) q ?_
          refine m_iv (a := 353) (as := [zv v1, zv (gi M 366 (v1).toNat)]) (rest := []) rfl (by decide) hS.1 rfl rfl (Nat.le_of_ble_eq_true rfl) ⟨Nat.le_of_ble_eq_true rfl, Nat.le_of_ble_eq_true rfl, Nat.le_of_ble_eq_true rfl⟩ ?_
          refine gx_room (gx_mono (W_goIn_m hS hR h) ?_) (Nat.le_of_ble_eq_true rfl) (Nat.le_of_ble_eq_true rfl)
          rintro _ _ ⟨M1, rfl, rfl, r1, h⟩
          refine g3 rfl rfl rfl ?_
          exact W_step_346 hS r1  h
        · replace h := h.2 c
          refine g1 (n := 1) rfl rfl rfl (la_of a0) ?_
          refine g1 (n := 1) rfl rfl rfl (li_of l2) ?_
          refine g1 (n := 1) rfl rfl rfl (la_of a0) ?_
          refine n_gr rfl hS.1 rfl (fun _ => rfl) hR (rk_365 hS).2 ?_
          refine g1 (n := 1) rfl rfl rfl (li_of l2) ?_
          obtain ⟨q, h⟩ := h
          refine n_ia rfl (rk_365 hS).1 (Nat.le_of_ble_eq_true rfl) q ?_
          refine m_iv (a := 353) (as := [zv v1, zv (gi M 365 (v1).toNat)]) (rest := []) rfl (by decide) hS.1 rfl rfl (Nat.le_of_ble_eq_true rfl) ⟨Nat.le_of_ble_eq_true rfl, Nat.le_of_ble_eq_true rfl, Nat.le_of_ble_eq_true rfl⟩ ?_
          refine gx_room (gx_mono (W_goIn_m hS hR h) ?_) (Nat.le_of_ble_eq_true rfl) (Nat.le_of_ble_eq_true rfl)
          rintro _ _ ⟨M2, rfl, rfl, r2, h⟩
          refine g3 rfl rfl rfl ?_
          exact W_step_346 hS r2  h
      obtain ⟨h1, h⟩ := h
      by_cases e2 : (gi M 360 (v1).toNat) = 2
      · replace h := h1 e2
        refine n_sw (pc' := 244) e2 rfl rfl rfl ?_
        refine g1 (n := 1) rfl rfl rfl (ll_of l1) ?_
        refine g1 (n := 1) rfl rfl rfl rfl ?_
        refine n_op (T := (lg_cmp s0 (Int64.ofNat 0))) rfl rfl rfl ?_
        refine n_if rfl (inr_ti _) (fun c => ?_) (fun c => ?_)
        · replace h := h.1 c
          refine g1 (n := 1) rfl rfl rfl (la_of a0) ?_
          refine g1 (n := 1) rfl rfl rfl (la_of a0) ?_
          refine g1 (n := 1) rfl rfl rfl (li_of l2) ?_
          refine m_iv (a := 353) (as := [zv v1]) (rest := [.ref 353]) rfl (by decide) hS.1 rfl rfl (Nat.le_of_ble_eq_true rfl) ⟨Nat.le_of_ble_eq_true rfl, Nat.le_of_ble_eq_true rfl, Nat.le_of_ble_eq_true rfl⟩ ?_
          refine gx_room (gx_mono (W_behind_m hS hR h) ?_) (Nat.le_of_ble_eq_true rfl) (Nat.le_of_ble_eq_true rfl)
          rintro _ _ ⟨z3, M3, rfl, rfl, r3, h⟩
          refine n_pi (Nat.le_of_ble_eq_true rfl) rfl hS.1 rfl (fun _ _ => rfl) (fun M4 e r => ?_)
          replace h := h M4 e
          have r4 := r3.trans r
          refine g3 rfl rfl rfl ?_
          exact W_step_346 hS r4  h
        · replace h := h.2 c
          refine g1 (n := 1) rfl rfl rfl (la_of a0) ?_
          refine g1 (n := 1) rfl rfl rfl (li_of l2) ?_
          refine g1 (n := 1) rfl rfl rfl (la_of a0) ?_
          refine n_gr rfl hS.1 rfl (fun _ => rfl) hR (rk_365 hS).2 ?_
          refine g1 (n := 1) rfl rfl rfl (li_of l2) ?_
          obtain ⟨q, h⟩ := h
          refine n_ia rfl (rk_365 hS).1 (Nat.le_of_ble_eq_true rfl) q ?_
          refine m_iv (a := 353) (as := [zv v1, zv (gi M 365 (v1).toNat)]) (rest := []) rfl (by decide) hS.1 rfl rfl (Nat.le_of_ble_eq_true rfl) ⟨Nat.le_of_ble_eq_true rfl, Nat.le_of_ble_eq_true rfl, Nat.le_of_ble_eq_true rfl⟩ ?_
          refine gx_room (gx_mono (W_goIn_m hS hR h) ?_) (Nat.le_of_ble_eq_true rfl) (Nat.le_of_ble_eq_true rfl)
          rintro _ _ ⟨M5, rfl, rfl, r5, h⟩
          refine g3 rfl rfl rfl ?_
          exact W_step_346 hS r5  h
      obtain ⟨h1, h⟩ := h
      by_cases e3 : (gi M 360 (v1).toNat) = 3
      · replace h := h1 e3
        refine n_sw (pc' := 287) e3 rfl rfl rfl ?_
        refine g1 (n := 1) rfl rfl rfl (la_of a0) ?_
        refine g1 (n := 1) rfl rfl rfl (li_of l2) ?_
        refine m_iv (a := 353) (as := [zv v1]) (rest := []) rfl (by decide) hS.1 rfl rfl (Nat.le_of_ble_eq_true rfl) ⟨Nat.le_of_ble_eq_true rfl, Nat.le_of_ble_eq_true rfl, Nat.le_of_ble_eq_true rfl⟩ ?_
        refine gx_room (gx_mono (W_retryFrom_m hS hR h) ?_) (Nat.le_of_ble_eq_true rfl) (Nat.le_of_ble_eq_true rfl)
        rintro _ _ ⟨z6, M6, rfl, rfl, r6, h⟩
        exact gx_ret rfl rfl ⟨z6, M6, rfl, rfl, r6, h⟩
      obtain ⟨h1, h⟩ := h
      by_cases e4 : (gi M 360 (v1).toNat) = 4
      · replace h := h1 e4
        refine n_sw (pc' := 276) e4 rfl rfl rfl ?_
        refine g1 (n := 1) rfl rfl rfl (la_of a0) ?_
        refine g1 (n := 1) rfl rfl rfl (ll_of l1) ?_
        refine n_pl (Nat.le_of_ble_eq_true rfl) rfl hS.1 rfl (fun _ _ => rfl) (fun M7 e r => ?_)
        replace h := h M7 e
        have r7 := hR.trans r
        refine g1 (n := 1) rfl rfl rfl (la_of a0) ?_
        refine g1 (n := 1) rfl rfl rfl (li_of l2) ?_
        refine m_iv (a := 353) (as := [zv v1]) (rest := []) rfl (by decide) hS.1 rfl rfl (Nat.le_of_ble_eq_true rfl) ⟨Nat.le_of_ble_eq_true rfl, Nat.le_of_ble_eq_true rfl, Nat.le_of_ble_eq_true rfl⟩ ?_
        refine gx_room (gx_mono (W_throwFrom_m hS r7 h) ?_) (Nat.le_of_ble_eq_true rfl) (Nat.le_of_ble_eq_true rfl)
        rintro _ _ ⟨z8, M8, rfl, rfl, r8, h⟩
        exact gx_ret rfl rfl ⟨z8, M8, rfl, rfl, r8, h⟩
      obtain ⟨h1, h⟩ := h
      by_cases e9 : (gi M 360 (v1).toNat) = 9
      · replace h := h1 e9
        refine n_sw (pc' := 293) e9 rfl rfl rfl ?_
        refine g1 (n := 1) rfl rfl rfl (la_of a0) ?_
        refine n_gr rfl hS.1 rfl (fun _ => rfl) hR (rk_393 hS).2 ?_
        refine g1 (n := 1) rfl rfl rfl (la_of a0) ?_
        refine n_gi rfl hS.1 rfl (fun _ => rfl) ?_
        refine g1 (n := 1) rfl rfl rfl (la_of a0) ?_
        refine n_gr rfl hS.1 rfl (fun _ => rfl) hR (rk_364 hS).2 ?_
        refine g1 (n := 1) rfl rfl rfl (li_of l2) ?_
        obtain ⟨q, h⟩ := h
        refine n_ia rfl (rk_364 hS).1 (Nat.le_of_ble_eq_true rfl) q ?_
        obtain ⟨q, h⟩ := h
        refine n_is (Nat.le_of_ble_eq_true rfl) rfl (rk_393 hS).1 (Nat.le_of_ble_eq_true rfl) q (fun M9 e r => ?_)
        replace h := h M9 e
        have r9 := hR.trans r
        refine g1 (n := 1) rfl rfl rfl (la_of a0) ?_
        refine g0 rfl rfl rfl ?_
        refine n_gi rfl hS.1 rfl (fun _ => rfl) ?_
        refine g1 (n := 1) rfl rfl rfl rfl ?_
        refine n_add rfl ?_
        refine n_pi (Nat.le_of_ble_eq_true rfl) rfl hS.1 rfl (fun _ _ => rfl) (fun M10 e r => ?_)
        replace h := h M10 e
        have r10 := r9.trans r
        refine g1 (n := 1) rfl rfl rfl (la_of a0) ?_
        refine g1 (n := 1) rfl rfl rfl (la_of a0) ?_
        refine g1 (n := 1) rfl rfl rfl (li_of l2) ?_
        refine m_iv (a := 353) (as := [zv v1]) (rest := [.ref 353]) rfl (by decide) hS.1 rfl rfl (Nat.le_of_ble_eq_true rfl) ⟨Nat.le_of_ble_eq_true rfl, Nat.le_of_ble_eq_true rfl, Nat.le_of_ble_eq_true rfl⟩ ?_
        refine gx_room (gx_mono (W_behind_m hS r10 h) ?_) (Nat.le_of_ble_eq_true rfl) (Nat.le_of_ble_eq_true rfl)
        rintro _ _ ⟨z11, M11, rfl, rfl, r11, h⟩
        refine n_pi (Nat.le_of_ble_eq_true rfl) rfl hS.1 rfl (fun _ _ => rfl) (fun M12 e r => ?_)
        replace h := h M12 e
        have r12 := r11.trans r
        refine g3 rfl rfl rfl ?_
        exact W_step_346 hS r12  h
      obtain ⟨h1, h⟩ := h
      by_cases e20 : (gi M 360 (v1).toNat) = 20
      · replace h := h1 e20
        refine n_sw (pc' := 140) e20 rfl rfl rfl ?_
        refine g1 (n := 1) rfl rfl rfl (la_of a0) ?_
        refine n_gr rfl hS.1 rfl (fun _ => rfl) hR (rk_367 hS).2 ?_
        refine g1 (n := 1) rfl rfl rfl (li_of l2) ?_
        obtain ⟨q, h⟩ := h
        refine n_ia rfl (rk_367 hS).1 (Nat.le_of_ble_eq_true rfl) q ?_
        refine n_bi rfl (by decide) ?_
        refine n_ic rfl (inr_gi _ _ _) ⟨by decide, by decide⟩ (fun c => ?_) (fun c => ?_)
        · replace h := h.1 c
          refine g1 (n := 1) rfl rfl rfl (la_of a0) ?_
          refine n_gr rfl hS.1 rfl (fun _ => rfl) hR (rk_391 hS).2 ?_
          refine g1 (n := 1) rfl rfl rfl (la_of a0) ?_
          refine n_gr rfl hS.1 rfl (fun _ => rfl) hR (rk_367 hS).2 ?_
          refine g1 (n := 1) rfl rfl rfl (li_of l2) ?_
          obtain ⟨q, h⟩ := h
          refine n_ia rfl (rk_367 hS).1 (Nat.le_of_ble_eq_true rfl) q ?_
          refine g1 (n := 1) rfl rfl rfl (ll_of l1) ?_
          obtain ⟨q, h⟩ := h
          refine n_ls (Nat.le_of_ble_eq_true rfl) rfl (rk_391 hS).1 (Nat.le_of_ble_eq_true rfl) q (fun M13 e r => ?_)
          replace h := h M13 e
          have r13 := hR.trans r
          refine g1 (n := 1) rfl rfl rfl (la_of a0) ?_
          refine g1 (n := 1) rfl rfl rfl (la_of a0) ?_
          refine n_gi rfl hS.1 rfl (fun _ => rfl) ?_
          refine g1 (n := 1) rfl rfl rfl rfl ?_
          refine g1 (n := 1) rfl rfl rfl (la_of a0) ?_
          refine n_gr rfl hS.1 rfl (fun _ => rfl) r13 (rk_367 hS).2 ?_
          refine g1 (n := 1) rfl rfl rfl (li_of l2) ?_
          obtain ⟨q, h⟩ := h
          refine n_ia rfl (rk_367 hS).1 (Nat.le_of_ble_eq_true rfl) q ?_
          refine n_op (T := (Int32.ofInt 1 <<< (Int32.ofInt (gi M13 367 (v1).toNat) &&& 31))) rfl rfl rfl ?_
          refine n_op (T := (Int32.ofInt (gi M13 353 55) ||| Int32.ofInt (Int32.ofInt 1 <<< (Int32.ofInt (gi M13 367 (v1).toNat) &&& 31)).toInt)) rfl rfl rfl ?_
          refine n_pi (Nat.le_of_ble_eq_true rfl) rfl hS.1 rfl (fun _ _ => rfl) (fun M14 e r => ?_)
          replace h := h M14 e
          have r14 := r13.trans r
          exact W_step_198 hS r14 a0 l2 h
        · replace h := h.2 c
          refine g1 (n := 1) rfl rfl rfl (la_of a0) ?_
          refine n_gr rfl hS.1 rfl (fun _ => rfl) hR (rk_392 hS).2 ?_
          refine g1 (n := 1) rfl rfl rfl (la_of a0) ?_
          refine n_gr rfl hS.1 rfl (fun _ => rfl) hR (rk_367 hS).2 ?_
          refine g1 (n := 1) rfl rfl rfl (li_of l2) ?_
          obtain ⟨q, h⟩ := h
          refine n_ia rfl (rk_367 hS).1 (Nat.le_of_ble_eq_true rfl) q ?_
          refine n_bi rfl (by decide) ?_
          refine n_sub rfl ?_
          refine g1 (n := 1) rfl rfl rfl (ll_of l1) ?_
          obtain ⟨q, h⟩ := h
          refine n_ls (Nat.le_of_ble_eq_true rfl) rfl (rk_392 hS).1 (Nat.le_of_ble_eq_true rfl) q (fun M15 e r => ?_)
          replace h := h M15 e
          have r15 := hR.trans r
          refine g3 rfl rfl rfl ?_
          exact W_step_198 hS r15 a0 l2 h
      replace h := h ⟨e0, e2, e3, e4, e9, e20⟩
      refine n_swl (t := 330) rfl ia (by simp only [List.tail_cons, rf_sw, if_neg (Ne.symm e0), if_neg (Ne.symm e2), if_neg (Ne.symm e3), if_neg (Ne.symm e4), if_neg (Ne.symm e9), if_neg (Ne.symm e20)]; rfl) ?_
      refine g1 (n := 1) rfl rfl rfl (la_of a0) ?_
      refine g1 (n := 1) rfl rfl rfl (li_of l2) ?_
      refine m_iv (a := 353) (as := [zv v1]) (rest := []) rfl (by decide) hS.1 rfl rfl (Nat.le_of_ble_eq_true rfl) ⟨Nat.le_of_ble_eq_true rfl, Nat.le_of_ble_eq_true rfl, Nat.le_of_ble_eq_true rfl⟩ ?_
      refine gx_room (gx_mono (W_keep_m hS hR h) ?_) (Nat.le_of_ble_eq_true rfl) (Nat.le_of_ble_eq_true rfl)
      rintro _ _ ⟨M16, rfl, rfl, r16, h⟩
      refine g1 (n := 1) rfl rfl rfl (la_of a0) ?_
      refine g1 (n := 1) rfl rfl rfl (li_of l2) ?_
      refine g1 (n := 1) rfl rfl rfl (la_of a0) ?_
      refine n_gr rfl hS.1 rfl (fun _ => rfl) r16 (rk_365 hS).2 ?_
      refine g1 (n := 1) rfl rfl rfl (li_of l2) ?_
      obtain ⟨q, h⟩ := h
      refine n_ia rfl (rk_365 hS).1 (Nat.le_of_ble_eq_true rfl) q ?_
      refine m_iv (a := 353) (as := [zv v1, zv (gi M16 365 (v1).toNat)]) (rest := []) rfl (by decide) hS.1 rfl rfl (Nat.le_of_ble_eq_true rfl) ⟨Nat.le_of_ble_eq_true rfl, Nat.le_of_ble_eq_true rfl, Nat.le_of_ble_eq_true rfl⟩ ?_
      refine gx_room (gx_mono (W_goIn_m hS r16 h) ?_) (Nat.le_of_ble_eq_true rfl) (Nat.le_of_ble_eq_true rfl)
      rintro _ _ ⟨M17, rfl, rfl, r17, h⟩
      exact W_step_346 hS r17  h
    · replace h := h.1 (Classical.not_not.mp c)
      refine g1 (n := 1) rfl rfl rfl (la_of a0) ?_
      refine g1 (n := 1) rfl rfl rfl (li_of l2) ?_
      refine m_iv (a := 353) (as := [zv v1]) (rest := []) rfl (by decide) hS.1 rfl rfl (Nat.le_of_ble_eq_true rfl) ⟨Nat.le_of_ble_eq_true rfl, Nat.le_of_ble_eq_true rfl, Nat.le_of_ble_eq_true rfl⟩ ?_
      refine gx_room (gx_mono (W_throwFrom_m hS hR h) ?_) (Nat.le_of_ble_eq_true rfl) (Nat.le_of_ble_eq_true rfl)
      rintro _ _ ⟨z18, M18, rfl, rfl, r18, h⟩
      exact gx_ret rfl rfl ⟨z18, M18, rfl, rfl, r18, h⟩
  · replace h := h.1 (Classical.not_not.mp c)
    refine g1 (n := 1) rfl rfl rfl rfl ?_
    exact gx_ret rfl rfl ⟨1, M, rfl, rfl, hR, h⟩
def w_step_50 (v1 : Int) (M : rf_M) (K : Int → rf_M → Prop) : Prop := w_step_51 v1 (Int64.ofNat 0) M K
theorem W_step_50 {fz : Bool} {S : gS} {B : rf_M} {M : rf_M} {ls : rf_L} {v1 : Int} {K : Int → rf_M → Prop} (hS : rk fz S B.2.2) (hR : fq B M) (a0 : rf_ld ls 0 = some (.ref 353)) (a1 : rf_ld ls 1 = some (zv v1)) (h : w_step_50 v1 M K) : gx (cx0 fz) (3, 67) 162 50 ls [] (M, S) (vq_i B S K) := by
  unfold w_step_50 at h
  refine g1 (n := 1) rfl rfl rfl rfl ?_
  exact W_step_51 hS hR a0 a1 h
def w_step (M : rf_M) (K : Int → rf_M → Prop) : Prop := (0 ≤ (gi M 353 60) → (∀ M1 : rf_M, M1 = wi M 353 65 0 → ((0 ≤ (gi M 353 60) ∧ (gi M 353 60) < 480) ∧ (((gi M1 364 (gi M 353 60).toNat) < 0 → (w_step_50 (gi M 353 60) M1 K)) ∧ (¬ ((gi M1 364 (gi M 353 60).toNat) < 0) → ((0 ≤ (gi M 353 60) ∧ (gi M 353 60) < 480) ∧ (((gi M1 360 (gi M 353 60).toNat) = 9 → (w_step_50 (gi M 353 60) M1 K)) ∧ (¬ ((gi M1 360 (gi M 353 60).toNat) = 9) → ((0 ≤ (gi M 353 60) ∧ (gi M 353 60) < 480) ∧ (wm_work (gi M1 364 (gi M 353 60).toNat) 0 M1 (fun (z2 : Int64) (M2 : rf_M) => w_step_51 (gi M 353 60) z2 M2 K))))))))))) ∧ (¬ (0 ≤ (gi M 353 60)) → (K 4 M))
theorem W_step {fz : Bool} {S : gS} {B : rf_M} {M : rf_M} {ls : rf_L} {K : Int → rf_M → Prop} (hS : rk fz S B.2.2) (hR : fq B M) (a0 : rf_ld ls 0 = some (.ref 353)) (h : w_step M K) : gx (cx0 fz) (3, 67) 162 0 ls [] (M, S) (vq_i B S K) := by
  unfold w_step at h
  refine g1 (n := 1) rfl rfl rfl (la_of a0) ?_
  refine n_gi rfl hS.1 rfl (fun _ => rfl) ?_
  refine n_s1 (n := 1) rfl rfl rfl rfl (fun ls l1 ho => ?_)
  replace a0 := ho 0 _ (by decide) (fun q => by cases q.2) a0
  refine g1 (n := 1) rfl rfl rfl (li_of l1) ?_
  refine n_if rfl (inr_gi _ _ _) (fun c => ?_) (fun c => ?_)
  · replace h := h.1 c
    refine g1 (n := 1) rfl rfl rfl (la_of a0) ?_
    refine g1 (n := 1) rfl rfl rfl rfl ?_
    refine n_pi (Nat.le_of_ble_eq_true rfl) rfl hS.1 rfl (fun _ _ => rfl) (fun M1 e r => ?_)
    replace h := h M1 e
    have r1 := hR.trans r
    refine g1 (n := 1) rfl rfl rfl (la_of a0) ?_
    refine n_gr rfl hS.1 rfl (fun _ => rfl) r1 (rk_364 hS).2 ?_
    refine g1 (n := 1) rfl rfl rfl (li_of l1) ?_
    obtain ⟨q, h⟩ := h
    refine n_ia rfl (rk_364 hS).1 (Nat.le_of_ble_eq_true rfl) q ?_
    refine n_if rfl (inr_gi _ _ _) (fun c => ?_) (fun c => ?_)
    · replace h := h.1 c
      exact W_step_50 hS r1 a0 l1 h
    · replace h := h.2 c
      refine g1 (n := 1) rfl rfl rfl (la_of a0) ?_
      refine n_gr rfl hS.1 rfl (fun _ => rfl) r1 (rk_360 hS).2 ?_
      refine g1 (n := 1) rfl rfl rfl (li_of l1) ?_
      obtain ⟨q, h⟩ := h
      refine n_ia rfl (rk_360 hS).1 (Nat.le_of_ble_eq_true rfl) q ?_
      refine n_bi rfl (by decide) ?_
      refine n_ic rfl (inr_gi _ _ _) ⟨by decide, by decide⟩ (fun c => ?_) (fun c => ?_)
      · replace h := h.1 c
        exact W_step_50 hS r1 a0 l1 h
      · replace h := h.2 c
        refine g1 (n := 1) rfl rfl rfl (la_of a0) ?_
        refine g1 (n := 1) rfl rfl rfl (la_of a0) ?_
        refine n_gr rfl hS.1 rfl (fun _ => rfl) r1 (rk_364 hS).2 ?_
        refine g1 (n := 1) rfl rfl rfl (li_of l1) ?_
        obtain ⟨q, h⟩ := h
        refine n_ia rfl (rk_364 hS).1 (Nat.le_of_ble_eq_true rfl) q ?_
        refine g1 (n := 1) rfl rfl rfl rfl ?_
        refine m_iv (a := 353) (as := [zv (gi M1 364 (gi M 353 60).toNat), zv 0]) (rest := []) rfl (by decide) hS.1 rfl rfl (Nat.le_of_ble_eq_true rfl) ⟨Nat.le_of_ble_eq_true rfl, Nat.le_of_ble_eq_true rfl, Nat.le_of_ble_eq_true rfl⟩ ?_
        refine gx_room (gx_mono (W_work_m hS r1 h) ?_) (Nat.le_of_ble_eq_true rfl) (Nat.le_of_ble_eq_true rfl)
        rintro _ _ ⟨z2, M2, rfl, rfl, r2, h⟩
        refine g3 rfl rfl rfl ?_
        exact W_step_51 hS r2 a0 l1 h
  · replace h := h.2 c
    refine g1 (n := 1) rfl rfl rfl rfl ?_
    exact gx_ret rfl rfl ⟨4, M, rfl, rfl, hR, h⟩
def wm_step (M : rf_M) (K : Int → rf_M → Prop) : Prop := w_step  M K
theorem W_step_m {fz : Bool} {S : gS} {B : rf_M} {M : rf_M} {K : Int → rf_M → Prop} (hS : rk fz S B.2.2) (hR : fq B M) (h : wm_step  M K) : gx (cx0 fz) (3, 67) 162 0 (lv_args 0 [.ref 353]) [] (M, S) (vq_i B S K) :=
  W_step hS hR rfl h
def w_walkAnew_21b (v1 : Int) (v2 : Int) (M : rf_M) (b21 : Int → Int → rf_M → Prop) (K : rf_M → Prop) : Prop := (0 ≤ v1 ∧ v1 < 8) ∧ (inr v2 ∧ (((gi M 383 (v1).toNat) ≤ v2 → (K M)) ∧ (¬ ((gi M 383 (v1).toNat) ≤ v2) → (wm_step  M (fun (z1 : Int) (M1 : rf_M) => b21 v1 (v2 + 1) M1)))))
theorem W_walkAnew_21b {fz : Bool} {S : gS} {B : rf_M} {M : rf_M} {ls : rf_L} {v1 : Int} {v2 : Int} {b21 : Int → Int → rf_M → Prop} {K : rf_M → Prop} (hS : rk fz S B.2.2) (hR : fq B M) (a0 : rf_ld ls 0 = some (.ref 353)) (a1 : rf_ld ls 1 = some (zv v1)) (a2 : rf_ld ls 2 = some (zv v2)) (hb21 : ∀ (v1 : Int) (v2 : Int) (M : rf_M) (ls : rf_L), fq B M → rf_ld ls 0 = some (.ref 353) → rf_ld ls 1 = some (zv v1) → rf_ld ls 2 = some (zv v2) → b21 v1 v2 M → gx (cx0 fz) (4, 90) 159 21 ls [] (M, S) (vq_v B S K)) (h : w_walkAnew_21b v1 v2 M b21 K) : gx (cx0 fz) (4, 90) 159 21 ls [] (M, S) (vq_v B S K) := by
  unfold w_walkAnew_21b at h
  refine g1 (n := 1) rfl rfl rfl (li_of a2) ?_
  refine g1 (n := 1) rfl rfl rfl (la_of a0) ?_
  refine n_gr rfl hS.1 rfl (fun _ => rfl) hR (rk_383 hS).2 ?_
  refine g1 (n := 1) rfl rfl rfl (li_of a1) ?_
  obtain ⟨q, h⟩ := h
  refine n_ia rfl (rk_383 hS).1 (Nat.le_of_ble_eq_true rfl) q ?_
  obtain ⟨i1, h⟩ := h
  refine n_ic rfl i1 (inr_gi _ _ _) (fun c => ?_) (fun c => ?_)
  · replace h := h.1 c
    exact gx_ret rfl rfl ⟨M, rfl, rfl, hR, h⟩
  · replace h := h.2 c
    refine g1 (n := 1) rfl rfl rfl (la_of a0) ?_
    refine m_iv (a := 353) (as := []) (rest := []) rfl (by decide) hS.1 rfl rfl (Nat.le_of_ble_eq_true rfl) ⟨Nat.le_of_ble_eq_true rfl, Nat.le_of_ble_eq_true rfl, Nat.le_of_ble_eq_true rfl⟩ ?_
    refine gx_room (gx_mono (W_step_m hS hR h) ?_) (Nat.le_of_ble_eq_true rfl) (Nat.le_of_ble_eq_true rfl)
    rintro _ _ ⟨z1, M1, rfl, rfl, r1, h⟩
    refine n_s1 (n := 1) rfl rfl rfl rfl (fun ls l1 ho => ?_)
    replace a0 := ho 0 _ (by decide) (fun q => by cases q.2) a0
    have l2 := ho 1 _ (by decide) (fun q => by cases q.2) a1
    have l3 := ho 2 _ (by decide) (fun q => by cases q.2) a2
    refine n_ii rfl l3 (Nat.le_of_ble_eq_true rfl) (fun ls l4 ho => ?_)
    replace a0 := ho 0 _ (by decide) (fun q => by cases q.2) a0
    have l5 := ho 1 _ (by decide) (fun q => by cases q.2) l2
    refine g3 rfl rfl rfl ?_
    exact hb21 _ _ _ _ r1 a0 l5 l4 h
def w_walkAnew_21 (v1 : Int) (v2 : Int) (M : rf_M) (K : rf_M → Prop) : Prop := ∃ Inv : Nat → Int → Int → rf_M → Prop, (∃ m, Inv m v1 v2 M) ∧ ∀ (m : Nat) (v1 : Int) (v2 : Int) (M : rf_M), Inv m v1 v2 M → w_walkAnew_21b v1 v2 M (fun (v1' : Int) (v2' : Int) (M' : rf_M) => ∃ m', m' < m ∧ Inv m' v1' v2' M') K
theorem W_walkAnew_21 {fz : Bool} {S : gS} {B : rf_M} {M : rf_M} {ls : rf_L} {v1 : Int} {v2 : Int} {K : rf_M → Prop} (hS : rk fz S B.2.2) (hR : fq B M) (a0 : rf_ld ls 0 = some (.ref 353)) (a1 : rf_ld ls 1 = some (zv v1)) (a2 : rf_ld ls 2 = some (zv v2)) (h : w_walkAnew_21 v1 v2 M K) : gx (cx0 fz) (4, 90) 159 21 ls [] (M, S) (vq_v B S K) := by
  obtain ⟨Inv, ⟨m, hm⟩, hb⟩ := h
  induction m using Nat.strongRecOn generalizing ls M v1 v2 with
  | _ m ih =>
    refine W_walkAnew_21b hS hR a0 a1 a2 (fun v1' v2' M' ls' hR' f0 f1 f2 ⟨m', q1, q2⟩ => ih m' q1 hR' f0 f1 f2 q2) (hb m v1 v2 M hm)
def w_walkAnew (v1 : Int) (M : rf_M) (K : rf_M → Prop) : Prop := ∀ M1 : rf_M, M1 = wi M 353 42 0 → (wm_bringRead v1 M1 (fun (M2 : rf_M) => wm_firstOf v1 M2 (fun (z3 : Int) (M3 : rf_M) => wm_beginWalk z3 M3 (fun (M4 : rf_M) => w_walkAnew_21 v1 0 M4 K))))
theorem W_walkAnew {fz : Bool} {S : gS} {B : rf_M} {M : rf_M} {ls : rf_L} {v1 : Int} {K : rf_M → Prop} (hS : rk fz S B.2.2) (hR : fq B M) (a0 : rf_ld ls 0 = some (.ref 353)) (a1 : rf_ld ls 1 = some (zv v1)) (h : w_walkAnew v1 M K) : gx (cx0 fz) (4, 90) 159 0 ls [] (M, S) (vq_v B S K) := by
  unfold w_walkAnew at h
  refine g1 (n := 1) rfl rfl rfl (la_of a0) ?_
  refine g1 (n := 1) rfl rfl rfl rfl ?_
  refine n_pi (Nat.le_of_ble_eq_true rfl) rfl hS.1 rfl (fun _ _ => rfl) (fun M1 e r => ?_)
  replace h := h M1 e
  have r1 := hR.trans r
  refine g1 (n := 1) rfl rfl rfl (la_of a0) ?_
  refine g1 (n := 1) rfl rfl rfl (li_of a1) ?_
  refine m_iv (a := 353) (as := [zv v1]) (rest := []) rfl (by decide) hS.1 rfl rfl (Nat.le_of_ble_eq_true rfl) ⟨Nat.le_of_ble_eq_true rfl, Nat.le_of_ble_eq_true rfl, Nat.le_of_ble_eq_true rfl⟩ ?_
  refine gx_room (gx_mono (W_bringRead_m hS r1 h) ?_) (Nat.le_of_ble_eq_true rfl) (Nat.le_of_ble_eq_true rfl)
  rintro _ _ ⟨M2, rfl, rfl, r2, h⟩
  refine g1 (n := 1) rfl rfl rfl (la_of a0) ?_
  refine g1 (n := 1) rfl rfl rfl (la_of a0) ?_
  refine g1 (n := 1) rfl rfl rfl (li_of a1) ?_
  refine m_iv (a := 353) (as := [zv v1]) (rest := [.ref 353]) rfl (by decide) hS.1 rfl rfl (Nat.le_of_ble_eq_true rfl) ⟨Nat.le_of_ble_eq_true rfl, Nat.le_of_ble_eq_true rfl, Nat.le_of_ble_eq_true rfl⟩ ?_
  refine gx_room (gx_mono (W_firstOf_m hS r2 h) ?_) (Nat.le_of_ble_eq_true rfl) (Nat.le_of_ble_eq_true rfl)
  rintro _ _ ⟨z3, M3, rfl, rfl, r3, h⟩
  refine m_iv (a := 353) (as := [zv z3]) (rest := []) rfl (by decide) hS.1 rfl rfl (Nat.le_of_ble_eq_true rfl) ⟨Nat.le_of_ble_eq_true rfl, Nat.le_of_ble_eq_true rfl, Nat.le_of_ble_eq_true rfl⟩ ?_
  refine gx_room (gx_mono (W_beginWalk_m hS r3 h) ?_) (Nat.le_of_ble_eq_true rfl) (Nat.le_of_ble_eq_true rfl)
  rintro _ _ ⟨M4, rfl, rfl, r4, h⟩
  refine g1 (n := 1) rfl rfl rfl rfl ?_
  refine n_s1 (n := 1) rfl rfl rfl rfl (fun ls l1 ho => ?_)
  replace a0 := ho 0 _ (by decide) (fun q => by cases q.2) a0
  have l2 := ho 1 _ (by decide) (fun q => by cases q.2) a1
  exact W_walkAnew_21 hS r4 a0 l2 l1 h
def wm_walkAnew (x0 : Int) (M : rf_M) (K : rf_M → Prop) : Prop := w_walkAnew x0 M K
theorem W_walkAnew_m {fz : Bool} {S : gS} {B : rf_M} {M : rf_M} {x0 : Int} {K : rf_M → Prop} (hS : rk fz S B.2.2) (hR : fq B M) (h : wm_walkAnew x0 M K) : gx (cx0 fz) (4, 90) 159 0 (lv_args 0 [.ref 353, zv x0]) [] (M, S) (vq_v B S K) :=
  W_walkAnew hS hR rfl rfl h
def w_keepRead_12b (v1 : Int) (v2 : Int) (M : rf_M) (b12 : Int → Int → rf_M → Prop) (K : rf_M → Prop) : Prop := inr v2 ∧ ((16 ≤ v2 → (K M)) ∧ (¬ (16 ≤ v2) → ((0 ≤ v2 ∧ v2 < 16) ∧ ((0 ≤ ((16 * v1) + v2) ∧ ((16 * v1) + v2) < 128) ∧ (∀ M1 : rf_M, M1 = wl M 387 ((16 * v1) + v2).toNat (gl M 389 (v2).toNat) → ((0 ≤ v2 ∧ v2 < 16) ∧ ((0 ≤ ((16 * v1) + v2) ∧ ((16 * v1) + v2) < 128) ∧ (∀ M2 : rf_M, M2 = wi M1 388 ((16 * v1) + v2).toNat (gi M1 390 (v2).toNat) → (b12 v1 (v2 + 1) M2)))))))))
theorem W_keepRead_12b {fz : Bool} {S : gS} {B : rf_M} {M : rf_M} {ls : rf_L} {v1 : Int} {v2 : Int} {b12 : Int → Int → rf_M → Prop} {K : rf_M → Prop} (hS : rk fz S B.2.2) (hR : fq B M) (a0 : rf_ld ls 0 = some (.ref 353)) (a1 : rf_ld ls 1 = some (zv v1)) (a2 : rf_ld ls 2 = some (zv v2)) (hb12 : ∀ (v1 : Int) (v2 : Int) (M : rf_M) (ls : rf_L), fq B M → rf_ld ls 0 = some (.ref 353) → rf_ld ls 1 = some (zv v1) → rf_ld ls 2 = some (zv v2) → b12 v1 v2 M → gx (cx0 fz) (0, 0) 173 12 ls [] (M, S) (vq_v B S K)) (h : w_keepRead_12b v1 v2 M b12 K) : gx (cx0 fz) (0, 0) 173 12 ls [] (M, S) (vq_v B S K) := by
  unfold w_keepRead_12b at h
  refine g1 (n := 1) rfl rfl rfl (li_of a2) ?_
  refine n_bi rfl (by decide) ?_
  obtain ⟨i1, h⟩ := h
  refine n_ic rfl i1 ⟨by decide, by decide⟩ (fun c => ?_) (fun c => ?_)
  · replace h := h.1 c
    exact gx_ret rfl rfl ⟨M, rfl, rfl, hR, h⟩
  · replace h := h.2 c
    refine g1 (n := 1) rfl rfl rfl (la_of a0) ?_
    refine n_gr rfl hS.1 rfl (fun _ => rfl) hR (rk_387 hS).2 ?_
    refine n_bi rfl (by decide) ?_
    refine g1 (n := 1) rfl rfl rfl (li_of a1) ?_
    refine n_mul rfl ?_
    refine g1 (n := 1) rfl rfl rfl (li_of a2) ?_
    refine n_add rfl ?_
    refine g1 (n := 1) rfl rfl rfl (la_of a0) ?_
    refine n_gr rfl hS.1 rfl (fun _ => rfl) hR (rk_389 hS).2 ?_
    refine g1 (n := 1) rfl rfl rfl (li_of a2) ?_
    obtain ⟨q, h⟩ := h
    refine n_la rfl (rk_389 hS).1 (Nat.le_of_ble_eq_true rfl) q ?_
    obtain ⟨q, h⟩ := h
    refine n_ls (Nat.le_of_ble_eq_true rfl) rfl (rk_387 hS).1 (Nat.le_of_ble_eq_true rfl) q (fun M1 e r => ?_)
    replace h := h M1 e
    have r1 := hR.trans r
    refine g1 (n := 1) rfl rfl rfl (la_of a0) ?_
    refine n_gr rfl hS.1 rfl (fun _ => rfl) r1 (rk_388 hS).2 ?_
    refine n_bi rfl (by decide) ?_
    refine g1 (n := 1) rfl rfl rfl (li_of a1) ?_
    refine n_mul rfl ?_
    refine g1 (n := 1) rfl rfl rfl (li_of a2) ?_
    refine n_add rfl ?_
    refine g1 (n := 1) rfl rfl rfl (la_of a0) ?_
    refine n_gr rfl hS.1 rfl (fun _ => rfl) r1 (rk_390 hS).2 ?_
    refine g1 (n := 1) rfl rfl rfl (li_of a2) ?_
    obtain ⟨q, h⟩ := h
    refine n_ia rfl (rk_390 hS).1 (Nat.le_of_ble_eq_true rfl) q ?_
    obtain ⟨q, h⟩ := h
    refine n_is (Nat.le_of_ble_eq_true rfl) rfl (rk_388 hS).1 (Nat.le_of_ble_eq_true rfl) q (fun M2 e r => ?_)
    replace h := h M2 e
    have r2 := r1.trans r
    refine n_ii rfl a2 (Nat.le_of_ble_eq_true rfl) (fun ls l1 ho => ?_)
    replace a0 := ho 0 _ (by decide) (fun q => by cases q.2) a0
    have l2 := ho 1 _ (by decide) (fun q => by cases q.2) a1
    refine g3 rfl rfl rfl ?_
    exact hb12 _ _ _ _ r2 a0 l2 l1 h
def w_keepRead_12 (v1 : Int) (v2 : Int) (M : rf_M) (K : rf_M → Prop) : Prop := ∃ Inv : Nat → Int → Int → rf_M → Prop, (∃ m, Inv m v1 v2 M) ∧ ∀ (m : Nat) (v1 : Int) (v2 : Int) (M : rf_M), Inv m v1 v2 M → w_keepRead_12b v1 v2 M (fun (v1' : Int) (v2' : Int) (M' : rf_M) => ∃ m', m' < m ∧ Inv m' v1' v2' M') K
theorem W_keepRead_12 {fz : Bool} {S : gS} {B : rf_M} {M : rf_M} {ls : rf_L} {v1 : Int} {v2 : Int} {K : rf_M → Prop} (hS : rk fz S B.2.2) (hR : fq B M) (a0 : rf_ld ls 0 = some (.ref 353)) (a1 : rf_ld ls 1 = some (zv v1)) (a2 : rf_ld ls 2 = some (zv v2)) (h : w_keepRead_12 v1 v2 M K) : gx (cx0 fz) (0, 0) 173 12 ls [] (M, S) (vq_v B S K) := by
  obtain ⟨Inv, ⟨m, hm⟩, hb⟩ := h
  induction m using Nat.strongRecOn generalizing ls M v1 v2 with
  | _ m ih =>
    refine W_keepRead_12b hS hR a0 a1 a2 (fun v1' v2' M' ls' hR' f0 f1 f2 ⟨m', q1, q2⟩ => ih m' q1 hR' f0 f1 f2 q2) (hb m v1 v2 M hm)
def w_keepRead (v1 : Int) (M : rf_M) (K : rf_M → Prop) : Prop := (0 ≤ v1 ∧ v1 < 8) ∧ (∀ M1 : rf_M, M1 = wi M 386 (v1).toNat (gi M 353 52) → (w_keepRead_12 v1 0 M1 K))
theorem W_keepRead {fz : Bool} {S : gS} {B : rf_M} {M : rf_M} {ls : rf_L} {v1 : Int} {K : rf_M → Prop} (hS : rk fz S B.2.2) (hR : fq B M) (a0 : rf_ld ls 0 = some (.ref 353)) (a1 : rf_ld ls 1 = some (zv v1)) (h : w_keepRead v1 M K) : gx (cx0 fz) (0, 0) 173 0 ls [] (M, S) (vq_v B S K) := by
  unfold w_keepRead at h
  refine g1 (n := 1) rfl rfl rfl (la_of a0) ?_
  refine n_gr rfl hS.1 rfl (fun _ => rfl) hR (rk_386 hS).2 ?_
  refine g1 (n := 1) rfl rfl rfl (li_of a1) ?_
  refine g1 (n := 1) rfl rfl rfl (la_of a0) ?_
  refine n_gi rfl hS.1 rfl (fun _ => rfl) ?_
  obtain ⟨q, h⟩ := h
  refine n_is (Nat.le_of_ble_eq_true rfl) rfl (rk_386 hS).1 (Nat.le_of_ble_eq_true rfl) q (fun M1 e r => ?_)
  replace h := h M1 e
  have r1 := hR.trans r
  refine g1 (n := 1) rfl rfl rfl rfl ?_
  refine n_s1 (n := 1) rfl rfl rfl rfl (fun ls l1 ho => ?_)
  replace a0 := ho 0 _ (by decide) (fun q => by cases q.2) a0
  have l2 := ho 1 _ (by decide) (fun q => by cases q.2) a1
  exact W_keepRead_12 hS r1 a0 l2 l1 h
def wm_keepRead (x0 : Int) (M : rf_M) (K : rf_M → Prop) : Prop := w_keepRead x0 M K
theorem W_keepRead_m {fz : Bool} {S : gS} {B : rf_M} {M : rf_M} {x0 : Int} {K : rf_M → Prop} (hS : rk fz S B.2.2) (hR : fq B M) (h : wm_keepRead x0 M K) : gx (cx0 fz) (0, 0) 173 0 (lv_args 0 [.ref 353, zv x0]) [] (M, S) (vq_v B S K) :=
  W_keepRead hS hR rfl rfl h
def w_cutRun_60 (s1 : Int) (s2 : Int) (M : rf_M) (K : Int → rf_M → Prop) : Prop := (0 ≤ s1 ∧ s1 < 8) ∧ (∀ M1 : rf_M, M1 = wi M 385 (s1).toNat (Int32.ofInt s2 &&& 1).toInt → (K 3 M1))
theorem W_cutRun_60 {fz : Bool} {S : gS} {B : rf_M} {M : rf_M} {ls : rf_L} {s1 : Int} {s2 : Int} {K : Int → rf_M → Prop} (hS : rk fz S B.2.2) (hR : fq B M) (h : w_cutRun_60 s1 s2 M K) : gx (cx0 fz) (0, 0) 174 60 ls [zv s2, zv s1, .ref 385] (M, S) (vq_i B S K) := by
  unfold w_cutRun_60 at h
  obtain ⟨q, h⟩ := h
  refine n_zs (Nat.le_of_ble_eq_true rfl) rfl (rk_385 hS).1 (Nat.le_of_ble_eq_true rfl) q (fun M1 e r => ?_)
  replace h := h M1 e
  have r1 := hR.trans r
  refine g1 (n := 1) rfl rfl rfl rfl ?_
  exact gx_ret rfl rfl ⟨3, M1, rfl, rfl, r1, h⟩
def w_cutRun_55 (s1 : Int) (M : rf_M) (K : Int → rf_M → Prop) : Prop := w_cutRun_60 s1 1 M K
theorem W_cutRun_55 {fz : Bool} {S : gS} {B : rf_M} {M : rf_M} {ls : rf_L} {s1 : Int} {K : Int → rf_M → Prop} (hS : rk fz S B.2.2) (hR : fq B M) (h : w_cutRun_55 s1 M K) : gx (cx0 fz) (0, 0) 174 55 ls [zv s1, .ref 385] (M, S) (vq_i B S K) := by
  unfold w_cutRun_55 at h
  refine g1 (n := 1) rfl rfl rfl rfl ?_
  refine g3 rfl rfl rfl ?_
  exact W_cutRun_60 hS hR  h
def w_cutRun (v1 : Int) (M : rf_M) (K : Int → rf_M → Prop) : Prop := (0 ≤ v1 ∧ v1 < 8) ∧ (∀ M1 : rf_M, M1 = wi M 382 (v1).toNat 0 → ((0 ≤ v1 ∧ v1 < 8) ∧ (∀ M2 : rf_M, M2 = wi M1 383 (v1).toNat 0 → ((0 ≤ v1 ∧ v1 < 8) ∧ (∀ M3 : rf_M, M3 = wi M2 386 (v1).toNat 0 → ((0 ≤ v1 ∧ v1 < 8) ∧ ((0 ≤ v1 ∧ v1 < 8) ∧ (∀ M4 : rf_M, M4 = wi M3 384 (v1).toNat ((gi M3 384 (v1).toNat) + 1) → ((0 ≤ v1 ∧ v1 < 8) ∧ (((gi M4 385 (v1).toNat) = 0 → ((0 ≤ v1 ∧ v1 < 8) ∧ (((gi M4 384 (v1).toNat) < 4 → (w_cutRun_60 v1 0 M4 K)) ∧ (¬ ((gi M4 384 (v1).toNat) < 4) → (w_cutRun_55 v1 M4 K))))) ∧ (¬ (gi M4 385 (v1).toNat) = 0 → (w_cutRun_55 v1 M4 K))))))))))))
theorem W_cutRun {fz : Bool} {S : gS} {B : rf_M} {M : rf_M} {ls : rf_L} {v1 : Int} {K : Int → rf_M → Prop} (hS : rk fz S B.2.2) (hR : fq B M) (a0 : rf_ld ls 0 = some (.ref 353)) (a1 : rf_ld ls 1 = some (zv v1)) (h : w_cutRun v1 M K) : gx (cx0 fz) (0, 0) 174 0 ls [] (M, S) (vq_i B S K) := by
  unfold w_cutRun at h
  refine g1 (n := 1) rfl rfl rfl (la_of a0) ?_
  refine n_gr rfl hS.1 rfl (fun _ => rfl) hR (rk_382 hS).2 ?_
  refine g1 (n := 1) rfl rfl rfl (li_of a1) ?_
  refine g1 (n := 1) rfl rfl rfl rfl ?_
  obtain ⟨q, h⟩ := h
  refine n_is (Nat.le_of_ble_eq_true rfl) rfl (rk_382 hS).1 (Nat.le_of_ble_eq_true rfl) q (fun M1 e r => ?_)
  replace h := h M1 e
  have r1 := hR.trans r
  refine g1 (n := 1) rfl rfl rfl (la_of a0) ?_
  refine n_gr rfl hS.1 rfl (fun _ => rfl) r1 (rk_383 hS).2 ?_
  refine g1 (n := 1) rfl rfl rfl (li_of a1) ?_
  refine g1 (n := 1) rfl rfl rfl rfl ?_
  obtain ⟨q, h⟩ := h
  refine n_is (Nat.le_of_ble_eq_true rfl) rfl (rk_383 hS).1 (Nat.le_of_ble_eq_true rfl) q (fun M2 e r => ?_)
  replace h := h M2 e
  have r2 := r1.trans r
  refine g1 (n := 1) rfl rfl rfl (la_of a0) ?_
  refine n_gr rfl hS.1 rfl (fun _ => rfl) r2 (rk_386 hS).2 ?_
  refine g1 (n := 1) rfl rfl rfl (li_of a1) ?_
  refine g1 (n := 1) rfl rfl rfl rfl ?_
  obtain ⟨q, h⟩ := h
  refine n_is (Nat.le_of_ble_eq_true rfl) rfl (rk_386 hS).1 (Nat.le_of_ble_eq_true rfl) q (fun M3 e r => ?_)
  replace h := h M3 e
  have r3 := r2.trans r
  refine g1 (n := 1) rfl rfl rfl (la_of a0) ?_
  refine n_gr rfl hS.1 rfl (fun _ => rfl) r3 (rk_384 hS).2 ?_
  refine g1 (n := 1) rfl rfl rfl (li_of a1) ?_
  refine g0 rfl rfl rfl ?_
  obtain ⟨q, h⟩ := h
  refine n_ia rfl (rk_384 hS).1 (Nat.le_of_ble_eq_true rfl) q ?_
  refine g1 (n := 1) rfl rfl rfl rfl ?_
  refine n_add rfl ?_
  obtain ⟨q, h⟩ := h
  refine n_is (Nat.le_of_ble_eq_true rfl) rfl (rk_384 hS).1 (Nat.le_of_ble_eq_true rfl) q (fun M4 e r => ?_)
  replace h := h M4 e
  have r4 := r3.trans r
  refine g1 (n := 1) rfl rfl rfl (la_of a0) ?_
  refine n_gr rfl hS.1 rfl (fun _ => rfl) r4 (rk_385 hS).2 ?_
  refine g1 (n := 1) rfl rfl rfl (li_of a1) ?_
  refine g1 (n := 1) rfl rfl rfl (la_of a0) ?_
  refine n_gr rfl hS.1 rfl (fun _ => rfl) r4 (rk_385 hS).2 ?_
  refine g1 (n := 1) rfl rfl rfl (li_of a1) ?_
  obtain ⟨q, h⟩ := h
  refine n_za rfl (rk_385 hS).1 (Nat.le_of_ble_eq_true rfl) q ?_
  refine n_if rfl (inr_gi _ _ _) (fun c => ?_) (fun c => ?_)
  · replace h := h.2 c
    exact W_cutRun_55 hS r4  h
  · replace h := h.1 (Classical.not_not.mp c)
    refine g1 (n := 1) rfl rfl rfl (la_of a0) ?_
    refine n_gr rfl hS.1 rfl (fun _ => rfl) r4 (rk_384 hS).2 ?_
    refine g1 (n := 1) rfl rfl rfl (li_of a1) ?_
    obtain ⟨q, h⟩ := h
    refine n_ia rfl (rk_384 hS).1 (Nat.le_of_ble_eq_true rfl) q ?_
    refine g1 (n := 1) rfl rfl rfl rfl ?_
    refine n_ic rfl (inr_gi _ _ _) ⟨by decide, by decide⟩ (fun c => ?_) (fun c => ?_)
    · replace h := h.1 c
      refine g1 (n := 1) rfl rfl rfl rfl ?_
      exact W_cutRun_60 hS r4  h
    · replace h := h.2 c
      exact W_cutRun_55 hS r4  h
def wm_cutRun (x0 : Int) (M : rf_M) (K : Int → rf_M → Prop) : Prop := w_cutRun x0 M K
theorem W_cutRun_m {fz : Bool} {S : gS} {B : rf_M} {M : rf_M} {x0 : Int} {K : Int → rf_M → Prop} (hS : rk fz S B.2.2) (hR : fq B M) (h : wm_cutRun x0 M K) : gx (cx0 fz) (0, 0) 174 0 (lv_args 0 [.ref 353, zv x0]) [] (M, S) (vq_i B S K) :=
  W_cutRun hS hR rfl rfl h
def w_isHeld_33 (v1 : Int) (v3 : Int) (s0 : Int) (M : rf_M) (b4 : Int → Int → Int → rf_M → Prop) (K : Int → rf_M → Prop) : Prop := b4 v1 s0 (v3 + 1) M
theorem W_isHeld_33 {fz : Bool} {S : gS} {B : rf_M} {M : rf_M} {ls : rf_L} {v1 : Int} {v3 : Int} {s0 : Int} {b4 : Int → Int → Int → rf_M → Prop} {K : Int → rf_M → Prop} (hS : rk fz S B.2.2) (hR : fq B M) (a0 : rf_ld ls 0 = some (.ref 353)) (a1 : rf_ld ls 1 = some (zv v1)) (a3 : rf_ld ls 3 = some (zv v3)) (hb4 : ∀ (v1 : Int) (v2 : Int) (v3 : Int) (M : rf_M) (ls : rf_L), fq B M → rf_ld ls 0 = some (.ref 353) → rf_ld ls 1 = some (zv v1) → rf_ld ls 2 = some (zv v2) → rf_ld ls 3 = some (zv v3) → b4 v1 v2 v3 M → gx (cx0 fz) (0, 0) 175 4 ls [] (M, S) (vq_i B S K)) (h : w_isHeld_33 v1 v3 s0 M b4 K) : gx (cx0 fz) (0, 0) 175 33 ls [zv s0] (M, S) (vq_i B S K) := by
  unfold w_isHeld_33 at h
  refine n_s1 (n := 1) rfl rfl rfl rfl (fun ls l1 ho => ?_)
  replace a0 := ho 0 _ (by decide) (fun q => by cases q.2) a0
  have l2 := ho 1 _ (by decide) (fun q => by cases q.2) a1
  have l3 := ho 3 _ (by decide) (fun q => by cases q.2) a3
  refine n_ii rfl l3 (Nat.le_of_ble_eq_true rfl) (fun ls l4 ho => ?_)
  replace a0 := ho 0 _ (by decide) (fun q => by cases q.2) a0
  have l5 := ho 1 _ (by decide) (fun q => by cases q.2) l2
  have l6 := ho 2 _ (by decide) (fun q => by cases q.2) l1
  refine g3 rfl rfl rfl ?_
  exact hb4 _ _ _ _ _ hR a0 l5 l6 l4 h
def w_isHeld_28 (v1 : Int) (v3 : Int) (M : rf_M) (b4 : Int → Int → Int → rf_M → Prop) (K : Int → rf_M → Prop) : Prop := w_isHeld_33 v1 v3 1 M b4 K
theorem W_isHeld_28 {fz : Bool} {S : gS} {B : rf_M} {M : rf_M} {ls : rf_L} {v1 : Int} {v3 : Int} {b4 : Int → Int → Int → rf_M → Prop} {K : Int → rf_M → Prop} (hS : rk fz S B.2.2) (hR : fq B M) (a0 : rf_ld ls 0 = some (.ref 353)) (a1 : rf_ld ls 1 = some (zv v1)) (a3 : rf_ld ls 3 = some (zv v3)) (hb4 : ∀ (v1 : Int) (v2 : Int) (v3 : Int) (M : rf_M) (ls : rf_L), fq B M → rf_ld ls 0 = some (.ref 353) → rf_ld ls 1 = some (zv v1) → rf_ld ls 2 = some (zv v2) → rf_ld ls 3 = some (zv v3) → b4 v1 v2 v3 M → gx (cx0 fz) (0, 0) 175 4 ls [] (M, S) (vq_i B S K)) (h : w_isHeld_28 v1 v3 M b4 K) : gx (cx0 fz) (0, 0) 175 28 ls [] (M, S) (vq_i B S K) := by
  unfold w_isHeld_28 at h
  refine g1 (n := 1) rfl rfl rfl rfl ?_
  refine g3 rfl rfl rfl ?_
  exact W_isHeld_33 hS hR a0 a1 a3 hb4 h
def w_isHeld_32 (v1 : Int) (v3 : Int) (M : rf_M) (b4 : Int → Int → Int → rf_M → Prop) (K : Int → rf_M → Prop) : Prop := w_isHeld_33 v1 v3 0 M b4 K
theorem W_isHeld_32 {fz : Bool} {S : gS} {B : rf_M} {M : rf_M} {ls : rf_L} {v1 : Int} {v3 : Int} {b4 : Int → Int → Int → rf_M → Prop} {K : Int → rf_M → Prop} (hS : rk fz S B.2.2) (hR : fq B M) (a0 : rf_ld ls 0 = some (.ref 353)) (a1 : rf_ld ls 1 = some (zv v1)) (a3 : rf_ld ls 3 = some (zv v3)) (hb4 : ∀ (v1 : Int) (v2 : Int) (v3 : Int) (M : rf_M) (ls : rf_L), fq B M → rf_ld ls 0 = some (.ref 353) → rf_ld ls 1 = some (zv v1) → rf_ld ls 2 = some (zv v2) → rf_ld ls 3 = some (zv v3) → b4 v1 v2 v3 M → gx (cx0 fz) (0, 0) 175 4 ls [] (M, S) (vq_i B S K)) (h : w_isHeld_32 v1 v3 M b4 K) : gx (cx0 fz) (0, 0) 175 32 ls [] (M, S) (vq_i B S K) := by
  unfold w_isHeld_32 at h
  refine g1 (n := 1) rfl rfl rfl rfl ?_
  exact W_isHeld_33 hS hR a0 a1 a3 hb4 h
def w_isHeld_58 (s0 : Int) (M : rf_M) (K : Int → rf_M → Prop) : Prop := (s0 = 0 ∨ s0 = 1) ∧ K s0 M
theorem W_isHeld_58 {fz : Bool} {S : gS} {B : rf_M} {M : rf_M} {ls : rf_L} {s0 : Int} {K : Int → rf_M → Prop} (hS : rk fz S B.2.2) (hR : fq B M) (h : w_isHeld_58 s0 M K) : gx (cx0 fz) (0, 0) 175 58 ls [zv s0] (M, S) (vq_i B S K) := by
  unfold w_isHeld_58 at h
  exact n_rb rfl rfl h.1 hR h.2
def w_isHeld_57 (M : rf_M) (K : Int → rf_M → Prop) : Prop := w_isHeld_58 0 M K
theorem W_isHeld_57 {fz : Bool} {S : gS} {B : rf_M} {M : rf_M} {ls : rf_L} {K : Int → rf_M → Prop} (hS : rk fz S B.2.2) (hR : fq B M) (h : w_isHeld_57 M K) : gx (cx0 fz) (0, 0) 175 57 ls [] (M, S) (vq_i B S K) := by
  unfold w_isHeld_57 at h
  refine g1 (n := 1) rfl rfl rfl rfl ?_
  exact W_isHeld_58 hS hR  h
def w_isHeld_4b (v1 : Int) (v2 : Int) (v3 : Int) (M : rf_M) (b4 : Int → Int → Int → rf_M → Prop) (K : Int → rf_M → Prop) : Prop := inr v3 ∧ ((8 ≤ v3 → (inr v2 ∧ ((v2 = 0 → (w_isHeld_57 M K)) ∧ (¬ (v2 = 0) → ((0 ≤ v1 ∧ v1 < 8) ∧ (((gi M 385 (v1).toNat) = 0 → (w_isHeld_58 1 M K)) ∧ (¬ (gi M 385 (v1).toNat) = 0 → (w_isHeld_57 M K)))))))) ∧ (¬ (8 ≤ v3) → (inr v2 ∧ ((v2 = 0 → (inr v3 ∧ (inr v1 ∧ ((v3 = v1 → (w_isHeld_32 v1 v3 M b4 K)) ∧ (¬ (v3 = v1) → ((0 ≤ v3 ∧ v3 < 8) ∧ (((gi M 385 (v3).toNat) = 0 → (w_isHeld_32 v1 v3 M b4 K)) ∧ (¬ ((gi M 385 (v3).toNat) = 0) → (w_isHeld_28 v1 v3 M b4 K))))))))) ∧ (¬ v2 = 0 → (w_isHeld_28 v1 v3 M b4 K))))))
theorem W_isHeld_4b {fz : Bool} {S : gS} {B : rf_M} {M : rf_M} {ls : rf_L} {v1 : Int} {v2 : Int} {v3 : Int} {b4 : Int → Int → Int → rf_M → Prop} {K : Int → rf_M → Prop} (hS : rk fz S B.2.2) (hR : fq B M) (a0 : rf_ld ls 0 = some (.ref 353)) (a1 : rf_ld ls 1 = some (zv v1)) (a2 : rf_ld ls 2 = some (zv v2)) (a3 : rf_ld ls 3 = some (zv v3)) (hb4 : ∀ (v1 : Int) (v2 : Int) (v3 : Int) (M : rf_M) (ls : rf_L), fq B M → rf_ld ls 0 = some (.ref 353) → rf_ld ls 1 = some (zv v1) → rf_ld ls 2 = some (zv v2) → rf_ld ls 3 = some (zv v3) → b4 v1 v2 v3 M → gx (cx0 fz) (0, 0) 175 4 ls [] (M, S) (vq_i B S K)) (h : w_isHeld_4b v1 v2 v3 M b4 K) : gx (cx0 fz) (0, 0) 175 4 ls [] (M, S) (vq_i B S K) := by
  unfold w_isHeld_4b at h
  refine g1 (n := 1) rfl rfl rfl (li_of a3) ?_
  refine n_bi rfl (by decide) ?_
  obtain ⟨i1, h⟩ := h
  refine n_ic rfl i1 ⟨by decide, by decide⟩ (fun c => ?_) (fun c => ?_)
  · replace h := h.1 c
    refine g1 (n := 1) rfl rfl rfl (li_of a2) ?_
    obtain ⟨i2, h⟩ := h
    refine n_if rfl i2 (fun c => ?_) (fun c => ?_)
    · replace h := h.1 c
      exact W_isHeld_57 hS hR  h
    · replace h := h.2 c
      refine g1 (n := 1) rfl rfl rfl (la_of a0) ?_
      refine n_gr rfl hS.1 rfl (fun _ => rfl) hR (rk_385 hS).2 ?_
      refine g1 (n := 1) rfl rfl rfl (li_of a1) ?_
      obtain ⟨q, h⟩ := h
      refine n_za rfl (rk_385 hS).1 (Nat.le_of_ble_eq_true rfl) q ?_
      refine n_if rfl (inr_gi _ _ _) (fun c => ?_) (fun c => ?_)
      · replace h := h.2 c
        exact W_isHeld_57 hS hR  h
      · replace h := h.1 (Classical.not_not.mp c)
        refine g1 (n := 1) rfl rfl rfl rfl ?_
        refine g3 rfl rfl rfl ?_
        exact W_isHeld_58 hS hR  h
  · replace h := h.2 c
    refine g1 (n := 1) rfl rfl rfl (li_of a2) ?_
    obtain ⟨i3, h⟩ := h
    refine n_if rfl i3 (fun c => ?_) (fun c => ?_)
    · replace h := h.2 c
      exact W_isHeld_28 hS hR a0 a1 a3 hb4 h
    · replace h := h.1 (Classical.not_not.mp c)
      refine g1 (n := 1) rfl rfl rfl (li_of a3) ?_
      refine g1 (n := 1) rfl rfl rfl (li_of a1) ?_
      obtain ⟨i4, h⟩ := h
      obtain ⟨i5, h⟩ := h
      refine n_ic rfl i4 i5 (fun c => ?_) (fun c => ?_)
      · replace h := h.1 c
        exact W_isHeld_32 hS hR a0 a1 a3 hb4 h
      · replace h := h.2 c
        refine g1 (n := 1) rfl rfl rfl (la_of a0) ?_
        refine n_gr rfl hS.1 rfl (fun _ => rfl) hR (rk_385 hS).2 ?_
        refine g1 (n := 1) rfl rfl rfl (li_of a3) ?_
        obtain ⟨q, h⟩ := h
        refine n_za rfl (rk_385 hS).1 (Nat.le_of_ble_eq_true rfl) q ?_
        refine n_if rfl (inr_gi _ _ _) (fun c => ?_) (fun c => ?_)
        · replace h := h.1 c
          exact W_isHeld_32 hS hR a0 a1 a3 hb4 h
        · replace h := h.2 c
          exact W_isHeld_28 hS hR a0 a1 a3 hb4 h
def w_isHeld_4 (v1 : Int) (v2 : Int) (v3 : Int) (M : rf_M) (K : Int → rf_M → Prop) : Prop := ∃ Inv : Nat → Int → Int → Int → rf_M → Prop, (∃ m, Inv m v1 v2 v3 M) ∧ ∀ (m : Nat) (v1 : Int) (v2 : Int) (v3 : Int) (M : rf_M), Inv m v1 v2 v3 M → w_isHeld_4b v1 v2 v3 M (fun (v1' : Int) (v2' : Int) (v3' : Int) (M' : rf_M) => ∃ m', m' < m ∧ Inv m' v1' v2' v3' M') K
theorem W_isHeld_4 {fz : Bool} {S : gS} {B : rf_M} {M : rf_M} {ls : rf_L} {v1 : Int} {v2 : Int} {v3 : Int} {K : Int → rf_M → Prop} (hS : rk fz S B.2.2) (hR : fq B M) (a0 : rf_ld ls 0 = some (.ref 353)) (a1 : rf_ld ls 1 = some (zv v1)) (a2 : rf_ld ls 2 = some (zv v2)) (a3 : rf_ld ls 3 = some (zv v3)) (h : w_isHeld_4 v1 v2 v3 M K) : gx (cx0 fz) (0, 0) 175 4 ls [] (M, S) (vq_i B S K) := by
  obtain ⟨Inv, ⟨m, hm⟩, hb⟩ := h
  induction m using Nat.strongRecOn generalizing ls M v1 v2 v3 with
  | _ m ih =>
    refine W_isHeld_4b hS hR a0 a1 a2 a3 (fun v1' v2' v3' M' ls' hR' f0 f1 f2 f3 ⟨m', q1, q2⟩ => ih m' q1 hR' f0 f1 f2 f3 q2) (hb m v1 v2 v3 M hm)
def w_isHeld (v1 : Int) (M : rf_M) (K : Int → rf_M → Prop) : Prop := w_isHeld_4 v1 0 0 M K
theorem W_isHeld {fz : Bool} {S : gS} {B : rf_M} {M : rf_M} {ls : rf_L} {v1 : Int} {K : Int → rf_M → Prop} (hS : rk fz S B.2.2) (hR : fq B M) (a0 : rf_ld ls 0 = some (.ref 353)) (a1 : rf_ld ls 1 = some (zv v1)) (h : w_isHeld v1 M K) : gx (cx0 fz) (0, 0) 175 0 ls [] (M, S) (vq_i B S K) := by
  unfold w_isHeld at h
  refine g1 (n := 1) rfl rfl rfl rfl ?_
  refine n_s1 (n := 1) rfl rfl rfl rfl (fun ls l1 ho => ?_)
  replace a0 := ho 0 _ (by decide) (fun q => by cases q.2) a0
  have l2 := ho 1 _ (by decide) (fun q => by cases q.2) a1
  refine g1 (n := 1) rfl rfl rfl rfl ?_
  refine n_s1 (n := 1) rfl rfl rfl rfl (fun ls l3 ho => ?_)
  replace a0 := ho 0 _ (by decide) (fun q => by cases q.2) a0
  have l4 := ho 1 _ (by decide) (fun q => by cases q.2) l2
  have l5 := ho 2 _ (by decide) (fun q => by cases q.2) l1
  exact W_isHeld_4 hS hR a0 l4 l5 l3 h
def wm_isHeld (x0 : Int) (M : rf_M) (K : Int → rf_M → Prop) : Prop := w_isHeld x0 M K
theorem W_isHeld_m {fz : Bool} {S : gS} {B : rf_M} {M : rf_M} {x0 : Int} {K : Int → rf_M → Prop} (hS : rk fz S B.2.2) (hR : fq B M) (h : wm_isHeld x0 M K) : gx (cx0 fz) (0, 0) 175 0 (lv_args 0 [.ref 353, zv x0]) [] (M, S) (vq_i B S K) :=
  W_isHeld hS hR rfl rfl h
def w_addRow (v1 : Int) (v2 : Int) (v3 : Int) (v4 : Int) (v5 : Int) (v6 : Int64) (M : rf_M) (K : rf_M → Prop) : Prop := (0 ≤ (gi M 353 69) ∧ (gi M 353 69) < 300) ∧ (∀ M1 : rf_M, M1 = wi M 400 (gi M 353 69).toNat v1 → ((0 ≤ (gi M1 353 69) ∧ (gi M1 353 69) < 300) ∧ (∀ M2 : rf_M, M2 = wi M1 401 (gi M1 353 69).toNat v2 → ((0 ≤ (gi M2 353 69) ∧ (gi M2 353 69) < 300) ∧ (∀ M3 : rf_M, M3 = wi M2 402 (gi M2 353 69).toNat v3 → ((0 ≤ (gi M3 353 69) ∧ (gi M3 353 69) < 300) ∧ (∀ M4 : rf_M, M4 = wi M3 403 (gi M3 353 69).toNat v4 → ((0 ≤ (gi M4 353 69) ∧ (gi M4 353 69) < 300) ∧ (∀ M5 : rf_M, M5 = wi M4 404 (gi M4 353 69).toNat v5 → ((0 ≤ (gi M5 353 69) ∧ (gi M5 353 69) < 300) ∧ (∀ M6 : rf_M, M6 = wl M5 405 (gi M5 353 69).toNat v6 → (∀ M7 : rf_M, M7 = wi M6 353 69 ((gi M6 353 69) + 1) → (K M7)))))))))))))
theorem W_addRow {fz : Bool} {S : gS} {B : rf_M} {M : rf_M} {ls : rf_L} {v1 : Int} {v2 : Int} {v3 : Int} {v4 : Int} {v5 : Int} {v6 : Int64} {K : rf_M → Prop} (hS : rk fz S B.2.2) (hR : fq B M) (a0 : rf_ld ls 0 = some (.ref 353)) (a1 : rf_ld ls 1 = some (zv v1)) (a2 : rf_ld ls 2 = some (zv v2)) (a3 : rf_ld ls 3 = some (zv v3)) (a4 : rf_ld ls 4 = some (zv v4)) (a5 : rf_ld ls 5 = some (zv v5)) (a6 : rf_ld ls 6 = some (.long v6)) (h : w_addRow v1 v2 v3 v4 v5 v6 M K) : gx (cx0 fz) (0, 0) 177 0 ls [] (M, S) (vq_v B S K) := by
  unfold w_addRow at h
  refine g1 (n := 1) rfl rfl rfl (la_of a0) ?_
  refine n_gr rfl hS.1 rfl (fun _ => rfl) hR (rk_400 hS).2 ?_
  refine g1 (n := 1) rfl rfl rfl (la_of a0) ?_
  refine n_gi rfl hS.1 rfl (fun _ => rfl) ?_
  refine g1 (n := 1) rfl rfl rfl (li_of a1) ?_
  obtain ⟨q, h⟩ := h
  refine n_is (Nat.le_of_ble_eq_true rfl) rfl (rk_400 hS).1 (Nat.le_of_ble_eq_true rfl) q (fun M1 e r => ?_)
  replace h := h M1 e
  have r1 := hR.trans r
  refine g1 (n := 1) rfl rfl rfl (la_of a0) ?_
  refine n_gr rfl hS.1 rfl (fun _ => rfl) r1 (rk_401 hS).2 ?_
  refine g1 (n := 1) rfl rfl rfl (la_of a0) ?_
  refine n_gi rfl hS.1 rfl (fun _ => rfl) ?_
  refine g1 (n := 1) rfl rfl rfl (li_of a2) ?_
  obtain ⟨q, h⟩ := h
  refine n_is (Nat.le_of_ble_eq_true rfl) rfl (rk_401 hS).1 (Nat.le_of_ble_eq_true rfl) q (fun M2 e r => ?_)
  replace h := h M2 e
  have r2 := r1.trans r
  refine g1 (n := 1) rfl rfl rfl (la_of a0) ?_
  refine n_gr rfl hS.1 rfl (fun _ => rfl) r2 (rk_402 hS).2 ?_
  refine g1 (n := 1) rfl rfl rfl (la_of a0) ?_
  refine n_gi rfl hS.1 rfl (fun _ => rfl) ?_
  refine g1 (n := 1) rfl rfl rfl (li_of a3) ?_
  obtain ⟨q, h⟩ := h
  refine n_is (Nat.le_of_ble_eq_true rfl) rfl (rk_402 hS).1 (Nat.le_of_ble_eq_true rfl) q (fun M3 e r => ?_)
  replace h := h M3 e
  have r3 := r2.trans r
  refine g1 (n := 1) rfl rfl rfl (la_of a0) ?_
  refine n_gr rfl hS.1 rfl (fun _ => rfl) r3 (rk_403 hS).2 ?_
  refine g1 (n := 1) rfl rfl rfl (la_of a0) ?_
  refine n_gi rfl hS.1 rfl (fun _ => rfl) ?_
  refine g1 (n := 2) rfl rfl rfl (li_of a4) ?_
  obtain ⟨q, h⟩ := h
  refine n_is (Nat.le_of_ble_eq_true rfl) rfl (rk_403 hS).1 (Nat.le_of_ble_eq_true rfl) q (fun M4 e r => ?_)
  replace h := h M4 e
  have r4 := r3.trans r
  refine g1 (n := 1) rfl rfl rfl (la_of a0) ?_
  refine n_gr rfl hS.1 rfl (fun _ => rfl) r4 (rk_404 hS).2 ?_
  refine g1 (n := 1) rfl rfl rfl (la_of a0) ?_
  refine n_gi rfl hS.1 rfl (fun _ => rfl) ?_
  refine g1 (n := 2) rfl rfl rfl (li_of a5) ?_
  obtain ⟨q, h⟩ := h
  refine n_is (Nat.le_of_ble_eq_true rfl) rfl (rk_404 hS).1 (Nat.le_of_ble_eq_true rfl) q (fun M5 e r => ?_)
  replace h := h M5 e
  have r5 := r4.trans r
  refine g1 (n := 1) rfl rfl rfl (la_of a0) ?_
  refine n_gr rfl hS.1 rfl (fun _ => rfl) r5 (rk_405 hS).2 ?_
  refine g1 (n := 1) rfl rfl rfl (la_of a0) ?_
  refine n_gi rfl hS.1 rfl (fun _ => rfl) ?_
  refine g1 (n := 2) rfl rfl rfl (ll_of a6) ?_
  obtain ⟨q, h⟩ := h
  refine n_ls (Nat.le_of_ble_eq_true rfl) rfl (rk_405 hS).1 (Nat.le_of_ble_eq_true rfl) q (fun M6 e r => ?_)
  replace h := h M6 e
  have r6 := r5.trans r
  refine g1 (n := 1) rfl rfl rfl (la_of a0) ?_
  refine g0 rfl rfl rfl ?_
  refine n_gi rfl hS.1 rfl (fun _ => rfl) ?_
  refine g1 (n := 1) rfl rfl rfl rfl ?_
  refine n_add rfl ?_
  refine n_pi (Nat.le_of_ble_eq_true rfl) rfl hS.1 rfl (fun _ _ => rfl) (fun M7 e r => ?_)
  replace h := h M7 e
  have r7 := r6.trans r
  exact gx_ret rfl rfl ⟨M7, rfl, rfl, r7, h⟩
def wm_addRow (x0 : Int) (x1 : Int) (x2 : Int) (x3 : Int) (x4 : Int) (x5 : Int64) (M : rf_M) (K : rf_M → Prop) : Prop := w_addRow x0 x1 x2 x3 x4 x5 M K
theorem W_addRow_m {fz : Bool} {S : gS} {B : rf_M} {M : rf_M} {x0 : Int} {x1 : Int} {x2 : Int} {x3 : Int} {x4 : Int} {x5 : Int64} {K : rf_M → Prop} (hS : rk fz S B.2.2) (hR : fq B M) (h : wm_addRow x0 x1 x2 x3 x4 x5 M K) : gx (cx0 fz) (0, 0) 177 0 (lv_args 0 [.ref 353, zv x0, zv x1, zv x2, zv x3, zv x4, .long x5]) [] (M, S) (vq_v B S K) :=
  W_addRow hS hR rfl rfl rfl rfl rfl rfl rfl h
def w_over_47b (v1 : Int) (v2 : Int) (M : rf_M) (b47 : Int → Int → rf_M → Prop) (K : rf_M → Prop) : Prop := (0 ≤ v1 ∧ v1 < 8) ∧ (inr v2 ∧ (((gi M 381 (v1).toNat) ≤ v2 → (K M)) ∧ (¬ ((gi M 381 (v1).toNat) ≤ v2) → ((0 ≤ (((16 * v1) + v2) + 1) ∧ (((16 * v1) + v2) + 1) < 128) ∧ ((0 ≤ ((16 * v1) + v2) ∧ ((16 * v1) + v2) < 128) ∧ (∀ M1 : rf_M, M1 = wi M 380 ((16 * v1) + v2).toNat (gi M 380 (((16 * v1) + v2) + 1).toNat) → (b47 v1 (v2 + 1) M1)))))))
theorem W_over_47b {fz : Bool} {S : gS} {B : rf_M} {M : rf_M} {ls : rf_L} {v1 : Int} {v2 : Int} {b47 : Int → Int → rf_M → Prop} {K : rf_M → Prop} (hS : rk fz S B.2.2) (hR : fq B M) (a0 : rf_ld ls 0 = some (.ref 353)) (a1 : rf_ld ls 1 = some (zv v1)) (a2 : rf_ld ls 2 = some (zv v2)) (hb47 : ∀ (v1 : Int) (v2 : Int) (M : rf_M) (ls : rf_L), fq B M → rf_ld ls 0 = some (.ref 353) → rf_ld ls 1 = some (zv v1) → rf_ld ls 2 = some (zv v2) → b47 v1 v2 M → gx (cx0 fz) (0, 0) 178 47 ls [] (M, S) (vq_v B S K)) (h : w_over_47b v1 v2 M b47 K) : gx (cx0 fz) (0, 0) 178 47 ls [] (M, S) (vq_v B S K) := by
  unfold w_over_47b at h
  refine g1 (n := 1) rfl rfl rfl (li_of a2) ?_
  refine g1 (n := 1) rfl rfl rfl (la_of a0) ?_
  refine n_gr rfl hS.1 rfl (fun _ => rfl) hR (rk_381 hS).2 ?_
  refine g1 (n := 1) rfl rfl rfl (li_of a1) ?_
  obtain ⟨q, h⟩ := h
  refine n_ia rfl (rk_381 hS).1 (Nat.le_of_ble_eq_true rfl) q ?_
  obtain ⟨i1, h⟩ := h
  refine n_ic rfl i1 (inr_gi _ _ _) (fun c => ?_) (fun c => ?_)
  · replace h := h.1 c
    exact gx_ret rfl rfl ⟨M, rfl, rfl, hR, h⟩
  · replace h := h.2 c
    refine g1 (n := 1) rfl rfl rfl (la_of a0) ?_
    refine n_gr rfl hS.1 rfl (fun _ => rfl) hR (rk_380 hS).2 ?_
    refine n_bi rfl (by decide) ?_
    refine g1 (n := 1) rfl rfl rfl (li_of a1) ?_
    refine n_mul rfl ?_
    refine g1 (n := 1) rfl rfl rfl (li_of a2) ?_
    refine n_add rfl ?_
    refine g1 (n := 1) rfl rfl rfl (la_of a0) ?_
    refine n_gr rfl hS.1 rfl (fun _ => rfl) hR (rk_380 hS).2 ?_
    refine n_bi rfl (by decide) ?_
    refine g1 (n := 1) rfl rfl rfl (li_of a1) ?_
    refine n_mul rfl ?_
    refine g1 (n := 1) rfl rfl rfl (li_of a2) ?_
    refine n_add rfl ?_
    refine g1 (n := 1) rfl rfl rfl rfl ?_
    refine n_add rfl ?_
    obtain ⟨q, h⟩ := h
    refine n_ia rfl (rk_380 hS).1 (Nat.le_of_ble_eq_true rfl) q ?_
    obtain ⟨q, h⟩ := h
    refine n_is (Nat.le_of_ble_eq_true rfl) rfl (rk_380 hS).1 (Nat.le_of_ble_eq_true rfl) q (fun M1 e r => ?_)
    replace h := h M1 e
    have r1 := hR.trans r
    refine n_ii rfl a2 (Nat.le_of_ble_eq_true rfl) (fun ls l1 ho => ?_)
    replace a0 := ho 0 _ (by decide) (fun q => by cases q.2) a0
    have l2 := ho 1 _ (by decide) (fun q => by cases q.2) a1
    refine g3 rfl rfl rfl ?_
    exact hb47 _ _ _ _ r1 a0 l2 l1 h
def w_over_47 (v1 : Int) (v2 : Int) (M : rf_M) (K : rf_M → Prop) : Prop := ∃ Inv : Nat → Int → Int → rf_M → Prop, (∃ m, Inv m v1 v2 M) ∧ ∀ (m : Nat) (v1 : Int) (v2 : Int) (M : rf_M), Inv m v1 v2 M → w_over_47b v1 v2 M (fun (v1' : Int) (v2' : Int) (M' : rf_M) => ∃ m', m' < m ∧ Inv m' v1' v2' M') K
theorem W_over_47 {fz : Bool} {S : gS} {B : rf_M} {M : rf_M} {ls : rf_L} {v1 : Int} {v2 : Int} {K : rf_M → Prop} (hS : rk fz S B.2.2) (hR : fq B M) (a0 : rf_ld ls 0 = some (.ref 353)) (a1 : rf_ld ls 1 = some (zv v1)) (a2 : rf_ld ls 2 = some (zv v2)) (h : w_over_47 v1 v2 M K) : gx (cx0 fz) (0, 0) 178 47 ls [] (M, S) (vq_v B S K) := by
  obtain ⟨Inv, ⟨m, hm⟩, hb⟩ := h
  induction m using Nat.strongRecOn generalizing ls M v1 v2 with
  | _ m ih =>
    refine W_over_47b hS hR a0 a1 a2 (fun v1' v2' M' ls' hR' f0 f1 f2 ⟨m', q1, q2⟩ => ih m' q1 hR' f0 f1 f2 q2) (hb m v1 v2 M hm)
def w_over (v1 : Int) (M : rf_M) (K : rf_M → Prop) : Prop := (0 ≤ v1 ∧ v1 < 8) ∧ (∀ M1 : rf_M, M1 = wi M 382 (v1).toNat 0 → ((0 ≤ v1 ∧ v1 < 8) ∧ (∀ M2 : rf_M, M2 = wi M1 383 (v1).toNat 0 → ((0 ≤ v1 ∧ v1 < 8) ∧ (∀ M3 : rf_M, M3 = wi M2 386 (v1).toNat 0 → ((0 ≤ v1 ∧ v1 < 8) ∧ (∀ M4 : rf_M, M4 = wi M3 384 (v1).toNat 0 → ((0 ≤ v1 ∧ v1 < 8) ∧ (∀ M5 : rf_M, M5 = wi M4 385 (v1).toNat (Int32.ofInt 0 &&& 1).toInt → ((0 ≤ v1 ∧ v1 < 8) ∧ ((0 ≤ v1 ∧ v1 < 8) ∧ (∀ M6 : rf_M, M6 = wi M5 381 (v1).toNat ((gi M5 381 (v1).toNat) - 1) → (w_over_47 v1 0 M6 K)))))))))))))
theorem W_over {fz : Bool} {S : gS} {B : rf_M} {M : rf_M} {ls : rf_L} {v1 : Int} {K : rf_M → Prop} (hS : rk fz S B.2.2) (hR : fq B M) (a0 : rf_ld ls 0 = some (.ref 353)) (a1 : rf_ld ls 1 = some (zv v1)) (h : w_over v1 M K) : gx (cx0 fz) (0, 0) 178 0 ls [] (M, S) (vq_v B S K) := by
  unfold w_over at h
  refine g1 (n := 1) rfl rfl rfl (la_of a0) ?_
  refine n_gr rfl hS.1 rfl (fun _ => rfl) hR (rk_382 hS).2 ?_
  refine g1 (n := 1) rfl rfl rfl (li_of a1) ?_
  refine g1 (n := 1) rfl rfl rfl rfl ?_
  obtain ⟨q, h⟩ := h
  refine n_is (Nat.le_of_ble_eq_true rfl) rfl (rk_382 hS).1 (Nat.le_of_ble_eq_true rfl) q (fun M1 e r => ?_)
  replace h := h M1 e
  have r1 := hR.trans r
  refine g1 (n := 1) rfl rfl rfl (la_of a0) ?_
  refine n_gr rfl hS.1 rfl (fun _ => rfl) r1 (rk_383 hS).2 ?_
  refine g1 (n := 1) rfl rfl rfl (li_of a1) ?_
  refine g1 (n := 1) rfl rfl rfl rfl ?_
  obtain ⟨q, h⟩ := h
  refine n_is (Nat.le_of_ble_eq_true rfl) rfl (rk_383 hS).1 (Nat.le_of_ble_eq_true rfl) q (fun M2 e r => ?_)
  replace h := h M2 e
  have r2 := r1.trans r
  refine g1 (n := 1) rfl rfl rfl (la_of a0) ?_
  refine n_gr rfl hS.1 rfl (fun _ => rfl) r2 (rk_386 hS).2 ?_
  refine g1 (n := 1) rfl rfl rfl (li_of a1) ?_
  refine g1 (n := 1) rfl rfl rfl rfl ?_
  obtain ⟨q, h⟩ := h
  refine n_is (Nat.le_of_ble_eq_true rfl) rfl (rk_386 hS).1 (Nat.le_of_ble_eq_true rfl) q (fun M3 e r => ?_)
  replace h := h M3 e
  have r3 := r2.trans r
  refine g1 (n := 1) rfl rfl rfl (la_of a0) ?_
  refine n_gr rfl hS.1 rfl (fun _ => rfl) r3 (rk_384 hS).2 ?_
  refine g1 (n := 1) rfl rfl rfl (li_of a1) ?_
  refine g1 (n := 1) rfl rfl rfl rfl ?_
  obtain ⟨q, h⟩ := h
  refine n_is (Nat.le_of_ble_eq_true rfl) rfl (rk_384 hS).1 (Nat.le_of_ble_eq_true rfl) q (fun M4 e r => ?_)
  replace h := h M4 e
  have r4 := r3.trans r
  refine g1 (n := 1) rfl rfl rfl (la_of a0) ?_
  refine n_gr rfl hS.1 rfl (fun _ => rfl) r4 (rk_385 hS).2 ?_
  refine g1 (n := 1) rfl rfl rfl (li_of a1) ?_
  refine g1 (n := 1) rfl rfl rfl rfl ?_
  obtain ⟨q, h⟩ := h
  refine n_zs (Nat.le_of_ble_eq_true rfl) rfl (rk_385 hS).1 (Nat.le_of_ble_eq_true rfl) q (fun M5 e r => ?_)
  replace h := h M5 e
  have r5 := r4.trans r
  refine g1 (n := 1) rfl rfl rfl (la_of a0) ?_
  refine n_gr rfl hS.1 rfl (fun _ => rfl) r5 (rk_381 hS).2 ?_
  refine g1 (n := 1) rfl rfl rfl (li_of a1) ?_
  refine g0 rfl rfl rfl ?_
  obtain ⟨q, h⟩ := h
  refine n_ia rfl (rk_381 hS).1 (Nat.le_of_ble_eq_true rfl) q ?_
  refine g1 (n := 1) rfl rfl rfl rfl ?_
  refine n_sub rfl ?_
  obtain ⟨q, h⟩ := h
  refine n_is (Nat.le_of_ble_eq_true rfl) rfl (rk_381 hS).1 (Nat.le_of_ble_eq_true rfl) q (fun M6 e r => ?_)
  replace h := h M6 e
  have r6 := r5.trans r
  refine g1 (n := 1) rfl rfl rfl rfl ?_
  refine n_s1 (n := 1) rfl rfl rfl rfl (fun ls l1 ho => ?_)
  replace a0 := ho 0 _ (by decide) (fun q => by cases q.2) a0
  have l2 := ho 1 _ (by decide) (fun q => by cases q.2) a1
  exact W_over_47 hS r6 a0 l2 l1 h
def wm_over (x0 : Int) (M : rf_M) (K : rf_M → Prop) : Prop := w_over x0 M K
theorem W_over_m {fz : Bool} {S : gS} {B : rf_M} {M : rf_M} {x0 : Int} {K : rf_M → Prop} (hS : rk fz S B.2.2) (hR : fq B M) (h : wm_over x0 M K) : gx (cx0 fz) (0, 0) 178 0 (lv_args 0 [.ref 353, zv x0]) [] (M, S) (vq_v B S K) :=
  W_over hS hR rfl rfl h
def w_endThrown (v1 : Int) (v2 : Int64) (M : rf_M) (K : Int → rf_M → Prop) : Prop := ((gi M 353 69) = 300 → (K (-1) M)) ∧ (¬ (gi M 353 69) = 300 → (wm_firstOf v1 M (fun (z1 : Int) (M1 : rf_M) => (0 ≤ v1 ∧ v1 < 8) ∧ ((0 ≤ v1 ∧ v1 < 8) ∧ (wm_addRow 2 v1 z1 ((gi M1 383 (v1).toNat) + 1) (gi M1 384 (v1).toNat) v2 M1 (fun (M2 : rf_M) => wm_over v1 M2 (fun (M3 : rf_M) => K 2 M3)))))))
theorem W_endThrown {fz : Bool} {S : gS} {B : rf_M} {M : rf_M} {ls : rf_L} {v1 : Int} {v2 : Int64} {K : Int → rf_M → Prop} (hS : rk fz S B.2.2) (hR : fq B M) (a0 : rf_ld ls 0 = some (.ref 353)) (a1 : rf_ld ls 1 = some (zv v1)) (a2 : rf_ld ls 2 = some (.long v2)) (h : w_endThrown v1 v2 M K) : gx (cx0 fz) (1, 27) 176 0 ls [] (M, S) (vq_i B S K) := by
  unfold w_endThrown at h
  refine g1 (n := 1) rfl rfl rfl (la_of a0) ?_
  refine n_gi rfl hS.1 rfl (fun _ => rfl) ?_
  refine n_si rfl (by decide) ?_
  refine n_ic rfl (inr_gi _ _ _) ⟨by decide, by decide⟩ (fun c => ?_) (fun c => ?_)
  · replace h := h.2 c
    refine g1 (n := 1) rfl rfl rfl (la_of a0) ?_
    refine g1 (n := 1) rfl rfl rfl rfl ?_
    refine g1 (n := 1) rfl rfl rfl (li_of a1) ?_
    refine g1 (n := 1) rfl rfl rfl (la_of a0) ?_
    refine g1 (n := 1) rfl rfl rfl (li_of a1) ?_
    refine m_iv (a := 353) (as := [zv v1]) (rest := [zv v1, zv 2, .ref 353]) rfl (by decide) hS.1 rfl rfl (Nat.le_of_ble_eq_true rfl) ⟨Nat.le_of_ble_eq_true rfl, Nat.le_of_ble_eq_true rfl, Nat.le_of_ble_eq_true rfl⟩ ?_
    refine gx_room (gx_mono (W_firstOf_m hS hR h) ?_) (Nat.le_of_ble_eq_true rfl) (Nat.le_of_ble_eq_true rfl)
    rintro _ _ ⟨z1, M1, rfl, rfl, r1, h⟩
    refine g1 (n := 1) rfl rfl rfl (la_of a0) ?_
    refine n_gr rfl hS.1 rfl (fun _ => rfl) r1 (rk_383 hS).2 ?_
    refine g1 (n := 1) rfl rfl rfl (li_of a1) ?_
    obtain ⟨q, h⟩ := h
    refine n_ia rfl (rk_383 hS).1 (Nat.le_of_ble_eq_true rfl) q ?_
    refine g1 (n := 1) rfl rfl rfl rfl ?_
    refine n_add rfl ?_
    refine g1 (n := 1) rfl rfl rfl (la_of a0) ?_
    refine n_gr rfl hS.1 rfl (fun _ => rfl) r1 (rk_384 hS).2 ?_
    refine g1 (n := 1) rfl rfl rfl (li_of a1) ?_
    obtain ⟨q, h⟩ := h
    refine n_ia rfl (rk_384 hS).1 (Nat.le_of_ble_eq_true rfl) q ?_
    refine g1 (n := 1) rfl rfl rfl (ll_of a2) ?_
    refine m_iv (a := 353) (as := [zv 2, zv v1, zv z1, zv ((gi M1 383 (v1).toNat) + 1), zv (gi M1 384 (v1).toNat), .long v2]) (rest := []) rfl (by decide) hS.1 rfl rfl (Nat.le_of_ble_eq_true rfl) ⟨Nat.le_of_ble_eq_true rfl, Nat.le_of_ble_eq_true rfl, Nat.le_of_ble_eq_true rfl⟩ ?_
    refine gx_room (gx_mono (W_addRow_m hS r1 h) ?_) (Nat.le_of_ble_eq_true rfl) (Nat.le_of_ble_eq_true rfl)
    rintro _ _ ⟨M2, rfl, rfl, r2, h⟩
    refine g1 (n := 1) rfl rfl rfl (la_of a0) ?_
    refine g1 (n := 1) rfl rfl rfl (li_of a1) ?_
    refine m_iv (a := 353) (as := [zv v1]) (rest := []) rfl (by decide) hS.1 rfl rfl (Nat.le_of_ble_eq_true rfl) ⟨Nat.le_of_ble_eq_true rfl, Nat.le_of_ble_eq_true rfl, Nat.le_of_ble_eq_true rfl⟩ ?_
    refine gx_room (gx_mono (W_over_m hS r2 h) ?_) (Nat.le_of_ble_eq_true rfl) (Nat.le_of_ble_eq_true rfl)
    rintro _ _ ⟨M3, rfl, rfl, r3, h⟩
    refine g1 (n := 1) rfl rfl rfl rfl ?_
    exact gx_ret rfl rfl ⟨2, M3, rfl, rfl, r3, h⟩
  · replace h := h.1 (Classical.not_not.mp c)
    refine g1 (n := 1) rfl rfl rfl rfl ?_
    exact gx_ret rfl rfl ⟨(-1), M, rfl, rfl, hR, h⟩
def wm_endThrown (x0 : Int) (x1 : Int64) (M : rf_M) (K : Int → rf_M → Prop) : Prop := w_endThrown x0 x1 M K
theorem W_endThrown_m {fz : Bool} {S : gS} {B : rf_M} {M : rf_M} {x0 : Int} {x1 : Int64} {K : Int → rf_M → Prop} (hS : rk fz S B.2.2) (hR : fq B M) (h : wm_endThrown x0 x1 M K) : gx (cx0 fz) (1, 27) 176 0 (lv_args 0 [.ref 353, zv x0, .long x1]) [] (M, S) (vq_i B S K) :=
  W_endThrown hS hR rfl rfl rfl h
def w_holds_30 (s0 : Int) (M : rf_M) (K : Int → rf_M → Prop) : Prop := (s0 = 0 ∨ s0 = 1) ∧ K s0 M
theorem W_holds_30 {fz : Bool} {S : gS} {B : rf_M} {M : rf_M} {ls : rf_L} {s0 : Int} {K : Int → rf_M → Prop} (hS : rk fz S B.2.2) (hR : fq B M) (h : w_holds_30 s0 M K) : gx (cx0 fz) (3, 67) 181 30 ls [zv s0] (M, S) (vq_i B S K) := by
  unfold w_holds_30 at h
  exact n_rb rfl rfl h.1 hR h.2
def w_holds_29 (M : rf_M) (K : Int → rf_M → Prop) : Prop := w_holds_30 0 M K
theorem W_holds_29 {fz : Bool} {S : gS} {B : rf_M} {M : rf_M} {ls : rf_L} {K : Int → rf_M → Prop} (hS : rk fz S B.2.2) (hR : fq B M) (h : w_holds_29 M K) : gx (cx0 fz) (3, 67) 181 29 ls [] (M, S) (vq_i B S K) := by
  unfold w_holds_29 at h
  refine g1 (n := 1) rfl rfl rfl rfl ?_
  exact W_holds_30 hS hR  h
def w_holds (v1 : Int) (M : rf_M) (K : Int → rf_M → Prop) : Prop := ∀ M1 : rf_M, M1 = wi M 353 65 0 → (wm_work v1 1 M1 (fun (z2 : Int64) (M2 : rf_M) => ((gi M2 353 65) = 0 → (((lg_cmp z2 (Int64.ofNat 0)).toInt = 0 → (w_holds_29 M2 K)) ∧ (¬ ((lg_cmp z2 (Int64.ofNat 0)).toInt = 0) → (w_holds_30 1 M2 K)))) ∧ (¬ (gi M2 353 65) = 0 → (w_holds_29 M2 K))))
theorem W_holds {fz : Bool} {S : gS} {B : rf_M} {M : rf_M} {ls : rf_L} {v1 : Int} {K : Int → rf_M → Prop} (hS : rk fz S B.2.2) (hR : fq B M) (a0 : rf_ld ls 0 = some (.ref 353)) (a1 : rf_ld ls 1 = some (zv v1)) (h : w_holds v1 M K) : gx (cx0 fz) (3, 67) 181 0 ls [] (M, S) (vq_i B S K) := by
  unfold w_holds at h
  refine g1 (n := 1) rfl rfl rfl (la_of a0) ?_
  refine g1 (n := 1) rfl rfl rfl rfl ?_
  refine n_pi (Nat.le_of_ble_eq_true rfl) rfl hS.1 rfl (fun _ _ => rfl) (fun M1 e r => ?_)
  replace h := h M1 e
  have r1 := hR.trans r
  refine g1 (n := 1) rfl rfl rfl (la_of a0) ?_
  refine g1 (n := 1) rfl rfl rfl (li_of a1) ?_
  refine g1 (n := 1) rfl rfl rfl rfl ?_
  refine m_iv (a := 353) (as := [zv v1, zv 1]) (rest := []) rfl (by decide) hS.1 rfl rfl (Nat.le_of_ble_eq_true rfl) ⟨Nat.le_of_ble_eq_true rfl, Nat.le_of_ble_eq_true rfl, Nat.le_of_ble_eq_true rfl⟩ ?_
  refine gx_room (gx_mono (W_work_m hS r1 h) ?_) (Nat.le_of_ble_eq_true rfl) (Nat.le_of_ble_eq_true rfl)
  rintro _ _ ⟨z2, M2, rfl, rfl, r2, h⟩
  refine n_s2 (n := 1) rfl rfl rfl rfl (fun ls l1 ho => ?_)
  replace a0 := ho 0 _ (by decide) (by decide) (fun q => by cases q.2) a0
  refine g1 (n := 1) rfl rfl rfl (la_of a0) ?_
  refine n_gi rfl hS.1 rfl (fun _ => rfl) ?_
  refine n_if rfl (inr_gi _ _ _) (fun c => ?_) (fun c => ?_)
  · replace h := h.2 c
    exact W_holds_29 hS r2  h
  · replace h := h.1 (Classical.not_not.mp c)
    refine g1 (n := 1) rfl rfl rfl (ll_of l1) ?_
    refine g1 (n := 1) rfl rfl rfl rfl ?_
    refine n_op (T := (lg_cmp z2 (Int64.ofNat 0))) rfl rfl rfl ?_
    refine n_if rfl (inr_ti _) (fun c => ?_) (fun c => ?_)
    · replace h := h.1 c
      exact W_holds_29 hS r2  h
    · replace h := h.2 c
      refine g1 (n := 1) rfl rfl rfl rfl ?_
      refine g3 rfl rfl rfl ?_
      exact W_holds_30 hS r2  h
def wm_holds (x0 : Int) (M : rf_M) (K : Int → rf_M → Prop) : Prop := w_holds x0 M K
theorem W_holds_m {fz : Bool} {S : gS} {B : rf_M} {M : rf_M} {x0 : Int} {K : Int → rf_M → Prop} (hS : rk fz S B.2.2) (hR : fq B M) (h : wm_holds x0 M K) : gx (cx0 fz) (3, 67) 181 0 (lv_args 0 [.ref 353, zv x0]) [] (M, S) (vq_i B S K) :=
  W_holds hS hR rfl rfl h
def w_rulesHold_46 (v1 : Int) (M : rf_M) (K : Int → rf_M → Prop) : Prop := (v1 = 0 ∨ v1 = 1) ∧ K v1 M
theorem W_rulesHold_46 {fz : Bool} {S : gS} {B : rf_M} {M : rf_M} {ls : rf_L} {v1 : Int} {K : Int → rf_M → Prop} (hS : rk fz S B.2.2) (hR : fq B M) (a1 : rf_ld ls 1 = some (zv v1)) (h : w_rulesHold_46 v1 M K) : gx (cx0 fz) (4, 90) 180 46 ls [] (M, S) (vq_i B S K) := by
  unfold w_rulesHold_46 at h
  refine g1 (n := 1) rfl rfl rfl (li_of a1) ?_
  exact n_rb rfl rfl h.1 hR h.2
def w_rulesHold_4b (v1 : Int) (v2 : Int) (M : rf_M) (b4 : Int → Int → rf_M → Prop) (K : Int → rf_M → Prop) : Prop := (0 ≤ (gi M 353 42) ∧ (gi M 353 42) < 2) ∧ (inr v2 ∧ (((gi M 378 (gi M 353 42).toNat) ≤ v2 → (w_rulesHold_46 v1 M K)) ∧ (¬ ((gi M 378 (gi M 353 42).toNat) ≤ v2) → (inr v1 ∧ ((v1 = 0 → (w_rulesHold_46 v1 M K)) ∧ (¬ (v1 = 0) → ((0 ≤ ((32 * (gi M 353 42)) + v2) ∧ ((32 * (gi M 353 42)) + v2) < 64) ∧ (wm_holds (gi M 379 ((32 * (gi M 353 42)) + v2).toNat) M (fun (z1 : Int) (M1 : rf_M) => b4 z1 (v2 + 1) M1)))))))))
theorem W_rulesHold_4b {fz : Bool} {S : gS} {B : rf_M} {M : rf_M} {ls : rf_L} {v1 : Int} {v2 : Int} {b4 : Int → Int → rf_M → Prop} {K : Int → rf_M → Prop} (hS : rk fz S B.2.2) (hR : fq B M) (a0 : rf_ld ls 0 = some (.ref 353)) (a1 : rf_ld ls 1 = some (zv v1)) (a2 : rf_ld ls 2 = some (zv v2)) (hb4 : ∀ (v1 : Int) (v2 : Int) (M : rf_M) (ls : rf_L), fq B M → rf_ld ls 0 = some (.ref 353) → rf_ld ls 1 = some (zv v1) → rf_ld ls 2 = some (zv v2) → b4 v1 v2 M → gx (cx0 fz) (4, 90) 180 4 ls [] (M, S) (vq_i B S K)) (h : w_rulesHold_4b v1 v2 M b4 K) : gx (cx0 fz) (4, 90) 180 4 ls [] (M, S) (vq_i B S K) := by
  unfold w_rulesHold_4b at h
  refine g1 (n := 1) rfl rfl rfl (li_of a2) ?_
  refine g1 (n := 1) rfl rfl rfl (la_of a0) ?_
  refine n_gr rfl hS.1 rfl (fun _ => rfl) hR (rk_378 hS).2 ?_
  refine g1 (n := 1) rfl rfl rfl (la_of a0) ?_
  refine n_gi rfl hS.1 rfl (fun _ => rfl) ?_
  obtain ⟨q, h⟩ := h
  refine n_ia rfl (rk_378 hS).1 (Nat.le_of_ble_eq_true rfl) q ?_
  obtain ⟨i1, h⟩ := h
  refine n_ic rfl i1 (inr_gi _ _ _) (fun c => ?_) (fun c => ?_)
  · replace h := h.1 c
    exact W_rulesHold_46 hS hR a1 h
  · replace h := h.2 c
    refine g1 (n := 1) rfl rfl rfl (li_of a1) ?_
    obtain ⟨i2, h⟩ := h
    refine n_if rfl i2 (fun c => ?_) (fun c => ?_)
    · replace h := h.1 c
      exact W_rulesHold_46 hS hR a1 h
    · replace h := h.2 c
      refine g1 (n := 1) rfl rfl rfl (la_of a0) ?_
      refine g1 (n := 1) rfl rfl rfl (la_of a0) ?_
      refine n_gr rfl hS.1 rfl (fun _ => rfl) hR (rk_379 hS).2 ?_
      refine n_bi rfl (by decide) ?_
      refine g1 (n := 1) rfl rfl rfl (la_of a0) ?_
      refine n_gi rfl hS.1 rfl (fun _ => rfl) ?_
      refine n_mul rfl ?_
      refine g1 (n := 1) rfl rfl rfl (li_of a2) ?_
      refine n_add rfl ?_
      obtain ⟨q, h⟩ := h
      refine n_ia rfl (rk_379 hS).1 (Nat.le_of_ble_eq_true rfl) q ?_
      refine m_iv (a := 353) (as := [zv (gi M 379 ((32 * (gi M 353 42)) + v2).toNat)]) (rest := []) rfl (by decide) hS.1 rfl rfl (Nat.le_of_ble_eq_true rfl) ⟨Nat.le_of_ble_eq_true rfl, Nat.le_of_ble_eq_true rfl, Nat.le_of_ble_eq_true rfl⟩ ?_
      refine gx_room (gx_mono (W_holds_m hS hR h) ?_) (Nat.le_of_ble_eq_true rfl) (Nat.le_of_ble_eq_true rfl)
      rintro _ _ ⟨z1, M1, rfl, rfl, r1, h⟩
      refine n_s1 (n := 1) rfl rfl rfl rfl (fun ls l1 ho => ?_)
      replace a0 := ho 0 _ (by decide) (fun q => by cases q.2) a0
      have l2 := ho 2 _ (by decide) (fun q => by cases q.2) a2
      refine n_ii rfl l2 (Nat.le_of_ble_eq_true rfl) (fun ls l3 ho => ?_)
      replace a0 := ho 0 _ (by decide) (fun q => by cases q.2) a0
      have l4 := ho 1 _ (by decide) (fun q => by cases q.2) l1
      refine g3 rfl rfl rfl ?_
      exact hb4 _ _ _ _ r1 a0 l4 l3 h
def w_rulesHold_4 (v1 : Int) (v2 : Int) (M : rf_M) (K : Int → rf_M → Prop) : Prop := ∃ Inv : Nat → Int → Int → rf_M → Prop, (∃ m, Inv m v1 v2 M) ∧ ∀ (m : Nat) (v1 : Int) (v2 : Int) (M : rf_M), Inv m v1 v2 M → w_rulesHold_4b v1 v2 M (fun (v1' : Int) (v2' : Int) (M' : rf_M) => ∃ m', m' < m ∧ Inv m' v1' v2' M') K
theorem W_rulesHold_4 {fz : Bool} {S : gS} {B : rf_M} {M : rf_M} {ls : rf_L} {v1 : Int} {v2 : Int} {K : Int → rf_M → Prop} (hS : rk fz S B.2.2) (hR : fq B M) (a0 : rf_ld ls 0 = some (.ref 353)) (a1 : rf_ld ls 1 = some (zv v1)) (a2 : rf_ld ls 2 = some (zv v2)) (h : w_rulesHold_4 v1 v2 M K) : gx (cx0 fz) (4, 90) 180 4 ls [] (M, S) (vq_i B S K) := by
  obtain ⟨Inv, ⟨m, hm⟩, hb⟩ := h
  induction m using Nat.strongRecOn generalizing ls M v1 v2 with
  | _ m ih =>
    refine W_rulesHold_4b hS hR a0 a1 a2 (fun v1' v2' M' ls' hR' f0 f1 f2 ⟨m', q1, q2⟩ => ih m' q1 hR' f0 f1 f2 q2) (hb m v1 v2 M hm)
def w_rulesHold (M : rf_M) (K : Int → rf_M → Prop) : Prop := w_rulesHold_4 1 0 M K
theorem W_rulesHold {fz : Bool} {S : gS} {B : rf_M} {M : rf_M} {ls : rf_L} {K : Int → rf_M → Prop} (hS : rk fz S B.2.2) (hR : fq B M) (a0 : rf_ld ls 0 = some (.ref 353)) (h : w_rulesHold M K) : gx (cx0 fz) (4, 90) 180 0 ls [] (M, S) (vq_i B S K) := by
  unfold w_rulesHold at h
  refine g1 (n := 1) rfl rfl rfl rfl ?_
  refine n_s1 (n := 1) rfl rfl rfl rfl (fun ls l1 ho => ?_)
  replace a0 := ho 0 _ (by decide) (fun q => by cases q.2) a0
  refine g1 (n := 1) rfl rfl rfl rfl ?_
  refine n_s1 (n := 1) rfl rfl rfl rfl (fun ls l2 ho => ?_)
  replace a0 := ho 0 _ (by decide) (fun q => by cases q.2) a0
  have l3 := ho 1 _ (by decide) (fun q => by cases q.2) l1
  exact W_rulesHold_4 hS hR a0 l3 l2 h
def wm_rulesHold (M : rf_M) (K : Int → rf_M → Prop) : Prop := w_rulesHold  M K
theorem W_rulesHold_m {fz : Bool} {S : gS} {B : rf_M} {M : rf_M} {K : Int → rf_M → Prop} (hS : rk fz S B.2.2) (hR : fq B M) (h : wm_rulesHold  M K) : gx (cx0 fz) (4, 90) 180 0 (lv_args 0 [.ref 353]) [] (M, S) (vq_i B S K) :=
  W_rulesHold hS hR rfl h
def w_isWell_48 (v1 : Int) (s1 : Int) (s2 : Int64) (M : rf_M) (b2 : Int → rf_M → Prop) (K : Int → rf_M → Prop) : Prop := (0 ≤ s1 ∧ s1 < 16) ∧ (∀ M1 : rf_M, M1 = wl M 399 (s1).toNat s2 → (b2 (v1 + 1) M1))
theorem W_isWell_48 {fz : Bool} {S : gS} {B : rf_M} {M : rf_M} {ls : rf_L} {v1 : Int} {s1 : Int} {s2 : Int64} {b2 : Int → rf_M → Prop} {K : Int → rf_M → Prop} (hS : rk fz S B.2.2) (hR : fq B M) (a0 : rf_ld ls 0 = some (.ref 353)) (a1 : rf_ld ls 1 = some (zv v1)) (hb2 : ∀ (v1 : Int) (M : rf_M) (ls : rf_L), fq B M → rf_ld ls 0 = some (.ref 353) → rf_ld ls 1 = some (zv v1) → b2 v1 M → gx (cx0 fz) (5, 112) 179 2 ls [] (M, S) (vq_i B S K)) (h : w_isWell_48 v1 s1 s2 M b2 K) : gx (cx0 fz) (5, 112) 179 48 ls [.long s2, zv s1, .ref 399] (M, S) (vq_i B S K) := by
  unfold w_isWell_48 at h
  obtain ⟨q, h⟩ := h
  refine n_ls (Nat.le_of_ble_eq_true rfl) rfl (rk_399 hS).1 (Nat.le_of_ble_eq_true rfl) q (fun M1 e r => ?_)
  replace h := h M1 e
  have r1 := hR.trans r
  refine n_ii rfl a1 (Nat.le_of_ble_eq_true rfl) (fun ls l1 ho => ?_)
  replace a0 := ho 0 _ (by decide) (fun q => by cases q.2) a0
  refine g3 rfl rfl rfl ?_
  exact hb2 _ _ _ r1 a0 l1 h
def w_isWell_119 (s0 : Int) (M : rf_M) (K : Int → rf_M → Prop) : Prop := (s0 = 0 ∨ s0 = 1) ∧ K s0 M
theorem W_isWell_119 {fz : Bool} {S : gS} {B : rf_M} {M : rf_M} {ls : rf_L} {s0 : Int} {K : Int → rf_M → Prop} (hS : rk fz S B.2.2) (hR : fq B M) (h : w_isWell_119 s0 M K) : gx (cx0 fz) (5, 112) 179 119 ls [zv s0] (M, S) (vq_i B S K) := by
  unfold w_isWell_119 at h
  exact n_rb rfl rfl h.1 hR h.2
def w_isWell_118 (M : rf_M) (K : Int → rf_M → Prop) : Prop := w_isWell_119 0 M K
theorem W_isWell_118 {fz : Bool} {S : gS} {B : rf_M} {M : rf_M} {ls : rf_L} {K : Int → rf_M → Prop} (hS : rk fz S B.2.2) (hR : fq B M) (h : w_isWell_118 M K) : gx (cx0 fz) (5, 112) 179 118 ls [] (M, S) (vq_i B S K) := by
  unfold w_isWell_118 at h
  refine g1 (n := 1) rfl rfl rfl rfl ?_
  exact W_isWell_119 hS hR  h
def w_isWell_91 (v1 : Int) (M : rf_M) (K : Int → rf_M → Prop) : Prop := inr v1 ∧ ((v1 = 0 → (w_isWell_118 M K)) ∧ (¬ (v1 = 0) → ((0 ≤ (gi M 353 42) ∧ (gi M 353 42) < 2) ∧ (inr ((gi M 378 (gi M 353 42).toNat) + (gi M 353 58)) ∧ ((32 < ((gi M 378 (gi M 353 42).toNat) + (gi M 353 58)) → (w_isWell_118 M K)) ∧ (¬ (32 < ((gi M 378 (gi M 353 42).toNat) + (gi M 353 58))) → (w_isWell_119 1 M K)))))))
theorem W_isWell_91 {fz : Bool} {S : gS} {B : rf_M} {M : rf_M} {ls : rf_L} {v1 : Int} {K : Int → rf_M → Prop} (hS : rk fz S B.2.2) (hR : fq B M) (a0 : rf_ld ls 0 = some (.ref 353)) (a1 : rf_ld ls 1 = some (zv v1)) (h : w_isWell_91 v1 M K) : gx (cx0 fz) (5, 112) 179 91 ls [] (M, S) (vq_i B S K) := by
  unfold w_isWell_91 at h
  refine g1 (n := 1) rfl rfl rfl (li_of a1) ?_
  obtain ⟨i1, h⟩ := h
  refine n_if rfl i1 (fun c => ?_) (fun c => ?_)
  · replace h := h.1 c
    exact W_isWell_118 hS hR  h
  · replace h := h.2 c
    refine g1 (n := 1) rfl rfl rfl (la_of a0) ?_
    refine n_gr rfl hS.1 rfl (fun _ => rfl) hR (rk_378 hS).2 ?_
    refine g1 (n := 1) rfl rfl rfl (la_of a0) ?_
    refine n_gi rfl hS.1 rfl (fun _ => rfl) ?_
    obtain ⟨q, h⟩ := h
    refine n_ia rfl (rk_378 hS).1 (Nat.le_of_ble_eq_true rfl) q ?_
    refine g1 (n := 1) rfl rfl rfl (la_of a0) ?_
    refine n_gi rfl hS.1 rfl (fun _ => rfl) ?_
    refine n_add rfl ?_
    refine n_bi rfl (by decide) ?_
    obtain ⟨i2, h⟩ := h
    refine n_ic rfl i2 ⟨by decide, by decide⟩ (fun c => ?_) (fun c => ?_)
    · replace h := h.1 c
      exact W_isWell_118 hS hR  h
    · replace h := h.2 c
      refine g1 (n := 1) rfl rfl rfl rfl ?_
      refine g3 rfl rfl rfl ?_
      exact W_isWell_119 hS hR  h
def w_isWell_62b (v1 : Int) (v2 : Int) (M : rf_M) (b62 : Int → Int → rf_M → Prop) (K : Int → rf_M → Prop) : Prop := inr v2 ∧ (((gi M 353 58) ≤ v2 → (w_isWell_91 v1 M K)) ∧ (¬ ((gi M 353 58) ≤ v2) → (inr v1 ∧ ((v1 = 0 → (w_isWell_91 v1 M K)) ∧ (¬ (v1 = 0) → ((0 ≤ v2 ∧ v2 < 400) ∧ (wm_holds (gi M 393 (v2).toNat) M (fun (z1 : Int) (M1 : rf_M) => b62 z1 (v2 + 1) M1))))))))
theorem W_isWell_62b {fz : Bool} {S : gS} {B : rf_M} {M : rf_M} {ls : rf_L} {v1 : Int} {v2 : Int} {b62 : Int → Int → rf_M → Prop} {K : Int → rf_M → Prop} (hS : rk fz S B.2.2) (hR : fq B M) (a0 : rf_ld ls 0 = some (.ref 353)) (a1 : rf_ld ls 1 = some (zv v1)) (a2 : rf_ld ls 2 = some (zv v2)) (hb62 : ∀ (v1 : Int) (v2 : Int) (M : rf_M) (ls : rf_L), fq B M → rf_ld ls 0 = some (.ref 353) → rf_ld ls 1 = some (zv v1) → rf_ld ls 2 = some (zv v2) → b62 v1 v2 M → gx (cx0 fz) (5, 112) 179 62 ls [] (M, S) (vq_i B S K)) (h : w_isWell_62b v1 v2 M b62 K) : gx (cx0 fz) (5, 112) 179 62 ls [] (M, S) (vq_i B S K) := by
  unfold w_isWell_62b at h
  refine g1 (n := 1) rfl rfl rfl (li_of a2) ?_
  refine g1 (n := 1) rfl rfl rfl (la_of a0) ?_
  refine n_gi rfl hS.1 rfl (fun _ => rfl) ?_
  obtain ⟨i1, h⟩ := h
  refine n_ic rfl i1 (inr_gi _ _ _) (fun c => ?_) (fun c => ?_)
  · replace h := h.1 c
    exact W_isWell_91 hS hR a0 a1 h
  · replace h := h.2 c
    refine g1 (n := 1) rfl rfl rfl (li_of a1) ?_
    obtain ⟨i2, h⟩ := h
    refine n_if rfl i2 (fun c => ?_) (fun c => ?_)
    · replace h := h.1 c
      exact W_isWell_91 hS hR a0 a1 h
    · replace h := h.2 c
      refine g1 (n := 1) rfl rfl rfl (la_of a0) ?_
      refine g1 (n := 1) rfl rfl rfl (la_of a0) ?_
      refine n_gr rfl hS.1 rfl (fun _ => rfl) hR (rk_393 hS).2 ?_
      refine g1 (n := 1) rfl rfl rfl (li_of a2) ?_
      obtain ⟨q, h⟩ := h
      refine n_ia rfl (rk_393 hS).1 (Nat.le_of_ble_eq_true rfl) q ?_
      refine m_iv (a := 353) (as := [zv (gi M 393 (v2).toNat)]) (rest := []) rfl (by decide) hS.1 rfl rfl (Nat.le_of_ble_eq_true rfl) ⟨Nat.le_of_ble_eq_true rfl, Nat.le_of_ble_eq_true rfl, Nat.le_of_ble_eq_true rfl⟩ ?_
      refine gx_room (gx_mono (W_holds_m hS hR h) ?_) (Nat.le_of_ble_eq_true rfl) (Nat.le_of_ble_eq_true rfl)
      rintro _ _ ⟨z1, M1, rfl, rfl, r1, h⟩
      refine n_s1 (n := 1) rfl rfl rfl rfl (fun ls l1 ho => ?_)
      replace a0 := ho 0 _ (by decide) (fun q => by cases q.2) a0
      have l2 := ho 2 _ (by decide) (fun q => by cases q.2) a2
      refine n_ii rfl l2 (Nat.le_of_ble_eq_true rfl) (fun ls l3 ho => ?_)
      replace a0 := ho 0 _ (by decide) (fun q => by cases q.2) a0
      have l4 := ho 1 _ (by decide) (fun q => by cases q.2) l1
      refine g3 rfl rfl rfl ?_
      exact hb62 _ _ _ _ r1 a0 l4 l3 h
def w_isWell_62 (v1 : Int) (v2 : Int) (M : rf_M) (K : Int → rf_M → Prop) : Prop := ∃ Inv : Nat → Int → Int → rf_M → Prop, (∃ m, Inv m v1 v2 M) ∧ ∀ (m : Nat) (v1 : Int) (v2 : Int) (M : rf_M), Inv m v1 v2 M → w_isWell_62b v1 v2 M (fun (v1' : Int) (v2' : Int) (M' : rf_M) => ∃ m', m' < m ∧ Inv m' v1' v2' M') K
theorem W_isWell_62 {fz : Bool} {S : gS} {B : rf_M} {M : rf_M} {ls : rf_L} {v1 : Int} {v2 : Int} {K : Int → rf_M → Prop} (hS : rk fz S B.2.2) (hR : fq B M) (a0 : rf_ld ls 0 = some (.ref 353)) (a1 : rf_ld ls 1 = some (zv v1)) (a2 : rf_ld ls 2 = some (zv v2)) (h : w_isWell_62 v1 v2 M K) : gx (cx0 fz) (5, 112) 179 62 ls [] (M, S) (vq_i B S K) := by
  obtain ⟨Inv, ⟨m, hm⟩, hb⟩ := h
  induction m using Nat.strongRecOn generalizing ls M v1 v2 with
  | _ m ih =>
    refine W_isWell_62b hS hR a0 a1 a2 (fun v1' v2' M' ls' hR' f0 f1 f2 ⟨m', q1, q2⟩ => ih m' q1 hR' f0 f1 f2 q2) (hb m v1 v2 M hm)
def w_isWell_2b (v1 : Int) (M : rf_M) (b2 : Int → rf_M → Prop) (K : Int → rf_M → Prop) : Prop := inr v1 ∧ ((16 ≤ v1 → (wm_rulesHold  M (fun (z1 : Int) (M1 : rf_M) => w_isWell_62 z1 0 M1 K))) ∧ (¬ (16 ≤ v1) → (((Int32.ofInt (Int32.ofInt (gi M 353 55) >>> (Int32.ofInt v1 &&& 31)).toInt &&& Int32.ofInt 1).toInt = 1 → ((0 ≤ v1 ∧ v1 < 16) ∧ (w_isWell_48 v1 v1 (gl M 391 (v1).toNat) M b2 K))) ∧ (¬ (Int32.ofInt (Int32.ofInt (gi M 353 55) >>> (Int32.ofInt v1 &&& 31)).toInt &&& Int32.ofInt 1).toInt = 1 → ((0 ≤ ((16 * (gi M 353 42)) + v1) ∧ ((16 * (gi M 353 42)) + v1) < 32) ∧ (w_isWell_48 v1 v1 (gl M 376 ((16 * (gi M 353 42)) + v1).toNat) M b2 K))))))
theorem W_isWell_2b {fz : Bool} {S : gS} {B : rf_M} {M : rf_M} {ls : rf_L} {v1 : Int} {b2 : Int → rf_M → Prop} {K : Int → rf_M → Prop} (hS : rk fz S B.2.2) (hR : fq B M) (a0 : rf_ld ls 0 = some (.ref 353)) (a1 : rf_ld ls 1 = some (zv v1)) (hb2 : ∀ (v1 : Int) (M : rf_M) (ls : rf_L), fq B M → rf_ld ls 0 = some (.ref 353) → rf_ld ls 1 = some (zv v1) → b2 v1 M → gx (cx0 fz) (5, 112) 179 2 ls [] (M, S) (vq_i B S K)) (h : w_isWell_2b v1 M b2 K) : gx (cx0 fz) (5, 112) 179 2 ls [] (M, S) (vq_i B S K) := by
  unfold w_isWell_2b at h
  refine g1 (n := 1) rfl rfl rfl (li_of a1) ?_
  refine n_bi rfl (by decide) ?_
  obtain ⟨i1, h⟩ := h
  refine n_ic rfl i1 ⟨by decide, by decide⟩ (fun c => ?_) (fun c => ?_)
  · replace h := h.1 c
    refine g1 (n := 1) rfl rfl rfl (la_of a0) ?_
    refine m_iv (a := 353) (as := []) (rest := []) rfl (by decide) hS.1 rfl rfl (Nat.le_of_ble_eq_true rfl) ⟨Nat.le_of_ble_eq_true rfl, Nat.le_of_ble_eq_true rfl, Nat.le_of_ble_eq_true rfl⟩ ?_
    refine gx_room (gx_mono (W_rulesHold_m hS hR h) ?_) (Nat.le_of_ble_eq_true rfl) (Nat.le_of_ble_eq_true rfl)
    rintro _ _ ⟨z1, M1, rfl, rfl, r1, h⟩
    refine n_s1 (n := 1) rfl rfl rfl rfl (fun ls l1 ho => ?_)
    replace a0 := ho 0 _ (by decide) (fun q => by cases q.2) a0
    refine g1 (n := 1) rfl rfl rfl rfl ?_
    refine n_s1 (n := 1) rfl rfl rfl rfl (fun ls l2 ho => ?_)
    replace a0 := ho 0 _ (by decide) (fun q => by cases q.2) a0
    have l3 := ho 1 _ (by decide) (fun q => by cases q.2) l1
    exact W_isWell_62 hS r1 a0 l3 l2 h
  · replace h := h.2 c
    refine g1 (n := 1) rfl rfl rfl (la_of a0) ?_
    refine n_gr rfl hS.1 rfl (fun _ => rfl) hR (rk_399 hS).2 ?_
    refine g1 (n := 1) rfl rfl rfl (li_of a1) ?_
    refine g1 (n := 1) rfl rfl rfl (la_of a0) ?_
    refine n_gi rfl hS.1 rfl (fun _ => rfl) ?_
    refine g1 (n := 1) rfl rfl rfl (li_of a1) ?_
    refine n_op (T := (Int32.ofInt (gi M 353 55) >>> (Int32.ofInt v1 &&& 31))) rfl rfl rfl ?_
    refine g1 (n := 1) rfl rfl rfl rfl ?_
    refine n_op (T := (Int32.ofInt (Int32.ofInt (gi M 353 55) >>> (Int32.ofInt v1 &&& 31)).toInt &&& Int32.ofInt 1)) rfl rfl rfl ?_
    refine g1 (n := 1) rfl rfl rfl rfl ?_
    refine n_ic rfl (inr_ti _) ⟨by decide, by decide⟩ (fun c => ?_) (fun c => ?_)
    · replace h := h.2 c
      refine g1 (n := 1) rfl rfl rfl (la_of a0) ?_
      refine n_gr rfl hS.1 rfl (fun _ => rfl) hR (rk_376 hS).2 ?_
      refine n_bi rfl (by decide) ?_
      refine g1 (n := 1) rfl rfl rfl (la_of a0) ?_
      refine n_gi rfl hS.1 rfl (fun _ => rfl) ?_
      refine n_mul rfl ?_
      refine g1 (n := 1) rfl rfl rfl (li_of a1) ?_
      refine n_add rfl ?_
      obtain ⟨q, h⟩ := h
      refine n_la rfl (rk_376 hS).1 (Nat.le_of_ble_eq_true rfl) q ?_
      exact W_isWell_48 hS hR a0 a1 hb2 h
    · replace h := h.1 (Classical.not_not.mp c)
      refine g1 (n := 1) rfl rfl rfl (la_of a0) ?_
      refine n_gr rfl hS.1 rfl (fun _ => rfl) hR (rk_391 hS).2 ?_
      refine g1 (n := 1) rfl rfl rfl (li_of a1) ?_
      obtain ⟨q, h⟩ := h
      refine n_la rfl (rk_391 hS).1 (Nat.le_of_ble_eq_true rfl) q ?_
      refine g3 rfl rfl rfl ?_
      exact W_isWell_48 hS hR a0 a1 hb2 h
def w_isWell_2 (v1 : Int) (M : rf_M) (K : Int → rf_M → Prop) : Prop := ∃ Inv : Nat → Int → rf_M → Prop, (∃ m, Inv m v1 M) ∧ ∀ (m : Nat) (v1 : Int) (M : rf_M), Inv m v1 M → w_isWell_2b v1 M (fun (v1' : Int) (M' : rf_M) => ∃ m', m' < m ∧ Inv m' v1' M') K
theorem W_isWell_2 {fz : Bool} {S : gS} {B : rf_M} {M : rf_M} {ls : rf_L} {v1 : Int} {K : Int → rf_M → Prop} (hS : rk fz S B.2.2) (hR : fq B M) (a0 : rf_ld ls 0 = some (.ref 353)) (a1 : rf_ld ls 1 = some (zv v1)) (h : w_isWell_2 v1 M K) : gx (cx0 fz) (5, 112) 179 2 ls [] (M, S) (vq_i B S K) := by
  obtain ⟨Inv, ⟨m, hm⟩, hb⟩ := h
  induction m using Nat.strongRecOn generalizing ls M v1 with
  | _ m ih =>
    refine W_isWell_2b hS hR a0 a1 (fun v1' M' ls' hR' f0 f1 ⟨m', q1, q2⟩ => ih m' q1 hR' f0 f1 q2) (hb m v1 M hm)
def w_isWell (M : rf_M) (K : Int → rf_M → Prop) : Prop := w_isWell_2 0 M K
theorem W_isWell {fz : Bool} {S : gS} {B : rf_M} {M : rf_M} {ls : rf_L} {K : Int → rf_M → Prop} (hS : rk fz S B.2.2) (hR : fq B M) (a0 : rf_ld ls 0 = some (.ref 353)) (h : w_isWell M K) : gx (cx0 fz) (5, 112) 179 0 ls [] (M, S) (vq_i B S K) := by
  unfold w_isWell at h
  refine g1 (n := 1) rfl rfl rfl rfl ?_
  refine n_s1 (n := 1) rfl rfl rfl rfl (fun ls l1 ho => ?_)
  replace a0 := ho 0 _ (by decide) (fun q => by cases q.2) a0
  exact W_isWell_2 hS hR a0 l1 h
def wm_isWell (M : rf_M) (K : Int → rf_M → Prop) : Prop := w_isWell  M K
theorem W_isWell_m {fz : Bool} {S : gS} {B : rf_M} {M : rf_M} {K : Int → rf_M → Prop} (hS : rk fz S B.2.2) (hR : fq B M) (h : wm_isWell  M K) : gx (cx0 fz) (5, 112) 179 0 (lv_args 0 [.ref 353]) [] (M, S) (vq_i B S K) :=
  W_isWell hS hR rfl h
def w_bringIn_58 (v1 : Int) (M : rf_M) (b2 : Int → rf_M → Prop) (K : rf_M → Prop) : Prop := b2 (v1 + 1) M
theorem W_bringIn_58 {fz : Bool} {S : gS} {B : rf_M} {M : rf_M} {ls : rf_L} {v1 : Int} {b2 : Int → rf_M → Prop} {K : rf_M → Prop} (hS : rk fz S B.2.2) (hR : fq B M) (a0 : rf_ld ls 0 = some (.ref 353)) (a1 : rf_ld ls 1 = some (zv v1)) (hb2 : ∀ (v1 : Int) (M : rf_M) (ls : rf_L), fq B M → rf_ld ls 0 = some (.ref 353) → rf_ld ls 1 = some (zv v1) → b2 v1 M → gx (cx0 fz) (0, 0) 182 2 ls [] (M, S) (vq_v B S K)) (h : w_bringIn_58 v1 M b2 K) : gx (cx0 fz) (0, 0) 182 58 ls [] (M, S) (vq_v B S K) := by
  unfold w_bringIn_58 at h
  refine n_ii rfl a1 (Nat.le_of_ble_eq_true rfl) (fun ls l1 ho => ?_)
  replace a0 := ho 0 _ (by decide) (fun q => by cases q.2) a0
  refine g3 rfl rfl rfl ?_
  exact hb2 _ _ _ hR a0 l1 h
def w_bringIn_66b (v1 : Int) (M : rf_M) (b66 : Int → rf_M → Prop) (K : rf_M → Prop) : Prop := inr v1 ∧ (((gi M 353 58) ≤ v1 → (K M)) ∧ (¬ ((gi M 353 58) ≤ v1) → ((0 ≤ (gi M 353 42) ∧ (gi M 353 42) < 2) ∧ ((0 ≤ v1 ∧ v1 < 400) ∧ ((0 ≤ ((32 * (gi M 353 42)) + (gi M 378 (gi M 353 42).toNat)) ∧ ((32 * (gi M 353 42)) + (gi M 378 (gi M 353 42).toNat)) < 64) ∧ (∀ M1 : rf_M, M1 = wi M 379 ((32 * (gi M 353 42)) + (gi M 378 (gi M 353 42).toNat)).toNat (gi M 393 (v1).toNat) → ((0 ≤ (gi M1 353 42) ∧ (gi M1 353 42) < 2) ∧ ((0 ≤ (gi M1 353 42) ∧ (gi M1 353 42) < 2) ∧ (∀ M2 : rf_M, M2 = wi M1 378 (gi M1 353 42).toNat ((gi M1 378 (gi M1 353 42).toNat) + 1) → (b66 (v1 + 1) M2))))))))))
theorem W_bringIn_66b {fz : Bool} {S : gS} {B : rf_M} {M : rf_M} {ls : rf_L} {v1 : Int} {b66 : Int → rf_M → Prop} {K : rf_M → Prop} (hS : rk fz S B.2.2) (hR : fq B M) (a0 : rf_ld ls 0 = some (.ref 353)) (a1 : rf_ld ls 1 = some (zv v1)) (hb66 : ∀ (v1 : Int) (M : rf_M) (ls : rf_L), fq B M → rf_ld ls 0 = some (.ref 353) → rf_ld ls 1 = some (zv v1) → b66 v1 M → gx (cx0 fz) (0, 0) 182 66 ls [] (M, S) (vq_v B S K)) (h : w_bringIn_66b v1 M b66 K) : gx (cx0 fz) (0, 0) 182 66 ls [] (M, S) (vq_v B S K) := by
  unfold w_bringIn_66b at h
  refine g1 (n := 1) rfl rfl rfl (li_of a1) ?_
  refine g1 (n := 1) rfl rfl rfl (la_of a0) ?_
  refine n_gi rfl hS.1 rfl (fun _ => rfl) ?_
  obtain ⟨i1, h⟩ := h
  refine n_ic rfl i1 (inr_gi _ _ _) (fun c => ?_) (fun c => ?_)
  · replace h := h.1 c
    exact gx_ret rfl rfl ⟨M, rfl, rfl, hR, h⟩
  · replace h := h.2 c
    refine g1 (n := 1) rfl rfl rfl (la_of a0) ?_
    refine n_gr rfl hS.1 rfl (fun _ => rfl) hR (rk_379 hS).2 ?_
    refine n_bi rfl (by decide) ?_
    refine g1 (n := 1) rfl rfl rfl (la_of a0) ?_
    refine n_gi rfl hS.1 rfl (fun _ => rfl) ?_
    refine n_mul rfl ?_
    refine g1 (n := 1) rfl rfl rfl (la_of a0) ?_
    refine n_gr rfl hS.1 rfl (fun _ => rfl) hR (rk_378 hS).2 ?_
    refine g1 (n := 1) rfl rfl rfl (la_of a0) ?_
    refine n_gi rfl hS.1 rfl (fun _ => rfl) ?_
    obtain ⟨q, h⟩ := h
    refine n_ia rfl (rk_378 hS).1 (Nat.le_of_ble_eq_true rfl) q ?_
    refine n_add rfl ?_
    refine g1 (n := 1) rfl rfl rfl (la_of a0) ?_
    refine n_gr rfl hS.1 rfl (fun _ => rfl) hR (rk_393 hS).2 ?_
    refine g1 (n := 1) rfl rfl rfl (li_of a1) ?_
    obtain ⟨q, h⟩ := h
    refine n_ia rfl (rk_393 hS).1 (Nat.le_of_ble_eq_true rfl) q ?_
    obtain ⟨q, h⟩ := h
    refine n_is (Nat.le_of_ble_eq_true rfl) rfl (rk_379 hS).1 (Nat.le_of_ble_eq_true rfl) q (fun M1 e r => ?_)
    replace h := h M1 e
    have r1 := hR.trans r
    refine g1 (n := 1) rfl rfl rfl (la_of a0) ?_
    refine n_gr rfl hS.1 rfl (fun _ => rfl) r1 (rk_378 hS).2 ?_
    refine g1 (n := 1) rfl rfl rfl (la_of a0) ?_
    refine n_gi rfl hS.1 rfl (fun _ => rfl) ?_
    refine g0 rfl rfl rfl ?_
    obtain ⟨q, h⟩ := h
    refine n_ia rfl (rk_378 hS).1 (Nat.le_of_ble_eq_true rfl) q ?_
    refine g1 (n := 1) rfl rfl rfl rfl ?_
    refine n_add rfl ?_
    obtain ⟨q, h⟩ := h
    refine n_is (Nat.le_of_ble_eq_true rfl) rfl (rk_378 hS).1 (Nat.le_of_ble_eq_true rfl) q (fun M2 e r => ?_)
    replace h := h M2 e
    have r2 := r1.trans r
    refine n_ii rfl a1 (Nat.le_of_ble_eq_true rfl) (fun ls l1 ho => ?_)
    replace a0 := ho 0 _ (by decide) (fun q => by cases q.2) a0
    refine g3 rfl rfl rfl ?_
    exact hb66 _ _ _ r2 a0 l1 h
def w_bringIn_66 (v1 : Int) (M : rf_M) (K : rf_M → Prop) : Prop := ∃ Inv : Nat → Int → rf_M → Prop, (∃ m, Inv m v1 M) ∧ ∀ (m : Nat) (v1 : Int) (M : rf_M), Inv m v1 M → w_bringIn_66b v1 M (fun (v1' : Int) (M' : rf_M) => ∃ m', m' < m ∧ Inv m' v1' M') K
theorem W_bringIn_66 {fz : Bool} {S : gS} {B : rf_M} {M : rf_M} {ls : rf_L} {v1 : Int} {K : rf_M → Prop} (hS : rk fz S B.2.2) (hR : fq B M) (a0 : rf_ld ls 0 = some (.ref 353)) (a1 : rf_ld ls 1 = some (zv v1)) (h : w_bringIn_66 v1 M K) : gx (cx0 fz) (0, 0) 182 66 ls [] (M, S) (vq_v B S K) := by
  obtain ⟨Inv, ⟨m, hm⟩, hb⟩ := h
  induction m using Nat.strongRecOn generalizing ls M v1 with
  | _ m ih =>
    refine W_bringIn_66b hS hR a0 a1 (fun v1' M' ls' hR' f0 f1 ⟨m', q1, q2⟩ => ih m' q1 hR' f0 f1 q2) (hb m v1 M hm)
def w_bringIn_2b (v1 : Int) (M : rf_M) (b2 : Int → rf_M → Prop) (K : rf_M → Prop) : Prop := inr v1 ∧ ((16 ≤ v1 → (w_bringIn_66 0 M K)) ∧ (¬ (16 ≤ v1) → (((Int32.ofInt (Int32.ofInt (gi M 353 55) >>> (Int32.ofInt v1 &&& 31)).toInt &&& Int32.ofInt 1).toInt = 1 → ((0 ≤ v1 ∧ v1 < 16) ∧ ((0 ≤ ((16 * (gi M 353 42)) + v1) ∧ ((16 * (gi M 353 42)) + v1) < 32) ∧ (∀ M1 : rf_M, M1 = wl M 376 ((16 * (gi M 353 42)) + v1).toNat (gl M 391 (v1).toNat) → ((0 ≤ ((16 * (gi M1 353 42)) + v1) ∧ ((16 * (gi M1 353 42)) + v1) < 32) ∧ ((0 ≤ ((16 * (gi M1 353 42)) + v1) ∧ ((16 * (gi M1 353 42)) + v1) < 32) ∧ (∀ M2 : rf_M, M2 = wi M1 377 ((16 * (gi M1 353 42)) + v1).toNat ((gi M1 377 ((16 * (gi M1 353 42)) + v1).toNat) + 1) → (w_bringIn_58 v1 M2 b2 K)))))))) ∧ (¬ (Int32.ofInt (Int32.ofInt (gi M 353 55) >>> (Int32.ofInt v1 &&& 31)).toInt &&& Int32.ofInt 1).toInt = 1 → (w_bringIn_58 v1 M b2 K)))))
theorem W_bringIn_2b {fz : Bool} {S : gS} {B : rf_M} {M : rf_M} {ls : rf_L} {v1 : Int} {b2 : Int → rf_M → Prop} {K : rf_M → Prop} (hS : rk fz S B.2.2) (hR : fq B M) (a0 : rf_ld ls 0 = some (.ref 353)) (a1 : rf_ld ls 1 = some (zv v1)) (hb2 : ∀ (v1 : Int) (M : rf_M) (ls : rf_L), fq B M → rf_ld ls 0 = some (.ref 353) → rf_ld ls 1 = some (zv v1) → b2 v1 M → gx (cx0 fz) (0, 0) 182 2 ls [] (M, S) (vq_v B S K)) (h : w_bringIn_2b v1 M b2 K) : gx (cx0 fz) (0, 0) 182 2 ls [] (M, S) (vq_v B S K) := by
  unfold w_bringIn_2b at h
  refine g1 (n := 1) rfl rfl rfl (li_of a1) ?_
  refine n_bi rfl (by decide) ?_
  obtain ⟨i1, h⟩ := h
  refine n_ic rfl i1 ⟨by decide, by decide⟩ (fun c => ?_) (fun c => ?_)
  · replace h := h.1 c
    refine g1 (n := 1) rfl rfl rfl rfl ?_
    refine n_s1 (n := 1) rfl rfl rfl rfl (fun ls l1 ho => ?_)
    replace a0 := ho 0 _ (by decide) (fun q => by cases q.2) a0
    exact W_bringIn_66 hS hR a0 l1 h
  · replace h := h.2 c
    refine g1 (n := 1) rfl rfl rfl (la_of a0) ?_
    refine n_gi rfl hS.1 rfl (fun _ => rfl) ?_
    refine g1 (n := 1) rfl rfl rfl (li_of a1) ?_
    refine n_op (T := (Int32.ofInt (gi M 353 55) >>> (Int32.ofInt v1 &&& 31))) rfl rfl rfl ?_
    refine g1 (n := 1) rfl rfl rfl rfl ?_
    refine n_op (T := (Int32.ofInt (Int32.ofInt (gi M 353 55) >>> (Int32.ofInt v1 &&& 31)).toInt &&& Int32.ofInt 1)) rfl rfl rfl ?_
    refine g1 (n := 1) rfl rfl rfl rfl ?_
    refine n_ic rfl (inr_ti _) ⟨by decide, by decide⟩ (fun c => ?_) (fun c => ?_)
    · replace h := h.2 c
      exact W_bringIn_58 hS hR a0 a1 hb2 h
    · replace h := h.1 (Classical.not_not.mp c)
      refine g1 (n := 1) rfl rfl rfl (la_of a0) ?_
      refine n_gr rfl hS.1 rfl (fun _ => rfl) hR (rk_376 hS).2 ?_
      refine n_bi rfl (by decide) ?_
      refine g1 (n := 1) rfl rfl rfl (la_of a0) ?_
      refine n_gi rfl hS.1 rfl (fun _ => rfl) ?_
      refine n_mul rfl ?_
      refine g1 (n := 1) rfl rfl rfl (li_of a1) ?_
      refine n_add rfl ?_
      refine g1 (n := 1) rfl rfl rfl (la_of a0) ?_
      refine n_gr rfl hS.1 rfl (fun _ => rfl) hR (rk_391 hS).2 ?_
      refine g1 (n := 1) rfl rfl rfl (li_of a1) ?_
      obtain ⟨q, h⟩ := h
      refine n_la rfl (rk_391 hS).1 (Nat.le_of_ble_eq_true rfl) q ?_
      obtain ⟨q, h⟩ := h
      refine n_ls (Nat.le_of_ble_eq_true rfl) rfl (rk_376 hS).1 (Nat.le_of_ble_eq_true rfl) q (fun M1 e r => ?_)
      replace h := h M1 e
      have r1 := hR.trans r
      refine g1 (n := 1) rfl rfl rfl (la_of a0) ?_
      refine n_gr rfl hS.1 rfl (fun _ => rfl) r1 (rk_377 hS).2 ?_
      refine n_bi rfl (by decide) ?_
      refine g1 (n := 1) rfl rfl rfl (la_of a0) ?_
      refine n_gi rfl hS.1 rfl (fun _ => rfl) ?_
      refine n_mul rfl ?_
      refine g1 (n := 1) rfl rfl rfl (li_of a1) ?_
      refine n_add rfl ?_
      refine g0 rfl rfl rfl ?_
      obtain ⟨q, h⟩ := h
      refine n_ia rfl (rk_377 hS).1 (Nat.le_of_ble_eq_true rfl) q ?_
      refine g1 (n := 1) rfl rfl rfl rfl ?_
      refine n_add rfl ?_
      obtain ⟨q, h⟩ := h
      refine n_is (Nat.le_of_ble_eq_true rfl) rfl (rk_377 hS).1 (Nat.le_of_ble_eq_true rfl) q (fun M2 e r => ?_)
      replace h := h M2 e
      have r2 := r1.trans r
      exact W_bringIn_58 hS r2 a0 a1 hb2 h
def w_bringIn_2 (v1 : Int) (M : rf_M) (K : rf_M → Prop) : Prop := ∃ Inv : Nat → Int → rf_M → Prop, (∃ m, Inv m v1 M) ∧ ∀ (m : Nat) (v1 : Int) (M : rf_M), Inv m v1 M → w_bringIn_2b v1 M (fun (v1' : Int) (M' : rf_M) => ∃ m', m' < m ∧ Inv m' v1' M') K
theorem W_bringIn_2 {fz : Bool} {S : gS} {B : rf_M} {M : rf_M} {ls : rf_L} {v1 : Int} {K : rf_M → Prop} (hS : rk fz S B.2.2) (hR : fq B M) (a0 : rf_ld ls 0 = some (.ref 353)) (a1 : rf_ld ls 1 = some (zv v1)) (h : w_bringIn_2 v1 M K) : gx (cx0 fz) (0, 0) 182 2 ls [] (M, S) (vq_v B S K) := by
  obtain ⟨Inv, ⟨m, hm⟩, hb⟩ := h
  induction m using Nat.strongRecOn generalizing ls M v1 with
  | _ m ih =>
    refine W_bringIn_2b hS hR a0 a1 (fun v1' M' ls' hR' f0 f1 ⟨m', q1, q2⟩ => ih m' q1 hR' f0 f1 q2) (hb m v1 M hm)
def w_bringIn (M : rf_M) (K : rf_M → Prop) : Prop := w_bringIn_2 0 M K
theorem W_bringIn {fz : Bool} {S : gS} {B : rf_M} {M : rf_M} {ls : rf_L} {K : rf_M → Prop} (hS : rk fz S B.2.2) (hR : fq B M) (a0 : rf_ld ls 0 = some (.ref 353)) (h : w_bringIn M K) : gx (cx0 fz) (0, 0) 182 0 ls [] (M, S) (vq_v B S K) := by
  unfold w_bringIn at h
  refine g1 (n := 1) rfl rfl rfl rfl ?_
  refine n_s1 (n := 1) rfl rfl rfl rfl (fun ls l1 ho => ?_)
  replace a0 := ho 0 _ (by decide) (fun q => by cases q.2) a0
  exact W_bringIn_2 hS hR a0 l1 h
def wm_bringIn (M : rf_M) (K : rf_M → Prop) : Prop := w_bringIn  M K
theorem W_bringIn_m {fz : Bool} {S : gS} {B : rf_M} {M : rf_M} {K : rf_M → Prop} (hS : rk fz S B.2.2) (hR : fq B M) (h : wm_bringIn  M K) : gx (cx0 fz) (0, 0) 182 0 (lv_args 0 [.ref 353]) [] (M, S) (vq_v B S K) :=
  W_bringIn hS hR rfl h
def w_turnOf_144 (v1 : Int) (M : rf_M) (K : Int → rf_M → Prop) : Prop := wm_cutRun v1 M (fun (z1 : Int) (M1 : rf_M) => K z1 M1)
theorem W_turnOf_144 {fz : Bool} {S : gS} {B : rf_M} {M : rf_M} {ls : rf_L} {v1 : Int} {K : Int → rf_M → Prop} (hS : rk fz S B.2.2) (hR : fq B M) (a0 : rf_ld ls 0 = some (.ref 353)) (a1 : rf_ld ls 1 = some (zv v1)) (h : w_turnOf_144 v1 M K) : gx (cx0 fz) (6, 134) 156 144 ls [] (M, S) (vq_i B S K) := by
  unfold w_turnOf_144 at h
  refine g1 (n := 1) rfl rfl rfl (la_of a0) ?_
  refine g1 (n := 1) rfl rfl rfl (li_of a1) ?_
  refine m_iv (a := 353) (as := [zv v1]) (rest := []) rfl (by decide) hS.1 rfl rfl (Nat.le_of_ble_eq_true rfl) ⟨Nat.le_of_ble_eq_true rfl, Nat.le_of_ble_eq_true rfl, Nat.le_of_ble_eq_true rfl⟩ ?_
  refine gx_room (gx_mono (W_cutRun_m hS hR h) ?_) (Nat.le_of_ble_eq_true rfl) (Nat.le_of_ble_eq_true rfl)
  rintro _ _ ⟨z1, M1, rfl, rfl, r1, h⟩
  exact gx_ret rfl rfl ⟨z1, M1, rfl, rfl, r1, h⟩
def w_turnOf_111 (v1 : Int) (v2 : Int) (M : rf_M) (K : Int → rf_M → Prop) : Prop := inr v2 ∧ ((v2 = 0 → ((0 ≤ v1 ∧ v1 < 8) ∧ ((0 ≤ v1 ∧ v1 < 8) ∧ (∀ M14 : rf_M, M14 = wi M 383 (v1).toNat ((gi M 383 (v1).toNat) + 1) → (wm_keepRead v1 M14 (fun (M15 : rf_M) => K 0 M15)))))) ∧ (¬ v2 = 0 → (inr v2 ∧ ((v2 = 1 → (w_turnOf_144 v1 M K)) ∧ (¬ (v2 = 1) → (wm_isChanged  M (fun (z1 : Int) (M1 : rf_M) => inr z1 ∧ ((z1 = 0 → (inr v2 ∧ ((v2 = 3 → ((0 ≤ v1 ∧ v1 < 8) ∧ (∀ M10 : rf_M, M10 = wi M1 382 (v1).toNat 2 → ((0 ≤ v1 ∧ v1 < 8) ∧ (∀ M11 : rf_M, M11 = wi M10 383 (v1).toNat 0 → ((0 ≤ v1 ∧ v1 < 8) ∧ (∀ M12 : rf_M, M12 = wi M11 385 (v1).toNat (Int32.ofInt 0 &&& 1).toInt → (wm_keepRead v1 M12 (fun (M13 : rf_M) => K 4 M13))))))))) ∧ (¬ v2 = 3 → (wm_isHeld v1 M1 (fun (z2 : Int) (M2 : rf_M) => inr z2 ∧ ((z2 = 0 → (inr v2 ∧ ((v2 = 2 → (wm_endThrown v1 (gl M2 353 66) M2 (fun (z9 : Int) (M9 : rf_M) => K z9 M9))) ∧ (¬ v2 = 2 → (wm_isWell  M2 (fun (z3 : Int) (M3 : rf_M) => inr z3 ∧ ((z3 = 0 → (wm_endThrown v1 (Int64.ofNat 18446744073709551614) M3 (fun (z8 : Int) (M8 : rf_M) => K z8 M8))) ∧ (¬ z3 = 0 → (((gi M3 353 69) = 300 → (K (-1) M3)) ∧ (¬ (gi M3 353 69) = 300 → (wm_bringIn  M3 (fun (M4 : rf_M) => wm_firstOf v1 M4 (fun (z5 : Int) (M5 : rf_M) => (0 ≤ v1 ∧ v1 < 8) ∧ ((0 ≤ v1 ∧ v1 < 8) ∧ (wm_addRow 1 v1 z5 ((gi M5 383 (v1).toNat) + 1) (gi M5 384 (v1).toNat) (Int64.ofNat 0) M5 (fun (M6 : rf_M) => wm_over v1 M6 (fun (M7 : rf_M) => K 1 M7))))))))))))))))) ∧ (¬ (z2 = 0) → (K 6 M2))))))))) ∧ (¬ (z1 = 0) → (w_turnOf_144 v1 M1 K))))))))))
theorem W_turnOf_111 {fz : Bool} {S : gS} {B : rf_M} {M : rf_M} {ls : rf_L} {v1 : Int} {v2 : Int} {K : Int → rf_M → Prop} (hS : rk fz S B.2.2) (hR : fq B M) (a0 : rf_ld ls 0 = some (.ref 353)) (a1 : rf_ld ls 1 = some (zv v1)) (a2 : rf_ld ls 2 = some (zv v2)) (h : w_turnOf_111 v1 v2 M K) : gx (cx0 fz) (6, 134) 156 111 ls [] (M, S) (vq_i B S K) := by
  unfold w_turnOf_111 at h
  refine g1 (n := 1) rfl rfl rfl (li_of a2) ?_
  obtain ⟨i1, h⟩ := h
  refine n_if rfl i1 (fun c => ?_) (fun c => ?_)
  · replace h := h.2 c
    refine g1 (n := 1) rfl rfl rfl (li_of a2) ?_
    refine g1 (n := 1) rfl rfl rfl rfl ?_
    obtain ⟨i2, h⟩ := h
    refine n_ic rfl i2 ⟨by decide, by decide⟩ (fun c => ?_) (fun c => ?_)
    · replace h := h.1 c
      exact W_turnOf_144 hS hR a0 a1 h
    · replace h := h.2 c
      refine g1 (n := 1) rfl rfl rfl (la_of a0) ?_
      refine m_iv (a := 353) (as := []) (rest := []) rfl (by decide) hS.1 rfl rfl (Nat.le_of_ble_eq_true rfl) ⟨Nat.le_of_ble_eq_true rfl, Nat.le_of_ble_eq_true rfl, Nat.le_of_ble_eq_true rfl⟩ ?_
      refine gx_room (gx_mono (W_isChanged_m hS hR h) ?_) (Nat.le_of_ble_eq_true rfl) (Nat.le_of_ble_eq_true rfl)
      rintro _ _ ⟨z1, M1, rfl, rfl, r1, h⟩
      obtain ⟨i3, h⟩ := h
      refine n_if rfl i3 (fun c => ?_) (fun c => ?_)
      · replace h := h.1 c
        refine g1 (n := 1) rfl rfl rfl (li_of a2) ?_
        refine g1 (n := 1) rfl rfl rfl rfl ?_
        obtain ⟨i4, h⟩ := h
        refine n_ic rfl i4 ⟨by decide, by decide⟩ (fun c => ?_) (fun c => ?_)
        · replace h := h.2 c
          refine g1 (n := 1) rfl rfl rfl (la_of a0) ?_
          refine g1 (n := 1) rfl rfl rfl (li_of a1) ?_
          refine m_iv (a := 353) (as := [zv v1]) (rest := []) rfl (by decide) hS.1 rfl rfl (Nat.le_of_ble_eq_true rfl) ⟨Nat.le_of_ble_eq_true rfl, Nat.le_of_ble_eq_true rfl, Nat.le_of_ble_eq_true rfl⟩ ?_
          refine gx_room (gx_mono (W_isHeld_m hS r1 h) ?_) (Nat.le_of_ble_eq_true rfl) (Nat.le_of_ble_eq_true rfl)
          rintro _ _ ⟨z2, M2, rfl, rfl, r2, h⟩
          obtain ⟨i5, h⟩ := h
          refine n_if rfl i5 (fun c => ?_) (fun c => ?_)
          · replace h := h.1 c
            refine g1 (n := 1) rfl rfl rfl (li_of a2) ?_
            refine g1 (n := 1) rfl rfl rfl rfl ?_
            obtain ⟨i6, h⟩ := h
            refine n_ic rfl i6 ⟨by decide, by decide⟩ (fun c => ?_) (fun c => ?_)
            · replace h := h.2 c
              refine g1 (n := 1) rfl rfl rfl (la_of a0) ?_
              refine m_iv (a := 353) (as := []) (rest := []) rfl (by decide) hS.1 rfl rfl (Nat.le_of_ble_eq_true rfl) ⟨Nat.le_of_ble_eq_true rfl, Nat.le_of_ble_eq_true rfl, Nat.le_of_ble_eq_true rfl⟩ ?_
              refine gx_room (gx_mono (W_isWell_m hS r2 h) ?_) (Nat.le_of_ble_eq_true rfl) (Nat.le_of_ble_eq_true rfl)
              rintro _ _ ⟨z3, M3, rfl, rfl, r3, h⟩
              obtain ⟨i7, h⟩ := h
              refine n_if rfl i7 (fun c => ?_) (fun c => ?_)
              · replace h := h.2 c
                refine g1 (n := 1) rfl rfl rfl (la_of a0) ?_
                refine n_gi rfl hS.1 rfl (fun _ => rfl) ?_
                refine n_si rfl (by decide) ?_
                refine n_ic rfl (inr_gi _ _ _) ⟨by decide, by decide⟩ (fun c => ?_) (fun c => ?_)
                · replace h := h.2 c
                  refine g1 (n := 1) rfl rfl rfl (la_of a0) ?_
                  refine m_iv (a := 353) (as := []) (rest := []) rfl (by decide) hS.1 rfl rfl (Nat.le_of_ble_eq_true rfl) ⟨Nat.le_of_ble_eq_true rfl, Nat.le_of_ble_eq_true rfl, Nat.le_of_ble_eq_true rfl⟩ ?_
                  refine gx_room (gx_mono (W_bringIn_m hS r3 h) ?_) (Nat.le_of_ble_eq_true rfl) (Nat.le_of_ble_eq_true rfl)
                  rintro _ _ ⟨M4, rfl, rfl, r4, h⟩
                  refine g1 (n := 1) rfl rfl rfl (la_of a0) ?_
                  refine g1 (n := 1) rfl rfl rfl rfl ?_
                  refine g1 (n := 1) rfl rfl rfl (li_of a1) ?_
                  refine g1 (n := 1) rfl rfl rfl (la_of a0) ?_
                  refine g1 (n := 1) rfl rfl rfl (li_of a1) ?_
                  refine m_iv (a := 353) (as := [zv v1]) (rest := [zv v1, zv 1, .ref 353]) rfl (by decide) hS.1 rfl rfl (Nat.le_of_ble_eq_true rfl) ⟨Nat.le_of_ble_eq_true rfl, Nat.le_of_ble_eq_true rfl, Nat.le_of_ble_eq_true rfl⟩ ?_
                  refine gx_room (gx_mono (W_firstOf_m hS r4 h) ?_) (Nat.le_of_ble_eq_true rfl) (Nat.le_of_ble_eq_true rfl)
                  rintro _ _ ⟨z5, M5, rfl, rfl, r5, h⟩
                  refine g1 (n := 1) rfl rfl rfl (la_of a0) ?_
                  refine n_gr rfl hS.1 rfl (fun _ => rfl) r5 (rk_383 hS).2 ?_
                  refine g1 (n := 1) rfl rfl rfl (li_of a1) ?_
                  obtain ⟨q, h⟩ := h
                  refine n_ia rfl (rk_383 hS).1 (Nat.le_of_ble_eq_true rfl) q ?_
                  refine g1 (n := 1) rfl rfl rfl rfl ?_
                  refine n_add rfl ?_
                  refine g1 (n := 1) rfl rfl rfl (la_of a0) ?_
                  refine n_gr rfl hS.1 rfl (fun _ => rfl) r5 (rk_384 hS).2 ?_
                  refine g1 (n := 1) rfl rfl rfl (li_of a1) ?_
                  obtain ⟨q, h⟩ := h
                  refine n_ia rfl (rk_384 hS).1 (Nat.le_of_ble_eq_true rfl) q ?_
                  refine g1 (n := 1) rfl rfl rfl rfl ?_
                  refine m_iv (a := 353) (as := [zv 1, zv v1, zv z5, zv ((gi M5 383 (v1).toNat) + 1), zv (gi M5 384 (v1).toNat), .long (Int64.ofNat 0)]) (rest := []) rfl (by decide) hS.1 rfl rfl (Nat.le_of_ble_eq_true rfl) ⟨Nat.le_of_ble_eq_true rfl, Nat.le_of_ble_eq_true rfl, Nat.le_of_ble_eq_true rfl⟩ ?_
                  refine gx_room (gx_mono (W_addRow_m hS r5 h) ?_) (Nat.le_of_ble_eq_true rfl) (Nat.le_of_ble_eq_true rfl)
                  rintro _ _ ⟨M6, rfl, rfl, r6, h⟩
                  refine g1 (n := 1) rfl rfl rfl (la_of a0) ?_
                  refine g1 (n := 1) rfl rfl rfl (li_of a1) ?_
                  refine m_iv (a := 353) (as := [zv v1]) (rest := []) rfl (by decide) hS.1 rfl rfl (Nat.le_of_ble_eq_true rfl) ⟨Nat.le_of_ble_eq_true rfl, Nat.le_of_ble_eq_true rfl, Nat.le_of_ble_eq_true rfl⟩ ?_
                  refine gx_room (gx_mono (W_over_m hS r6 h) ?_) (Nat.le_of_ble_eq_true rfl) (Nat.le_of_ble_eq_true rfl)
                  rintro _ _ ⟨M7, rfl, rfl, r7, h⟩
                  refine g1 (n := 1) rfl rfl rfl rfl ?_
                  exact gx_ret rfl rfl ⟨1, M7, rfl, rfl, r7, h⟩
                · replace h := h.1 (Classical.not_not.mp c)
                  refine g1 (n := 1) rfl rfl rfl rfl ?_
                  exact gx_ret rfl rfl ⟨(-1), M3, rfl, rfl, r3, h⟩
              · replace h := h.1 (Classical.not_not.mp c)
                refine g1 (n := 1) rfl rfl rfl (la_of a0) ?_
                refine g1 (n := 1) rfl rfl rfl (li_of a1) ?_
                refine g7 (n := 3) rfl rfl rfl rfl ?_
                refine m_iv (a := 353) (as := [zv v1, .long (Int64.ofNat 18446744073709551614)]) (rest := []) rfl (by decide) hS.1 rfl rfl (Nat.le_of_ble_eq_true rfl) ⟨Nat.le_of_ble_eq_true rfl, Nat.le_of_ble_eq_true rfl, Nat.le_of_ble_eq_true rfl⟩ ?_
                refine gx_room (gx_mono (W_endThrown_m hS r3 h) ?_) (Nat.le_of_ble_eq_true rfl) (Nat.le_of_ble_eq_true rfl)
                rintro _ _ ⟨z8, M8, rfl, rfl, r8, h⟩
                exact gx_ret rfl rfl ⟨z8, M8, rfl, rfl, r8, h⟩
            · replace h := h.1 (Classical.not_not.mp c)
              refine g1 (n := 1) rfl rfl rfl (la_of a0) ?_
              refine g1 (n := 1) rfl rfl rfl (li_of a1) ?_
              refine g1 (n := 1) rfl rfl rfl (la_of a0) ?_
              refine n_gl rfl hS.1 rfl (fun _ => rfl) ?_
              refine m_iv (a := 353) (as := [zv v1, .long (gl M2 353 66)]) (rest := []) rfl (by decide) hS.1 rfl rfl (Nat.le_of_ble_eq_true rfl) ⟨Nat.le_of_ble_eq_true rfl, Nat.le_of_ble_eq_true rfl, Nat.le_of_ble_eq_true rfl⟩ ?_
              refine gx_room (gx_mono (W_endThrown_m hS r2 h) ?_) (Nat.le_of_ble_eq_true rfl) (Nat.le_of_ble_eq_true rfl)
              rintro _ _ ⟨z9, M9, rfl, rfl, r9, h⟩
              exact gx_ret rfl rfl ⟨z9, M9, rfl, rfl, r9, h⟩
          · replace h := h.2 c
            refine n_bi rfl (by decide) ?_
            exact gx_ret rfl rfl ⟨6, M2, rfl, rfl, r2, h⟩
        · replace h := h.1 (Classical.not_not.mp c)
          refine g1 (n := 1) rfl rfl rfl (la_of a0) ?_
          refine n_gr rfl hS.1 rfl (fun _ => rfl) r1 (rk_382 hS).2 ?_
          refine g1 (n := 1) rfl rfl rfl (li_of a1) ?_
          refine g1 (n := 1) rfl rfl rfl rfl ?_
          obtain ⟨q, h⟩ := h
          refine n_is (Nat.le_of_ble_eq_true rfl) rfl (rk_382 hS).1 (Nat.le_of_ble_eq_true rfl) q (fun M10 e r => ?_)
          replace h := h M10 e
          have r10 := r1.trans r
          refine g1 (n := 1) rfl rfl rfl (la_of a0) ?_
          refine n_gr rfl hS.1 rfl (fun _ => rfl) r10 (rk_383 hS).2 ?_
          refine g1 (n := 1) rfl rfl rfl (li_of a1) ?_
          refine g1 (n := 1) rfl rfl rfl rfl ?_
          obtain ⟨q, h⟩ := h
          refine n_is (Nat.le_of_ble_eq_true rfl) rfl (rk_383 hS).1 (Nat.le_of_ble_eq_true rfl) q (fun M11 e r => ?_)
          replace h := h M11 e
          have r11 := r10.trans r
          refine g1 (n := 1) rfl rfl rfl (la_of a0) ?_
          refine n_gr rfl hS.1 rfl (fun _ => rfl) r11 (rk_385 hS).2 ?_
          refine g1 (n := 1) rfl rfl rfl (li_of a1) ?_
          refine g1 (n := 1) rfl rfl rfl rfl ?_
          obtain ⟨q, h⟩ := h
          refine n_zs (Nat.le_of_ble_eq_true rfl) rfl (rk_385 hS).1 (Nat.le_of_ble_eq_true rfl) q (fun M12 e r => ?_)
          replace h := h M12 e
          have r12 := r11.trans r
          refine g1 (n := 1) rfl rfl rfl (la_of a0) ?_
          refine g1 (n := 1) rfl rfl rfl (li_of a1) ?_
          refine m_iv (a := 353) (as := [zv v1]) (rest := []) rfl (by decide) hS.1 rfl rfl (Nat.le_of_ble_eq_true rfl) ⟨Nat.le_of_ble_eq_true rfl, Nat.le_of_ble_eq_true rfl, Nat.le_of_ble_eq_true rfl⟩ ?_
          refine gx_room (gx_mono (W_keepRead_m hS r12 h) ?_) (Nat.le_of_ble_eq_true rfl) (Nat.le_of_ble_eq_true rfl)
          rintro _ _ ⟨M13, rfl, rfl, r13, h⟩
          refine g1 (n := 1) rfl rfl rfl rfl ?_
          exact gx_ret rfl rfl ⟨4, M13, rfl, rfl, r13, h⟩
      · replace h := h.2 c
        exact W_turnOf_144 hS r1 a0 a1 h
  · replace h := h.1 (Classical.not_not.mp c)
    refine g1 (n := 1) rfl rfl rfl (la_of a0) ?_
    refine n_gr rfl hS.1 rfl (fun _ => rfl) hR (rk_383 hS).2 ?_
    refine g1 (n := 1) rfl rfl rfl (li_of a1) ?_
    refine g0 rfl rfl rfl ?_
    obtain ⟨q, h⟩ := h
    refine n_ia rfl (rk_383 hS).1 (Nat.le_of_ble_eq_true rfl) q ?_
    refine g1 (n := 1) rfl rfl rfl rfl ?_
    refine n_add rfl ?_
    obtain ⟨q, h⟩ := h
    refine n_is (Nat.le_of_ble_eq_true rfl) rfl (rk_383 hS).1 (Nat.le_of_ble_eq_true rfl) q (fun M14 e r => ?_)
    replace h := h M14 e
    have r14 := hR.trans r
    refine g1 (n := 1) rfl rfl rfl (la_of a0) ?_
    refine g1 (n := 1) rfl rfl rfl (li_of a1) ?_
    refine m_iv (a := 353) (as := [zv v1]) (rest := []) rfl (by decide) hS.1 rfl rfl (Nat.le_of_ble_eq_true rfl) ⟨Nat.le_of_ble_eq_true rfl, Nat.le_of_ble_eq_true rfl, Nat.le_of_ble_eq_true rfl⟩ ?_
    refine gx_room (gx_mono (W_keepRead_m hS r14 h) ?_) (Nat.le_of_ble_eq_true rfl) (Nat.le_of_ble_eq_true rfl)
    rintro _ _ ⟨M15, rfl, rfl, r15, h⟩
    refine g1 (n := 1) rfl rfl rfl rfl ?_
    exact gx_ret rfl rfl ⟨0, M15, rfl, rfl, r15, h⟩
def w_turnOf_77 (v1 : Int) (M : rf_M) (K : Int → rf_M → Prop) : Prop := wm_walkAnew v1 M (fun (M1 : rf_M) => (0 ≤ v1 ∧ v1 < 8) ∧ (((gi M1 383 (v1).toNat) = 300 → (∀ M3 : rf_M, M3 = wl M1 353 66 (Int64.ofNat 18446744073709551613) → (w_turnOf_111 v1 2 M3 K))) ∧ (¬ (gi M1 383 (v1).toNat) = 300 → (wm_step  M1 (fun (z2 : Int) (M2 : rf_M) => w_turnOf_111 v1 z2 M2 K)))))
theorem W_turnOf_77 {fz : Bool} {S : gS} {B : rf_M} {M : rf_M} {ls : rf_L} {v1 : Int} {K : Int → rf_M → Prop} (hS : rk fz S B.2.2) (hR : fq B M) (a0 : rf_ld ls 0 = some (.ref 353)) (a1 : rf_ld ls 1 = some (zv v1)) (h : w_turnOf_77 v1 M K) : gx (cx0 fz) (6, 134) 156 77 ls [] (M, S) (vq_i B S K) := by
  unfold w_turnOf_77 at h
  refine g1 (n := 1) rfl rfl rfl (la_of a0) ?_
  refine g1 (n := 1) rfl rfl rfl (li_of a1) ?_
  refine m_iv (a := 353) (as := [zv v1]) (rest := []) rfl (by decide) hS.1 rfl rfl (Nat.le_of_ble_eq_true rfl) ⟨Nat.le_of_ble_eq_true rfl, Nat.le_of_ble_eq_true rfl, Nat.le_of_ble_eq_true rfl⟩ ?_
  refine gx_room (gx_mono (W_walkAnew_m hS hR h) ?_) (Nat.le_of_ble_eq_true rfl) (Nat.le_of_ble_eq_true rfl)
  rintro _ _ ⟨M1, rfl, rfl, r1, h⟩
  refine g1 (n := 1) rfl rfl rfl (la_of a0) ?_
  refine n_gr rfl hS.1 rfl (fun _ => rfl) r1 (rk_383 hS).2 ?_
  refine g1 (n := 1) rfl rfl rfl (li_of a1) ?_
  obtain ⟨q, h⟩ := h
  refine n_ia rfl (rk_383 hS).1 (Nat.le_of_ble_eq_true rfl) q ?_
  refine n_si rfl (by decide) ?_
  refine n_ic rfl (inr_gi _ _ _) ⟨by decide, by decide⟩ (fun c => ?_) (fun c => ?_)
  · replace h := h.2 c
    refine g1 (n := 1) rfl rfl rfl (la_of a0) ?_
    refine m_iv (a := 353) (as := []) (rest := []) rfl (by decide) hS.1 rfl rfl (Nat.le_of_ble_eq_true rfl) ⟨Nat.le_of_ble_eq_true rfl, Nat.le_of_ble_eq_true rfl, Nat.le_of_ble_eq_true rfl⟩ ?_
    refine gx_room (gx_mono (W_step_m hS r1 h) ?_) (Nat.le_of_ble_eq_true rfl) (Nat.le_of_ble_eq_true rfl)
    rintro _ _ ⟨z2, M2, rfl, rfl, r2, h⟩
    refine n_s1 (n := 1) rfl rfl rfl rfl (fun ls l1 ho => ?_)
    replace a0 := ho 0 _ (by decide) (fun q => by cases q.2) a0
    have l2 := ho 1 _ (by decide) (fun q => by cases q.2) a1
    exact W_turnOf_111 hS r2 a0 l2 l1 h
  · replace h := h.1 (Classical.not_not.mp c)
    refine g1 (n := 1) rfl rfl rfl rfl ?_
    refine n_s1 (n := 1) rfl rfl rfl rfl (fun ls l3 ho => ?_)
    replace a0 := ho 0 _ (by decide) (fun q => by cases q.2) a0
    have l4 := ho 1 _ (by decide) (fun q => by cases q.2) a1
    refine g1 (n := 1) rfl rfl rfl (la_of a0) ?_
    refine g7 (n := 3) rfl rfl rfl rfl ?_
    refine n_pl (Nat.le_of_ble_eq_true rfl) rfl hS.1 rfl (fun _ _ => rfl) (fun M3 e r => ?_)
    replace h := h M3 e
    have r3 := r1.trans r
    refine g3 rfl rfl rfl ?_
    exact W_turnOf_111 hS r3 a0 l4 l3 h
def w_turnOf_47 (v1 : Int) (M : rf_M) (K : Int → rf_M → Prop) : Prop := (0 ≤ v1 ∧ v1 < 8) ∧ (((gi M 382 (v1).toNat) = 0 → ((0 ≤ v1 ∧ v1 < 8) ∧ (∀ M1 : rf_M, M1 = wi M 382 (v1).toNat 1 → ((0 ≤ v1 ∧ v1 < 8) ∧ (∀ M2 : rf_M, M2 = wi M1 383 (v1).toNat 0 → ((0 ≤ v1 ∧ v1 < 8) ∧ (∀ M3 : rf_M, M3 = wi M2 386 (v1).toNat 0 → (w_turnOf_77 v1 M3 K)))))))) ∧ (¬ (gi M 382 (v1).toNat) = 0 → (w_turnOf_77 v1 M K)))
theorem W_turnOf_47 {fz : Bool} {S : gS} {B : rf_M} {M : rf_M} {ls : rf_L} {v1 : Int} {K : Int → rf_M → Prop} (hS : rk fz S B.2.2) (hR : fq B M) (a0 : rf_ld ls 0 = some (.ref 353)) (a1 : rf_ld ls 1 = some (zv v1)) (h : w_turnOf_47 v1 M K) : gx (cx0 fz) (6, 134) 156 47 ls [] (M, S) (vq_i B S K) := by
  unfold w_turnOf_47 at h
  refine g1 (n := 1) rfl rfl rfl (la_of a0) ?_
  refine n_gr rfl hS.1 rfl (fun _ => rfl) hR (rk_382 hS).2 ?_
  refine g1 (n := 1) rfl rfl rfl (li_of a1) ?_
  obtain ⟨q, h⟩ := h
  refine n_ia rfl (rk_382 hS).1 (Nat.le_of_ble_eq_true rfl) q ?_
  refine n_if rfl (inr_gi _ _ _) (fun c => ?_) (fun c => ?_)
  · replace h := h.2 c
    exact W_turnOf_77 hS hR a0 a1 h
  · replace h := h.1 (Classical.not_not.mp c)
    refine g1 (n := 1) rfl rfl rfl (la_of a0) ?_
    refine n_gr rfl hS.1 rfl (fun _ => rfl) hR (rk_382 hS).2 ?_
    refine g1 (n := 1) rfl rfl rfl (li_of a1) ?_
    refine g1 (n := 1) rfl rfl rfl rfl ?_
    obtain ⟨q, h⟩ := h
    refine n_is (Nat.le_of_ble_eq_true rfl) rfl (rk_382 hS).1 (Nat.le_of_ble_eq_true rfl) q (fun M1 e r => ?_)
    replace h := h M1 e
    have r1 := hR.trans r
    refine g1 (n := 1) rfl rfl rfl (la_of a0) ?_
    refine n_gr rfl hS.1 rfl (fun _ => rfl) r1 (rk_383 hS).2 ?_
    refine g1 (n := 1) rfl rfl rfl (li_of a1) ?_
    refine g1 (n := 1) rfl rfl rfl rfl ?_
    obtain ⟨q, h⟩ := h
    refine n_is (Nat.le_of_ble_eq_true rfl) rfl (rk_383 hS).1 (Nat.le_of_ble_eq_true rfl) q (fun M2 e r => ?_)
    replace h := h M2 e
    have r2 := r1.trans r
    refine g1 (n := 1) rfl rfl rfl (la_of a0) ?_
    refine n_gr rfl hS.1 rfl (fun _ => rfl) r2 (rk_386 hS).2 ?_
    refine g1 (n := 1) rfl rfl rfl (li_of a1) ?_
    refine g1 (n := 1) rfl rfl rfl rfl ?_
    obtain ⟨q, h⟩ := h
    refine n_is (Nat.le_of_ble_eq_true rfl) rfl (rk_386 hS).1 (Nat.le_of_ble_eq_true rfl) q (fun M3 e r => ?_)
    replace h := h M3 e
    have r3 := r2.trans r
    exact W_turnOf_77 hS r3 a0 a1 h
def w_turnOf (v1 : Int) (M : rf_M) (K : Int → rf_M → Prop) : Prop := (0 ≤ v1 ∧ v1 < 8) ∧ (((gi M 381 (v1).toNat) = 0 → (K 5 M)) ∧ (¬ (gi M 381 (v1).toNat) = 0 → ((0 ≤ v1 ∧ v1 < 8) ∧ (((gi M 382 (v1).toNat) = 2 → (∀ M1 : rf_M, M1 = wi M 353 42 0 → (wm_bringRead v1 M1 (fun (M2 : rf_M) => wm_isChanged  M2 (fun (z3 : Int) (M3 : rf_M) => inr z3 ∧ ((z3 = 0 → (K 4 M3)) ∧ (¬ z3 = 0 → ((0 ≤ v1 ∧ v1 < 8) ∧ (∀ M4 : rf_M, M4 = wi M3 382 (v1).toNat 0 → (w_turnOf_47 v1 M4 K)))))))))) ∧ (¬ (gi M 382 (v1).toNat) = 2 → (w_turnOf_47 v1 M K))))))
theorem W_turnOf {fz : Bool} {S : gS} {B : rf_M} {M : rf_M} {ls : rf_L} {v1 : Int} {K : Int → rf_M → Prop} (hS : rk fz S B.2.2) (hR : fq B M) (a0 : rf_ld ls 0 = some (.ref 353)) (a1 : rf_ld ls 1 = some (zv v1)) (h : w_turnOf v1 M K) : gx (cx0 fz) (6, 134) 156 0 ls [] (M, S) (vq_i B S K) := by
  unfold w_turnOf at h
  refine g1 (n := 1) rfl rfl rfl (la_of a0) ?_
  refine n_gr rfl hS.1 rfl (fun _ => rfl) hR (rk_381 hS).2 ?_
  refine g1 (n := 1) rfl rfl rfl (li_of a1) ?_
  obtain ⟨q, h⟩ := h
  refine n_ia rfl (rk_381 hS).1 (Nat.le_of_ble_eq_true rfl) q ?_
  refine n_if rfl (inr_gi _ _ _) (fun c => ?_) (fun c => ?_)
  · replace h := h.2 c
    refine g1 (n := 1) rfl rfl rfl (la_of a0) ?_
    refine n_gr rfl hS.1 rfl (fun _ => rfl) hR (rk_382 hS).2 ?_
    refine g1 (n := 1) rfl rfl rfl (li_of a1) ?_
    obtain ⟨q, h⟩ := h
    refine n_ia rfl (rk_382 hS).1 (Nat.le_of_ble_eq_true rfl) q ?_
    refine g1 (n := 1) rfl rfl rfl rfl ?_
    refine n_ic rfl (inr_gi _ _ _) ⟨by decide, by decide⟩ (fun c => ?_) (fun c => ?_)
    · replace h := h.2 c
      exact W_turnOf_47 hS hR a0 a1 h
    · replace h := h.1 (Classical.not_not.mp c)
      refine g1 (n := 1) rfl rfl rfl (la_of a0) ?_
      refine g1 (n := 1) rfl rfl rfl rfl ?_
      refine n_pi (Nat.le_of_ble_eq_true rfl) rfl hS.1 rfl (fun _ _ => rfl) (fun M1 e r => ?_)
      replace h := h M1 e
      have r1 := hR.trans r
      refine g1 (n := 1) rfl rfl rfl (la_of a0) ?_
      refine g1 (n := 1) rfl rfl rfl (li_of a1) ?_
      refine m_iv (a := 353) (as := [zv v1]) (rest := []) rfl (by decide) hS.1 rfl rfl (Nat.le_of_ble_eq_true rfl) ⟨Nat.le_of_ble_eq_true rfl, Nat.le_of_ble_eq_true rfl, Nat.le_of_ble_eq_true rfl⟩ ?_
      refine gx_room (gx_mono (W_bringRead_m hS r1 h) ?_) (Nat.le_of_ble_eq_true rfl) (Nat.le_of_ble_eq_true rfl)
      rintro _ _ ⟨M2, rfl, rfl, r2, h⟩
      refine g1 (n := 1) rfl rfl rfl (la_of a0) ?_
      refine m_iv (a := 353) (as := []) (rest := []) rfl (by decide) hS.1 rfl rfl (Nat.le_of_ble_eq_true rfl) ⟨Nat.le_of_ble_eq_true rfl, Nat.le_of_ble_eq_true rfl, Nat.le_of_ble_eq_true rfl⟩ ?_
      refine gx_room (gx_mono (W_isChanged_m hS r2 h) ?_) (Nat.le_of_ble_eq_true rfl) (Nat.le_of_ble_eq_true rfl)
      rintro _ _ ⟨z3, M3, rfl, rfl, r3, h⟩
      obtain ⟨i1, h⟩ := h
      refine n_if rfl i1 (fun c => ?_) (fun c => ?_)
      · replace h := h.2 c
        refine g1 (n := 1) rfl rfl rfl (la_of a0) ?_
        refine n_gr rfl hS.1 rfl (fun _ => rfl) r3 (rk_382 hS).2 ?_
        refine g1 (n := 1) rfl rfl rfl (li_of a1) ?_
        refine g1 (n := 1) rfl rfl rfl rfl ?_
        obtain ⟨q, h⟩ := h
        refine n_is (Nat.le_of_ble_eq_true rfl) rfl (rk_382 hS).1 (Nat.le_of_ble_eq_true rfl) q (fun M4 e r => ?_)
        replace h := h M4 e
        have r4 := r3.trans r
        exact W_turnOf_47 hS r4 a0 a1 h
      · replace h := h.1 (Classical.not_not.mp c)
        refine g1 (n := 1) rfl rfl rfl rfl ?_
        exact gx_ret rfl rfl ⟨4, M3, rfl, rfl, r3, h⟩
  · replace h := h.1 (Classical.not_not.mp c)
    refine g1 (n := 1) rfl rfl rfl rfl ?_
    exact gx_ret rfl rfl ⟨5, M, rfl, rfl, hR, h⟩
def wm_turnOf (x0 : Int) (M : rf_M) (K : Int → rf_M → Prop) : Prop := w_turnOf x0 M K
theorem W_turnOf_m {fz : Bool} {S : gS} {B : rf_M} {M : rf_M} {x0 : Int} {K : Int → rf_M → Prop} (hS : rk fz S B.2.2) (hR : fq B M) (h : wm_turnOf x0 M K) : gx (cx0 fz) (6, 134) 156 0 (lv_args 0 [.ref 353, zv x0]) [] (M, S) (vq_i B S K) :=
  W_turnOf hS hR rfl rfl h
def w_turn_22 (s0 : Int) (M : rf_M) (K : Int → rf_M → Prop) : Prop := K s0 M
theorem W_turn_22 {fz : Bool} {S : gS} {B : rf_M} {M : rf_M} {ls : rf_L} {s0 : Int} {K : Int → rf_M → Prop} (hS : rk fz S B.2.2) (hR : fq B M) (h : w_turn_22 s0 M K) : gx (cx0 fz) (7, 156) 154 22 ls [zv s0] (M, S) (vq_i B S K) := by
  unfold w_turn_22 at h
  exact gx_ret rfl rfl ⟨s0, M, rfl, rfl, hR, h⟩
def w_turn (v1 : Int) (M : rf_M) (K : Int → rf_M → Prop) : Prop := ∀ M1 : rf_M, M1 = wi M 353 0 0 → (wm_isClient v1 M1 (fun (z2 : Int) (M2 : rf_M) => inr z2 ∧ ((z2 = 0 → (w_turn_22 (-1) M2 K)) ∧ (¬ (z2 = 0) → (wm_turnOf v1 M2 (fun (z3 : Int) (M3 : rf_M) => w_turn_22 z3 M3 K))))))
theorem W_turn {fz : Bool} {S : gS} {B : rf_M} {M : rf_M} {ls : rf_L} {v1 : Int} {K : Int → rf_M → Prop} (hS : rk fz S B.2.2) (hR : fq B M) (a0 : rf_ld ls 0 = some (.ref 353)) (a1 : rf_ld ls 1 = some (zv v1)) (h : w_turn v1 M K) : gx (cx0 fz) (7, 156) 154 0 ls [] (M, S) (vq_i B S K) := by
  unfold w_turn at h
  refine g1 (n := 1) rfl rfl rfl (la_of a0) ?_
  refine g1 (n := 1) rfl rfl rfl rfl ?_
  refine n_pi (Nat.le_of_ble_eq_true rfl) rfl hS.1 rfl (fun _ _ => rfl) (fun M1 e r => ?_)
  replace h := h M1 e
  have r1 := hR.trans r
  refine g1 (n := 1) rfl rfl rfl (la_of a0) ?_
  refine g1 (n := 1) rfl rfl rfl (li_of a1) ?_
  refine m_iv (a := 353) (as := [zv v1]) (rest := []) rfl (by decide) hS.1 rfl rfl (Nat.le_of_ble_eq_true rfl) ⟨Nat.le_of_ble_eq_true rfl, Nat.le_of_ble_eq_true rfl, Nat.le_of_ble_eq_true rfl⟩ ?_
  refine gx_room (gx_mono (W_isClient_m hS r1 h) ?_) (Nat.le_of_ble_eq_true rfl) (Nat.le_of_ble_eq_true rfl)
  rintro _ _ ⟨z2, M2, rfl, rfl, r2, h⟩
  obtain ⟨i1, h⟩ := h
  refine n_if rfl i1 (fun c => ?_) (fun c => ?_)
  · replace h := h.1 c
    refine g1 (n := 1) rfl rfl rfl rfl ?_
    exact W_turn_22 hS r2  h
  · replace h := h.2 c
    refine g1 (n := 1) rfl rfl rfl (la_of a0) ?_
    refine g1 (n := 1) rfl rfl rfl (li_of a1) ?_
    refine m_iv (a := 353) (as := [zv v1]) (rest := []) rfl (by decide) hS.1 rfl rfl (Nat.le_of_ble_eq_true rfl) ⟨Nat.le_of_ble_eq_true rfl, Nat.le_of_ble_eq_true rfl, Nat.le_of_ble_eq_true rfl⟩ ?_
    refine gx_room (gx_mono (W_turnOf_m hS r2 h) ?_) (Nat.le_of_ble_eq_true rfl) (Nat.le_of_ble_eq_true rfl)
    rintro _ _ ⟨z3, M3, rfl, rfl, r3, h⟩
    refine g3 rfl rfl rfl ?_
    exact W_turn_22 hS r3  h
def wm_turn (x0 : Int) (M : rf_M) (K : Int → rf_M → Prop) : Prop := w_turn x0 M K
theorem W_turn_m {fz : Bool} {S : gS} {B : rf_M} {M : rf_M} {x0 : Int} {K : Int → rf_M → Prop} (hS : rk fz S B.2.2) (hR : fq B M) (h : wm_turn x0 M K) : gx (cx0 fz) (7, 156) 154 0 (lv_args 0 [.ref 353, zv x0]) [] (M, S) (vq_i B S K) :=
  W_turn hS hR rfl rfl h
def w_play_16 (M : rf_M) (K : Int → rf_M → Prop) : Prop := K (-1) M
theorem W_play_16 {fz : Bool} {S : gS} {B : rf_M} {M : rf_M} {ls : rf_L} {K : Int → rf_M → Prop} (hS : rk fz S B.2.2) (hR : fq B M) (h : w_play_16 M K) : gx (cx0 fz) (7, 156) 183 16 ls [] (M, S) (vq_i B S K) := by
  unfold w_play_16 at h
  refine g1 (n := 1) rfl rfl rfl rfl ?_
  exact gx_ret rfl rfl ⟨(-1), M, rfl, rfl, hR, h⟩
def w_play_66 (v3 : Int) (v4 : Int64) (v7 : Int) (s0 : Int) (s1 : Int) (M : rf_M) (b27 : Int → Int64 → Int → Int → rf_M → Prop) (K : Int → rf_M → Prop) : Prop := b27 v3 v4 (s0 + s1) (v7 + 1) M
theorem W_play_66 {fz : Bool} {S : gS} {B : rf_M} {M : rf_M} {ls : rf_L} {v3 : Int} {v4 : Int64} {v7 : Int} {s0 : Int} {s1 : Int} {b27 : Int → Int64 → Int → Int → rf_M → Prop} {K : Int → rf_M → Prop} (hS : rk fz S B.2.2) (hR : fq B M) (a0 : rf_ld ls 0 = some (.ref 353)) (a3 : rf_ld ls 3 = some (zv v3)) (a4 : rf_ld ls 4 = some (.long v4)) (a7 : rf_ld ls 7 = some (zv v7)) (hb27 : ∀ (v3 : Int) (v4 : Int64) (v6 : Int) (v7 : Int) (M : rf_M) (ls : rf_L), fq B M → rf_ld ls 0 = some (.ref 353) → rf_ld ls 3 = some (zv v3) → rf_ld ls 4 = some (.long v4) → rf_ld ls 6 = some (zv v6) → rf_ld ls 7 = some (zv v7) → b27 v3 v4 v6 v7 M → gx (cx0 fz) (7, 156) 183 27 ls [] (M, S) (vq_i B S K)) (h : w_play_66 v3 v4 v7 s0 s1 M b27 K) : gx (cx0 fz) (7, 156) 183 66 ls [zv s1, zv s0] (M, S) (vq_i B S K) := by
  unfold w_play_66 at h
  refine n_add rfl ?_
  refine n_s1 (n := 2) rfl rfl rfl rfl (fun ls l1 ho => ?_)
  replace a0 := ho 0 _ (by decide) (fun q => by cases q.2) a0
  have l2 := ho 3 _ (by decide) (fun q => by cases q.2) a3
  have l3 := ho 4 _ (by decide) (fun q => absurd q.1 (by decide)) a4
  have l4 := ho 7 _ (by decide) (fun q => by cases q.2) a7
  refine n_ii rfl l4 (Nat.le_of_ble_eq_true rfl) (fun ls l5 ho => ?_)
  replace a0 := ho 0 _ (by decide) (fun q => by cases q.2) a0
  have l6 := ho 3 _ (by decide) (fun q => by cases q.2) l2
  have l7 := ho 4 _ (by decide) (fun q => absurd q.1 (by decide)) l3
  have l8 := ho 6 _ (by decide) (fun q => by cases q.2) l1
  refine g3 rfl rfl rfl ?_
  exact hb27 _ _ _ _ _ _ hR a0 l6 l7 l8 l5 h
def w_play_27b (v3 : Int) (v4 : Int64) (v6 : Int) (v7 : Int) (M : rf_M) (b27 : Int → Int64 → Int → Int → rf_M → Prop) (K : Int → rf_M → Prop) : Prop := inr v7 ∧ (inr v3 ∧ ((v3 ≤ v7 → (K v6 M)) ∧ (¬ (v3 ≤ v7) → (wm_turnOf ((((v4 * (Int64.ofNat 6364136223846793005)) + (Int64.ofNat 1442695040888963407)).toUInt64 >>> ((Int32.ofInt 61).toInt64.toUInt64 &&& Int64.toUInt64 63)).toInt64).toInt32.toInt M (fun (z1 : Int) (M1 : rf_M) => inr z1 ∧ ((z1 = 1 → (w_play_66 v3 ((v4 * (Int64.ofNat 6364136223846793005)) + (Int64.ofNat 1442695040888963407)) v7 v6 1 M1 b27 K)) ∧ (¬ z1 = 1 → (w_play_66 v3 ((v4 * (Int64.ofNat 6364136223846793005)) + (Int64.ofNat 1442695040888963407)) v7 v6 0 M1 b27 K))))))))
theorem W_play_27b {fz : Bool} {S : gS} {B : rf_M} {M : rf_M} {ls : rf_L} {v3 : Int} {v4 : Int64} {v6 : Int} {v7 : Int} {b27 : Int → Int64 → Int → Int → rf_M → Prop} {K : Int → rf_M → Prop} (hS : rk fz S B.2.2) (hR : fq B M) (a0 : rf_ld ls 0 = some (.ref 353)) (a3 : rf_ld ls 3 = some (zv v3)) (a4 : rf_ld ls 4 = some (.long v4)) (a6 : rf_ld ls 6 = some (zv v6)) (a7 : rf_ld ls 7 = some (zv v7)) (hb27 : ∀ (v3 : Int) (v4 : Int64) (v6 : Int) (v7 : Int) (M : rf_M) (ls : rf_L), fq B M → rf_ld ls 0 = some (.ref 353) → rf_ld ls 3 = some (zv v3) → rf_ld ls 4 = some (.long v4) → rf_ld ls 6 = some (zv v6) → rf_ld ls 7 = some (zv v7) → b27 v3 v4 v6 v7 M → gx (cx0 fz) (7, 156) 183 27 ls [] (M, S) (vq_i B S K)) (h : w_play_27b v3 v4 v6 v7 M b27 K) : gx (cx0 fz) (7, 156) 183 27 ls [] (M, S) (vq_i B S K) := by
  unfold w_play_27b at h
  refine g1 (n := 2) rfl rfl rfl (li_of a7) ?_
  refine g1 (n := 1) rfl rfl rfl (li_of a3) ?_
  obtain ⟨i1, h⟩ := h
  obtain ⟨i2, h⟩ := h
  refine n_ic rfl i1 i2 (fun c => ?_) (fun c => ?_)
  · replace h := h.1 c
    refine g1 (n := 2) rfl rfl rfl (li_of a6) ?_
    exact gx_ret rfl rfl ⟨v6, M, rfl, rfl, hR, h⟩
  · replace h := h.2 c
    refine g1 (n := 2) rfl rfl rfl (ll_of a4) ?_
    refine g7 (n := 3) rfl rfl rfl rfl ?_
    refine g0 rfl rfl rfl ?_
    refine g7 (n := 3) rfl rfl rfl rfl ?_
    refine g0 rfl rfl rfl ?_
    refine n_s2 (n := 2) rfl rfl rfl rfl (fun ls l1 ho => ?_)
    replace a0 := ho 0 _ (by decide) (by decide) (fun q => by cases q.2) a0
    have l2 := ho 3 _ (by decide) (by decide) (fun q => by cases q.2) a3
    have l3 := ho 6 _ (by decide) (by decide) (fun q => by cases q.2) a6
    have l4 := ho 7 _ (by decide) (by decide) (fun q => by cases q.2) a7
    refine g1 (n := 2) rfl rfl rfl (li_of l3) ?_
    refine g1 (n := 1) rfl rfl rfl (la_of a0) ?_
    refine g1 (n := 2) rfl rfl rfl (ll_of l1) ?_
    refine n_bi rfl (by decide) ?_
    refine g0 rfl rfl rfl ?_
    refine n_op (T := ((((v4 * (Int64.ofNat 6364136223846793005)) + (Int64.ofNat 1442695040888963407)).toUInt64 >>> ((Int32.ofInt 61).toInt64.toUInt64 &&& Int64.toUInt64 63)).toInt64).toInt32) rfl rfl rfl ?_
    refine m_iv (a := 353) (as := [zv ((((v4 * (Int64.ofNat 6364136223846793005)) + (Int64.ofNat 1442695040888963407)).toUInt64 >>> ((Int32.ofInt 61).toInt64.toUInt64 &&& Int64.toUInt64 63)).toInt64).toInt32.toInt]) (rest := [zv v6]) rfl (by decide) hS.1 rfl rfl (Nat.le_of_ble_eq_true rfl) ⟨Nat.le_of_ble_eq_true rfl, Nat.le_of_ble_eq_true rfl, Nat.le_of_ble_eq_true rfl⟩ ?_
    refine gx_room (gx_mono (W_turnOf_m hS hR h) ?_) (Nat.le_of_ble_eq_true rfl) (Nat.le_of_ble_eq_true rfl)
    rintro _ _ ⟨z1, M1, rfl, rfl, r1, h⟩
    refine g1 (n := 1) rfl rfl rfl rfl ?_
    obtain ⟨i3, h⟩ := h
    refine n_ic rfl i3 ⟨by decide, by decide⟩ (fun c => ?_) (fun c => ?_)
    · replace h := h.2 c
      refine g1 (n := 1) rfl rfl rfl rfl ?_
      exact W_play_66 hS r1 a0 l2 l1 l4 hb27 h
    · replace h := h.1 (Classical.not_not.mp c)
      refine g1 (n := 1) rfl rfl rfl rfl ?_
      refine g3 rfl rfl rfl ?_
      exact W_play_66 hS r1 a0 l2 l1 l4 hb27 h
def w_play_27 (v3 : Int) (v4 : Int64) (v6 : Int) (v7 : Int) (M : rf_M) (K : Int → rf_M → Prop) : Prop := ∃ Inv : Nat → Int → Int64 → Int → Int → rf_M → Prop, (∃ m, Inv m v3 v4 v6 v7 M) ∧ ∀ (m : Nat) (v3 : Int) (v4 : Int64) (v6 : Int) (v7 : Int) (M : rf_M), Inv m v3 v4 v6 v7 M → w_play_27b v3 v4 v6 v7 M (fun (v3' : Int) (v4' : Int64) (v6' : Int) (v7' : Int) (M' : rf_M) => ∃ m', m' < m ∧ Inv m' v3' v4' v6' v7' M') K
theorem W_play_27 {fz : Bool} {S : gS} {B : rf_M} {M : rf_M} {ls : rf_L} {v3 : Int} {v4 : Int64} {v6 : Int} {v7 : Int} {K : Int → rf_M → Prop} (hS : rk fz S B.2.2) (hR : fq B M) (a0 : rf_ld ls 0 = some (.ref 353)) (a3 : rf_ld ls 3 = some (zv v3)) (a4 : rf_ld ls 4 = some (.long v4)) (a6 : rf_ld ls 6 = some (zv v6)) (a7 : rf_ld ls 7 = some (zv v7)) (h : w_play_27 v3 v4 v6 v7 M K) : gx (cx0 fz) (7, 156) 183 27 ls [] (M, S) (vq_i B S K) := by
  obtain ⟨Inv, ⟨m, hm⟩, hb⟩ := h
  induction m using Nat.strongRecOn generalizing ls M v3 v4 v6 v7 with
  | _ m ih =>
    refine W_play_27b hS hR a0 a3 a4 a6 a7 (fun v3' v4' v6' v7' M' ls' hR' f0 f1 f2 f3 f4 ⟨m', q1, q2⟩ => ih m' q1 hR' f0 f1 f2 f3 f4 q2) (hb m v3 v4 v6 v7 M hm)
def w_play (v1 : Int64) (v3 : Int) (M : rf_M) (K : Int → rf_M → Prop) : Prop := ∀ M1 : rf_M, M1 = wi M 353 0 0 → (inr v3 ∧ ((v3 < 0 → (w_play_16 M1 K)) ∧ (¬ (v3 < 0) → (inr v3 ∧ ((v3 ≤ 2000 → (w_play_27 v3 v1 0 0 M1 K)) ∧ (¬ (v3 ≤ 2000) → (w_play_16 M1 K)))))))
theorem W_play {fz : Bool} {S : gS} {B : rf_M} {M : rf_M} {ls : rf_L} {v1 : Int64} {v3 : Int} {K : Int → rf_M → Prop} (hS : rk fz S B.2.2) (hR : fq B M) (a0 : rf_ld ls 0 = some (.ref 353)) (a1 : rf_ld ls 1 = some (.long v1)) (a3 : rf_ld ls 3 = some (zv v3)) (h : w_play v1 v3 M K) : gx (cx0 fz) (7, 156) 183 0 ls [] (M, S) (vq_i B S K) := by
  unfold w_play at h
  refine g1 (n := 1) rfl rfl rfl (la_of a0) ?_
  refine g1 (n := 1) rfl rfl rfl rfl ?_
  refine n_pi (Nat.le_of_ble_eq_true rfl) rfl hS.1 rfl (fun _ _ => rfl) (fun M1 e r => ?_)
  replace h := h M1 e
  have r1 := hR.trans r
  refine g1 (n := 1) rfl rfl rfl (li_of a3) ?_
  obtain ⟨i1, h⟩ := h
  refine n_if rfl i1 (fun c => ?_) (fun c => ?_)
  · replace h := h.1 c
    exact W_play_16 hS r1  h
  · replace h := h.2 c
    refine g1 (n := 1) rfl rfl rfl (li_of a3) ?_
    refine n_si rfl (by decide) ?_
    obtain ⟨i2, h⟩ := h
    refine n_ic rfl i2 ⟨by decide, by decide⟩ (fun c => ?_) (fun c => ?_)
    · replace h := h.1 c
      refine g1 (n := 1) rfl rfl rfl (ll_of a1) ?_
      refine n_s2 (n := 2) rfl rfl rfl rfl (fun ls l1 ho => ?_)
      replace a0 := ho 0 _ (by decide) (by decide) (fun q => by cases q.2) a0
      have l2 := ho 3 _ (by decide) (by decide) (fun q => by cases q.2) a3
      refine g1 (n := 1) rfl rfl rfl rfl ?_
      refine n_s1 (n := 2) rfl rfl rfl rfl (fun ls l3 ho => ?_)
      replace a0 := ho 0 _ (by decide) (fun q => by cases q.2) a0
      have l4 := ho 3 _ (by decide) (fun q => by cases q.2) l2
      have l5 := ho 4 _ (by decide) (fun q => absurd q.1 (by decide)) l1
      refine g1 (n := 1) rfl rfl rfl rfl ?_
      refine n_s1 (n := 2) rfl rfl rfl rfl (fun ls l6 ho => ?_)
      replace a0 := ho 0 _ (by decide) (fun q => by cases q.2) a0
      have l7 := ho 3 _ (by decide) (fun q => by cases q.2) l4
      have l8 := ho 4 _ (by decide) (fun q => absurd q.1 (by decide)) l5
      have l9 := ho 6 _ (by decide) (fun q => by cases q.2) l3
      exact W_play_27 hS r1 a0 l7 l8 l9 l6 h
    · replace h := h.2 c
      exact W_play_16 hS r1  h
def wm_play (x0 : Int64) (x1 : Int) (M : rf_M) (K : Int → rf_M → Prop) : Prop := w_play x0 x1 M K
theorem W_play_m {fz : Bool} {S : gS} {B : rf_M} {M : rf_M} {x0 : Int64} {x1 : Int} {K : Int → rf_M → Prop} (hS : rk fz S B.2.2) (hR : fq B M) (h : wm_play x0 x1 M K) : gx (cx0 fz) (7, 156) 183 0 (lv_args 0 [.ref 353, .long x0, zv x1]) [] (M, S) (vq_i B S K) :=
  W_play hS hR rfl rfl rfl h
def w_put_25 (M : rf_M) (K : Int → rf_M → Prop) : Prop := K (-1) M
theorem W_put_25 {fz : Bool} {S : gS} {B : rf_M} {M : rf_M} {ls : rf_L} {K : Int → rf_M → Prop} (hS : rk fz S B.2.2) (hR : fq B M) (h : w_put_25 M K) : gx (cx0 fz) (5, 112) 184 25 ls [] (M, S) (vq_i B S K) := by
  unfold w_put_25 at h
  refine g1 (n := 1) rfl rfl rfl rfl ?_
  exact gx_ret rfl rfl ⟨(-1), M, rfl, rfl, hR, h⟩
def w_put_65 (v1 : Int) (v2 : Int64) (v4 : Int) (s1 : Int) (s2 : Int64) (M : rf_M) (b35 : Int → Int64 → Int → rf_M → Prop) (K : Int → rf_M → Prop) : Prop := (0 ≤ s1 ∧ s1 < 16) ∧ (∀ M1 : rf_M, M1 = wl M 399 (s1).toNat s2 → (b35 v1 v2 (v4 + 1) M1))
theorem W_put_65 {fz : Bool} {S : gS} {B : rf_M} {M : rf_M} {ls : rf_L} {v1 : Int} {v2 : Int64} {v4 : Int} {s1 : Int} {s2 : Int64} {b35 : Int → Int64 → Int → rf_M → Prop} {K : Int → rf_M → Prop} (hS : rk fz S B.2.2) (hR : fq B M) (a0 : rf_ld ls 0 = some (.ref 353)) (a1 : rf_ld ls 1 = some (zv v1)) (a2 : rf_ld ls 2 = some (.long v2)) (a4 : rf_ld ls 4 = some (zv v4)) (hb35 : ∀ (v1 : Int) (v2 : Int64) (v4 : Int) (M : rf_M) (ls : rf_L), fq B M → rf_ld ls 0 = some (.ref 353) → rf_ld ls 1 = some (zv v1) → rf_ld ls 2 = some (.long v2) → rf_ld ls 4 = some (zv v4) → b35 v1 v2 v4 M → gx (cx0 fz) (5, 112) 184 35 ls [] (M, S) (vq_i B S K)) (h : w_put_65 v1 v2 v4 s1 s2 M b35 K) : gx (cx0 fz) (5, 112) 184 65 ls [.long s2, zv s1, .ref 399] (M, S) (vq_i B S K) := by
  unfold w_put_65 at h
  obtain ⟨q, h⟩ := h
  refine n_ls (Nat.le_of_ble_eq_true rfl) rfl (rk_399 hS).1 (Nat.le_of_ble_eq_true rfl) q (fun M1 e r => ?_)
  replace h := h M1 e
  have r1 := hR.trans r
  refine n_ii rfl a4 (Nat.le_of_ble_eq_true rfl) (fun ls l1 ho => ?_)
  replace a0 := ho 0 _ (by decide) (fun q => by cases q.2) a0
  have l2 := ho 1 _ (by decide) (fun q => by cases q.2) a1
  have l3 := ho 2 _ (by decide) (fun q => absurd q.1 (by decide)) a2
  refine g3 rfl rfl rfl ?_
  exact hb35 _ _ _ _ _ r1 a0 l2 l3 l1 h
def w_put_35b (v1 : Int) (v2 : Int64) (v4 : Int) (M : rf_M) (b35 : Int → Int64 → Int → rf_M → Prop) (K : Int → rf_M → Prop) : Prop := inr v4 ∧ ((16 ≤ v4 → (wm_rulesHold  M (fun (z1 : Int) (M1 : rf_M) => inr z1 ∧ ((z1 = 0 → (K (-2) M1)) ∧ (¬ z1 = 0 → ((0 ≤ v1 ∧ v1 < 32) ∧ (∀ M2 : rf_M, M2 = wl M1 376 (v1).toNat v2 → ((0 ≤ v1 ∧ v1 < 32) ∧ ((0 ≤ v1 ∧ v1 < 32) ∧ (∀ M3 : rf_M, M3 = wi M2 377 (v1).toNat ((gi M2 377 (v1).toNat) + 1) → (wm_addRow 0 (-1) v1 0 0 v2 M3 (fun (M4 : rf_M) => (0 ≤ v1 ∧ v1 < 32) ∧ (K (gi M4 377 (v1).toNat) M4))))))))))))) ∧ (¬ (16 ≤ v4) → (inr v4 ∧ (inr v1 ∧ ((v4 = v1 → (w_put_65 v1 v2 v4 v4 v2 M b35 K)) ∧ (¬ v4 = v1 → ((0 ≤ v4 ∧ v4 < 32) ∧ (w_put_65 v1 v2 v4 v4 (gl M 376 (v4).toNat) M b35 K))))))))
theorem W_put_35b {fz : Bool} {S : gS} {B : rf_M} {M : rf_M} {ls : rf_L} {v1 : Int} {v2 : Int64} {v4 : Int} {b35 : Int → Int64 → Int → rf_M → Prop} {K : Int → rf_M → Prop} (hS : rk fz S B.2.2) (hR : fq B M) (a0 : rf_ld ls 0 = some (.ref 353)) (a1 : rf_ld ls 1 = some (zv v1)) (a2 : rf_ld ls 2 = some (.long v2)) (a4 : rf_ld ls 4 = some (zv v4)) (hb35 : ∀ (v1 : Int) (v2 : Int64) (v4 : Int) (M : rf_M) (ls : rf_L), fq B M → rf_ld ls 0 = some (.ref 353) → rf_ld ls 1 = some (zv v1) → rf_ld ls 2 = some (.long v2) → rf_ld ls 4 = some (zv v4) → b35 v1 v2 v4 M → gx (cx0 fz) (5, 112) 184 35 ls [] (M, S) (vq_i B S K)) (h : w_put_35b v1 v2 v4 M b35 K) : gx (cx0 fz) (5, 112) 184 35 ls [] (M, S) (vq_i B S K) := by
  unfold w_put_35b at h
  refine g1 (n := 2) rfl rfl rfl (li_of a4) ?_
  refine n_bi rfl (by decide) ?_
  obtain ⟨i1, h⟩ := h
  refine n_ic rfl i1 ⟨by decide, by decide⟩ (fun c => ?_) (fun c => ?_)
  · replace h := h.1 c
    refine g1 (n := 1) rfl rfl rfl (la_of a0) ?_
    refine m_iv (a := 353) (as := []) (rest := []) rfl (by decide) hS.1 rfl rfl (Nat.le_of_ble_eq_true rfl) ⟨Nat.le_of_ble_eq_true rfl, Nat.le_of_ble_eq_true rfl, Nat.le_of_ble_eq_true rfl⟩ ?_
    refine gx_room (gx_mono (W_rulesHold_m hS hR h) ?_) (Nat.le_of_ble_eq_true rfl) (Nat.le_of_ble_eq_true rfl)
    rintro _ _ ⟨z1, M1, rfl, rfl, r1, h⟩
    obtain ⟨i2, h⟩ := h
    refine n_if rfl i2 (fun c => ?_) (fun c => ?_)
    · replace h := h.2 c
      refine g1 (n := 1) rfl rfl rfl (la_of a0) ?_
      refine n_gr rfl hS.1 rfl (fun _ => rfl) r1 (rk_376 hS).2 ?_
      refine g1 (n := 1) rfl rfl rfl (li_of a1) ?_
      refine g1 (n := 1) rfl rfl rfl (ll_of a2) ?_
      obtain ⟨q, h⟩ := h
      refine n_ls (Nat.le_of_ble_eq_true rfl) rfl (rk_376 hS).1 (Nat.le_of_ble_eq_true rfl) q (fun M2 e r => ?_)
      replace h := h M2 e
      have r2 := r1.trans r
      refine g1 (n := 1) rfl rfl rfl (la_of a0) ?_
      refine n_gr rfl hS.1 rfl (fun _ => rfl) r2 (rk_377 hS).2 ?_
      refine g1 (n := 1) rfl rfl rfl (li_of a1) ?_
      refine g0 rfl rfl rfl ?_
      obtain ⟨q, h⟩ := h
      refine n_ia rfl (rk_377 hS).1 (Nat.le_of_ble_eq_true rfl) q ?_
      refine g1 (n := 1) rfl rfl rfl rfl ?_
      refine n_add rfl ?_
      obtain ⟨q, h⟩ := h
      refine n_is (Nat.le_of_ble_eq_true rfl) rfl (rk_377 hS).1 (Nat.le_of_ble_eq_true rfl) q (fun M3 e r => ?_)
      replace h := h M3 e
      have r3 := r2.trans r
      refine g1 (n := 1) rfl rfl rfl (la_of a0) ?_
      refine g1 (n := 1) rfl rfl rfl rfl ?_
      refine g1 (n := 1) rfl rfl rfl rfl ?_
      refine g1 (n := 1) rfl rfl rfl (li_of a1) ?_
      refine g1 (n := 1) rfl rfl rfl rfl ?_
      refine g1 (n := 1) rfl rfl rfl rfl ?_
      refine g1 (n := 1) rfl rfl rfl (ll_of a2) ?_
      refine m_iv (a := 353) (as := [zv 0, zv (-1), zv v1, zv 0, zv 0, .long v2]) (rest := []) rfl (by decide) hS.1 rfl rfl (Nat.le_of_ble_eq_true rfl) ⟨Nat.le_of_ble_eq_true rfl, Nat.le_of_ble_eq_true rfl, Nat.le_of_ble_eq_true rfl⟩ ?_
      refine gx_room (gx_mono (W_addRow_m hS r3 h) ?_) (Nat.le_of_ble_eq_true rfl) (Nat.le_of_ble_eq_true rfl)
      rintro _ _ ⟨M4, rfl, rfl, r4, h⟩
      refine g1 (n := 1) rfl rfl rfl (la_of a0) ?_
      refine n_gr rfl hS.1 rfl (fun _ => rfl) r4 (rk_377 hS).2 ?_
      refine g1 (n := 1) rfl rfl rfl (li_of a1) ?_
      obtain ⟨q, h⟩ := h
      refine n_ia rfl (rk_377 hS).1 (Nat.le_of_ble_eq_true rfl) q ?_
      exact gx_ret rfl rfl ⟨(gi M4 377 (v1).toNat), M4, rfl, rfl, r4, h⟩
    · replace h := h.1 (Classical.not_not.mp c)
      refine n_bi rfl (by decide) ?_
      exact gx_ret rfl rfl ⟨(-2), M1, rfl, rfl, r1, h⟩
  · replace h := h.2 c
    refine g1 (n := 1) rfl rfl rfl (la_of a0) ?_
    refine n_gr rfl hS.1 rfl (fun _ => rfl) hR (rk_399 hS).2 ?_
    refine g1 (n := 2) rfl rfl rfl (li_of a4) ?_
    refine g1 (n := 2) rfl rfl rfl (li_of a4) ?_
    refine g1 (n := 1) rfl rfl rfl (li_of a1) ?_
    obtain ⟨i3, h⟩ := h
    obtain ⟨i4, h⟩ := h
    refine n_ic rfl i3 i4 (fun c => ?_) (fun c => ?_)
    · replace h := h.2 c
      refine g1 (n := 1) rfl rfl rfl (la_of a0) ?_
      refine n_gr rfl hS.1 rfl (fun _ => rfl) hR (rk_376 hS).2 ?_
      refine g1 (n := 2) rfl rfl rfl (li_of a4) ?_
      obtain ⟨q, h⟩ := h
      refine n_la rfl (rk_376 hS).1 (Nat.le_of_ble_eq_true rfl) q ?_
      exact W_put_65 hS hR a0 a1 a2 a4 hb35 h
    · replace h := h.1 (Classical.not_not.mp c)
      refine g1 (n := 1) rfl rfl rfl (ll_of a2) ?_
      refine g3 rfl rfl rfl ?_
      exact W_put_65 hS hR a0 a1 a2 a4 hb35 h
def w_put_35 (v1 : Int) (v2 : Int64) (v4 : Int) (M : rf_M) (K : Int → rf_M → Prop) : Prop := ∃ Inv : Nat → Int → Int64 → Int → rf_M → Prop, (∃ m, Inv m v1 v2 v4 M) ∧ ∀ (m : Nat) (v1 : Int) (v2 : Int64) (v4 : Int) (M : rf_M), Inv m v1 v2 v4 M → w_put_35b v1 v2 v4 M (fun (v1' : Int) (v2' : Int64) (v4' : Int) (M' : rf_M) => ∃ m', m' < m ∧ Inv m' v1' v2' v4' M') K
theorem W_put_35 {fz : Bool} {S : gS} {B : rf_M} {M : rf_M} {ls : rf_L} {v1 : Int} {v2 : Int64} {v4 : Int} {K : Int → rf_M → Prop} (hS : rk fz S B.2.2) (hR : fq B M) (a0 : rf_ld ls 0 = some (.ref 353)) (a1 : rf_ld ls 1 = some (zv v1)) (a2 : rf_ld ls 2 = some (.long v2)) (a4 : rf_ld ls 4 = some (zv v4)) (h : w_put_35 v1 v2 v4 M K) : gx (cx0 fz) (5, 112) 184 35 ls [] (M, S) (vq_i B S K) := by
  obtain ⟨Inv, ⟨m, hm⟩, hb⟩ := h
  induction m using Nat.strongRecOn generalizing ls M v1 v2 v4 with
  | _ m ih =>
    refine W_put_35b hS hR a0 a1 a2 a4 (fun v1' v2' v4' M' ls' hR' f0 f1 f2 f3 ⟨m', q1, q2⟩ => ih m' q1 hR' f0 f1 f2 f3 q2) (hb m v1 v2 v4 M hm)
def w_put (v1 : Int) (v2 : Int64) (M : rf_M) (K : Int → rf_M → Prop) : Prop := ∀ M1 : rf_M, M1 = wi M 353 0 0 → (inr v1 ∧ ((v1 < 0 → (w_put_25 M1 K)) ∧ (¬ (v1 < 0) → (inr v1 ∧ ((16 ≤ v1 → (w_put_25 M1 K)) ∧ (¬ (16 ≤ v1) → (((gi M1 353 69) = 300 → (w_put_25 M1 K)) ∧ (¬ (gi M1 353 69) = 300 → (∀ M2 : rf_M, M2 = wi M1 353 42 0 → (w_put_35 v1 v2 0 M2 K))))))))))
theorem W_put {fz : Bool} {S : gS} {B : rf_M} {M : rf_M} {ls : rf_L} {v1 : Int} {v2 : Int64} {K : Int → rf_M → Prop} (hS : rk fz S B.2.2) (hR : fq B M) (a0 : rf_ld ls 0 = some (.ref 353)) (a1 : rf_ld ls 1 = some (zv v1)) (a2 : rf_ld ls 2 = some (.long v2)) (h : w_put v1 v2 M K) : gx (cx0 fz) (5, 112) 184 0 ls [] (M, S) (vq_i B S K) := by
  unfold w_put at h
  refine g1 (n := 1) rfl rfl rfl (la_of a0) ?_
  refine g1 (n := 1) rfl rfl rfl rfl ?_
  refine n_pi (Nat.le_of_ble_eq_true rfl) rfl hS.1 rfl (fun _ _ => rfl) (fun M1 e r => ?_)
  replace h := h M1 e
  have r1 := hR.trans r
  refine g1 (n := 1) rfl rfl rfl (li_of a1) ?_
  obtain ⟨i1, h⟩ := h
  refine n_if rfl i1 (fun c => ?_) (fun c => ?_)
  · replace h := h.1 c
    exact W_put_25 hS r1  h
  · replace h := h.2 c
    refine g1 (n := 1) rfl rfl rfl (li_of a1) ?_
    refine n_bi rfl (by decide) ?_
    obtain ⟨i2, h⟩ := h
    refine n_ic rfl i2 ⟨by decide, by decide⟩ (fun c => ?_) (fun c => ?_)
    · replace h := h.1 c
      exact W_put_25 hS r1  h
    · replace h := h.2 c
      refine g1 (n := 1) rfl rfl rfl (la_of a0) ?_
      refine n_gi rfl hS.1 rfl (fun _ => rfl) ?_
      refine n_si rfl (by decide) ?_
      refine n_ic rfl (inr_gi _ _ _) ⟨by decide, by decide⟩ (fun c => ?_) (fun c => ?_)
      · replace h := h.2 c
        refine g1 (n := 1) rfl rfl rfl (la_of a0) ?_
        refine g1 (n := 1) rfl rfl rfl rfl ?_
        refine n_pi (Nat.le_of_ble_eq_true rfl) rfl hS.1 rfl (fun _ _ => rfl) (fun M2 e r => ?_)
        replace h := h M2 e
        have r2 := r1.trans r
        refine g1 (n := 1) rfl rfl rfl rfl ?_
        refine n_s1 (n := 2) rfl rfl rfl rfl (fun ls l1 ho => ?_)
        replace a0 := ho 0 _ (by decide) (fun q => by cases q.2) a0
        have l2 := ho 1 _ (by decide) (fun q => by cases q.2) a1
        have l3 := ho 2 _ (by decide) (fun q => absurd q.1 (by decide)) a2
        exact W_put_35 hS r2 a0 l2 l3 l1 h
      · replace h := h.1 (Classical.not_not.mp c)
        exact W_put_25 hS r1  h
def wm_put (x0 : Int) (x1 : Int64) (M : rf_M) (K : Int → rf_M → Prop) : Prop := w_put x0 x1 M K
theorem W_put_m {fz : Bool} {S : gS} {B : rf_M} {M : rf_M} {x0 : Int} {x1 : Int64} {K : Int → rf_M → Prop} (hS : rk fz S B.2.2) (hR : fq B M) (h : wm_put x0 x1 M K) : gx (cx0 fz) (5, 112) 184 0 (lv_args 0 [.ref 353, zv x0, .long x1]) [] (M, S) (vq_i B S K) :=
  W_put hS hR rfl rfl rfl h
def w_cell_25 (s0 : Int64) (M : rf_M) (K : Int64 → rf_M → Prop) : Prop := K s0 M
theorem W_cell_25 {fz : Bool} {S : gS} {B : rf_M} {M : rf_M} {ls : rf_L} {s0 : Int64} {K : Int64 → rf_M → Prop} (hS : rk fz S B.2.2) (hR : fq B M) (h : w_cell_25 s0 M K) : gx (cx0 fz) (0, 0) 185 25 ls [.long s0] (M, S) (vq_l B S K) := by
  unfold w_cell_25 at h
  exact gx_ret rfl rfl ⟨s0, M, rfl, rfl, hR, h⟩
def w_cell_15 (M : rf_M) (K : Int64 → rf_M → Prop) : Prop := w_cell_25 (Int64.ofNat 0) M K
theorem W_cell_15 {fz : Bool} {S : gS} {B : rf_M} {M : rf_M} {ls : rf_L} {K : Int64 → rf_M → Prop} (hS : rk fz S B.2.2) (hR : fq B M) (h : w_cell_15 M K) : gx (cx0 fz) (0, 0) 185 15 ls [] (M, S) (vq_l B S K) := by
  unfold w_cell_15 at h
  refine g1 (n := 1) rfl rfl rfl rfl ?_
  refine g3 rfl rfl rfl ?_
  exact W_cell_25 hS hR  h
def w_cell (v1 : Int) (M : rf_M) (K : Int64 → rf_M → Prop) : Prop := ∀ M1 : rf_M, M1 = wi M 353 0 0 → (inr v1 ∧ ((v1 < 0 → (w_cell_15 M1 K)) ∧ (¬ (v1 < 0) → (inr v1 ∧ ((v1 < 16 → ((0 ≤ v1 ∧ v1 < 32) ∧ (w_cell_25 (gl M1 376 (v1).toNat) M1 K))) ∧ (¬ (v1 < 16) → (w_cell_15 M1 K)))))))
theorem W_cell {fz : Bool} {S : gS} {B : rf_M} {M : rf_M} {ls : rf_L} {v1 : Int} {K : Int64 → rf_M → Prop} (hS : rk fz S B.2.2) (hR : fq B M) (a0 : rf_ld ls 0 = some (.ref 353)) (a1 : rf_ld ls 1 = some (zv v1)) (h : w_cell v1 M K) : gx (cx0 fz) (0, 0) 185 0 ls [] (M, S) (vq_l B S K) := by
  unfold w_cell at h
  refine g1 (n := 1) rfl rfl rfl (la_of a0) ?_
  refine g1 (n := 1) rfl rfl rfl rfl ?_
  refine n_pi (Nat.le_of_ble_eq_true rfl) rfl hS.1 rfl (fun _ _ => rfl) (fun M1 e r => ?_)
  replace h := h M1 e
  have r1 := hR.trans r
  refine g1 (n := 1) rfl rfl rfl (li_of a1) ?_
  obtain ⟨i1, h⟩ := h
  refine n_if rfl i1 (fun c => ?_) (fun c => ?_)
  · replace h := h.1 c
    exact W_cell_15 hS r1  h
  · replace h := h.2 c
    refine g1 (n := 1) rfl rfl rfl (li_of a1) ?_
    refine n_bi rfl (by decide) ?_
    obtain ⟨i2, h⟩ := h
    refine n_ic rfl i2 ⟨by decide, by decide⟩ (fun c => ?_) (fun c => ?_)
    · replace h := h.1 c
      refine g1 (n := 1) rfl rfl rfl (la_of a0) ?_
      refine n_gr rfl hS.1 rfl (fun _ => rfl) r1 (rk_376 hS).2 ?_
      refine g1 (n := 1) rfl rfl rfl (li_of a1) ?_
      obtain ⟨q, h⟩ := h
      refine n_la rfl (rk_376 hS).1 (Nat.le_of_ble_eq_true rfl) q ?_
      exact W_cell_25 hS r1  h
    · replace h := h.2 c
      exact W_cell_15 hS r1  h
def wm_cell (x0 : Int) (M : rf_M) (K : Int64 → rf_M → Prop) : Prop := w_cell x0 M K
theorem W_cell_m {fz : Bool} {S : gS} {B : rf_M} {M : rf_M} {x0 : Int} {K : Int64 → rf_M → Prop} (hS : rk fz S B.2.2) (hR : fq B M) (h : wm_cell x0 M K) : gx (cx0 fz) (0, 0) 185 0 (lv_args 0 [.ref 353, zv x0]) [] (M, S) (vq_l B S K) :=
  W_cell hS hR rfl rfl h
def w_version_25 (s0 : Int) (M : rf_M) (K : Int → rf_M → Prop) : Prop := K s0 M
theorem W_version_25 {fz : Bool} {S : gS} {B : rf_M} {M : rf_M} {ls : rf_L} {s0 : Int} {K : Int → rf_M → Prop} (hS : rk fz S B.2.2) (hR : fq B M) (h : w_version_25 s0 M K) : gx (cx0 fz) (0, 0) 186 25 ls [zv s0] (M, S) (vq_i B S K) := by
  unfold w_version_25 at h
  exact gx_ret rfl rfl ⟨s0, M, rfl, rfl, hR, h⟩
def w_version_15 (M : rf_M) (K : Int → rf_M → Prop) : Prop := w_version_25 (-1) M K
theorem W_version_15 {fz : Bool} {S : gS} {B : rf_M} {M : rf_M} {ls : rf_L} {K : Int → rf_M → Prop} (hS : rk fz S B.2.2) (hR : fq B M) (h : w_version_15 M K) : gx (cx0 fz) (0, 0) 186 15 ls [] (M, S) (vq_i B S K) := by
  unfold w_version_15 at h
  refine g1 (n := 1) rfl rfl rfl rfl ?_
  refine g3 rfl rfl rfl ?_
  exact W_version_25 hS hR  h
def w_version (v1 : Int) (M : rf_M) (K : Int → rf_M → Prop) : Prop := ∀ M1 : rf_M, M1 = wi M 353 0 0 → (inr v1 ∧ ((v1 < 0 → (w_version_15 M1 K)) ∧ (¬ (v1 < 0) → (inr v1 ∧ ((v1 < 16 → ((0 ≤ v1 ∧ v1 < 32) ∧ (w_version_25 (gi M1 377 (v1).toNat) M1 K))) ∧ (¬ (v1 < 16) → (w_version_15 M1 K)))))))
theorem W_version {fz : Bool} {S : gS} {B : rf_M} {M : rf_M} {ls : rf_L} {v1 : Int} {K : Int → rf_M → Prop} (hS : rk fz S B.2.2) (hR : fq B M) (a0 : rf_ld ls 0 = some (.ref 353)) (a1 : rf_ld ls 1 = some (zv v1)) (h : w_version v1 M K) : gx (cx0 fz) (0, 0) 186 0 ls [] (M, S) (vq_i B S K) := by
  unfold w_version at h
  refine g1 (n := 1) rfl rfl rfl (la_of a0) ?_
  refine g1 (n := 1) rfl rfl rfl rfl ?_
  refine n_pi (Nat.le_of_ble_eq_true rfl) rfl hS.1 rfl (fun _ _ => rfl) (fun M1 e r => ?_)
  replace h := h M1 e
  have r1 := hR.trans r
  refine g1 (n := 1) rfl rfl rfl (li_of a1) ?_
  obtain ⟨i1, h⟩ := h
  refine n_if rfl i1 (fun c => ?_) (fun c => ?_)
  · replace h := h.1 c
    exact W_version_15 hS r1  h
  · replace h := h.2 c
    refine g1 (n := 1) rfl rfl rfl (li_of a1) ?_
    refine n_bi rfl (by decide) ?_
    obtain ⟨i2, h⟩ := h
    refine n_ic rfl i2 ⟨by decide, by decide⟩ (fun c => ?_) (fun c => ?_)
    · replace h := h.1 c
      refine g1 (n := 1) rfl rfl rfl (la_of a0) ?_
      refine n_gr rfl hS.1 rfl (fun _ => rfl) r1 (rk_377 hS).2 ?_
      refine g1 (n := 1) rfl rfl rfl (li_of a1) ?_
      obtain ⟨q, h⟩ := h
      refine n_ia rfl (rk_377 hS).1 (Nat.le_of_ble_eq_true rfl) q ?_
      exact W_version_25 hS r1  h
    · replace h := h.2 c
      exact W_version_15 hS r1  h
def wm_version (x0 : Int) (M : rf_M) (K : Int → rf_M → Prop) : Prop := w_version x0 M K
theorem W_version_m {fz : Bool} {S : gS} {B : rf_M} {M : rf_M} {x0 : Int} {K : Int → rf_M → Prop} (hS : rk fz S B.2.2) (hR : fq B M) (h : wm_version x0 M K) : gx (cx0 fz) (0, 0) 186 0 (lv_args 0 [.ref 353, zv x0]) [] (M, S) (vq_i B S K) :=
  W_version hS hR rfl rfl h
def w_add_36 (M : rf_M) (K : Int → rf_M → Prop) : Prop := K (-1) M
theorem W_add_36 {fz : Bool} {S : gS} {B : rf_M} {M : rf_M} {ls : rf_L} {K : Int → rf_M → Prop} (hS : rk fz S B.2.2) (hR : fq B M) (h : w_add_36 M K) : gx (cx0 fz) (1, 21) 187 36 ls [] (M, S) (vq_i B S K) := by
  unfold w_add_36 at h
  refine g1 (n := 1) rfl rfl rfl rfl ?_
  exact gx_ret rfl rfl ⟨(-1), M, rfl, rfl, hR, h⟩
def w_add (v1 : Int) (v2 : Int) (M : rf_M) (K : Int → rf_M → Prop) : Prop := ∀ M1 : rf_M, M1 = wi M 353 0 0 → (wm_isClient v1 M1 (fun (z2 : Int) (M2 : rf_M) => inr z2 ∧ ((z2 = 0 → (w_add_36 M2 K)) ∧ (¬ (z2 = 0) → (inr v2 ∧ ((v2 < 0 → (w_add_36 M2 K)) ∧ (¬ (v2 < 0) → (inr v2 ∧ (((gi M2 353 11) ≤ v2 → (w_add_36 M2 K)) ∧ (¬ ((gi M2 353 11) ≤ v2) → ((0 ≤ v1 ∧ v1 < 8) ∧ (((gi M2 381 (v1).toNat) = 16 → (w_add_36 M2 K)) ∧ (¬ (gi M2 381 (v1).toNat) = 16 → ((0 ≤ v1 ∧ v1 < 8) ∧ ((0 ≤ ((16 * v1) + (gi M2 381 (v1).toNat)) ∧ ((16 * v1) + (gi M2 381 (v1).toNat)) < 128) ∧ (∀ M3 : rf_M, M3 = wi M2 380 ((16 * v1) + (gi M2 381 (v1).toNat)).toNat v2 → ((0 ≤ v1 ∧ v1 < 8) ∧ ((0 ≤ v1 ∧ v1 < 8) ∧ (∀ M4 : rf_M, M4 = wi M3 381 (v1).toNat ((gi M3 381 (v1).toNat) + 1) → ((0 ≤ v1 ∧ v1 < 8) ∧ (K (gi M4 381 (v1).toNat) M4)))))))))))))))))))))
theorem W_add {fz : Bool} {S : gS} {B : rf_M} {M : rf_M} {ls : rf_L} {v1 : Int} {v2 : Int} {K : Int → rf_M → Prop} (hS : rk fz S B.2.2) (hR : fq B M) (a0 : rf_ld ls 0 = some (.ref 353)) (a1 : rf_ld ls 1 = some (zv v1)) (a2 : rf_ld ls 2 = some (zv v2)) (h : w_add v1 v2 M K) : gx (cx0 fz) (1, 21) 187 0 ls [] (M, S) (vq_i B S K) := by
  unfold w_add at h
  refine g1 (n := 1) rfl rfl rfl (la_of a0) ?_
  refine g1 (n := 1) rfl rfl rfl rfl ?_
  refine n_pi (Nat.le_of_ble_eq_true rfl) rfl hS.1 rfl (fun _ _ => rfl) (fun M1 e r => ?_)
  replace h := h M1 e
  have r1 := hR.trans r
  refine g1 (n := 1) rfl rfl rfl (la_of a0) ?_
  refine g1 (n := 1) rfl rfl rfl (li_of a1) ?_
  refine m_iv (a := 353) (as := [zv v1]) (rest := []) rfl (by decide) hS.1 rfl rfl (Nat.le_of_ble_eq_true rfl) ⟨Nat.le_of_ble_eq_true rfl, Nat.le_of_ble_eq_true rfl, Nat.le_of_ble_eq_true rfl⟩ ?_
  refine gx_room (gx_mono (W_isClient_m hS r1 h) ?_) (Nat.le_of_ble_eq_true rfl) (Nat.le_of_ble_eq_true rfl)
  rintro _ _ ⟨z2, M2, rfl, rfl, r2, h⟩
  obtain ⟨i1, h⟩ := h
  refine n_if rfl i1 (fun c => ?_) (fun c => ?_)
  · replace h := h.1 c
    exact W_add_36 hS r2  h
  · replace h := h.2 c
    refine g1 (n := 1) rfl rfl rfl (li_of a2) ?_
    obtain ⟨i2, h⟩ := h
    refine n_if rfl i2 (fun c => ?_) (fun c => ?_)
    · replace h := h.1 c
      exact W_add_36 hS r2  h
    · replace h := h.2 c
      refine g1 (n := 1) rfl rfl rfl (li_of a2) ?_
      refine g1 (n := 1) rfl rfl rfl (la_of a0) ?_
      refine n_gi rfl hS.1 rfl (fun _ => rfl) ?_
      obtain ⟨i3, h⟩ := h
      refine n_ic rfl i3 (inr_gi _ _ _) (fun c => ?_) (fun c => ?_)
      · replace h := h.1 c
        exact W_add_36 hS r2  h
      · replace h := h.2 c
        refine g1 (n := 1) rfl rfl rfl (la_of a0) ?_
        refine n_gr rfl hS.1 rfl (fun _ => rfl) r2 (rk_381 hS).2 ?_
        refine g1 (n := 1) rfl rfl rfl (li_of a1) ?_
        obtain ⟨q, h⟩ := h
        refine n_ia rfl (rk_381 hS).1 (Nat.le_of_ble_eq_true rfl) q ?_
        refine n_bi rfl (by decide) ?_
        refine n_ic rfl (inr_gi _ _ _) ⟨by decide, by decide⟩ (fun c => ?_) (fun c => ?_)
        · replace h := h.2 c
          refine g1 (n := 1) rfl rfl rfl (la_of a0) ?_
          refine n_gr rfl hS.1 rfl (fun _ => rfl) r2 (rk_380 hS).2 ?_
          refine n_bi rfl (by decide) ?_
          refine g1 (n := 1) rfl rfl rfl (li_of a1) ?_
          refine n_mul rfl ?_
          refine g1 (n := 1) rfl rfl rfl (la_of a0) ?_
          refine n_gr rfl hS.1 rfl (fun _ => rfl) r2 (rk_381 hS).2 ?_
          refine g1 (n := 1) rfl rfl rfl (li_of a1) ?_
          obtain ⟨q, h⟩ := h
          refine n_ia rfl (rk_381 hS).1 (Nat.le_of_ble_eq_true rfl) q ?_
          refine n_add rfl ?_
          refine g1 (n := 1) rfl rfl rfl (li_of a2) ?_
          obtain ⟨q, h⟩ := h
          refine n_is (Nat.le_of_ble_eq_true rfl) rfl (rk_380 hS).1 (Nat.le_of_ble_eq_true rfl) q (fun M3 e r => ?_)
          replace h := h M3 e
          have r3 := r2.trans r
          refine g1 (n := 1) rfl rfl rfl (la_of a0) ?_
          refine n_gr rfl hS.1 rfl (fun _ => rfl) r3 (rk_381 hS).2 ?_
          refine g1 (n := 1) rfl rfl rfl (li_of a1) ?_
          refine g0 rfl rfl rfl ?_
          obtain ⟨q, h⟩ := h
          refine n_ia rfl (rk_381 hS).1 (Nat.le_of_ble_eq_true rfl) q ?_
          refine g1 (n := 1) rfl rfl rfl rfl ?_
          refine n_add rfl ?_
          obtain ⟨q, h⟩ := h
          refine n_is (Nat.le_of_ble_eq_true rfl) rfl (rk_381 hS).1 (Nat.le_of_ble_eq_true rfl) q (fun M4 e r => ?_)
          replace h := h M4 e
          have r4 := r3.trans r
          refine g1 (n := 1) rfl rfl rfl (la_of a0) ?_
          refine n_gr rfl hS.1 rfl (fun _ => rfl) r4 (rk_381 hS).2 ?_
          refine g1 (n := 1) rfl rfl rfl (li_of a1) ?_
          obtain ⟨q, h⟩ := h
          refine n_ia rfl (rk_381 hS).1 (Nat.le_of_ble_eq_true rfl) q ?_
          exact gx_ret rfl rfl ⟨(gi M4 381 (v1).toNat), M4, rfl, rfl, r4, h⟩
        · replace h := h.1 (Classical.not_not.mp c)
          exact W_add_36 hS r2  h
def wm_add (x0 : Int) (x1 : Int) (M : rf_M) (K : Int → rf_M → Prop) : Prop := w_add x0 x1 M K
theorem W_add_m {fz : Bool} {S : gS} {B : rf_M} {M : rf_M} {x0 : Int} {x1 : Int} {K : Int → rf_M → Prop} (hS : rk fz S B.2.2) (hR : fq B M) (h : wm_add x0 x1 M K) : gx (cx0 fz) (1, 21) 187 0 (lv_args 0 [.ref 353, zv x0, zv x1]) [] (M, S) (vq_i B S K) :=
  W_add hS hR rfl rfl rfl h
def w_client_23 (M : rf_M) (K : Int → rf_M → Prop) : Prop := K (-1) M
theorem W_client_23 {fz : Bool} {S : gS} {B : rf_M} {M : rf_M} {ls : rf_L} {K : Int → rf_M → Prop} (hS : rk fz S B.2.2) (hR : fq B M) (h : w_client_23 M K) : gx (cx0 fz) (5, 113) 188 23 ls [] (M, S) (vq_i B S K) := by
  unfold w_client_23 at h
  refine g1 (n := 1) rfl rfl rfl rfl ?_
  exact gx_ret rfl rfl ⟨(-1), M, rfl, rfl, hR, h⟩
def w_client_181 (s0 : Int) (M : rf_M) (K : Int → rf_M → Prop) : Prop := K s0 M
theorem W_client_181 {fz : Bool} {S : gS} {B : rf_M} {M : rf_M} {ls : rf_L} {s0 : Int} {K : Int → rf_M → Prop} (hS : rk fz S B.2.2) (hR : fq B M) (h : w_client_181 s0 M K) : gx (cx0 fz) (5, 113) 188 181 ls [zv s0] (M, S) (vq_i B S K) := by
  unfold w_client_181 at h
  exact gx_ret rfl rfl ⟨s0, M, rfl, rfl, hR, h⟩
def w_client_145 (s0 : Int) (M : rf_M) (K : Int → rf_M → Prop) : Prop := K s0 M
theorem W_client_145 {fz : Bool} {S : gS} {B : rf_M} {M : rf_M} {ls : rf_L} {s0 : Int} {K : Int → rf_M → Prop} (hS : rk fz S B.2.2) (hR : fq B M) (h : w_client_145 s0 M K) : gx (cx0 fz) (5, 113) 188 145 ls [zv s0] (M, S) (vq_i B S K) := by
  unfold w_client_145 at h
  exact gx_ret rfl rfl ⟨s0, M, rfl, rfl, hR, h⟩
def w_client_124 (s0 : Int) (M : rf_M) (K : Int → rf_M → Prop) : Prop := K s0 M
theorem W_client_124 {fz : Bool} {S : gS} {B : rf_M} {M : rf_M} {ls : rf_L} {s0 : Int} {K : Int → rf_M → Prop} (hS : rk fz S B.2.2) (hR : fq B M) (h : w_client_124 s0 M K) : gx (cx0 fz) (5, 113) 188 124 ls [zv s0] (M, S) (vq_i B S K) := by
  unfold w_client_124 at h
  exact gx_ret rfl rfl ⟨s0, M, rfl, rfl, hR, h⟩
def w_client_211 (s0 : Int) (M : rf_M) (K : Int → rf_M → Prop) : Prop := K s0 M
theorem W_client_211 {fz : Bool} {S : gS} {B : rf_M} {M : rf_M} {ls : rf_L} {s0 : Int} {K : Int → rf_M → Prop} (hS : rk fz S B.2.2) (hR : fq B M) (h : w_client_211 s0 M K) : gx (cx0 fz) (5, 113) 188 211 ls [zv s0] (M, S) (vq_i B S K) := by
  unfold w_client_211 at h
  exact gx_ret rfl rfl ⟨s0, M, rfl, rfl, hR, h⟩
def w_client_59 (v1 : Int) (v2 : Int) (v3 : Int) (s0 : Int) (M : rf_M) (K : Int → rf_M → Prop) : Prop := inr v2 ∧ ((v2 = 0 → (inr v3 ∧ ((v3 = 0 → ((0 ≤ v1 ∧ v1 < 8) ∧ (w_client_124 ((gi M 382 (v1).toNat) + 1) M K))) ∧ (¬ (v3 = 0) → (w_client_124 0 M K))))) ∧ (v2 = 1 → ((0 ≤ v1 ∧ v1 < 8) ∧ (K (gi M 381 (v1).toNat) M))) ∧ (v2 = 2 → (inr v3 ∧ ((v3 = 0 → (wm_firstOf v1 M (fun (z1 : Int) (M1 : rf_M) => w_client_145 z1 M1 K))) ∧ (¬ (v3 = 0) → (w_client_145 (-1) M K))))) ∧ (v2 = 3 → ((0 ≤ v1 ∧ v1 < 8) ∧ (K (gi M 384 (v1).toNat) M))) ∧ (v2 = 4 → ((0 ≤ v1 ∧ v1 < 8) ∧ (K (gi M 383 (v1).toNat) M))) ∧ (v2 = 5 → ((0 ≤ v1 ∧ v1 < 8) ∧ (K (gi M 386 (v1).toNat) M))) ∧ (v2 = 6 → (inr s0 ∧ ((s0 = 0 → (K 0 M)) ∧ (¬ s0 = 0 → (wm_walkAnew v1 M (fun (M2 : rf_M) => inr v2 ∧ ((v2 = 6 → (w_client_211 (gi M2 353 55) M2 K)) ∧ (¬ v2 = 6 → (w_client_211 (gi M2 353 58) M2 K))))))))) ∧ (v2 = 7 → ((0 ≤ v1 ∧ v1 < 8) ∧ (((gi M 385 (v1).toNat) = 0 → (w_client_181 0 M K)) ∧ (¬ ((gi M 385 (v1).toNat) = 0) → (w_client_181 1 M K))))) ∧ (¬ v2 = 0 ∧ ¬ v2 = 1 ∧ ¬ v2 = 2 ∧ ¬ v2 = 3 ∧ ¬ v2 = 4 ∧ ¬ v2 = 5 ∧ ¬ v2 = 6 ∧ ¬ v2 = 7 → (inr s0 ∧ ((s0 = 0 → (K 0 M)) ∧ (¬ s0 = 0 → (wm_walkAnew v1 M (fun (M3 : rf_M) => inr v2 ∧ ((v2 = 6 → (w_client_211 (gi M3 353 55) M3 K)) ∧ (¬ v2 = 6 → (w_client_211 (gi M3 353 58) M3 K))))))))))
theorem W_client_59 {fz : Bool} {S : gS} {B : rf_M} {M : rf_M} {ls : rf_L} {v1 : Int} {v2 : Int} {v3 : Int} {s0 : Int} {K : Int → rf_M → Prop} (hS : rk fz S B.2.2) (hR : fq B M) (a0 : rf_ld ls 0 = some (.ref 353)) (a1 : rf_ld ls 1 = some (zv v1)) (a2 : rf_ld ls 2 = some (zv v2)) (a3 : rf_ld ls 3 = some (zv v3)) (h : w_client_59 v1 v2 v3 s0 M K) : gx (cx0 fz) (5, 113) 188 59 ls [zv s0] (M, S) (vq_i B S K) := by
  unfold w_client_59 at h
  refine n_s1 (n := 2) rfl rfl rfl rfl (fun ls l1 ho => ?_)
  replace a0 := ho 0 _ (by decide) (fun q => by cases q.2) a0
  have l2 := ho 1 _ (by decide) (fun q => by cases q.2) a1
  have l3 := ho 2 _ (by decide) (fun q => by cases q.2) a2
  have l4 := ho 3 _ (by decide) (fun q => by cases q.2) a3
  refine g1 (n := 1) rfl rfl rfl (li_of l3) ?_
  obtain ⟨ia, h⟩ := h
  obtain ⟨h1, h⟩ := h
  by_cases e0 : v2 = 0
  · replace h := h1 e0
    refine n_sw (pc' := 108) e0 rfl rfl rfl ?_
    refine g1 (n := 1) rfl rfl rfl (li_of l4) ?_
    obtain ⟨i1, h⟩ := h
    refine n_if rfl i1 (fun c => ?_) (fun c => ?_)
    · replace h := h.1 c
      refine g1 (n := 1) rfl rfl rfl (la_of a0) ?_
      refine n_gr rfl hS.1 rfl (fun _ => rfl) hR (rk_382 hS).2 ?_
      refine g1 (n := 1) rfl rfl rfl (li_of l2) ?_
      obtain ⟨q, h⟩ := h
      refine n_ia rfl (rk_382 hS).1 (Nat.le_of_ble_eq_true rfl) q ?_
      refine g1 (n := 1) rfl rfl rfl rfl ?_
      refine n_add rfl ?_
      exact W_client_124 hS hR  h
    · replace h := h.2 c
      refine g1 (n := 1) rfl rfl rfl rfl ?_
      refine g3 rfl rfl rfl ?_
      exact W_client_124 hS hR  h
  obtain ⟨h1, h⟩ := h
  by_cases e1 : v2 = 1
  · replace h := h1 e1
    refine n_sw (pc' := 125) e1 rfl rfl rfl ?_
    refine g1 (n := 1) rfl rfl rfl (la_of a0) ?_
    refine n_gr rfl hS.1 rfl (fun _ => rfl) hR (rk_381 hS).2 ?_
    refine g1 (n := 1) rfl rfl rfl (li_of l2) ?_
    obtain ⟨q, h⟩ := h
    refine n_ia rfl (rk_381 hS).1 (Nat.le_of_ble_eq_true rfl) q ?_
    exact gx_ret rfl rfl ⟨(gi M 381 (v1).toNat), M, rfl, rfl, hR, h⟩
  obtain ⟨h1, h⟩ := h
  by_cases e2 : v2 = 2
  · replace h := h1 e2
    refine n_sw (pc' := 132) e2 rfl rfl rfl ?_
    refine g1 (n := 1) rfl rfl rfl (li_of l4) ?_
    obtain ⟨i2, h⟩ := h
    refine n_if rfl i2 (fun c => ?_) (fun c => ?_)
    · replace h := h.1 c
      refine g1 (n := 1) rfl rfl rfl (la_of a0) ?_
      refine g1 (n := 1) rfl rfl rfl (li_of l2) ?_
      refine m_iv (a := 353) (as := [zv v1]) (rest := []) rfl (by decide) hS.1 rfl rfl (Nat.le_of_ble_eq_true rfl) ⟨Nat.le_of_ble_eq_true rfl, Nat.le_of_ble_eq_true rfl, Nat.le_of_ble_eq_true rfl⟩ ?_
      refine gx_room (gx_mono (W_firstOf_m hS hR h) ?_) (Nat.le_of_ble_eq_true rfl) (Nat.le_of_ble_eq_true rfl)
      rintro _ _ ⟨z1, M1, rfl, rfl, r1, h⟩
      exact W_client_145 hS r1  h
    · replace h := h.2 c
      refine g1 (n := 1) rfl rfl rfl rfl ?_
      refine g3 rfl rfl rfl ?_
      exact W_client_145 hS hR  h
  obtain ⟨h1, h⟩ := h
  by_cases e3 : v2 = 3
  · replace h := h1 e3
    refine n_sw (pc' := 146) e3 rfl rfl rfl ?_
    refine g1 (n := 1) rfl rfl rfl (la_of a0) ?_
    refine n_gr rfl hS.1 rfl (fun _ => rfl) hR (rk_384 hS).2 ?_
    refine g1 (n := 1) rfl rfl rfl (li_of l2) ?_
    obtain ⟨q, h⟩ := h
    refine n_ia rfl (rk_384 hS).1 (Nat.le_of_ble_eq_true rfl) q ?_
    exact gx_ret rfl rfl ⟨(gi M 384 (v1).toNat), M, rfl, rfl, hR, h⟩
  obtain ⟨h1, h⟩ := h
  by_cases e4 : v2 = 4
  · replace h := h1 e4
    refine n_sw (pc' := 153) e4 rfl rfl rfl ?_
    refine g1 (n := 1) rfl rfl rfl (la_of a0) ?_
    refine n_gr rfl hS.1 rfl (fun _ => rfl) hR (rk_383 hS).2 ?_
    refine g1 (n := 1) rfl rfl rfl (li_of l2) ?_
    obtain ⟨q, h⟩ := h
    refine n_ia rfl (rk_383 hS).1 (Nat.le_of_ble_eq_true rfl) q ?_
    exact gx_ret rfl rfl ⟨(gi M 383 (v1).toNat), M, rfl, rfl, hR, h⟩
  obtain ⟨h1, h⟩ := h
  by_cases e5 : v2 = 5
  · replace h := h1 e5
    refine n_sw (pc' := 160) e5 rfl rfl rfl ?_
    refine g1 (n := 1) rfl rfl rfl (la_of a0) ?_
    refine n_gr rfl hS.1 rfl (fun _ => rfl) hR (rk_386 hS).2 ?_
    refine g1 (n := 1) rfl rfl rfl (li_of l2) ?_
    obtain ⟨q, h⟩ := h
    refine n_ia rfl (rk_386 hS).1 (Nat.le_of_ble_eq_true rfl) q ?_
    exact gx_ret rfl rfl ⟨(gi M 386 (v1).toNat), M, rfl, rfl, hR, h⟩
  obtain ⟨h1, h⟩ := h
  by_cases e6 : v2 = 6
  · replace h := h1 e6
    refine n_sw (pc' := 182) e6 rfl rfl rfl ?_
    refine g1 (n := 2) rfl rfl rfl (li_of l1) ?_
    obtain ⟨i3, h⟩ := h
    refine n_if rfl i3 (fun c => ?_) (fun c => ?_)
    · replace h := h.2 c
      refine g1 (n := 1) rfl rfl rfl (la_of a0) ?_
      refine g1 (n := 1) rfl rfl rfl (li_of l2) ?_
      refine m_iv (a := 353) (as := [zv v1]) (rest := []) rfl (by decide) hS.1 rfl rfl (Nat.le_of_ble_eq_true rfl) ⟨Nat.le_of_ble_eq_true rfl, Nat.le_of_ble_eq_true rfl, Nat.le_of_ble_eq_true rfl⟩ ?_
      refine gx_room (gx_mono (W_walkAnew_m hS hR h) ?_) (Nat.le_of_ble_eq_true rfl) (Nat.le_of_ble_eq_true rfl)
      rintro _ _ ⟨M2, rfl, rfl, r2, h⟩
      refine g1 (n := 1) rfl rfl rfl (li_of l3) ?_
      refine n_bi rfl (by decide) ?_
      obtain ⟨i4, h⟩ := h
      refine n_ic rfl i4 ⟨by decide, by decide⟩ (fun c => ?_) (fun c => ?_)
      · replace h := h.2 c
        refine g1 (n := 1) rfl rfl rfl (la_of a0) ?_
        refine n_gi rfl hS.1 rfl (fun _ => rfl) ?_
        exact W_client_211 hS r2  h
      · replace h := h.1 (Classical.not_not.mp c)
        refine g1 (n := 1) rfl rfl rfl (la_of a0) ?_
        refine n_gi rfl hS.1 rfl (fun _ => rfl) ?_
        refine g3 rfl rfl rfl ?_
        exact W_client_211 hS r2  h
    · replace h := h.1 (Classical.not_not.mp c)
      refine g1 (n := 1) rfl rfl rfl rfl ?_
      exact gx_ret rfl rfl ⟨0, M, rfl, rfl, hR, h⟩
  obtain ⟨h1, h⟩ := h
  by_cases e7 : v2 = 7
  · replace h := h1 e7
    refine n_sw (pc' := 167) e7 rfl rfl rfl ?_
    refine g1 (n := 1) rfl rfl rfl (la_of a0) ?_
    refine n_gr rfl hS.1 rfl (fun _ => rfl) hR (rk_385 hS).2 ?_
    refine g1 (n := 1) rfl rfl rfl (li_of l2) ?_
    obtain ⟨q, h⟩ := h
    refine n_za rfl (rk_385 hS).1 (Nat.le_of_ble_eq_true rfl) q ?_
    refine n_if rfl (inr_gi _ _ _) (fun c => ?_) (fun c => ?_)
    · replace h := h.1 c
      refine g1 (n := 1) rfl rfl rfl rfl ?_
      exact W_client_181 hS hR  h
    · replace h := h.2 c
      refine g1 (n := 1) rfl rfl rfl rfl ?_
      refine g3 rfl rfl rfl ?_
      exact W_client_181 hS hR  h
  replace h := h ⟨e0, e1, e2, e3, e4, e5, e6, e7⟩
  refine n_swt rfl ia (swo_0_7 e0 e1 e2 e3 e4 e5 e6 e7) ?_
  show gx _ _ _ 182 _ _ _ _
  refine g1 (n := 2) rfl rfl rfl (li_of l1) ?_
  obtain ⟨i5, h⟩ := h
  refine n_if rfl i5 (fun c => ?_) (fun c => ?_)
  · replace h := h.2 c
    refine g1 (n := 1) rfl rfl rfl (la_of a0) ?_
    refine g1 (n := 1) rfl rfl rfl (li_of l2) ?_
    refine m_iv (a := 353) (as := [zv v1]) (rest := []) rfl (by decide) hS.1 rfl rfl (Nat.le_of_ble_eq_true rfl) ⟨Nat.le_of_ble_eq_true rfl, Nat.le_of_ble_eq_true rfl, Nat.le_of_ble_eq_true rfl⟩ ?_
    refine gx_room (gx_mono (W_walkAnew_m hS hR h) ?_) (Nat.le_of_ble_eq_true rfl) (Nat.le_of_ble_eq_true rfl)
    rintro _ _ ⟨M3, rfl, rfl, r3, h⟩
    refine g1 (n := 1) rfl rfl rfl (li_of l3) ?_
    refine n_bi rfl (by decide) ?_
    obtain ⟨i6, h⟩ := h
    refine n_ic rfl i6 ⟨by decide, by decide⟩ (fun c => ?_) (fun c => ?_)
    · replace h := h.2 c
      refine g1 (n := 1) rfl rfl rfl (la_of a0) ?_
      refine n_gi rfl hS.1 rfl (fun _ => rfl) ?_
      exact W_client_211 hS r3  h
    · replace h := h.1 (Classical.not_not.mp c)
      refine g1 (n := 1) rfl rfl rfl (la_of a0) ?_
      refine n_gi rfl hS.1 rfl (fun _ => rfl) ?_
      refine g3 rfl rfl rfl ?_
      exact W_client_211 hS r3  h
  · replace h := h.1 (Classical.not_not.mp c)
    refine g1 (n := 1) rfl rfl rfl rfl ?_
    exact gx_ret rfl rfl ⟨0, M, rfl, rfl, hR, h⟩
def w_client_58 (v1 : Int) (v2 : Int) (v3 : Int) (M : rf_M) (K : Int → rf_M → Prop) : Prop := w_client_59 v1 v2 v3 0 M K
theorem W_client_58 {fz : Bool} {S : gS} {B : rf_M} {M : rf_M} {ls : rf_L} {v1 : Int} {v2 : Int} {v3 : Int} {K : Int → rf_M → Prop} (hS : rk fz S B.2.2) (hR : fq B M) (a0 : rf_ld ls 0 = some (.ref 353)) (a1 : rf_ld ls 1 = some (zv v1)) (a2 : rf_ld ls 2 = some (zv v2)) (a3 : rf_ld ls 3 = some (zv v3)) (h : w_client_58 v1 v2 v3 M K) : gx (cx0 fz) (5, 113) 188 58 ls [] (M, S) (vq_i B S K) := by
  unfold w_client_58 at h
  refine g1 (n := 1) rfl rfl rfl rfl ?_
  exact W_client_59 hS hR a0 a1 a2 a3 h
def w_client_39 (v1 : Int) (v2 : Int) (s0 : Int) (M : rf_M) (K : Int → rf_M → Prop) : Prop := inr s0 ∧ ((s0 = 0 → ((0 ≤ v1 ∧ v1 < 8) ∧ (((gi M 382 (v1).toNat) = 1 → (w_client_59 v1 v2 s0 1 M K)) ∧ (¬ (gi M 382 (v1).toNat) = 1 → (w_client_58 v1 v2 s0 M K))))) ∧ (¬ s0 = 0 → (w_client_58 v1 v2 s0 M K)))
theorem W_client_39 {fz : Bool} {S : gS} {B : rf_M} {M : rf_M} {ls : rf_L} {v1 : Int} {v2 : Int} {s0 : Int} {K : Int → rf_M → Prop} (hS : rk fz S B.2.2) (hR : fq B M) (a0 : rf_ld ls 0 = some (.ref 353)) (a1 : rf_ld ls 1 = some (zv v1)) (a2 : rf_ld ls 2 = some (zv v2)) (h : w_client_39 v1 v2 s0 M K) : gx (cx0 fz) (5, 113) 188 39 ls [zv s0] (M, S) (vq_i B S K) := by
  unfold w_client_39 at h
  refine n_s1 (n := 1) rfl rfl rfl rfl (fun ls l1 ho => ?_)
  replace a0 := ho 0 _ (by decide) (fun q => by cases q.2) a0
  have l2 := ho 1 _ (by decide) (fun q => by cases q.2) a1
  have l3 := ho 2 _ (by decide) (fun q => by cases q.2) a2
  refine g1 (n := 1) rfl rfl rfl (li_of l1) ?_
  obtain ⟨i1, h⟩ := h
  refine n_if rfl i1 (fun c => ?_) (fun c => ?_)
  · replace h := h.2 c
    exact W_client_58 hS hR a0 l2 l3 l1 h
  · replace h := h.1 (Classical.not_not.mp c)
    refine g1 (n := 1) rfl rfl rfl (la_of a0) ?_
    refine n_gr rfl hS.1 rfl (fun _ => rfl) hR (rk_382 hS).2 ?_
    refine g1 (n := 1) rfl rfl rfl (li_of l2) ?_
    obtain ⟨q, h⟩ := h
    refine n_ia rfl (rk_382 hS).1 (Nat.le_of_ble_eq_true rfl) q ?_
    refine g1 (n := 1) rfl rfl rfl rfl ?_
    refine n_ic rfl (inr_gi _ _ _) ⟨by decide, by decide⟩ (fun c => ?_) (fun c => ?_)
    · replace h := h.2 c
      exact W_client_58 hS hR a0 l2 l3 l1 h
    · replace h := h.1 (Classical.not_not.mp c)
      refine g1 (n := 1) rfl rfl rfl rfl ?_
      refine g3 rfl rfl rfl ?_
      exact W_client_59 hS hR a0 l2 l3 l1 h
def w_client (v1 : Int) (v2 : Int) (M : rf_M) (K : Int → rf_M → Prop) : Prop := ∀ M1 : rf_M, M1 = wi M 353 0 0 → (wm_isClient v1 M1 (fun (z2 : Int) (M2 : rf_M) => inr z2 ∧ ((z2 = 0 → (w_client_23 M2 K)) ∧ (¬ (z2 = 0) → (inr v2 ∧ ((v2 < 0 → (w_client_23 M2 K)) ∧ (¬ (v2 < 0) → (inr v2 ∧ ((v2 ≤ 8 → ((0 ≤ v1 ∧ v1 < 8) ∧ (((gi M2 381 (v1).toNat) = 0 → (w_client_39 v1 v2 1 M2 K)) ∧ (¬ (gi M2 381 (v1).toNat) = 0 → (w_client_39 v1 v2 0 M2 K))))) ∧ (¬ (v2 ≤ 8) → (w_client_23 M2 K)))))))))))
theorem W_client {fz : Bool} {S : gS} {B : rf_M} {M : rf_M} {ls : rf_L} {v1 : Int} {v2 : Int} {K : Int → rf_M → Prop} (hS : rk fz S B.2.2) (hR : fq B M) (a0 : rf_ld ls 0 = some (.ref 353)) (a1 : rf_ld ls 1 = some (zv v1)) (a2 : rf_ld ls 2 = some (zv v2)) (h : w_client v1 v2 M K) : gx (cx0 fz) (5, 113) 188 0 ls [] (M, S) (vq_i B S K) := by
  unfold w_client at h
  refine g1 (n := 1) rfl rfl rfl (la_of a0) ?_
  refine g1 (n := 1) rfl rfl rfl rfl ?_
  refine n_pi (Nat.le_of_ble_eq_true rfl) rfl hS.1 rfl (fun _ _ => rfl) (fun M1 e r => ?_)
  replace h := h M1 e
  have r1 := hR.trans r
  refine g1 (n := 1) rfl rfl rfl (la_of a0) ?_
  refine g1 (n := 1) rfl rfl rfl (li_of a1) ?_
  refine m_iv (a := 353) (as := [zv v1]) (rest := []) rfl (by decide) hS.1 rfl rfl (Nat.le_of_ble_eq_true rfl) ⟨Nat.le_of_ble_eq_true rfl, Nat.le_of_ble_eq_true rfl, Nat.le_of_ble_eq_true rfl⟩ ?_
  refine gx_room (gx_mono (W_isClient_m hS r1 h) ?_) (Nat.le_of_ble_eq_true rfl) (Nat.le_of_ble_eq_true rfl)
  rintro _ _ ⟨z2, M2, rfl, rfl, r2, h⟩
  obtain ⟨i1, h⟩ := h
  refine n_if rfl i1 (fun c => ?_) (fun c => ?_)
  · replace h := h.1 c
    exact W_client_23 hS r2  h
  · replace h := h.2 c
    refine g1 (n := 1) rfl rfl rfl (li_of a2) ?_
    obtain ⟨i2, h⟩ := h
    refine n_if rfl i2 (fun c => ?_) (fun c => ?_)
    · replace h := h.1 c
      exact W_client_23 hS r2  h
    · replace h := h.2 c
      refine g1 (n := 1) rfl rfl rfl (li_of a2) ?_
      refine n_bi rfl (by decide) ?_
      obtain ⟨i3, h⟩ := h
      refine n_ic rfl i3 ⟨by decide, by decide⟩ (fun c => ?_) (fun c => ?_)
      · replace h := h.1 c
        refine g1 (n := 1) rfl rfl rfl (la_of a0) ?_
        refine n_gr rfl hS.1 rfl (fun _ => rfl) r2 (rk_381 hS).2 ?_
        refine g1 (n := 1) rfl rfl rfl (li_of a1) ?_
        obtain ⟨q, h⟩ := h
        refine n_ia rfl (rk_381 hS).1 (Nat.le_of_ble_eq_true rfl) q ?_
        refine n_if rfl (inr_gi _ _ _) (fun c => ?_) (fun c => ?_)
        · replace h := h.2 c
          refine g1 (n := 1) rfl rfl rfl rfl ?_
          exact W_client_39 hS r2 a0 a1 a2 h
        · replace h := h.1 (Classical.not_not.mp c)
          refine g1 (n := 1) rfl rfl rfl rfl ?_
          refine g3 rfl rfl rfl ?_
          exact W_client_39 hS r2 a0 a1 a2 h
      · replace h := h.2 c
        exact W_client_23 hS r2  h
def wm_client (x0 : Int) (x1 : Int) (M : rf_M) (K : Int → rf_M → Prop) : Prop := w_client x0 x1 M K
theorem W_client_m {fz : Bool} {S : gS} {B : rf_M} {M : rf_M} {x0 : Int} {x1 : Int} {K : Int → rf_M → Prop} (hS : rk fz S B.2.2) (hR : fq B M) (h : wm_client x0 x1 M K) : gx (cx0 fz) (5, 113) 188 0 (lv_args 0 [.ref 353, zv x0, zv x1]) [] (M, S) (vq_i B S K) :=
  W_client hS hR rfl rfl rfl h
def w_sees_23 (M : rf_M) (K : Int64 → rf_M → Prop) : Prop := K (Int64.ofNat 0) M
theorem W_sees_23 {fz : Bool} {S : gS} {B : rf_M} {M : rf_M} {ls : rf_L} {K : Int64 → rf_M → Prop} (hS : rk fz S B.2.2) (hR : fq B M) (h : w_sees_23 M K) : gx (cx0 fz) (5, 113) 189 23 ls [] (M, S) (vq_l B S K) := by
  unfold w_sees_23 at h
  refine g1 (n := 1) rfl rfl rfl rfl ?_
  exact gx_ret rfl rfl ⟨(Int64.ofNat 0), M, rfl, rfl, hR, h⟩
def w_sees_60 (s0 : Int64) (M : rf_M) (K : Int64 → rf_M → Prop) : Prop := K s0 M
theorem W_sees_60 {fz : Bool} {S : gS} {B : rf_M} {M : rf_M} {ls : rf_L} {s0 : Int64} {K : Int64 → rf_M → Prop} (hS : rk fz S B.2.2) (hR : fq B M) (h : w_sees_60 s0 M K) : gx (cx0 fz) (5, 113) 189 60 ls [.long s0] (M, S) (vq_l B S K) := by
  unfold w_sees_60 at h
  exact gx_ret rfl rfl ⟨s0, M, rfl, rfl, hR, h⟩
def w_sees_44 (v2 : Int) (M : rf_M) (K : Int64 → rf_M → Prop) : Prop := inr v2 ∧ ((16 ≤ v2 → (w_sees_60 (Int64.ofNat 0) M K)) ∧ (¬ (16 ≤ v2) → ((0 ≤ v2 ∧ v2 < 32) ∧ (w_sees_60 (gl M 376 (v2).toNat) M K))))
theorem W_sees_44 {fz : Bool} {S : gS} {B : rf_M} {M : rf_M} {ls : rf_L} {v2 : Int} {K : Int64 → rf_M → Prop} (hS : rk fz S B.2.2) (hR : fq B M) (a0 : rf_ld ls 0 = some (.ref 353)) (a2 : rf_ld ls 2 = some (zv v2)) (h : w_sees_44 v2 M K) : gx (cx0 fz) (5, 113) 189 44 ls [] (M, S) (vq_l B S K) := by
  unfold w_sees_44 at h
  refine g1 (n := 1) rfl rfl rfl (li_of a2) ?_
  refine n_bi rfl (by decide) ?_
  obtain ⟨i1, h⟩ := h
  refine n_ic rfl i1 ⟨by decide, by decide⟩ (fun c => ?_) (fun c => ?_)
  · replace h := h.1 c
    refine g1 (n := 1) rfl rfl rfl rfl ?_
    exact W_sees_60 hS hR  h
  · replace h := h.2 c
    refine g1 (n := 1) rfl rfl rfl (la_of a0) ?_
    refine n_gr rfl hS.1 rfl (fun _ => rfl) hR (rk_376 hS).2 ?_
    refine g1 (n := 1) rfl rfl rfl (li_of a2) ?_
    obtain ⟨q, h⟩ := h
    refine n_la rfl (rk_376 hS).1 (Nat.le_of_ble_eq_true rfl) q ?_
    refine g3 rfl rfl rfl ?_
    exact W_sees_60 hS hR  h
def w_sees_130 (s0 : Int64) (M : rf_M) (K : Int64 → rf_M → Prop) : Prop := K s0 M
theorem W_sees_130 {fz : Bool} {S : gS} {B : rf_M} {M : rf_M} {ls : rf_L} {s0 : Int64} {K : Int64 → rf_M → Prop} (hS : rk fz S B.2.2) (hR : fq B M) (h : w_sees_130 s0 M K) : gx (cx0 fz) (5, 113) 189 130 ls [.long s0] (M, S) (vq_l B S K) := by
  unfold w_sees_130 at h
  exact gx_ret rfl rfl ⟨s0, M, rfl, rfl, hR, h⟩
def w_sees (v1 : Int) (v2 : Int) (M : rf_M) (K : Int64 → rf_M → Prop) : Prop := ∀ M1 : rf_M, M1 = wi M 353 0 0 → (wm_isClient v1 M1 (fun (z2 : Int) (M2 : rf_M) => inr z2 ∧ ((z2 = 0 → (w_sees_23 M2 K)) ∧ (¬ (z2 = 0) → (inr v2 ∧ ((v2 < 0 → (w_sees_23 M2 K)) ∧ (¬ (v2 < 0) → (inr v2 ∧ ((v2 ≤ 25 → ((0 ≤ v1 ∧ v1 < 8) ∧ (((gi M2 381 (v1).toNat) = 0 → (w_sees_44 v2 M2 K)) ∧ (¬ ((gi M2 381 (v1).toNat) = 0) → ((0 ≤ v1 ∧ v1 < 8) ∧ (((gi M2 382 (v1).toNat) = 1 → (wm_walkAnew v1 M2 (fun (M3 : rf_M) => inr v2 ∧ ((v2 < 16 → (((Int32.ofInt (Int32.ofInt (gi M3 353 55) >>> (Int32.ofInt v2 &&& 31)).toInt &&& Int32.ofInt 1).toInt = 1 → ((0 ≤ v2 ∧ v2 < 16) ∧ (w_sees_130 (gl M3 391 (v2).toNat) M3 K))) ∧ (¬ (Int32.ofInt (Int32.ofInt (gi M3 353 55) >>> (Int32.ofInt v2 &&& 31)).toInt &&& Int32.ofInt 1).toInt = 1 → (((Int32.ofInt (Int32.ofInt (gi M3 353 52) >>> (Int32.ofInt v2 &&& 31)).toInt &&& Int32.ofInt 1).toInt = 1 → ((0 ≤ v2 ∧ v2 < 16) ∧ (w_sees_130 (gl M3 389 (v2).toNat) M3 K))) ∧ (¬ (Int32.ofInt (Int32.ofInt (gi M3 353 52) >>> (Int32.ofInt v2 &&& 31)).toInt &&& Int32.ofInt 1).toInt = 1 → ((0 ≤ v2 ∧ v2 < 32) ∧ (w_sees_130 (gl M3 376 (v2).toNat) M3 K))))))) ∧ (¬ (v2 < 16) → ((0 ≤ (v2 - 16) ∧ (v2 - 16) < 10) ∧ (K (gl M3 392 (v2 - 16).toNat) M3))))))) ∧ (¬ ((gi M2 382 (v1).toNat) = 1) → (w_sees_44 v2 M2 K)))))))) ∧ (¬ (v2 ≤ 25) → (w_sees_23 M2 K)))))))))))
theorem W_sees {fz : Bool} {S : gS} {B : rf_M} {M : rf_M} {ls : rf_L} {v1 : Int} {v2 : Int} {K : Int64 → rf_M → Prop} (hS : rk fz S B.2.2) (hR : fq B M) (a0 : rf_ld ls 0 = some (.ref 353)) (a1 : rf_ld ls 1 = some (zv v1)) (a2 : rf_ld ls 2 = some (zv v2)) (h : w_sees v1 v2 M K) : gx (cx0 fz) (5, 113) 189 0 ls [] (M, S) (vq_l B S K) := by
  unfold w_sees at h
  refine g1 (n := 1) rfl rfl rfl (la_of a0) ?_
  refine g1 (n := 1) rfl rfl rfl rfl ?_
  refine n_pi (Nat.le_of_ble_eq_true rfl) rfl hS.1 rfl (fun _ _ => rfl) (fun M1 e r => ?_)
  replace h := h M1 e
  have r1 := hR.trans r
  refine g1 (n := 1) rfl rfl rfl (la_of a0) ?_
  refine g1 (n := 1) rfl rfl rfl (li_of a1) ?_
  refine m_iv (a := 353) (as := [zv v1]) (rest := []) rfl (by decide) hS.1 rfl rfl (Nat.le_of_ble_eq_true rfl) ⟨Nat.le_of_ble_eq_true rfl, Nat.le_of_ble_eq_true rfl, Nat.le_of_ble_eq_true rfl⟩ ?_
  refine gx_room (gx_mono (W_isClient_m hS r1 h) ?_) (Nat.le_of_ble_eq_true rfl) (Nat.le_of_ble_eq_true rfl)
  rintro _ _ ⟨z2, M2, rfl, rfl, r2, h⟩
  obtain ⟨i1, h⟩ := h
  refine n_if rfl i1 (fun c => ?_) (fun c => ?_)
  · replace h := h.1 c
    exact W_sees_23 hS r2  h
  · replace h := h.2 c
    refine g1 (n := 1) rfl rfl rfl (li_of a2) ?_
    obtain ⟨i2, h⟩ := h
    refine n_if rfl i2 (fun c => ?_) (fun c => ?_)
    · replace h := h.1 c
      exact W_sees_23 hS r2  h
    · replace h := h.2 c
      refine g1 (n := 1) rfl rfl rfl (li_of a2) ?_
      refine n_bi rfl (by decide) ?_
      obtain ⟨i3, h⟩ := h
      refine n_ic rfl i3 ⟨by decide, by decide⟩ (fun c => ?_) (fun c => ?_)
      · replace h := h.1 c
        refine g1 (n := 1) rfl rfl rfl (la_of a0) ?_
        refine n_gr rfl hS.1 rfl (fun _ => rfl) r2 (rk_381 hS).2 ?_
        refine g1 (n := 1) rfl rfl rfl (li_of a1) ?_
        obtain ⟨q, h⟩ := h
        refine n_ia rfl (rk_381 hS).1 (Nat.le_of_ble_eq_true rfl) q ?_
        refine n_if rfl (inr_gi _ _ _) (fun c => ?_) (fun c => ?_)
        · replace h := h.1 c
          exact W_sees_44 hS r2 a0 a2 h
        · replace h := h.2 c
          refine g1 (n := 1) rfl rfl rfl (la_of a0) ?_
          refine n_gr rfl hS.1 rfl (fun _ => rfl) r2 (rk_382 hS).2 ?_
          refine g1 (n := 1) rfl rfl rfl (li_of a1) ?_
          obtain ⟨q, h⟩ := h
          refine n_ia rfl (rk_382 hS).1 (Nat.le_of_ble_eq_true rfl) q ?_
          refine g1 (n := 1) rfl rfl rfl rfl ?_
          refine n_ic rfl (inr_gi _ _ _) ⟨by decide, by decide⟩ (fun c => ?_) (fun c => ?_)
          · replace h := h.1 c
            refine g1 (n := 1) rfl rfl rfl (la_of a0) ?_
            refine g1 (n := 1) rfl rfl rfl (li_of a1) ?_
            refine m_iv (a := 353) (as := [zv v1]) (rest := []) rfl (by decide) hS.1 rfl rfl (Nat.le_of_ble_eq_true rfl) ⟨Nat.le_of_ble_eq_true rfl, Nat.le_of_ble_eq_true rfl, Nat.le_of_ble_eq_true rfl⟩ ?_
            refine gx_room (gx_mono (W_walkAnew_m hS r2 h) ?_) (Nat.le_of_ble_eq_true rfl) (Nat.le_of_ble_eq_true rfl)
            rintro _ _ ⟨M3, rfl, rfl, r3, h⟩
            refine g1 (n := 1) rfl rfl rfl (li_of a2) ?_
            refine n_bi rfl (by decide) ?_
            obtain ⟨i4, h⟩ := h
            refine n_ic rfl i4 ⟨by decide, by decide⟩ (fun c => ?_) (fun c => ?_)
            · replace h := h.1 c
              refine g1 (n := 1) rfl rfl rfl (la_of a0) ?_
              refine n_gi rfl hS.1 rfl (fun _ => rfl) ?_
              refine g1 (n := 1) rfl rfl rfl (li_of a2) ?_
              refine n_op (T := (Int32.ofInt (gi M3 353 55) >>> (Int32.ofInt v2 &&& 31))) rfl rfl rfl ?_
              refine g1 (n := 1) rfl rfl rfl rfl ?_
              refine n_op (T := (Int32.ofInt (Int32.ofInt (gi M3 353 55) >>> (Int32.ofInt v2 &&& 31)).toInt &&& Int32.ofInt 1)) rfl rfl rfl ?_
              refine g1 (n := 1) rfl rfl rfl rfl ?_
              refine n_ic rfl (inr_ti _) ⟨by decide, by decide⟩ (fun c => ?_) (fun c => ?_)
              · replace h := h.2 c
                refine g1 (n := 1) rfl rfl rfl (la_of a0) ?_
                refine n_gi rfl hS.1 rfl (fun _ => rfl) ?_
                refine g1 (n := 1) rfl rfl rfl (li_of a2) ?_
                refine n_op (T := (Int32.ofInt (gi M3 353 52) >>> (Int32.ofInt v2 &&& 31))) rfl rfl rfl ?_
                refine g1 (n := 1) rfl rfl rfl rfl ?_
                refine n_op (T := (Int32.ofInt (Int32.ofInt (gi M3 353 52) >>> (Int32.ofInt v2 &&& 31)).toInt &&& Int32.ofInt 1)) rfl rfl rfl ?_
                refine g1 (n := 1) rfl rfl rfl rfl ?_
                refine n_ic rfl (inr_ti _) ⟨by decide, by decide⟩ (fun c => ?_) (fun c => ?_)
                · replace h := h.2 c
                  refine g1 (n := 1) rfl rfl rfl (la_of a0) ?_
                  refine n_gr rfl hS.1 rfl (fun _ => rfl) r3 (rk_376 hS).2 ?_
                  refine g1 (n := 1) rfl rfl rfl (li_of a2) ?_
                  obtain ⟨q, h⟩ := h
                  refine n_la rfl (rk_376 hS).1 (Nat.le_of_ble_eq_true rfl) q ?_
                  exact W_sees_130 hS r3  h
                · replace h := h.1 (Classical.not_not.mp c)
                  refine g1 (n := 1) rfl rfl rfl (la_of a0) ?_
                  refine n_gr rfl hS.1 rfl (fun _ => rfl) r3 (rk_389 hS).2 ?_
                  refine g1 (n := 1) rfl rfl rfl (li_of a2) ?_
                  obtain ⟨q, h⟩ := h
                  refine n_la rfl (rk_389 hS).1 (Nat.le_of_ble_eq_true rfl) q ?_
                  refine g3 rfl rfl rfl ?_
                  exact W_sees_130 hS r3  h
              · replace h := h.1 (Classical.not_not.mp c)
                refine g1 (n := 1) rfl rfl rfl (la_of a0) ?_
                refine n_gr rfl hS.1 rfl (fun _ => rfl) r3 (rk_391 hS).2 ?_
                refine g1 (n := 1) rfl rfl rfl (li_of a2) ?_
                obtain ⟨q, h⟩ := h
                refine n_la rfl (rk_391 hS).1 (Nat.le_of_ble_eq_true rfl) q ?_
                refine g3 rfl rfl rfl ?_
                exact W_sees_130 hS r3  h
            · replace h := h.2 c
              refine g1 (n := 1) rfl rfl rfl (la_of a0) ?_
              refine n_gr rfl hS.1 rfl (fun _ => rfl) r3 (rk_392 hS).2 ?_
              refine g1 (n := 1) rfl rfl rfl (li_of a2) ?_
              refine n_bi rfl (by decide) ?_
              refine n_sub rfl ?_
              obtain ⟨q, h⟩ := h
              refine n_la rfl (rk_392 hS).1 (Nat.le_of_ble_eq_true rfl) q ?_
              exact gx_ret rfl rfl ⟨(gl M3 392 (v2 - 16).toNat), M3, rfl, rfl, r3, h⟩
          · replace h := h.2 c
            exact W_sees_44 hS r2 a0 a2 h
      · replace h := h.2 c
        exact W_sees_23 hS r2  h
def wm_sees (x0 : Int) (x1 : Int) (M : rf_M) (K : Int64 → rf_M → Prop) : Prop := w_sees x0 x1 M K
theorem W_sees_m {fz : Bool} {S : gS} {B : rf_M} {M : rf_M} {x0 : Int} {x1 : Int} {K : Int64 → rf_M → Prop} (hS : rk fz S B.2.2) (hR : fq B M) (h : wm_sees x0 x1 M K) : gx (cx0 fz) (5, 113) 189 0 (lv_args 0 [.ref 353, zv x0, zv x1]) [] (M, S) (vq_l B S K) :=
  W_sees hS hR rfl rfl rfl h
def w_rules (M : rf_M) (K : Int → rf_M → Prop) : Prop := ∀ M1 : rf_M, M1 = wi M 353 0 0 → ((0 ≤ (0 : Int) ∧ (0 : Int) < 2) ∧ (K (gi M1 378 0) M1))
theorem W_rules {fz : Bool} {S : gS} {B : rf_M} {M : rf_M} {ls : rf_L} {K : Int → rf_M → Prop} (hS : rk fz S B.2.2) (hR : fq B M) (a0 : rf_ld ls 0 = some (.ref 353)) (h : w_rules M K) : gx (cx0 fz) (0, 0) 190 0 ls [] (M, S) (vq_i B S K) := by
  unfold w_rules at h
  refine g1 (n := 1) rfl rfl rfl (la_of a0) ?_
  refine g1 (n := 1) rfl rfl rfl rfl ?_
  refine n_pi (Nat.le_of_ble_eq_true rfl) rfl hS.1 rfl (fun _ _ => rfl) (fun M1 e r => ?_)
  replace h := h M1 e
  have r1 := hR.trans r
  refine g1 (n := 1) rfl rfl rfl (la_of a0) ?_
  refine n_gr rfl hS.1 rfl (fun _ => rfl) r1 (rk_378 hS).2 ?_
  refine g1 (n := 1) rfl rfl rfl rfl ?_
  obtain ⟨q, h⟩ := h
  refine n_ia rfl (rk_378 hS).1 (Nat.le_of_ble_eq_true rfl) q ?_
  exact gx_ret rfl rfl ⟨(gi M1 378 0), M1, rfl, rfl, r1, h⟩
def wm_rules (M : rf_M) (K : Int → rf_M → Prop) : Prop := w_rules  M K
theorem W_rules_m {fz : Bool} {S : gS} {B : rf_M} {M : rf_M} {K : Int → rf_M → Prop} (hS : rk fz S B.2.2) (hR : fq B M) (h : wm_rules  M K) : gx (cx0 fz) (0, 0) 190 0 (lv_args 0 [.ref 353]) [] (M, S) (vq_i B S K) :=
  W_rules hS hR rfl h
def w_rows (M : rf_M) (K : Int → rf_M → Prop) : Prop := ∀ M1 : rf_M, M1 = wi M 353 0 0 → (K (gi M1 353 69) M1)
theorem W_rows {fz : Bool} {S : gS} {B : rf_M} {M : rf_M} {ls : rf_L} {K : Int → rf_M → Prop} (hS : rk fz S B.2.2) (hR : fq B M) (a0 : rf_ld ls 0 = some (.ref 353)) (h : w_rows M K) : gx (cx0 fz) (0, 0) 191 0 ls [] (M, S) (vq_i B S K) := by
  unfold w_rows at h
  refine g1 (n := 1) rfl rfl rfl (la_of a0) ?_
  refine g1 (n := 1) rfl rfl rfl rfl ?_
  refine n_pi (Nat.le_of_ble_eq_true rfl) rfl hS.1 rfl (fun _ _ => rfl) (fun M1 e r => ?_)
  replace h := h M1 e
  have r1 := hR.trans r
  refine g1 (n := 1) rfl rfl rfl (la_of a0) ?_
  refine n_gi rfl hS.1 rfl (fun _ => rfl) ?_
  exact gx_ret rfl rfl ⟨(gi M1 353 69), M1, rfl, rfl, r1, h⟩
def wm_rows (M : rf_M) (K : Int → rf_M → Prop) : Prop := w_rows  M K
theorem W_rows_m {fz : Bool} {S : gS} {B : rf_M} {M : rf_M} {K : Int → rf_M → Prop} (hS : rk fz S B.2.2) (hR : fq B M) (h : wm_rows  M K) : gx (cx0 fz) (0, 0) 191 0 (lv_args 0 [.ref 353]) [] (M, S) (vq_i B S K) :=
  W_rows hS hR rfl h
def w_row_17 (M : rf_M) (K : Int → rf_M → Prop) : Prop := K (-1) M
theorem W_row_17 {fz : Bool} {S : gS} {B : rf_M} {M : rf_M} {ls : rf_L} {K : Int → rf_M → Prop} (hS : rk fz S B.2.2) (hR : fq B M) (h : w_row_17 M K) : gx (cx0 fz) (0, 0) 192 17 ls [] (M, S) (vq_i B S K) := by
  unfold w_row_17 at h
  refine g1 (n := 1) rfl rfl rfl rfl ?_
  exact gx_ret rfl rfl ⟨(-1), M, rfl, rfl, hR, h⟩
def w_row_89 (s0 : Int) (M : rf_M) (K : Int → rf_M → Prop) : Prop := K s0 M
theorem W_row_89 {fz : Bool} {S : gS} {B : rf_M} {M : rf_M} {ls : rf_L} {s0 : Int} {K : Int → rf_M → Prop} (hS : rk fz S B.2.2) (hR : fq B M) (h : w_row_89 s0 M K) : gx (cx0 fz) (0, 0) 192 89 ls [zv s0] (M, S) (vq_i B S K) := by
  unfold w_row_89 at h
  exact gx_ret rfl rfl ⟨s0, M, rfl, rfl, hR, h⟩
def w_row (v1 : Int) (v2 : Int) (M : rf_M) (K : Int → rf_M → Prop) : Prop := ∀ M1 : rf_M, M1 = wi M 353 0 0 → (inr v1 ∧ ((v1 < 0 → (w_row_17 M1 K)) ∧ (¬ (v1 < 0) → (inr v1 ∧ ((v1 < (gi M1 353 69) → (inr v2 ∧ ((v2 = 0 → ((0 ≤ v1 ∧ v1 < 300) ∧ (w_row_89 (gi M1 400 (v1).toNat) M1 K))) ∧ (¬ v2 = 0 → (inr v2 ∧ ((v2 = 1 → ((0 ≤ v1 ∧ v1 < 300) ∧ (w_row_89 (gi M1 401 (v1).toNat) M1 K))) ∧ (¬ v2 = 1 → (inr v2 ∧ ((v2 = 2 → ((0 ≤ v1 ∧ v1 < 300) ∧ (w_row_89 (gi M1 402 (v1).toNat) M1 K))) ∧ (¬ v2 = 2 → (inr v2 ∧ ((v2 = 3 → ((0 ≤ v1 ∧ v1 < 300) ∧ (w_row_89 (gi M1 403 (v1).toNat) M1 K))) ∧ (¬ v2 = 3 → (inr v2 ∧ ((v2 = 4 → ((0 ≤ v1 ∧ v1 < 300) ∧ (w_row_89 (gi M1 404 (v1).toNat) M1 K))) ∧ (¬ v2 = 4 → (w_row_89 (-1) M1 K))))))))))))))))) ∧ (¬ (v1 < (gi M1 353 69)) → (w_row_17 M1 K)))))))
theorem W_row {fz : Bool} {S : gS} {B : rf_M} {M : rf_M} {ls : rf_L} {v1 : Int} {v2 : Int} {K : Int → rf_M → Prop} (hS : rk fz S B.2.2) (hR : fq B M) (a0 : rf_ld ls 0 = some (.ref 353)) (a1 : rf_ld ls 1 = some (zv v1)) (a2 : rf_ld ls 2 = some (zv v2)) (h : w_row v1 v2 M K) : gx (cx0 fz) (0, 0) 192 0 ls [] (M, S) (vq_i B S K) := by
  unfold w_row at h
  refine g1 (n := 1) rfl rfl rfl (la_of a0) ?_
  refine g1 (n := 1) rfl rfl rfl rfl ?_
  refine n_pi (Nat.le_of_ble_eq_true rfl) rfl hS.1 rfl (fun _ _ => rfl) (fun M1 e r => ?_)
  replace h := h M1 e
  have r1 := hR.trans r
  refine g1 (n := 1) rfl rfl rfl (li_of a1) ?_
  obtain ⟨i1, h⟩ := h
  refine n_if rfl i1 (fun c => ?_) (fun c => ?_)
  · replace h := h.1 c
    exact W_row_17 hS r1  h
  · replace h := h.2 c
    refine g1 (n := 1) rfl rfl rfl (li_of a1) ?_
    refine g1 (n := 1) rfl rfl rfl (la_of a0) ?_
    refine n_gi rfl hS.1 rfl (fun _ => rfl) ?_
    obtain ⟨i2, h⟩ := h
    refine n_ic rfl i2 (inr_gi _ _ _) (fun c => ?_) (fun c => ?_)
    · replace h := h.1 c
      refine g1 (n := 1) rfl rfl rfl (li_of a2) ?_
      obtain ⟨i3, h⟩ := h
      refine n_if rfl i3 (fun c => ?_) (fun c => ?_)
      · replace h := h.2 c
        refine g1 (n := 1) rfl rfl rfl (li_of a2) ?_
        refine g1 (n := 1) rfl rfl rfl rfl ?_
        obtain ⟨i4, h⟩ := h
        refine n_ic rfl i4 ⟨by decide, by decide⟩ (fun c => ?_) (fun c => ?_)
        · replace h := h.2 c
          refine g1 (n := 1) rfl rfl rfl (li_of a2) ?_
          refine g1 (n := 1) rfl rfl rfl rfl ?_
          obtain ⟨i5, h⟩ := h
          refine n_ic rfl i5 ⟨by decide, by decide⟩ (fun c => ?_) (fun c => ?_)
          · replace h := h.2 c
            refine g1 (n := 1) rfl rfl rfl (li_of a2) ?_
            refine g1 (n := 1) rfl rfl rfl rfl ?_
            obtain ⟨i6, h⟩ := h
            refine n_ic rfl i6 ⟨by decide, by decide⟩ (fun c => ?_) (fun c => ?_)
            · replace h := h.2 c
              refine g1 (n := 1) rfl rfl rfl (li_of a2) ?_
              refine g1 (n := 1) rfl rfl rfl rfl ?_
              obtain ⟨i7, h⟩ := h
              refine n_ic rfl i7 ⟨by decide, by decide⟩ (fun c => ?_) (fun c => ?_)
              · replace h := h.2 c
                refine g1 (n := 1) rfl rfl rfl rfl ?_
                exact W_row_89 hS r1  h
              · replace h := h.1 (Classical.not_not.mp c)
                refine g1 (n := 1) rfl rfl rfl (la_of a0) ?_
                refine n_gr rfl hS.1 rfl (fun _ => rfl) r1 (rk_404 hS).2 ?_
                refine g1 (n := 1) rfl rfl rfl (li_of a1) ?_
                obtain ⟨q, h⟩ := h
                refine n_ia rfl (rk_404 hS).1 (Nat.le_of_ble_eq_true rfl) q ?_
                refine g3 rfl rfl rfl ?_
                exact W_row_89 hS r1  h
            · replace h := h.1 (Classical.not_not.mp c)
              refine g1 (n := 1) rfl rfl rfl (la_of a0) ?_
              refine n_gr rfl hS.1 rfl (fun _ => rfl) r1 (rk_403 hS).2 ?_
              refine g1 (n := 1) rfl rfl rfl (li_of a1) ?_
              obtain ⟨q, h⟩ := h
              refine n_ia rfl (rk_403 hS).1 (Nat.le_of_ble_eq_true rfl) q ?_
              refine g3 rfl rfl rfl ?_
              exact W_row_89 hS r1  h
          · replace h := h.1 (Classical.not_not.mp c)
            refine g1 (n := 1) rfl rfl rfl (la_of a0) ?_
            refine n_gr rfl hS.1 rfl (fun _ => rfl) r1 (rk_402 hS).2 ?_
            refine g1 (n := 1) rfl rfl rfl (li_of a1) ?_
            obtain ⟨q, h⟩ := h
            refine n_ia rfl (rk_402 hS).1 (Nat.le_of_ble_eq_true rfl) q ?_
            refine g3 rfl rfl rfl ?_
            exact W_row_89 hS r1  h
        · replace h := h.1 (Classical.not_not.mp c)
          refine g1 (n := 1) rfl rfl rfl (la_of a0) ?_
          refine n_gr rfl hS.1 rfl (fun _ => rfl) r1 (rk_401 hS).2 ?_
          refine g1 (n := 1) rfl rfl rfl (li_of a1) ?_
          obtain ⟨q, h⟩ := h
          refine n_ia rfl (rk_401 hS).1 (Nat.le_of_ble_eq_true rfl) q ?_
          refine g3 rfl rfl rfl ?_
          exact W_row_89 hS r1  h
      · replace h := h.1 (Classical.not_not.mp c)
        refine g1 (n := 1) rfl rfl rfl (la_of a0) ?_
        refine n_gr rfl hS.1 rfl (fun _ => rfl) r1 (rk_400 hS).2 ?_
        refine g1 (n := 1) rfl rfl rfl (li_of a1) ?_
        obtain ⟨q, h⟩ := h
        refine n_ia rfl (rk_400 hS).1 (Nat.le_of_ble_eq_true rfl) q ?_
        refine g3 rfl rfl rfl ?_
        exact W_row_89 hS r1  h
    · replace h := h.2 c
      exact W_row_17 hS r1  h
def wm_row (x0 : Int) (x1 : Int) (M : rf_M) (K : Int → rf_M → Prop) : Prop := w_row x0 x1 M K
theorem W_row_m {fz : Bool} {S : gS} {B : rf_M} {M : rf_M} {x0 : Int} {x1 : Int} {K : Int → rf_M → Prop} (hS : rk fz S B.2.2) (hR : fq B M) (h : wm_row x0 x1 M K) : gx (cx0 fz) (0, 0) 192 0 (lv_args 0 [.ref 353, zv x0, zv x1]) [] (M, S) (vq_i B S K) :=
  W_row hS hR rfl rfl rfl h
def w_value_27 (s0 : Int64) (M : rf_M) (K : Int64 → rf_M → Prop) : Prop := K s0 M
theorem W_value_27 {fz : Bool} {S : gS} {B : rf_M} {M : rf_M} {ls : rf_L} {s0 : Int64} {K : Int64 → rf_M → Prop} (hS : rk fz S B.2.2) (hR : fq B M) (h : w_value_27 s0 M K) : gx (cx0 fz) (0, 0) 193 27 ls [.long s0] (M, S) (vq_l B S K) := by
  unfold w_value_27 at h
  exact gx_ret rfl rfl ⟨s0, M, rfl, rfl, hR, h⟩
def w_value_17 (M : rf_M) (K : Int64 → rf_M → Prop) : Prop := w_value_27 (Int64.ofNat 0) M K
theorem W_value_17 {fz : Bool} {S : gS} {B : rf_M} {M : rf_M} {ls : rf_L} {K : Int64 → rf_M → Prop} (hS : rk fz S B.2.2) (hR : fq B M) (h : w_value_17 M K) : gx (cx0 fz) (0, 0) 193 17 ls [] (M, S) (vq_l B S K) := by
  unfold w_value_17 at h
  refine g1 (n := 1) rfl rfl rfl rfl ?_
  refine g3 rfl rfl rfl ?_
  exact W_value_27 hS hR  h
def w_value (v1 : Int) (M : rf_M) (K : Int64 → rf_M → Prop) : Prop := ∀ M1 : rf_M, M1 = wi M 353 0 0 → (inr v1 ∧ ((v1 < 0 → (w_value_17 M1 K)) ∧ (¬ (v1 < 0) → (inr v1 ∧ ((v1 < (gi M1 353 69) → ((0 ≤ v1 ∧ v1 < 300) ∧ (w_value_27 (gl M1 405 (v1).toNat) M1 K))) ∧ (¬ (v1 < (gi M1 353 69)) → (w_value_17 M1 K)))))))
theorem W_value {fz : Bool} {S : gS} {B : rf_M} {M : rf_M} {ls : rf_L} {v1 : Int} {K : Int64 → rf_M → Prop} (hS : rk fz S B.2.2) (hR : fq B M) (a0 : rf_ld ls 0 = some (.ref 353)) (a1 : rf_ld ls 1 = some (zv v1)) (h : w_value v1 M K) : gx (cx0 fz) (0, 0) 193 0 ls [] (M, S) (vq_l B S K) := by
  unfold w_value at h
  refine g1 (n := 1) rfl rfl rfl (la_of a0) ?_
  refine g1 (n := 1) rfl rfl rfl rfl ?_
  refine n_pi (Nat.le_of_ble_eq_true rfl) rfl hS.1 rfl (fun _ _ => rfl) (fun M1 e r => ?_)
  replace h := h M1 e
  have r1 := hR.trans r
  refine g1 (n := 1) rfl rfl rfl (li_of a1) ?_
  obtain ⟨i1, h⟩ := h
  refine n_if rfl i1 (fun c => ?_) (fun c => ?_)
  · replace h := h.1 c
    exact W_value_17 hS r1  h
  · replace h := h.2 c
    refine g1 (n := 1) rfl rfl rfl (li_of a1) ?_
    refine g1 (n := 1) rfl rfl rfl (la_of a0) ?_
    refine n_gi rfl hS.1 rfl (fun _ => rfl) ?_
    obtain ⟨i2, h⟩ := h
    refine n_ic rfl i2 (inr_gi _ _ _) (fun c => ?_) (fun c => ?_)
    · replace h := h.1 c
      refine g1 (n := 1) rfl rfl rfl (la_of a0) ?_
      refine n_gr rfl hS.1 rfl (fun _ => rfl) r1 (rk_405 hS).2 ?_
      refine g1 (n := 1) rfl rfl rfl (li_of a1) ?_
      obtain ⟨q, h⟩ := h
      refine n_la rfl (rk_405 hS).1 (Nat.le_of_ble_eq_true rfl) q ?_
      exact W_value_27 hS r1  h
    · replace h := h.2 c
      exact W_value_17 hS r1  h
def wm_value (x0 : Int) (M : rf_M) (K : Int64 → rf_M → Prop) : Prop := w_value x0 M K
theorem W_value_m {fz : Bool} {S : gS} {B : rf_M} {M : rf_M} {x0 : Int} {K : Int64 → rf_M → Prop} (hS : rk fz S B.2.2) (hR : fq B M) (h : wm_value x0 M K) : gx (cx0 fz) (0, 0) 193 0 (lv_args 0 [.ref 353, zv x0]) [] (M, S) (vq_l B S K) :=
  W_value hS hR rfl rfl h
def w_beginRun (v1 : Int) (M : rf_M) (K : rf_M → Prop) : Prop := ∀ M1 : rf_M, M1 = wi M 353 52 0 → (wm_beginWalk v1 M1 (fun (M2 : rf_M) => K M2))
theorem W_beginRun {fz : Bool} {S : gS} {B : rf_M} {M : rf_M} {ls : rf_L} {v1 : Int} {K : rf_M → Prop} (hS : rk fz S B.2.2) (hR : fq B M) (a0 : rf_ld ls 0 = some (.ref 353)) (a1 : rf_ld ls 1 = some (zv v1)) (h : w_beginRun v1 M K) : gx (cx0 fz) (1, 22) 196 0 ls [] (M, S) (vq_v B S K) := by
  unfold w_beginRun at h
  refine g1 (n := 1) rfl rfl rfl (la_of a0) ?_
  refine g1 (n := 1) rfl rfl rfl rfl ?_
  refine n_pi (Nat.le_of_ble_eq_true rfl) rfl hS.1 rfl (fun _ _ => rfl) (fun M1 e r => ?_)
  replace h := h M1 e
  have r1 := hR.trans r
  refine g1 (n := 1) rfl rfl rfl (la_of a0) ?_
  refine g1 (n := 1) rfl rfl rfl (li_of a1) ?_
  refine m_iv (a := 353) (as := [zv v1]) (rest := []) rfl (by decide) hS.1 rfl rfl (Nat.le_of_ble_eq_true rfl) ⟨Nat.le_of_ble_eq_true rfl, Nat.le_of_ble_eq_true rfl, Nat.le_of_ble_eq_true rfl⟩ ?_
  refine gx_room (gx_mono (W_beginWalk_m hS r1 h) ?_) (Nat.le_of_ble_eq_true rfl) (Nat.le_of_ble_eq_true rfl)
  rintro _ _ ⟨M2, rfl, rfl, r2, h⟩
  exact gx_ret rfl rfl ⟨M2, rfl, rfl, r2, h⟩
def wm_beginRun (x0 : Int) (M : rf_M) (K : rf_M → Prop) : Prop := w_beginRun x0 M K
theorem W_beginRun_m {fz : Bool} {S : gS} {B : rf_M} {M : rf_M} {x0 : Int} {K : rf_M → Prop} (hS : rk fz S B.2.2) (hR : fq B M) (h : wm_beginRun x0 M K) : gx (cx0 fz) (1, 22) 196 0 (lv_args 0 [.ref 353, zv x0]) [] (M, S) (vq_v B S K) :=
  W_beginRun hS hR rfl rfl h
def w_comesToSame_220 (s0 : Int) (M : rf_M) (K : Int → rf_M → Prop) : Prop := (s0 = 0 ∨ s0 = 1) ∧ K s0 M
theorem W_comesToSame_220 {fz : Bool} {S : gS} {B : rf_M} {M : rf_M} {ls : rf_L} {s0 : Int} {K : Int → rf_M → Prop} (hS : rk fz S B.2.2) (hR : fq B M) (h : w_comesToSame_220 s0 M K) : gx (cx0 fz) (6, 134) 195 220 ls [zv s0] (M, S) (vq_i B S K) := by
  unfold w_comesToSame_220 at h
  exact n_rb rfl rfl h.1 hR h.2
def w_comesToSame_215 (M : rf_M) (K : Int → rf_M → Prop) : Prop := w_comesToSame_220 1 M K
theorem W_comesToSame_215 {fz : Bool} {S : gS} {B : rf_M} {M : rf_M} {ls : rf_L} {K : Int → rf_M → Prop} (hS : rk fz S B.2.2) (hR : fq B M) (h : w_comesToSame_215 M K) : gx (cx0 fz) (6, 134) 195 215 ls [] (M, S) (vq_i B S K) := by
  unfold w_comesToSame_215 at h
  refine g1 (n := 1) rfl rfl rfl rfl ?_
  refine g3 rfl rfl rfl ?_
  exact W_comesToSame_220 hS hR  h
def w_comesToSame_219 (M : rf_M) (K : Int → rf_M → Prop) : Prop := w_comesToSame_220 0 M K
theorem W_comesToSame_219 {fz : Bool} {S : gS} {B : rf_M} {M : rf_M} {ls : rf_L} {K : Int → rf_M → Prop} (hS : rk fz S B.2.2) (hR : fq B M) (h : w_comesToSame_219 M K) : gx (cx0 fz) (6, 134) 195 219 ls [] (M, S) (vq_i B S K) := by
  unfold w_comesToSame_219 at h
  refine g1 (n := 1) rfl rfl rfl rfl ?_
  exact W_comesToSame_220 hS hR  h
def w_comesToSame_165 (v1 : Int) (v2 : Int) (v4 : Int) (v5 : Int64) (M : rf_M) (K : Int → rf_M → Prop) : Prop := (0 ≤ v1 ∧ v1 < 300) ∧ (inr v2 ∧ ((v2 = (gi M 403 (v1).toNat) → (inr v4 ∧ ((v4 = 0 → ((0 ≤ v1 ∧ v1 < 300) ∧ (((gi M 400 (v1).toNat) = 1 → (w_comesToSame_215 M K)) ∧ (¬ (gi M 400 (v1).toNat) = 1 → (w_comesToSame_219 M K))))) ∧ (¬ (v4 = 0) → ((0 ≤ v1 ∧ v1 < 300) ∧ (((gi M 400 (v1).toNat) = 2 → ((0 ≤ v1 ∧ v1 < 300) ∧ (((lg_cmp (gl M 405 (v1).toNat) v5).toInt = 0 → (w_comesToSame_215 M K)) ∧ (¬ (lg_cmp (gl M 405 (v1).toNat) v5).toInt = 0 → (w_comesToSame_219 M K))))) ∧ (¬ (gi M 400 (v1).toNat) = 2 → (w_comesToSame_219 M K)))))))) ∧ (¬ v2 = (gi M 403 (v1).toNat) → (w_comesToSame_219 M K))))
theorem W_comesToSame_165 {fz : Bool} {S : gS} {B : rf_M} {M : rf_M} {ls : rf_L} {v1 : Int} {v2 : Int} {v4 : Int} {v5 : Int64} {K : Int → rf_M → Prop} (hS : rk fz S B.2.2) (hR : fq B M) (a0 : rf_ld ls 0 = some (.ref 353)) (a1 : rf_ld ls 1 = some (zv v1)) (a2 : rf_ld ls 2 = some (zv v2)) (a4 : rf_ld ls 4 = some (zv v4)) (a5 : rf_ld ls 5 = some (.long v5)) (h : w_comesToSame_165 v1 v2 v4 v5 M K) : gx (cx0 fz) (6, 134) 195 165 ls [] (M, S) (vq_i B S K) := by
  unfold w_comesToSame_165 at h
  refine g1 (n := 1) rfl rfl rfl (li_of a2) ?_
  refine g1 (n := 1) rfl rfl rfl (la_of a0) ?_
  refine n_gr rfl hS.1 rfl (fun _ => rfl) hR (rk_403 hS).2 ?_
  refine g1 (n := 1) rfl rfl rfl (li_of a1) ?_
  obtain ⟨q, h⟩ := h
  refine n_ia rfl (rk_403 hS).1 (Nat.le_of_ble_eq_true rfl) q ?_
  obtain ⟨i1, h⟩ := h
  refine n_ic rfl i1 (inr_gi _ _ _) (fun c => ?_) (fun c => ?_)
  · replace h := h.2 c
    exact W_comesToSame_219 hS hR  h
  · replace h := h.1 (Classical.not_not.mp c)
    refine g1 (n := 2) rfl rfl rfl (li_of a4) ?_
    obtain ⟨i2, h⟩ := h
    refine n_if rfl i2 (fun c => ?_) (fun c => ?_)
    · replace h := h.1 c
      refine g1 (n := 1) rfl rfl rfl (la_of a0) ?_
      refine n_gr rfl hS.1 rfl (fun _ => rfl) hR (rk_400 hS).2 ?_
      refine g1 (n := 1) rfl rfl rfl (li_of a1) ?_
      obtain ⟨q, h⟩ := h
      refine n_ia rfl (rk_400 hS).1 (Nat.le_of_ble_eq_true rfl) q ?_
      refine g1 (n := 1) rfl rfl rfl rfl ?_
      refine n_ic rfl (inr_gi _ _ _) ⟨by decide, by decide⟩ (fun c => ?_) (fun c => ?_)
      · replace h := h.2 c
        exact W_comesToSame_219 hS hR  h
      · replace h := h.1 (Classical.not_not.mp c)
        exact W_comesToSame_215 hS hR  h
    · replace h := h.2 c
      refine g1 (n := 1) rfl rfl rfl (la_of a0) ?_
      refine n_gr rfl hS.1 rfl (fun _ => rfl) hR (rk_400 hS).2 ?_
      refine g1 (n := 1) rfl rfl rfl (li_of a1) ?_
      obtain ⟨q, h⟩ := h
      refine n_ia rfl (rk_400 hS).1 (Nat.le_of_ble_eq_true rfl) q ?_
      refine g1 (n := 1) rfl rfl rfl rfl ?_
      refine n_ic rfl (inr_gi _ _ _) ⟨by decide, by decide⟩ (fun c => ?_) (fun c => ?_)
      · replace h := h.2 c
        exact W_comesToSame_219 hS hR  h
      · replace h := h.1 (Classical.not_not.mp c)
        refine g1 (n := 1) rfl rfl rfl (la_of a0) ?_
        refine n_gr rfl hS.1 rfl (fun _ => rfl) hR (rk_405 hS).2 ?_
        refine g1 (n := 1) rfl rfl rfl (li_of a1) ?_
        obtain ⟨q, h⟩ := h
        refine n_la rfl (rk_405 hS).1 (Nat.le_of_ble_eq_true rfl) q ?_
        refine g1 (n := 2) rfl rfl rfl (ll_of a5) ?_
        refine n_op (T := (lg_cmp (gl M 405 (v1).toNat) v5)) rfl rfl rfl ?_
        refine n_if rfl (inr_ti _) (fun c => ?_) (fun c => ?_)
        · replace h := h.2 c
          exact W_comesToSame_219 hS hR  h
        · replace h := h.1 (Classical.not_not.mp c)
          refine g3 rfl rfl rfl ?_
          exact W_comesToSame_215 hS hR  h
def w_comesToSame_156 (v1 : Int) (v2 : Int) (v4 : Int) (v5 : Int64) (M : rf_M) (K : Int → rf_M → Prop) : Prop := inr v4 ∧ ((v4 = 0 → (wm_bringIn  M (fun (M1 : rf_M) => w_comesToSame_165 v1 v2 v4 v5 M1 K))) ∧ (¬ v4 = 0 → (w_comesToSame_165 v1 v2 v4 v5 M K)))
theorem W_comesToSame_156 {fz : Bool} {S : gS} {B : rf_M} {M : rf_M} {ls : rf_L} {v1 : Int} {v2 : Int} {v4 : Int} {v5 : Int64} {K : Int → rf_M → Prop} (hS : rk fz S B.2.2) (hR : fq B M) (a0 : rf_ld ls 0 = some (.ref 353)) (a1 : rf_ld ls 1 = some (zv v1)) (a2 : rf_ld ls 2 = some (zv v2)) (a4 : rf_ld ls 4 = some (zv v4)) (a5 : rf_ld ls 5 = some (.long v5)) (h : w_comesToSame_156 v1 v2 v4 v5 M K) : gx (cx0 fz) (6, 134) 195 156 ls [] (M, S) (vq_i B S K) := by
  unfold w_comesToSame_156 at h
  refine g1 (n := 2) rfl rfl rfl (li_of a4) ?_
  obtain ⟨i1, h⟩ := h
  refine n_if rfl i1 (fun c => ?_) (fun c => ?_)
  · replace h := h.2 c
    exact W_comesToSame_165 hS hR a0 a1 a2 a4 a5 h
  · replace h := h.1 (Classical.not_not.mp c)
    refine g1 (n := 1) rfl rfl rfl (la_of a0) ?_
    refine m_iv (a := 353) (as := []) (rest := []) rfl (by decide) hS.1 rfl rfl (Nat.le_of_ble_eq_true rfl) ⟨Nat.le_of_ble_eq_true rfl, Nat.le_of_ble_eq_true rfl, Nat.le_of_ble_eq_true rfl⟩ ?_
    refine gx_room (gx_mono (W_bringIn_m hS hR h) ?_) (Nat.le_of_ble_eq_true rfl) (Nat.le_of_ble_eq_true rfl)
    rintro _ _ ⟨M1, rfl, rfl, r1, h⟩
    exact W_comesToSame_165 hS r1 a0 a1 a2 a4 a5 h
def w_comesToSame_154 (M : rf_M) (K : Int → rf_M → Prop) : Prop := K 0 M
theorem W_comesToSame_154 {fz : Bool} {S : gS} {B : rf_M} {M : rf_M} {ls : rf_L} {K : Int → rf_M → Prop} (hS : rk fz S B.2.2) (hR : fq B M) (h : w_comesToSame_154 M K) : gx (cx0 fz) (6, 134) 195 154 ls [] (M, S) (vq_i B S K) := by
  unfold w_comesToSame_154 at h
  refine g1 (n := 1) rfl rfl rfl rfl ?_
  exact n_rb rfl rfl (Or.inl rfl) hR h
def w_comesToSame_144 (v1 : Int) (v2 : Int) (v3 : Int) (v4 : Int) (v5 : Int64) (M : rf_M) (K : Int → rf_M → Prop) : Prop := inr v3 ∧ ((v3 = 3 → (w_comesToSame_154 M K)) ∧ (¬ (v3 = 3) → (inr v3 ∧ ((v3 = 1 → (w_comesToSame_154 M K)) ∧ (¬ v3 = 1 → (w_comesToSame_156 v1 v2 v4 v5 M K))))))
theorem W_comesToSame_144 {fz : Bool} {S : gS} {B : rf_M} {M : rf_M} {ls : rf_L} {v1 : Int} {v2 : Int} {v3 : Int} {v4 : Int} {v5 : Int64} {K : Int → rf_M → Prop} (hS : rk fz S B.2.2) (hR : fq B M) (a0 : rf_ld ls 0 = some (.ref 353)) (a1 : rf_ld ls 1 = some (zv v1)) (a2 : rf_ld ls 2 = some (zv v2)) (a3 : rf_ld ls 3 = some (zv v3)) (a4 : rf_ld ls 4 = some (zv v4)) (a5 : rf_ld ls 5 = some (.long v5)) (h : w_comesToSame_144 v1 v2 v3 v4 v5 M K) : gx (cx0 fz) (6, 134) 195 144 ls [] (M, S) (vq_i B S K) := by
  unfold w_comesToSame_144 at h
  refine g1 (n := 1) rfl rfl rfl (li_of a3) ?_
  refine g1 (n := 1) rfl rfl rfl rfl ?_
  obtain ⟨i1, h⟩ := h
  refine n_ic rfl i1 ⟨by decide, by decide⟩ (fun c => ?_) (fun c => ?_)
  · replace h := h.1 c
    exact W_comesToSame_154 hS hR  h
  · replace h := h.2 c
    refine g1 (n := 1) rfl rfl rfl (li_of a3) ?_
    refine g1 (n := 1) rfl rfl rfl rfl ?_
    obtain ⟨i2, h⟩ := h
    refine n_ic rfl i2 ⟨by decide, by decide⟩ (fun c => ?_) (fun c => ?_)
    · replace h := h.2 c
      exact W_comesToSame_156 hS hR a0 a1 a2 a4 a5 h
    · replace h := h.1 (Classical.not_not.mp c)
      exact W_comesToSame_154 hS hR  h
def w_comesToSame_95 (v1 : Int) (v2 : Int) (v3 : Int) (s0 : Int) (M : rf_M) (K : Int → rf_M → Prop) : Prop := inr v3 ∧ ((v3 = 0 → (w_comesToSame_156 v1 (v2 + 1) 1 (Int64.ofNat 18446744073709551613) M K)) ∧ (¬ v3 = 0 → (inr v3 ∧ ((v3 = 4 → (wm_isWell  M (fun (z1 : Int) (M1 : rf_M) => inr z1 ∧ ((z1 = 0 → (w_comesToSame_156 v1 v2 1 (Int64.ofNat 18446744073709551614) M1 K)) ∧ (¬ z1 = 0 → (w_comesToSame_144 v1 v2 v3 s0 (gl M 353 66) M1 K)))))) ∧ (¬ v3 = 4 → (w_comesToSame_144 v1 v2 v3 s0 (gl M 353 66) M K))))))
theorem W_comesToSame_95 {fz : Bool} {S : gS} {B : rf_M} {M : rf_M} {ls : rf_L} {v1 : Int} {v2 : Int} {v3 : Int} {s0 : Int} {K : Int → rf_M → Prop} (hS : rk fz S B.2.2) (hR : fq B M) (a0 : rf_ld ls 0 = some (.ref 353)) (a1 : rf_ld ls 1 = some (zv v1)) (a2 : rf_ld ls 2 = some (zv v2)) (a3 : rf_ld ls 3 = some (zv v3)) (h : w_comesToSame_95 v1 v2 v3 s0 M K) : gx (cx0 fz) (6, 134) 195 95 ls [zv s0] (M, S) (vq_i B S K) := by
  unfold w_comesToSame_95 at h
  refine n_s1 (n := 2) rfl rfl rfl rfl (fun ls l1 ho => ?_)
  replace a0 := ho 0 _ (by decide) (fun q => by cases q.2) a0
  have l2 := ho 1 _ (by decide) (fun q => by cases q.2) a1
  have l3 := ho 2 _ (by decide) (fun q => by cases q.2) a2
  have l4 := ho 3 _ (by decide) (fun q => by cases q.2) a3
  refine g1 (n := 1) rfl rfl rfl (la_of a0) ?_
  refine n_gl rfl hS.1 rfl (fun _ => rfl) ?_
  refine n_s2 (n := 2) rfl rfl rfl rfl (fun ls l5 ho => ?_)
  replace a0 := ho 0 _ (by decide) (by decide) (fun q => by cases q.2) a0
  have l6 := ho 1 _ (by decide) (by decide) (fun q => by cases q.2) l2
  have l7 := ho 2 _ (by decide) (by decide) (fun q => by cases q.2) l3
  have l8 := ho 3 _ (by decide) (by decide) (fun q => by cases q.2) l4
  have l9 := ho 4 _ (by decide) (by decide) (fun q => by cases q.2) l1
  refine g1 (n := 1) rfl rfl rfl (li_of l8) ?_
  obtain ⟨i1, h⟩ := h
  refine n_if rfl i1 (fun c => ?_) (fun c => ?_)
  · replace h := h.2 c
    refine g1 (n := 1) rfl rfl rfl (li_of l8) ?_
    refine g1 (n := 1) rfl rfl rfl rfl ?_
    obtain ⟨i2, h⟩ := h
    refine n_ic rfl i2 ⟨by decide, by decide⟩ (fun c => ?_) (fun c => ?_)
    · replace h := h.2 c
      exact W_comesToSame_144 hS hR a0 l6 l7 l8 l9 l5 h
    · replace h := h.1 (Classical.not_not.mp c)
      refine g1 (n := 1) rfl rfl rfl (la_of a0) ?_
      refine m_iv (a := 353) (as := []) (rest := []) rfl (by decide) hS.1 rfl rfl (Nat.le_of_ble_eq_true rfl) ⟨Nat.le_of_ble_eq_true rfl, Nat.le_of_ble_eq_true rfl, Nat.le_of_ble_eq_true rfl⟩ ?_
      refine gx_room (gx_mono (W_isWell_m hS hR h) ?_) (Nat.le_of_ble_eq_true rfl) (Nat.le_of_ble_eq_true rfl)
      rintro _ _ ⟨z1, M1, rfl, rfl, r1, h⟩
      obtain ⟨i3, h⟩ := h
      refine n_if rfl i3 (fun c => ?_) (fun c => ?_)
      · replace h := h.2 c
        exact W_comesToSame_144 hS r1 a0 l6 l7 l8 l9 l5 h
      · replace h := h.1 (Classical.not_not.mp c)
        refine g1 (n := 1) rfl rfl rfl rfl ?_
        refine n_s1 (n := 2) rfl rfl rfl rfl (fun ls l10 ho => ?_)
        replace a0 := ho 0 _ (by decide) (fun q => by cases q.2) a0
        have l11 := ho 1 _ (by decide) (fun q => by cases q.2) l6
        have l12 := ho 2 _ (by decide) (fun q => by cases q.2) l7
        refine g7 (n := 3) rfl rfl rfl rfl ?_
        refine n_s2 (n := 2) rfl rfl rfl rfl (fun ls l13 ho => ?_)
        replace a0 := ho 0 _ (by decide) (by decide) (fun q => by cases q.2) a0
        have l14 := ho 1 _ (by decide) (by decide) (fun q => by cases q.2) l11
        have l15 := ho 2 _ (by decide) (by decide) (fun q => by cases q.2) l12
        have l16 := ho 4 _ (by decide) (by decide) (fun q => by cases q.2) l10
        refine g3 rfl rfl rfl ?_
        exact W_comesToSame_156 hS r1 a0 l14 l15 l16 l13 h
  · replace h := h.1 (Classical.not_not.mp c)
    refine g1 (n := 1) rfl rfl rfl rfl ?_
    refine n_s1 (n := 2) rfl rfl rfl rfl (fun ls l17 ho => ?_)
    replace a0 := ho 0 _ (by decide) (fun q => by cases q.2) a0
    have l18 := ho 1 _ (by decide) (fun q => by cases q.2) l6
    have l19 := ho 2 _ (by decide) (fun q => by cases q.2) l7
    refine g7 (n := 3) rfl rfl rfl rfl ?_
    refine n_s2 (n := 2) rfl rfl rfl rfl (fun ls l20 ho => ?_)
    replace a0 := ho 0 _ (by decide) (by decide) (fun q => by cases q.2) a0
    have l21 := ho 1 _ (by decide) (by decide) (fun q => by cases q.2) l18
    have l22 := ho 2 _ (by decide) (by decide) (fun q => by cases q.2) l19
    have l23 := ho 4 _ (by decide) (by decide) (fun q => by cases q.2) l17
    refine n_ii rfl l22 (Nat.le_of_ble_eq_true rfl) (fun ls l24 ho => ?_)
    replace a0 := ho 0 _ (by decide) (fun q => by cases q.2) a0
    have l25 := ho 1 _ (by decide) (fun q => by cases q.2) l21
    have l26 := ho 4 _ (by decide) (fun q => by cases q.2) l23
    have l27 := ho 5 _ (by decide) (fun q => absurd q.1 (by decide)) l20
    refine g3 rfl rfl rfl ?_
    exact W_comesToSame_156 hS hR a0 l25 l24 l26 l27 h
def w_comesToSame_85 (v1 : Int) (v2 : Int) (v3 : Int) (M : rf_M) (K : Int → rf_M → Prop) : Prop := inr v3 ∧ ((v3 = 2 → (w_comesToSame_95 v1 v2 v3 1 M K)) ∧ (¬ v3 = 2 → (w_comesToSame_95 v1 v2 v3 0 M K)))
theorem W_comesToSame_85 {fz : Bool} {S : gS} {B : rf_M} {M : rf_M} {ls : rf_L} {v1 : Int} {v2 : Int} {v3 : Int} {K : Int → rf_M → Prop} (hS : rk fz S B.2.2) (hR : fq B M) (a0 : rf_ld ls 0 = some (.ref 353)) (a1 : rf_ld ls 1 = some (zv v1)) (a2 : rf_ld ls 2 = some (zv v2)) (a3 : rf_ld ls 3 = some (zv v3)) (h : w_comesToSame_85 v1 v2 v3 M K) : gx (cx0 fz) (6, 134) 195 85 ls [] (M, S) (vq_i B S K) := by
  unfold w_comesToSame_85 at h
  refine g1 (n := 1) rfl rfl rfl (li_of a3) ?_
  refine g1 (n := 1) rfl rfl rfl rfl ?_
  obtain ⟨i1, h⟩ := h
  refine n_ic rfl i1 ⟨by decide, by decide⟩ (fun c => ?_) (fun c => ?_)
  · replace h := h.2 c
    refine g1 (n := 1) rfl rfl rfl rfl ?_
    exact W_comesToSame_95 hS hR a0 a1 a2 a3 h
  · replace h := h.1 (Classical.not_not.mp c)
    refine g1 (n := 1) rfl rfl rfl rfl ?_
    refine g3 rfl rfl rfl ?_
    exact W_comesToSame_95 hS hR a0 a1 a2 a3 h
def w_comesToSame_63b (v1 : Int) (v2 : Int) (v3 : Int) (M : rf_M) (b63 : Int → Int → Int → rf_M → Prop) (K : Int → rf_M → Prop) : Prop := inr v3 ∧ ((v3 = 0 → (inr v2 ∧ ((300 ≤ v2 → (w_comesToSame_85 v1 v2 v3 M K)) ∧ (¬ (300 ≤ v2) → (wm_step  M (fun (z1 : Int) (M1 : rf_M) => b63 v1 (v2 + 1) z1 M1)))))) ∧ (¬ v3 = 0 → (w_comesToSame_85 v1 v2 v3 M K)))
theorem W_comesToSame_63b {fz : Bool} {S : gS} {B : rf_M} {M : rf_M} {ls : rf_L} {v1 : Int} {v2 : Int} {v3 : Int} {b63 : Int → Int → Int → rf_M → Prop} {K : Int → rf_M → Prop} (hS : rk fz S B.2.2) (hR : fq B M) (a0 : rf_ld ls 0 = some (.ref 353)) (a1 : rf_ld ls 1 = some (zv v1)) (a2 : rf_ld ls 2 = some (zv v2)) (a3 : rf_ld ls 3 = some (zv v3)) (hb63 : ∀ (v1 : Int) (v2 : Int) (v3 : Int) (M : rf_M) (ls : rf_L), fq B M → rf_ld ls 0 = some (.ref 353) → rf_ld ls 1 = some (zv v1) → rf_ld ls 2 = some (zv v2) → rf_ld ls 3 = some (zv v3) → b63 v1 v2 v3 M → gx (cx0 fz) (6, 134) 195 63 ls [] (M, S) (vq_i B S K)) (h : w_comesToSame_63b v1 v2 v3 M b63 K) : gx (cx0 fz) (6, 134) 195 63 ls [] (M, S) (vq_i B S K) := by
  unfold w_comesToSame_63b at h
  refine g1 (n := 1) rfl rfl rfl (li_of a3) ?_
  obtain ⟨i1, h⟩ := h
  refine n_if rfl i1 (fun c => ?_) (fun c => ?_)
  · replace h := h.2 c
    exact W_comesToSame_85 hS hR a0 a1 a2 a3 h
  · replace h := h.1 (Classical.not_not.mp c)
    refine g1 (n := 1) rfl rfl rfl (li_of a2) ?_
    refine n_si rfl (by decide) ?_
    obtain ⟨i2, h⟩ := h
    refine n_ic rfl i2 ⟨by decide, by decide⟩ (fun c => ?_) (fun c => ?_)
    · replace h := h.1 c
      exact W_comesToSame_85 hS hR a0 a1 a2 a3 h
    · replace h := h.2 c
      refine g1 (n := 1) rfl rfl rfl (la_of a0) ?_
      refine m_iv (a := 353) (as := []) (rest := []) rfl (by decide) hS.1 rfl rfl (Nat.le_of_ble_eq_true rfl) ⟨Nat.le_of_ble_eq_true rfl, Nat.le_of_ble_eq_true rfl, Nat.le_of_ble_eq_true rfl⟩ ?_
      refine gx_room (gx_mono (W_step_m hS hR h) ?_) (Nat.le_of_ble_eq_true rfl) (Nat.le_of_ble_eq_true rfl)
      rintro _ _ ⟨z1, M1, rfl, rfl, r1, h⟩
      refine n_s1 (n := 1) rfl rfl rfl rfl (fun ls l1 ho => ?_)
      replace a0 := ho 0 _ (by decide) (fun q => by cases q.2) a0
      have l2 := ho 1 _ (by decide) (fun q => by cases q.2) a1
      have l3 := ho 2 _ (by decide) (fun q => by cases q.2) a2
      refine n_ii rfl l3 (Nat.le_of_ble_eq_true rfl) (fun ls l4 ho => ?_)
      replace a0 := ho 0 _ (by decide) (fun q => by cases q.2) a0
      have l5 := ho 1 _ (by decide) (fun q => by cases q.2) l2
      have l6 := ho 3 _ (by decide) (fun q => by cases q.2) l1
      refine g3 rfl rfl rfl ?_
      exact hb63 _ _ _ _ _ r1 a0 l5 l4 l6 h
def w_comesToSame_63 (v1 : Int) (v2 : Int) (v3 : Int) (M : rf_M) (K : Int → rf_M → Prop) : Prop := ∃ Inv : Nat → Int → Int → Int → rf_M → Prop, (∃ m, Inv m v1 v2 v3 M) ∧ ∀ (m : Nat) (v1 : Int) (v2 : Int) (v3 : Int) (M : rf_M), Inv m v1 v2 v3 M → w_comesToSame_63b v1 v2 v3 M (fun (v1' : Int) (v2' : Int) (v3' : Int) (M' : rf_M) => ∃ m', m' < m ∧ Inv m' v1' v2' v3' M') K
theorem W_comesToSame_63 {fz : Bool} {S : gS} {B : rf_M} {M : rf_M} {ls : rf_L} {v1 : Int} {v2 : Int} {v3 : Int} {K : Int → rf_M → Prop} (hS : rk fz S B.2.2) (hR : fq B M) (a0 : rf_ld ls 0 = some (.ref 353)) (a1 : rf_ld ls 1 = some (zv v1)) (a2 : rf_ld ls 2 = some (zv v2)) (a3 : rf_ld ls 3 = some (zv v3)) (h : w_comesToSame_63 v1 v2 v3 M K) : gx (cx0 fz) (6, 134) 195 63 ls [] (M, S) (vq_i B S K) := by
  obtain ⟨Inv, ⟨m, hm⟩, hb⟩ := h
  induction m using Nat.strongRecOn generalizing ls M v1 v2 v3 with
  | _ m ih =>
    refine W_comesToSame_63b hS hR a0 a1 a2 a3 (fun v1' v2' v3' M' ls' hR' f0 f1 f2 f3 ⟨m', q1, q2⟩ => ih m' q1 hR' f0 f1 f2 f3 q2) (hb m v1 v2 v3 M hm)
def w_comesToSame (v1 : Int) (M : rf_M) (K : Int → rf_M → Prop) : Prop := (0 ≤ v1 ∧ v1 < 300) ∧ (((gi M 400 (v1).toNat) = 0 → ((0 ≤ v1 ∧ v1 < 300) ∧ ((0 ≤ v1 ∧ v1 < 300) ∧ ((0 ≤ (16 + (gi M 402 (v1).toNat)) ∧ (16 + (gi M 402 (v1).toNat)) < 32) ∧ (∀ M2 : rf_M, M2 = wl M 376 (16 + (gi M 402 (v1).toNat)).toNat (gl M 405 (v1).toNat) → ((0 ≤ v1 ∧ v1 < 300) ∧ ((0 ≤ (16 + (gi M2 402 (v1).toNat)) ∧ (16 + (gi M2 402 (v1).toNat)) < 32) ∧ ((0 ≤ (16 + (gi M2 402 (v1).toNat)) ∧ (16 + (gi M2 402 (v1).toNat)) < 32) ∧ (∀ M3 : rf_M, M3 = wi M2 377 (16 + (gi M2 402 (v1).toNat)).toNat ((gi M2 377 (16 + (gi M2 402 (v1).toNat)).toNat) + 1) → (K 1 M3)))))))))) ∧ (¬ (gi M 400 (v1).toNat) = 0 → ((0 ≤ v1 ∧ v1 < 300) ∧ (wm_beginRun (gi M 402 (v1).toNat) M (fun (M1 : rf_M) => w_comesToSame_63 v1 0 0 M1 K)))))
theorem W_comesToSame {fz : Bool} {S : gS} {B : rf_M} {M : rf_M} {ls : rf_L} {v1 : Int} {K : Int → rf_M → Prop} (hS : rk fz S B.2.2) (hR : fq B M) (a0 : rf_ld ls 0 = some (.ref 353)) (a1 : rf_ld ls 1 = some (zv v1)) (h : w_comesToSame v1 M K) : gx (cx0 fz) (6, 134) 195 0 ls [] (M, S) (vq_i B S K) := by
  unfold w_comesToSame at h
  refine g1 (n := 1) rfl rfl rfl (la_of a0) ?_
  refine n_gr rfl hS.1 rfl (fun _ => rfl) hR (rk_400 hS).2 ?_
  refine g1 (n := 1) rfl rfl rfl (li_of a1) ?_
  obtain ⟨q, h⟩ := h
  refine n_ia rfl (rk_400 hS).1 (Nat.le_of_ble_eq_true rfl) q ?_
  refine n_if rfl (inr_gi _ _ _) (fun c => ?_) (fun c => ?_)
  · replace h := h.2 c
    refine g1 (n := 1) rfl rfl rfl (la_of a0) ?_
    refine g1 (n := 1) rfl rfl rfl (la_of a0) ?_
    refine n_gr rfl hS.1 rfl (fun _ => rfl) hR (rk_402 hS).2 ?_
    refine g1 (n := 1) rfl rfl rfl (li_of a1) ?_
    obtain ⟨q, h⟩ := h
    refine n_ia rfl (rk_402 hS).1 (Nat.le_of_ble_eq_true rfl) q ?_
    refine m_iv (a := 353) (as := [zv (gi M 402 (v1).toNat)]) (rest := []) rfl (by decide) hS.1 rfl rfl (Nat.le_of_ble_eq_true rfl) ⟨Nat.le_of_ble_eq_true rfl, Nat.le_of_ble_eq_true rfl, Nat.le_of_ble_eq_true rfl⟩ ?_
    refine gx_room (gx_mono (W_beginRun_m hS hR h) ?_) (Nat.le_of_ble_eq_true rfl) (Nat.le_of_ble_eq_true rfl)
    rintro _ _ ⟨M1, rfl, rfl, r1, h⟩
    refine g1 (n := 1) rfl rfl rfl rfl ?_
    refine n_s1 (n := 1) rfl rfl rfl rfl (fun ls l1 ho => ?_)
    replace a0 := ho 0 _ (by decide) (fun q => by cases q.2) a0
    have l2 := ho 1 _ (by decide) (fun q => by cases q.2) a1
    refine g1 (n := 1) rfl rfl rfl rfl ?_
    refine n_s1 (n := 1) rfl rfl rfl rfl (fun ls l3 ho => ?_)
    replace a0 := ho 0 _ (by decide) (fun q => by cases q.2) a0
    have l4 := ho 1 _ (by decide) (fun q => by cases q.2) l2
    have l5 := ho 2 _ (by decide) (fun q => by cases q.2) l1
    exact W_comesToSame_63 hS r1 a0 l4 l5 l3 h
  · replace h := h.1 (Classical.not_not.mp c)
    refine g1 (n := 1) rfl rfl rfl (la_of a0) ?_
    refine n_gr rfl hS.1 rfl (fun _ => rfl) hR (rk_376 hS).2 ?_
    refine n_bi rfl (by decide) ?_
    refine g1 (n := 1) rfl rfl rfl (la_of a0) ?_
    refine n_gr rfl hS.1 rfl (fun _ => rfl) hR (rk_402 hS).2 ?_
    refine g1 (n := 1) rfl rfl rfl (li_of a1) ?_
    obtain ⟨q, h⟩ := h
    refine n_ia rfl (rk_402 hS).1 (Nat.le_of_ble_eq_true rfl) q ?_
    refine n_add rfl ?_
    refine g1 (n := 1) rfl rfl rfl (la_of a0) ?_
    refine n_gr rfl hS.1 rfl (fun _ => rfl) hR (rk_405 hS).2 ?_
    refine g1 (n := 1) rfl rfl rfl (li_of a1) ?_
    obtain ⟨q, h⟩ := h
    refine n_la rfl (rk_405 hS).1 (Nat.le_of_ble_eq_true rfl) q ?_
    obtain ⟨q, h⟩ := h
    refine n_ls (Nat.le_of_ble_eq_true rfl) rfl (rk_376 hS).1 (Nat.le_of_ble_eq_true rfl) q (fun M2 e r => ?_)
    replace h := h M2 e
    have r2 := hR.trans r
    refine g1 (n := 1) rfl rfl rfl (la_of a0) ?_
    refine n_gr rfl hS.1 rfl (fun _ => rfl) r2 (rk_377 hS).2 ?_
    refine n_bi rfl (by decide) ?_
    refine g1 (n := 1) rfl rfl rfl (la_of a0) ?_
    refine n_gr rfl hS.1 rfl (fun _ => rfl) r2 (rk_402 hS).2 ?_
    refine g1 (n := 1) rfl rfl rfl (li_of a1) ?_
    obtain ⟨q, h⟩ := h
    refine n_ia rfl (rk_402 hS).1 (Nat.le_of_ble_eq_true rfl) q ?_
    refine n_add rfl ?_
    refine g0 rfl rfl rfl ?_
    obtain ⟨q, h⟩ := h
    refine n_ia rfl (rk_377 hS).1 (Nat.le_of_ble_eq_true rfl) q ?_
    refine g1 (n := 1) rfl rfl rfl rfl ?_
    refine n_add rfl ?_
    obtain ⟨q, h⟩ := h
    refine n_is (Nat.le_of_ble_eq_true rfl) rfl (rk_377 hS).1 (Nat.le_of_ble_eq_true rfl) q (fun M3 e r => ?_)
    replace h := h M3 e
    have r3 := r2.trans r
    refine g1 (n := 1) rfl rfl rfl rfl ?_
    exact n_rb rfl rfl (Or.inr rfl) r3 h
def wm_comesToSame (x0 : Int) (M : rf_M) (K : Int → rf_M → Prop) : Prop := w_comesToSame x0 M K
theorem W_comesToSame_m {fz : Bool} {S : gS} {B : rf_M} {M : rf_M} {x0 : Int} {K : Int → rf_M → Prop} (hS : rk fz S B.2.2) (hR : fq B M) (h : wm_comesToSame x0 M K) : gx (cx0 fz) (6, 134) 195 0 (lv_args 0 [.ref 353, zv x0]) [] (M, S) (vq_i B S K) :=
  W_comesToSame hS hR rfl rfl h
def w_replays_133 (v2 : Int) (s0 : Int) (M : rf_M) (b81 : Int → Int → rf_M → Prop) (K : Int → rf_M → Prop) : Prop := b81 s0 (v2 + 1) M
theorem W_replays_133 {fz : Bool} {S : gS} {B : rf_M} {M : rf_M} {ls : rf_L} {v2 : Int} {s0 : Int} {b81 : Int → Int → rf_M → Prop} {K : Int → rf_M → Prop} (hS : rk fz S B.2.2) (hR : fq B M) (a0 : rf_ld ls 0 = some (.ref 353)) (a2 : rf_ld ls 2 = some (zv v2)) (hb81 : ∀ (v1 : Int) (v2 : Int) (M : rf_M) (ls : rf_L), fq B M → rf_ld ls 0 = some (.ref 353) → rf_ld ls 1 = some (zv v1) → rf_ld ls 2 = some (zv v2) → b81 v1 v2 M → gx (cx0 fz) (7, 160) 194 81 ls [] (M, S) (vq_i B S K)) (h : w_replays_133 v2 s0 M b81 K) : gx (cx0 fz) (7, 160) 194 133 ls [zv s0] (M, S) (vq_i B S K) := by
  unfold w_replays_133 at h
  refine n_s1 (n := 1) rfl rfl rfl rfl (fun ls l1 ho => ?_)
  replace a0 := ho 0 _ (by decide) (fun q => by cases q.2) a0
  have l2 := ho 2 _ (by decide) (fun q => by cases q.2) a2
  refine n_ii rfl l2 (Nat.le_of_ble_eq_true rfl) (fun ls l3 ho => ?_)
  replace a0 := ho 0 _ (by decide) (fun q => by cases q.2) a0
  have l4 := ho 1 _ (by decide) (fun q => by cases q.2) l1
  refine g3 rfl rfl rfl ?_
  exact hb81 _ _ _ _ hR a0 l4 l3 h
def w_replays_132 (v2 : Int) (M : rf_M) (b81 : Int → Int → rf_M → Prop) (K : Int → rf_M → Prop) : Prop := w_replays_133 v2 0 M b81 K
theorem W_replays_132 {fz : Bool} {S : gS} {B : rf_M} {M : rf_M} {ls : rf_L} {v2 : Int} {b81 : Int → Int → rf_M → Prop} {K : Int → rf_M → Prop} (hS : rk fz S B.2.2) (hR : fq B M) (a0 : rf_ld ls 0 = some (.ref 353)) (a2 : rf_ld ls 2 = some (zv v2)) (hb81 : ∀ (v1 : Int) (v2 : Int) (M : rf_M) (ls : rf_L), fq B M → rf_ld ls 0 = some (.ref 353) → rf_ld ls 1 = some (zv v1) → rf_ld ls 2 = some (zv v2) → b81 v1 v2 M → gx (cx0 fz) (7, 160) 194 81 ls [] (M, S) (vq_i B S K)) (h : w_replays_132 v2 M b81 K) : gx (cx0 fz) (7, 160) 194 132 ls [] (M, S) (vq_i B S K) := by
  unfold w_replays_132 at h
  refine g1 (n := 1) rfl rfl rfl rfl ?_
  exact W_replays_133 hS hR a0 a2 hb81 h
def w_replays_204 (v2 : Int) (s0 : Int) (M : rf_M) (b167 : Int → Int → rf_M → Prop) (K : Int → rf_M → Prop) : Prop := b167 s0 (v2 + 1) M
theorem W_replays_204 {fz : Bool} {S : gS} {B : rf_M} {M : rf_M} {ls : rf_L} {v2 : Int} {s0 : Int} {b167 : Int → Int → rf_M → Prop} {K : Int → rf_M → Prop} (hS : rk fz S B.2.2) (hR : fq B M) (a0 : rf_ld ls 0 = some (.ref 353)) (a2 : rf_ld ls 2 = some (zv v2)) (hb167 : ∀ (v1 : Int) (v2 : Int) (M : rf_M) (ls : rf_L), fq B M → rf_ld ls 0 = some (.ref 353) → rf_ld ls 1 = some (zv v1) → rf_ld ls 2 = some (zv v2) → b167 v1 v2 M → gx (cx0 fz) (7, 160) 194 167 ls [] (M, S) (vq_i B S K)) (h : w_replays_204 v2 s0 M b167 K) : gx (cx0 fz) (7, 160) 194 204 ls [zv s0] (M, S) (vq_i B S K) := by
  unfold w_replays_204 at h
  refine n_s1 (n := 1) rfl rfl rfl rfl (fun ls l1 ho => ?_)
  replace a0 := ho 0 _ (by decide) (fun q => by cases q.2) a0
  have l2 := ho 2 _ (by decide) (fun q => by cases q.2) a2
  refine n_ii rfl l2 (Nat.le_of_ble_eq_true rfl) (fun ls l3 ho => ?_)
  replace a0 := ho 0 _ (by decide) (fun q => by cases q.2) a0
  have l4 := ho 1 _ (by decide) (fun q => by cases q.2) l1
  refine g3 rfl rfl rfl ?_
  exact hb167 _ _ _ _ hR a0 l4 l3 h
def w_replays_225 (s0 : Int) (M : rf_M) (K : Int → rf_M → Prop) : Prop := K s0 M
theorem W_replays_225 {fz : Bool} {S : gS} {B : rf_M} {M : rf_M} {ls : rf_L} {s0 : Int} {K : Int → rf_M → Prop} (hS : rk fz S B.2.2) (hR : fq B M) (h : w_replays_225 s0 M K) : gx (cx0 fz) (7, 160) 194 225 ls [zv s0] (M, S) (vq_i B S K) := by
  unfold w_replays_225 at h
  exact gx_ret rfl rfl ⟨s0, M, rfl, rfl, hR, h⟩
def w_replays_211 (v1 : Int) (M : rf_M) (K : Int → rf_M → Prop) : Prop := ∀ M1 : rf_M, M1 = wi M 353 42 0 → (inr v1 ∧ ((v1 = 0 → (w_replays_225 0 M1 K)) ∧ (¬ (v1 = 0) → (w_replays_225 1 M1 K))))
theorem W_replays_211 {fz : Bool} {S : gS} {B : rf_M} {M : rf_M} {ls : rf_L} {v1 : Int} {K : Int → rf_M → Prop} (hS : rk fz S B.2.2) (hR : fq B M) (a0 : rf_ld ls 0 = some (.ref 353)) (a1 : rf_ld ls 1 = some (zv v1)) (h : w_replays_211 v1 M K) : gx (cx0 fz) (7, 160) 194 211 ls [] (M, S) (vq_i B S K) := by
  unfold w_replays_211 at h
  refine g1 (n := 1) rfl rfl rfl (la_of a0) ?_
  refine g1 (n := 1) rfl rfl rfl rfl ?_
  refine n_pi (Nat.le_of_ble_eq_true rfl) rfl hS.1 rfl (fun _ _ => rfl) (fun M1 e r => ?_)
  replace h := h M1 e
  have r1 := hR.trans r
  refine g1 (n := 1) rfl rfl rfl (li_of a1) ?_
  obtain ⟨i1, h⟩ := h
  refine n_if rfl i1 (fun c => ?_) (fun c => ?_)
  · replace h := h.1 c
    refine g1 (n := 1) rfl rfl rfl rfl ?_
    exact W_replays_225 hS r1  h
  · replace h := h.2 c
    refine g1 (n := 1) rfl rfl rfl rfl ?_
    refine g3 rfl rfl rfl ?_
    exact W_replays_225 hS r1  h
def w_replays_167b (v1 : Int) (v2 : Int) (M : rf_M) (b167 : Int → Int → rf_M → Prop) (K : Int → rf_M → Prop) : Prop := (0 ≤ (0 : Int) ∧ (0 : Int) < 2) ∧ (inr v2 ∧ (((gi M 378 0) ≤ v2 → (w_replays_211 v1 M K)) ∧ (¬ ((gi M 378 0) ≤ v2) → (inr v1 ∧ ((v1 = 0 → (w_replays_211 v1 M K)) ∧ (¬ (v1 = 0) → ((0 ≤ v2 ∧ v2 < 64) ∧ ((0 ≤ (32 + v2) ∧ (32 + v2) < 64) ∧ (((gi M 379 (v2).toNat) = (gi M 379 (32 + v2).toNat) → (w_replays_204 v2 1 M b167 K)) ∧ (¬ (gi M 379 (v2).toNat) = (gi M 379 (32 + v2).toNat) → (w_replays_204 v2 0 M b167 K)))))))))))
theorem W_replays_167b {fz : Bool} {S : gS} {B : rf_M} {M : rf_M} {ls : rf_L} {v1 : Int} {v2 : Int} {b167 : Int → Int → rf_M → Prop} {K : Int → rf_M → Prop} (hS : rk fz S B.2.2) (hR : fq B M) (a0 : rf_ld ls 0 = some (.ref 353)) (a1 : rf_ld ls 1 = some (zv v1)) (a2 : rf_ld ls 2 = some (zv v2)) (hb167 : ∀ (v1 : Int) (v2 : Int) (M : rf_M) (ls : rf_L), fq B M → rf_ld ls 0 = some (.ref 353) → rf_ld ls 1 = some (zv v1) → rf_ld ls 2 = some (zv v2) → b167 v1 v2 M → gx (cx0 fz) (7, 160) 194 167 ls [] (M, S) (vq_i B S K)) (h : w_replays_167b v1 v2 M b167 K) : gx (cx0 fz) (7, 160) 194 167 ls [] (M, S) (vq_i B S K) := by
  unfold w_replays_167b at h
  refine g1 (n := 1) rfl rfl rfl (li_of a2) ?_
  refine g1 (n := 1) rfl rfl rfl (la_of a0) ?_
  refine n_gr rfl hS.1 rfl (fun _ => rfl) hR (rk_378 hS).2 ?_
  refine g1 (n := 1) rfl rfl rfl rfl ?_
  obtain ⟨q, h⟩ := h
  refine n_ia rfl (rk_378 hS).1 (Nat.le_of_ble_eq_true rfl) q ?_
  obtain ⟨i1, h⟩ := h
  refine n_ic rfl i1 (inr_gi _ _ _) (fun c => ?_) (fun c => ?_)
  · replace h := h.1 c
    exact W_replays_211 hS hR a0 a1 h
  · replace h := h.2 c
    refine g1 (n := 1) rfl rfl rfl (li_of a1) ?_
    obtain ⟨i2, h⟩ := h
    refine n_if rfl i2 (fun c => ?_) (fun c => ?_)
    · replace h := h.1 c
      exact W_replays_211 hS hR a0 a1 h
    · replace h := h.2 c
      refine g1 (n := 1) rfl rfl rfl (la_of a0) ?_
      refine n_gr rfl hS.1 rfl (fun _ => rfl) hR (rk_379 hS).2 ?_
      refine g1 (n := 1) rfl rfl rfl (li_of a2) ?_
      obtain ⟨q, h⟩ := h
      refine n_ia rfl (rk_379 hS).1 (Nat.le_of_ble_eq_true rfl) q ?_
      refine g1 (n := 1) rfl rfl rfl (la_of a0) ?_
      refine n_gr rfl hS.1 rfl (fun _ => rfl) hR (rk_379 hS).2 ?_
      refine n_bi rfl (by decide) ?_
      refine g1 (n := 1) rfl rfl rfl (li_of a2) ?_
      refine n_add rfl ?_
      obtain ⟨q, h⟩ := h
      refine n_ia rfl (rk_379 hS).1 (Nat.le_of_ble_eq_true rfl) q ?_
      refine n_ic rfl (inr_gi _ _ _) (inr_gi _ _ _) (fun c => ?_) (fun c => ?_)
      · replace h := h.2 c
        refine g1 (n := 1) rfl rfl rfl rfl ?_
        exact W_replays_204 hS hR a0 a2 hb167 h
      · replace h := h.1 (Classical.not_not.mp c)
        refine g1 (n := 1) rfl rfl rfl rfl ?_
        refine g3 rfl rfl rfl ?_
        exact W_replays_204 hS hR a0 a2 hb167 h
def w_replays_167 (v1 : Int) (v2 : Int) (M : rf_M) (K : Int → rf_M → Prop) : Prop := ∃ Inv : Nat → Int → Int → rf_M → Prop, (∃ m, Inv m v1 v2 M) ∧ ∀ (m : Nat) (v1 : Int) (v2 : Int) (M : rf_M), Inv m v1 v2 M → w_replays_167b v1 v2 M (fun (v1' : Int) (v2' : Int) (M' : rf_M) => ∃ m', m' < m ∧ Inv m' v1' v2' M') K
theorem W_replays_167 {fz : Bool} {S : gS} {B : rf_M} {M : rf_M} {ls : rf_L} {v1 : Int} {v2 : Int} {K : Int → rf_M → Prop} (hS : rk fz S B.2.2) (hR : fq B M) (a0 : rf_ld ls 0 = some (.ref 353)) (a1 : rf_ld ls 1 = some (zv v1)) (a2 : rf_ld ls 2 = some (zv v2)) (h : w_replays_167 v1 v2 M K) : gx (cx0 fz) (7, 160) 194 167 ls [] (M, S) (vq_i B S K) := by
  obtain ⟨Inv, ⟨m, hm⟩, hb⟩ := h
  induction m using Nat.strongRecOn generalizing ls M v1 v2 with
  | _ m ih =>
    refine W_replays_167b hS hR a0 a1 a2 (fun v1' v2' M' ls' hR' f0 f1 f2 ⟨m', q1, q2⟩ => ih m' q1 hR' f0 f1 f2 q2) (hb m v1 v2 M hm)
def w_replays_164 (s0 : Int) (M : rf_M) (K : Int → rf_M → Prop) : Prop := w_replays_167 s0 0 M K
theorem W_replays_164 {fz : Bool} {S : gS} {B : rf_M} {M : rf_M} {ls : rf_L} {s0 : Int} {K : Int → rf_M → Prop} (hS : rk fz S B.2.2) (hR : fq B M) (a0 : rf_ld ls 0 = some (.ref 353)) (h : w_replays_164 s0 M K) : gx (cx0 fz) (7, 160) 194 164 ls [zv s0] (M, S) (vq_i B S K) := by
  unfold w_replays_164 at h
  refine n_s1 (n := 1) rfl rfl rfl rfl (fun ls l1 ho => ?_)
  replace a0 := ho 0 _ (by decide) (fun q => by cases q.2) a0
  refine g1 (n := 1) rfl rfl rfl rfl ?_
  refine n_s1 (n := 1) rfl rfl rfl rfl (fun ls l2 ho => ?_)
  replace a0 := ho 0 _ (by decide) (fun q => by cases q.2) a0
  have l3 := ho 1 _ (by decide) (fun q => by cases q.2) l1
  exact W_replays_167 hS hR a0 l3 l2 h
def w_replays_163 (M : rf_M) (K : Int → rf_M → Prop) : Prop := w_replays_164 0 M K
theorem W_replays_163 {fz : Bool} {S : gS} {B : rf_M} {M : rf_M} {ls : rf_L} {K : Int → rf_M → Prop} (hS : rk fz S B.2.2) (hR : fq B M) (a0 : rf_ld ls 0 = some (.ref 353)) (h : w_replays_163 M K) : gx (cx0 fz) (7, 160) 194 163 ls [] (M, S) (vq_i B S K) := by
  unfold w_replays_163 at h
  refine g1 (n := 1) rfl rfl rfl rfl ?_
  exact W_replays_164 hS hR a0 h
def w_replays_140 (v1 : Int) (M : rf_M) (K : Int → rf_M → Prop) : Prop := inr v1 ∧ ((v1 = 0 → (w_replays_163 M K)) ∧ (¬ (v1 = 0) → ((0 ≤ (0 : Int) ∧ (0 : Int) < 2) ∧ ((0 ≤ (1 : Int) ∧ (1 : Int) < 2) ∧ (((gi M 378 0) = (gi M 378 1) → (w_replays_164 1 M K)) ∧ (¬ (gi M 378 0) = (gi M 378 1) → (w_replays_163 M K)))))))
theorem W_replays_140 {fz : Bool} {S : gS} {B : rf_M} {M : rf_M} {ls : rf_L} {v1 : Int} {K : Int → rf_M → Prop} (hS : rk fz S B.2.2) (hR : fq B M) (a0 : rf_ld ls 0 = some (.ref 353)) (a1 : rf_ld ls 1 = some (zv v1)) (h : w_replays_140 v1 M K) : gx (cx0 fz) (7, 160) 194 140 ls [] (M, S) (vq_i B S K) := by
  unfold w_replays_140 at h
  refine g1 (n := 1) rfl rfl rfl (li_of a1) ?_
  obtain ⟨i1, h⟩ := h
  refine n_if rfl i1 (fun c => ?_) (fun c => ?_)
  · replace h := h.1 c
    exact W_replays_163 hS hR a0 h
  · replace h := h.2 c
    refine g1 (n := 1) rfl rfl rfl (la_of a0) ?_
    refine n_gr rfl hS.1 rfl (fun _ => rfl) hR (rk_378 hS).2 ?_
    refine g1 (n := 1) rfl rfl rfl rfl ?_
    obtain ⟨q, h⟩ := h
    refine n_ia rfl (rk_378 hS).1 (Nat.le_of_ble_eq_true rfl) q ?_
    refine g1 (n := 1) rfl rfl rfl (la_of a0) ?_
    refine n_gr rfl hS.1 rfl (fun _ => rfl) hR (rk_378 hS).2 ?_
    refine g1 (n := 1) rfl rfl rfl rfl ?_
    obtain ⟨q, h⟩ := h
    refine n_ia rfl (rk_378 hS).1 (Nat.le_of_ble_eq_true rfl) q ?_
    refine n_ic rfl (inr_gi _ _ _) (inr_gi _ _ _) (fun c => ?_) (fun c => ?_)
    · replace h := h.2 c
      exact W_replays_163 hS hR a0 h
    · replace h := h.1 (Classical.not_not.mp c)
      refine g1 (n := 1) rfl rfl rfl rfl ?_
      refine g3 rfl rfl rfl ?_
      exact W_replays_164 hS hR a0 h
def w_replays_81b (v1 : Int) (v2 : Int) (M : rf_M) (b81 : Int → Int → rf_M → Prop) (K : Int → rf_M → Prop) : Prop := inr v2 ∧ ((16 ≤ v2 → (w_replays_140 v1 M K)) ∧ (¬ (16 ≤ v2) → (inr v1 ∧ ((v1 = 0 → (w_replays_140 v1 M K)) ∧ (¬ (v1 = 0) → ((0 ≤ v2 ∧ v2 < 32) ∧ ((0 ≤ (16 + v2) ∧ (16 + v2) < 32) ∧ (((lg_cmp (gl M 376 (v2).toNat) (gl M 376 (16 + v2).toNat)).toInt = 0 → ((0 ≤ v2 ∧ v2 < 32) ∧ ((0 ≤ (16 + v2) ∧ (16 + v2) < 32) ∧ (((gi M 377 (v2).toNat) = (gi M 377 (16 + v2).toNat) → (w_replays_133 v2 1 M b81 K)) ∧ (¬ (gi M 377 (v2).toNat) = (gi M 377 (16 + v2).toNat) → (w_replays_132 v2 M b81 K)))))) ∧ (¬ (lg_cmp (gl M 376 (v2).toNat) (gl M 376 (16 + v2).toNat)).toInt = 0 → (w_replays_132 v2 M b81 K))))))))))
theorem W_replays_81b {fz : Bool} {S : gS} {B : rf_M} {M : rf_M} {ls : rf_L} {v1 : Int} {v2 : Int} {b81 : Int → Int → rf_M → Prop} {K : Int → rf_M → Prop} (hS : rk fz S B.2.2) (hR : fq B M) (a0 : rf_ld ls 0 = some (.ref 353)) (a1 : rf_ld ls 1 = some (zv v1)) (a2 : rf_ld ls 2 = some (zv v2)) (hb81 : ∀ (v1 : Int) (v2 : Int) (M : rf_M) (ls : rf_L), fq B M → rf_ld ls 0 = some (.ref 353) → rf_ld ls 1 = some (zv v1) → rf_ld ls 2 = some (zv v2) → b81 v1 v2 M → gx (cx0 fz) (7, 160) 194 81 ls [] (M, S) (vq_i B S K)) (h : w_replays_81b v1 v2 M b81 K) : gx (cx0 fz) (7, 160) 194 81 ls [] (M, S) (vq_i B S K) := by
  unfold w_replays_81b at h
  refine g1 (n := 1) rfl rfl rfl (li_of a2) ?_
  refine n_bi rfl (by decide) ?_
  obtain ⟨i1, h⟩ := h
  refine n_ic rfl i1 ⟨by decide, by decide⟩ (fun c => ?_) (fun c => ?_)
  · replace h := h.1 c
    exact W_replays_140 hS hR a0 a1 h
  · replace h := h.2 c
    refine g1 (n := 1) rfl rfl rfl (li_of a1) ?_
    obtain ⟨i2, h⟩ := h
    refine n_if rfl i2 (fun c => ?_) (fun c => ?_)
    · replace h := h.1 c
      exact W_replays_140 hS hR a0 a1 h
    · replace h := h.2 c
      refine g1 (n := 1) rfl rfl rfl (la_of a0) ?_
      refine n_gr rfl hS.1 rfl (fun _ => rfl) hR (rk_376 hS).2 ?_
      refine g1 (n := 1) rfl rfl rfl (li_of a2) ?_
      obtain ⟨q, h⟩ := h
      refine n_la rfl (rk_376 hS).1 (Nat.le_of_ble_eq_true rfl) q ?_
      refine g1 (n := 1) rfl rfl rfl (la_of a0) ?_
      refine n_gr rfl hS.1 rfl (fun _ => rfl) hR (rk_376 hS).2 ?_
      refine n_bi rfl (by decide) ?_
      refine g1 (n := 1) rfl rfl rfl (li_of a2) ?_
      refine n_add rfl ?_
      obtain ⟨q, h⟩ := h
      refine n_la rfl (rk_376 hS).1 (Nat.le_of_ble_eq_true rfl) q ?_
      refine n_op (T := (lg_cmp (gl M 376 (v2).toNat) (gl M 376 (16 + v2).toNat))) rfl rfl rfl ?_
      refine n_if rfl (inr_ti _) (fun c => ?_) (fun c => ?_)
      · replace h := h.2 c
        exact W_replays_132 hS hR a0 a2 hb81 h
      · replace h := h.1 (Classical.not_not.mp c)
        refine g1 (n := 1) rfl rfl rfl (la_of a0) ?_
        refine n_gr rfl hS.1 rfl (fun _ => rfl) hR (rk_377 hS).2 ?_
        refine g1 (n := 1) rfl rfl rfl (li_of a2) ?_
        obtain ⟨q, h⟩ := h
        refine n_ia rfl (rk_377 hS).1 (Nat.le_of_ble_eq_true rfl) q ?_
        refine g1 (n := 1) rfl rfl rfl (la_of a0) ?_
        refine n_gr rfl hS.1 rfl (fun _ => rfl) hR (rk_377 hS).2 ?_
        refine n_bi rfl (by decide) ?_
        refine g1 (n := 1) rfl rfl rfl (li_of a2) ?_
        refine n_add rfl ?_
        obtain ⟨q, h⟩ := h
        refine n_ia rfl (rk_377 hS).1 (Nat.le_of_ble_eq_true rfl) q ?_
        refine n_ic rfl (inr_gi _ _ _) (inr_gi _ _ _) (fun c => ?_) (fun c => ?_)
        · replace h := h.2 c
          exact W_replays_132 hS hR a0 a2 hb81 h
        · replace h := h.1 (Classical.not_not.mp c)
          refine g1 (n := 1) rfl rfl rfl rfl ?_
          refine g3 rfl rfl rfl ?_
          exact W_replays_133 hS hR a0 a2 hb81 h
def w_replays_81 (v1 : Int) (v2 : Int) (M : rf_M) (K : Int → rf_M → Prop) : Prop := ∃ Inv : Nat → Int → Int → rf_M → Prop, (∃ m, Inv m v1 v2 M) ∧ ∀ (m : Nat) (v1 : Int) (v2 : Int) (M : rf_M), Inv m v1 v2 M → w_replays_81b v1 v2 M (fun (v1' : Int) (v2' : Int) (M' : rf_M) => ∃ m', m' < m ∧ Inv m' v1' v2' M') K
theorem W_replays_81 {fz : Bool} {S : gS} {B : rf_M} {M : rf_M} {ls : rf_L} {v1 : Int} {v2 : Int} {K : Int → rf_M → Prop} (hS : rk fz S B.2.2) (hR : fq B M) (a0 : rf_ld ls 0 = some (.ref 353)) (a1 : rf_ld ls 1 = some (zv v1)) (a2 : rf_ld ls 2 = some (zv v2)) (h : w_replays_81 v1 v2 M K) : gx (cx0 fz) (7, 160) 194 81 ls [] (M, S) (vq_i B S K) := by
  obtain ⟨Inv, ⟨m, hm⟩, hb⟩ := h
  induction m using Nat.strongRecOn generalizing ls M v1 v2 with
  | _ m ih =>
    refine W_replays_81b hS hR a0 a1 a2 (fun v1' v2' M' ls' hR' f0 f1 f2 ⟨m', q1, q2⟩ => ih m' q1 hR' f0 f1 f2 q2) (hb m v1 v2 M hm)
def w_replays_79 (v1 : Int) (M : rf_M) (K : Int → rf_M → Prop) : Prop := w_replays_81 v1 0 M K
theorem W_replays_79 {fz : Bool} {S : gS} {B : rf_M} {M : rf_M} {ls : rf_L} {v1 : Int} {K : Int → rf_M → Prop} (hS : rk fz S B.2.2) (hR : fq B M) (a0 : rf_ld ls 0 = some (.ref 353)) (a1 : rf_ld ls 1 = some (zv v1)) (h : w_replays_79 v1 M K) : gx (cx0 fz) (7, 160) 194 79 ls [] (M, S) (vq_i B S K) := by
  unfold w_replays_79 at h
  refine g1 (n := 1) rfl rfl rfl rfl ?_
  refine n_s1 (n := 1) rfl rfl rfl rfl (fun ls l1 ho => ?_)
  replace a0 := ho 0 _ (by decide) (fun q => by cases q.2) a0
  have l2 := ho 1 _ (by decide) (fun q => by cases q.2) a1
  exact W_replays_81 hS hR a0 l2 l1 h
def w_replays_55b (v1 : Int) (v2 : Int) (M : rf_M) (b55 : Int → Int → rf_M → Prop) (K : Int → rf_M → Prop) : Prop := inr v2 ∧ (((gi M 353 69) ≤ v2 → (w_replays_79 v1 M K)) ∧ (¬ ((gi M 353 69) ≤ v2) → (inr v1 ∧ ((v1 = 0 → (w_replays_79 v1 M K)) ∧ (¬ (v1 = 0) → (wm_comesToSame v2 M (fun (z1 : Int) (M1 : rf_M) => b55 z1 (v2 + 1) M1)))))))
theorem W_replays_55b {fz : Bool} {S : gS} {B : rf_M} {M : rf_M} {ls : rf_L} {v1 : Int} {v2 : Int} {b55 : Int → Int → rf_M → Prop} {K : Int → rf_M → Prop} (hS : rk fz S B.2.2) (hR : fq B M) (a0 : rf_ld ls 0 = some (.ref 353)) (a1 : rf_ld ls 1 = some (zv v1)) (a2 : rf_ld ls 2 = some (zv v2)) (hb55 : ∀ (v1 : Int) (v2 : Int) (M : rf_M) (ls : rf_L), fq B M → rf_ld ls 0 = some (.ref 353) → rf_ld ls 1 = some (zv v1) → rf_ld ls 2 = some (zv v2) → b55 v1 v2 M → gx (cx0 fz) (7, 160) 194 55 ls [] (M, S) (vq_i B S K)) (h : w_replays_55b v1 v2 M b55 K) : gx (cx0 fz) (7, 160) 194 55 ls [] (M, S) (vq_i B S K) := by
  unfold w_replays_55b at h
  refine g1 (n := 1) rfl rfl rfl (li_of a2) ?_
  refine g1 (n := 1) rfl rfl rfl (la_of a0) ?_
  refine n_gi rfl hS.1 rfl (fun _ => rfl) ?_
  obtain ⟨i1, h⟩ := h
  refine n_ic rfl i1 (inr_gi _ _ _) (fun c => ?_) (fun c => ?_)
  · replace h := h.1 c
    exact W_replays_79 hS hR a0 a1 h
  · replace h := h.2 c
    refine g1 (n := 1) rfl rfl rfl (li_of a1) ?_
    obtain ⟨i2, h⟩ := h
    refine n_if rfl i2 (fun c => ?_) (fun c => ?_)
    · replace h := h.1 c
      exact W_replays_79 hS hR a0 a1 h
    · replace h := h.2 c
      refine g1 (n := 1) rfl rfl rfl (la_of a0) ?_
      refine g1 (n := 1) rfl rfl rfl (li_of a2) ?_
      refine m_iv (a := 353) (as := [zv v2]) (rest := []) rfl (by decide) hS.1 rfl rfl (Nat.le_of_ble_eq_true rfl) ⟨Nat.le_of_ble_eq_true rfl, Nat.le_of_ble_eq_true rfl, Nat.le_of_ble_eq_true rfl⟩ ?_
      refine gx_room (gx_mono (W_comesToSame_m hS hR h) ?_) (Nat.le_of_ble_eq_true rfl) (Nat.le_of_ble_eq_true rfl)
      rintro _ _ ⟨z1, M1, rfl, rfl, r1, h⟩
      refine n_s1 (n := 1) rfl rfl rfl rfl (fun ls l1 ho => ?_)
      replace a0 := ho 0 _ (by decide) (fun q => by cases q.2) a0
      have l2 := ho 2 _ (by decide) (fun q => by cases q.2) a2
      refine n_ii rfl l2 (Nat.le_of_ble_eq_true rfl) (fun ls l3 ho => ?_)
      replace a0 := ho 0 _ (by decide) (fun q => by cases q.2) a0
      have l4 := ho 1 _ (by decide) (fun q => by cases q.2) l1
      refine g3 rfl rfl rfl ?_
      exact hb55 _ _ _ _ r1 a0 l4 l3 h
def w_replays_55 (v1 : Int) (v2 : Int) (M : rf_M) (K : Int → rf_M → Prop) : Prop := ∃ Inv : Nat → Int → Int → rf_M → Prop, (∃ m, Inv m v1 v2 M) ∧ ∀ (m : Nat) (v1 : Int) (v2 : Int) (M : rf_M), Inv m v1 v2 M → w_replays_55b v1 v2 M (fun (v1' : Int) (v2' : Int) (M' : rf_M) => ∃ m', m' < m ∧ Inv m' v1' v2' M') K
theorem W_replays_55 {fz : Bool} {S : gS} {B : rf_M} {M : rf_M} {ls : rf_L} {v1 : Int} {v2 : Int} {K : Int → rf_M → Prop} (hS : rk fz S B.2.2) (hR : fq B M) (a0 : rf_ld ls 0 = some (.ref 353)) (a1 : rf_ld ls 1 = some (zv v1)) (a2 : rf_ld ls 2 = some (zv v2)) (h : w_replays_55 v1 v2 M K) : gx (cx0 fz) (7, 160) 194 55 ls [] (M, S) (vq_i B S K) := by
  obtain ⟨Inv, ⟨m, hm⟩, hb⟩ := h
  induction m using Nat.strongRecOn generalizing ls M v1 v2 with
  | _ m ih =>
    refine W_replays_55b hS hR a0 a1 a2 (fun v1' v2' M' ls' hR' f0 f1 f2 ⟨m', q1, q2⟩ => ih m' q1 hR' f0 f1 f2 q2) (hb m v1 v2 M hm)
def w_replays_7b (v1 : Int) (M : rf_M) (b7 : Int → rf_M → Prop) (K : Int → rf_M → Prop) : Prop := inr v1 ∧ ((16 ≤ v1 → ((0 ≤ (1 : Int) ∧ (1 : Int) < 2) ∧ (∀ M1 : rf_M, M1 = wi M 378 1 0 → (∀ M2 : rf_M, M2 = wi M1 353 42 1 → (w_replays_55 1 0 M2 K))))) ∧ (¬ (16 ≤ v1) → ((0 ≤ (16 + v1) ∧ (16 + v1) < 32) ∧ (∀ M3 : rf_M, M3 = wl M 376 (16 + v1).toNat (Int64.ofNat 0) → ((0 ≤ (16 + v1) ∧ (16 + v1) < 32) ∧ (∀ M4 : rf_M, M4 = wi M3 377 (16 + v1).toNat 0 → (b7 (v1 + 1) M4)))))))
theorem W_replays_7b {fz : Bool} {S : gS} {B : rf_M} {M : rf_M} {ls : rf_L} {v1 : Int} {b7 : Int → rf_M → Prop} {K : Int → rf_M → Prop} (hS : rk fz S B.2.2) (hR : fq B M) (a0 : rf_ld ls 0 = some (.ref 353)) (a1 : rf_ld ls 1 = some (zv v1)) (hb7 : ∀ (v1 : Int) (M : rf_M) (ls : rf_L), fq B M → rf_ld ls 0 = some (.ref 353) → rf_ld ls 1 = some (zv v1) → b7 v1 M → gx (cx0 fz) (7, 160) 194 7 ls [] (M, S) (vq_i B S K)) (h : w_replays_7b v1 M b7 K) : gx (cx0 fz) (7, 160) 194 7 ls [] (M, S) (vq_i B S K) := by
  unfold w_replays_7b at h
  refine g1 (n := 1) rfl rfl rfl (li_of a1) ?_
  refine n_bi rfl (by decide) ?_
  obtain ⟨i1, h⟩ := h
  refine n_ic rfl i1 ⟨by decide, by decide⟩ (fun c => ?_) (fun c => ?_)
  · replace h := h.1 c
    refine g1 (n := 1) rfl rfl rfl (la_of a0) ?_
    refine n_gr rfl hS.1 rfl (fun _ => rfl) hR (rk_378 hS).2 ?_
    refine g1 (n := 1) rfl rfl rfl rfl ?_
    refine g1 (n := 1) rfl rfl rfl rfl ?_
    obtain ⟨q, h⟩ := h
    refine n_is (Nat.le_of_ble_eq_true rfl) rfl (rk_378 hS).1 (Nat.le_of_ble_eq_true rfl) q (fun M1 e r => ?_)
    replace h := h M1 e
    have r1 := hR.trans r
    refine g1 (n := 1) rfl rfl rfl (la_of a0) ?_
    refine g1 (n := 1) rfl rfl rfl rfl ?_
    refine n_pi (Nat.le_of_ble_eq_true rfl) rfl hS.1 rfl (fun _ _ => rfl) (fun M2 e r => ?_)
    replace h := h M2 e
    have r2 := r1.trans r
    refine g1 (n := 1) rfl rfl rfl rfl ?_
    refine n_s1 (n := 1) rfl rfl rfl rfl (fun ls l1 ho => ?_)
    replace a0 := ho 0 _ (by decide) (fun q => by cases q.2) a0
    refine g1 (n := 1) rfl rfl rfl rfl ?_
    refine n_s1 (n := 1) rfl rfl rfl rfl (fun ls l2 ho => ?_)
    replace a0 := ho 0 _ (by decide) (fun q => by cases q.2) a0
    have l3 := ho 1 _ (by decide) (fun q => by cases q.2) l1
    exact W_replays_55 hS r2 a0 l3 l2 h
  · replace h := h.2 c
    refine g1 (n := 1) rfl rfl rfl (la_of a0) ?_
    refine n_gr rfl hS.1 rfl (fun _ => rfl) hR (rk_376 hS).2 ?_
    refine n_bi rfl (by decide) ?_
    refine g1 (n := 1) rfl rfl rfl (li_of a1) ?_
    refine n_add rfl ?_
    refine g1 (n := 1) rfl rfl rfl rfl ?_
    obtain ⟨q, h⟩ := h
    refine n_ls (Nat.le_of_ble_eq_true rfl) rfl (rk_376 hS).1 (Nat.le_of_ble_eq_true rfl) q (fun M3 e r => ?_)
    replace h := h M3 e
    have r3 := hR.trans r
    refine g1 (n := 1) rfl rfl rfl (la_of a0) ?_
    refine n_gr rfl hS.1 rfl (fun _ => rfl) r3 (rk_377 hS).2 ?_
    refine n_bi rfl (by decide) ?_
    refine g1 (n := 1) rfl rfl rfl (li_of a1) ?_
    refine n_add rfl ?_
    refine g1 (n := 1) rfl rfl rfl rfl ?_
    obtain ⟨q, h⟩ := h
    refine n_is (Nat.le_of_ble_eq_true rfl) rfl (rk_377 hS).1 (Nat.le_of_ble_eq_true rfl) q (fun M4 e r => ?_)
    replace h := h M4 e
    have r4 := r3.trans r
    refine n_ii rfl a1 (Nat.le_of_ble_eq_true rfl) (fun ls l4 ho => ?_)
    replace a0 := ho 0 _ (by decide) (fun q => by cases q.2) a0
    refine g3 rfl rfl rfl ?_
    exact hb7 _ _ _ r4 a0 l4 h
def w_replays_7 (v1 : Int) (M : rf_M) (K : Int → rf_M → Prop) : Prop := ∃ Inv : Nat → Int → rf_M → Prop, (∃ m, Inv m v1 M) ∧ ∀ (m : Nat) (v1 : Int) (M : rf_M), Inv m v1 M → w_replays_7b v1 M (fun (v1' : Int) (M' : rf_M) => ∃ m', m' < m ∧ Inv m' v1' M') K
theorem W_replays_7 {fz : Bool} {S : gS} {B : rf_M} {M : rf_M} {ls : rf_L} {v1 : Int} {K : Int → rf_M → Prop} (hS : rk fz S B.2.2) (hR : fq B M) (a0 : rf_ld ls 0 = some (.ref 353)) (a1 : rf_ld ls 1 = some (zv v1)) (h : w_replays_7 v1 M K) : gx (cx0 fz) (7, 160) 194 7 ls [] (M, S) (vq_i B S K) := by
  obtain ⟨Inv, ⟨m, hm⟩, hb⟩ := h
  induction m using Nat.strongRecOn generalizing ls M v1 with
  | _ m ih =>
    refine W_replays_7b hS hR a0 a1 (fun v1' M' ls' hR' f0 f1 ⟨m', q1, q2⟩ => ih m' q1 hR' f0 f1 q2) (hb m v1 M hm)
def w_replays (M : rf_M) (K : Int → rf_M → Prop) : Prop := ∀ M1 : rf_M, M1 = wi M 353 0 0 → (w_replays_7 0 M1 K)
theorem W_replays {fz : Bool} {S : gS} {B : rf_M} {M : rf_M} {ls : rf_L} {K : Int → rf_M → Prop} (hS : rk fz S B.2.2) (hR : fq B M) (a0 : rf_ld ls 0 = some (.ref 353)) (h : w_replays M K) : gx (cx0 fz) (7, 160) 194 0 ls [] (M, S) (vq_i B S K) := by
  unfold w_replays at h
  refine g1 (n := 1) rfl rfl rfl (la_of a0) ?_
  refine g1 (n := 1) rfl rfl rfl rfl ?_
  refine n_pi (Nat.le_of_ble_eq_true rfl) rfl hS.1 rfl (fun _ _ => rfl) (fun M1 e r => ?_)
  replace h := h M1 e
  have r1 := hR.trans r
  refine g1 (n := 1) rfl rfl rfl rfl ?_
  refine n_s1 (n := 1) rfl rfl rfl rfl (fun ls l1 ho => ?_)
  replace a0 := ho 0 _ (by decide) (fun q => by cases q.2) a0
  exact W_replays_7 hS r1 a0 l1 h
def wm_replays (M : rf_M) (K : Int → rf_M → Prop) : Prop := w_replays  M K
theorem W_replays_m {fz : Bool} {S : gS} {B : rf_M} {M : rf_M} {K : Int → rf_M → Prop} (hS : rk fz S B.2.2) (hR : fq B M) (h : wm_replays  M K) : gx (cx0 fz) (7, 160) 194 0 (lv_args 0 [.ref 353]) [] (M, S) (vq_i B S K) :=
  W_replays hS hR rfl h
def w_clear_52b (v1 : Int) (v2 : Int) (M : rf_M) (b52 : Int → Int → rf_M → Prop) (K : Int → rf_M → Prop) : Prop := inr v2 ∧ ((8 ≤ v2 → (K v1 M)) ∧ (¬ (8 ≤ v2) → ((0 ≤ v2 ∧ v2 < 8) ∧ (∀ M1 : rf_M, M1 = wi M 381 (v2).toNat 0 → ((0 ≤ v2 ∧ v2 < 8) ∧ (∀ M2 : rf_M, M2 = wi M1 382 (v2).toNat 0 → ((0 ≤ v2 ∧ v2 < 8) ∧ (∀ M3 : rf_M, M3 = wi M2 383 (v2).toNat 0 → ((0 ≤ v2 ∧ v2 < 8) ∧ (∀ M4 : rf_M, M4 = wi M3 384 (v2).toNat 0 → ((0 ≤ v2 ∧ v2 < 8) ∧ (∀ M5 : rf_M, M5 = wi M4 385 (v2).toNat (Int32.ofInt 0 &&& 1).toInt → ((0 ≤ v2 ∧ v2 < 8) ∧ (∀ M6 : rf_M, M6 = wi M5 386 (v2).toNat 0 → (b52 v1 (v2 + 1) M6)))))))))))))))
theorem W_clear_52b {fz : Bool} {S : gS} {B : rf_M} {M : rf_M} {ls : rf_L} {v1 : Int} {v2 : Int} {b52 : Int → Int → rf_M → Prop} {K : Int → rf_M → Prop} (hS : rk fz S B.2.2) (hR : fq B M) (a0 : rf_ld ls 0 = some (.ref 353)) (a1 : rf_ld ls 1 = some (zv v1)) (a2 : rf_ld ls 2 = some (zv v2)) (hb52 : ∀ (v1 : Int) (v2 : Int) (M : rf_M) (ls : rf_L), fq B M → rf_ld ls 0 = some (.ref 353) → rf_ld ls 1 = some (zv v1) → rf_ld ls 2 = some (zv v2) → b52 v1 v2 M → gx (cx0 fz) (0, 0) 197 52 ls [] (M, S) (vq_i B S K)) (h : w_clear_52b v1 v2 M b52 K) : gx (cx0 fz) (0, 0) 197 52 ls [] (M, S) (vq_i B S K) := by
  unfold w_clear_52b at h
  refine g1 (n := 1) rfl rfl rfl (li_of a2) ?_
  refine n_bi rfl (by decide) ?_
  obtain ⟨i1, h⟩ := h
  refine n_ic rfl i1 ⟨by decide, by decide⟩ (fun c => ?_) (fun c => ?_)
  · replace h := h.1 c
    refine g1 (n := 1) rfl rfl rfl (li_of a1) ?_
    exact gx_ret rfl rfl ⟨v1, M, rfl, rfl, hR, h⟩
  · replace h := h.2 c
    refine g1 (n := 1) rfl rfl rfl (la_of a0) ?_
    refine n_gr rfl hS.1 rfl (fun _ => rfl) hR (rk_381 hS).2 ?_
    refine g1 (n := 1) rfl rfl rfl (li_of a2) ?_
    refine g1 (n := 1) rfl rfl rfl rfl ?_
    obtain ⟨q, h⟩ := h
    refine n_is (Nat.le_of_ble_eq_true rfl) rfl (rk_381 hS).1 (Nat.le_of_ble_eq_true rfl) q (fun M1 e r => ?_)
    replace h := h M1 e
    have r1 := hR.trans r
    refine g1 (n := 1) rfl rfl rfl (la_of a0) ?_
    refine n_gr rfl hS.1 rfl (fun _ => rfl) r1 (rk_382 hS).2 ?_
    refine g1 (n := 1) rfl rfl rfl (li_of a2) ?_
    refine g1 (n := 1) rfl rfl rfl rfl ?_
    obtain ⟨q, h⟩ := h
    refine n_is (Nat.le_of_ble_eq_true rfl) rfl (rk_382 hS).1 (Nat.le_of_ble_eq_true rfl) q (fun M2 e r => ?_)
    replace h := h M2 e
    have r2 := r1.trans r
    refine g1 (n := 1) rfl rfl rfl (la_of a0) ?_
    refine n_gr rfl hS.1 rfl (fun _ => rfl) r2 (rk_383 hS).2 ?_
    refine g1 (n := 1) rfl rfl rfl (li_of a2) ?_
    refine g1 (n := 1) rfl rfl rfl rfl ?_
    obtain ⟨q, h⟩ := h
    refine n_is (Nat.le_of_ble_eq_true rfl) rfl (rk_383 hS).1 (Nat.le_of_ble_eq_true rfl) q (fun M3 e r => ?_)
    replace h := h M3 e
    have r3 := r2.trans r
    refine g1 (n := 1) rfl rfl rfl (la_of a0) ?_
    refine n_gr rfl hS.1 rfl (fun _ => rfl) r3 (rk_384 hS).2 ?_
    refine g1 (n := 1) rfl rfl rfl (li_of a2) ?_
    refine g1 (n := 1) rfl rfl rfl rfl ?_
    obtain ⟨q, h⟩ := h
    refine n_is (Nat.le_of_ble_eq_true rfl) rfl (rk_384 hS).1 (Nat.le_of_ble_eq_true rfl) q (fun M4 e r => ?_)
    replace h := h M4 e
    have r4 := r3.trans r
    refine g1 (n := 1) rfl rfl rfl (la_of a0) ?_
    refine n_gr rfl hS.1 rfl (fun _ => rfl) r4 (rk_385 hS).2 ?_
    refine g1 (n := 1) rfl rfl rfl (li_of a2) ?_
    refine g1 (n := 1) rfl rfl rfl rfl ?_
    obtain ⟨q, h⟩ := h
    refine n_zs (Nat.le_of_ble_eq_true rfl) rfl (rk_385 hS).1 (Nat.le_of_ble_eq_true rfl) q (fun M5 e r => ?_)
    replace h := h M5 e
    have r5 := r4.trans r
    refine g1 (n := 1) rfl rfl rfl (la_of a0) ?_
    refine n_gr rfl hS.1 rfl (fun _ => rfl) r5 (rk_386 hS).2 ?_
    refine g1 (n := 1) rfl rfl rfl (li_of a2) ?_
    refine g1 (n := 1) rfl rfl rfl rfl ?_
    obtain ⟨q, h⟩ := h
    refine n_is (Nat.le_of_ble_eq_true rfl) rfl (rk_386 hS).1 (Nat.le_of_ble_eq_true rfl) q (fun M6 e r => ?_)
    replace h := h M6 e
    have r6 := r5.trans r
    refine n_ii rfl a2 (Nat.le_of_ble_eq_true rfl) (fun ls l1 ho => ?_)
    replace a0 := ho 0 _ (by decide) (fun q => by cases q.2) a0
    have l2 := ho 1 _ (by decide) (fun q => by cases q.2) a1
    refine g3 rfl rfl rfl ?_
    exact hb52 _ _ _ _ r6 a0 l2 l1 h
def w_clear_52 (v1 : Int) (v2 : Int) (M : rf_M) (K : Int → rf_M → Prop) : Prop := ∃ Inv : Nat → Int → Int → rf_M → Prop, (∃ m, Inv m v1 v2 M) ∧ ∀ (m : Nat) (v1 : Int) (v2 : Int) (M : rf_M), Inv m v1 v2 M → w_clear_52b v1 v2 M (fun (v1' : Int) (v2' : Int) (M' : rf_M) => ∃ m', m' < m ∧ Inv m' v1' v2' M') K
theorem W_clear_52 {fz : Bool} {S : gS} {B : rf_M} {M : rf_M} {ls : rf_L} {v1 : Int} {v2 : Int} {K : Int → rf_M → Prop} (hS : rk fz S B.2.2) (hR : fq B M) (a0 : rf_ld ls 0 = some (.ref 353)) (a1 : rf_ld ls 1 = some (zv v1)) (a2 : rf_ld ls 2 = some (zv v2)) (h : w_clear_52 v1 v2 M K) : gx (cx0 fz) (0, 0) 197 52 ls [] (M, S) (vq_i B S K) := by
  obtain ⟨Inv, ⟨m, hm⟩, hb⟩ := h
  induction m using Nat.strongRecOn generalizing ls M v1 v2 with
  | _ m ih =>
    refine W_clear_52b hS hR a0 a1 a2 (fun v1' v2' M' ls' hR' f0 f1 f2 ⟨m', q1, q2⟩ => ih m' q1 hR' f0 f1 f2 q2) (hb m v1 v2 M hm)
def w_clear_24b (v1 : Int) (v2 : Int) (M : rf_M) (b24 : Int → Int → rf_M → Prop) (K : Int → rf_M → Prop) : Prop := inr v2 ∧ ((16 ≤ v2 → (w_clear_52 v1 0 M K)) ∧ (¬ (16 ≤ v2) → ((0 ≤ v2 ∧ v2 < 32) ∧ (∀ M1 : rf_M, M1 = wl M 376 (v2).toNat (Int64.ofNat 0) → ((0 ≤ v2 ∧ v2 < 32) ∧ (∀ M2 : rf_M, M2 = wi M1 377 (v2).toNat 0 → (b24 v1 (v2 + 1) M2)))))))
theorem W_clear_24b {fz : Bool} {S : gS} {B : rf_M} {M : rf_M} {ls : rf_L} {v1 : Int} {v2 : Int} {b24 : Int → Int → rf_M → Prop} {K : Int → rf_M → Prop} (hS : rk fz S B.2.2) (hR : fq B M) (a0 : rf_ld ls 0 = some (.ref 353)) (a1 : rf_ld ls 1 = some (zv v1)) (a2 : rf_ld ls 2 = some (zv v2)) (hb24 : ∀ (v1 : Int) (v2 : Int) (M : rf_M) (ls : rf_L), fq B M → rf_ld ls 0 = some (.ref 353) → rf_ld ls 1 = some (zv v1) → rf_ld ls 2 = some (zv v2) → b24 v1 v2 M → gx (cx0 fz) (0, 0) 197 24 ls [] (M, S) (vq_i B S K)) (h : w_clear_24b v1 v2 M b24 K) : gx (cx0 fz) (0, 0) 197 24 ls [] (M, S) (vq_i B S K) := by
  unfold w_clear_24b at h
  refine g1 (n := 1) rfl rfl rfl (li_of a2) ?_
  refine n_bi rfl (by decide) ?_
  obtain ⟨i1, h⟩ := h
  refine n_ic rfl i1 ⟨by decide, by decide⟩ (fun c => ?_) (fun c => ?_)
  · replace h := h.1 c
    refine g1 (n := 1) rfl rfl rfl rfl ?_
    refine n_s1 (n := 1) rfl rfl rfl rfl (fun ls l1 ho => ?_)
    replace a0 := ho 0 _ (by decide) (fun q => by cases q.2) a0
    have l2 := ho 1 _ (by decide) (fun q => by cases q.2) a1
    exact W_clear_52 hS hR a0 l2 l1 h
  · replace h := h.2 c
    refine g1 (n := 1) rfl rfl rfl (la_of a0) ?_
    refine n_gr rfl hS.1 rfl (fun _ => rfl) hR (rk_376 hS).2 ?_
    refine g1 (n := 1) rfl rfl rfl (li_of a2) ?_
    refine g1 (n := 1) rfl rfl rfl rfl ?_
    obtain ⟨q, h⟩ := h
    refine n_ls (Nat.le_of_ble_eq_true rfl) rfl (rk_376 hS).1 (Nat.le_of_ble_eq_true rfl) q (fun M1 e r => ?_)
    replace h := h M1 e
    have r1 := hR.trans r
    refine g1 (n := 1) rfl rfl rfl (la_of a0) ?_
    refine n_gr rfl hS.1 rfl (fun _ => rfl) r1 (rk_377 hS).2 ?_
    refine g1 (n := 1) rfl rfl rfl (li_of a2) ?_
    refine g1 (n := 1) rfl rfl rfl rfl ?_
    obtain ⟨q, h⟩ := h
    refine n_is (Nat.le_of_ble_eq_true rfl) rfl (rk_377 hS).1 (Nat.le_of_ble_eq_true rfl) q (fun M2 e r => ?_)
    replace h := h M2 e
    have r2 := r1.trans r
    refine n_ii rfl a2 (Nat.le_of_ble_eq_true rfl) (fun ls l3 ho => ?_)
    replace a0 := ho 0 _ (by decide) (fun q => by cases q.2) a0
    have l4 := ho 1 _ (by decide) (fun q => by cases q.2) a1
    refine g3 rfl rfl rfl ?_
    exact hb24 _ _ _ _ r2 a0 l4 l3 h
def w_clear_24 (v1 : Int) (v2 : Int) (M : rf_M) (K : Int → rf_M → Prop) : Prop := ∃ Inv : Nat → Int → Int → rf_M → Prop, (∃ m, Inv m v1 v2 M) ∧ ∀ (m : Nat) (v1 : Int) (v2 : Int) (M : rf_M), Inv m v1 v2 M → w_clear_24b v1 v2 M (fun (v1' : Int) (v2' : Int) (M' : rf_M) => ∃ m', m' < m ∧ Inv m' v1' v2' M') K
theorem W_clear_24 {fz : Bool} {S : gS} {B : rf_M} {M : rf_M} {ls : rf_L} {v1 : Int} {v2 : Int} {K : Int → rf_M → Prop} (hS : rk fz S B.2.2) (hR : fq B M) (a0 : rf_ld ls 0 = some (.ref 353)) (a1 : rf_ld ls 1 = some (zv v1)) (a2 : rf_ld ls 2 = some (zv v2)) (h : w_clear_24 v1 v2 M K) : gx (cx0 fz) (0, 0) 197 24 ls [] (M, S) (vq_i B S K) := by
  obtain ⟨Inv, ⟨m, hm⟩, hb⟩ := h
  induction m using Nat.strongRecOn generalizing ls M v1 v2 with
  | _ m ih =>
    refine W_clear_24b hS hR a0 a1 a2 (fun v1' v2' M' ls' hR' f0 f1 f2 ⟨m', q1, q2⟩ => ih m' q1 hR' f0 f1 f2 q2) (hb m v1 v2 M hm)
def w_clear (M : rf_M) (K : Int → rf_M → Prop) : Prop := ∀ M1 : rf_M, M1 = wi M 353 0 0 → (∀ M2 : rf_M, M2 = wi M1 353 69 0 → ((0 ≤ (0 : Int) ∧ (0 : Int) < 2) ∧ (∀ M3 : rf_M, M3 = wi M2 378 0 0 → (w_clear_24 (gi M1 353 69) 0 M3 K))))
theorem W_clear {fz : Bool} {S : gS} {B : rf_M} {M : rf_M} {ls : rf_L} {K : Int → rf_M → Prop} (hS : rk fz S B.2.2) (hR : fq B M) (a0 : rf_ld ls 0 = some (.ref 353)) (h : w_clear M K) : gx (cx0 fz) (0, 0) 197 0 ls [] (M, S) (vq_i B S K) := by
  unfold w_clear at h
  refine g1 (n := 1) rfl rfl rfl (la_of a0) ?_
  refine g1 (n := 1) rfl rfl rfl rfl ?_
  refine n_pi (Nat.le_of_ble_eq_true rfl) rfl hS.1 rfl (fun _ _ => rfl) (fun M1 e r => ?_)
  replace h := h M1 e
  have r1 := hR.trans r
  refine g1 (n := 1) rfl rfl rfl (la_of a0) ?_
  refine n_gi rfl hS.1 rfl (fun _ => rfl) ?_
  refine n_s1 (n := 1) rfl rfl rfl rfl (fun ls l1 ho => ?_)
  replace a0 := ho 0 _ (by decide) (fun q => by cases q.2) a0
  refine g1 (n := 1) rfl rfl rfl (la_of a0) ?_
  refine g1 (n := 1) rfl rfl rfl rfl ?_
  refine n_pi (Nat.le_of_ble_eq_true rfl) rfl hS.1 rfl (fun _ _ => rfl) (fun M2 e r => ?_)
  replace h := h M2 e
  have r2 := r1.trans r
  refine g1 (n := 1) rfl rfl rfl (la_of a0) ?_
  refine n_gr rfl hS.1 rfl (fun _ => rfl) r2 (rk_378 hS).2 ?_
  refine g1 (n := 1) rfl rfl rfl rfl ?_
  refine g1 (n := 1) rfl rfl rfl rfl ?_
  obtain ⟨q, h⟩ := h
  refine n_is (Nat.le_of_ble_eq_true rfl) rfl (rk_378 hS).1 (Nat.le_of_ble_eq_true rfl) q (fun M3 e r => ?_)
  replace h := h M3 e
  have r3 := r2.trans r
  refine g1 (n := 1) rfl rfl rfl rfl ?_
  refine n_s1 (n := 1) rfl rfl rfl rfl (fun ls l2 ho => ?_)
  replace a0 := ho 0 _ (by decide) (fun q => by cases q.2) a0
  have l3 := ho 1 _ (by decide) (fun q => by cases q.2) l1
  exact W_clear_24 hS r3 a0 l3 l2 h
def wm_clear (M : rf_M) (K : Int → rf_M → Prop) : Prop := w_clear  M K
theorem W_clear_m {fz : Bool} {S : gS} {B : rf_M} {M : rf_M} {K : Int → rf_M → Prop} (hS : rk fz S B.2.2) (hR : fq B M) (h : wm_clear  M K) : gx (cx0 fz) (0, 0) 197 0 (lv_args 0 [.ref 353]) [] (M, S) (vq_i B S K) :=
  W_clear hS hR rfl h
