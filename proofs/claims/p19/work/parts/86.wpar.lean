/-! the methods as formulas (printed by wip/tools/vc.py) -/
def w_feed_78 (v1 : Int) (v2 : Int) (v3 : Int) (v4 : Int) (v5 : Int) (v6 : Int) (s0 : Int) (M : rf_M) (b23 : Int → Int → Int → Int → Int → Int → rf_M → Prop) (K : Int → rf_M → Prop) : Prop := (0 ≤ (gi M 353 2) ∧ (gi M 353 2) < 800) ∧ (∀ M1 : rf_M, M1 = wi M 354 (gi M 353 2).toNat (Int32.ofInt (Int32.ofInt (Int32.ofInt s0 >>> (Int32.ofInt (24 - (8 * (Int32.ofInt v6 - Int32.ofInt v6 / Int32.ofInt 4 * Int32.ofInt 4).toInt)) &&& 31)).toInt).toInt8.toInt32.toInt).toInt8.toInt32.toInt → (∀ M2 : rf_M, M2 = wi M1 353 2 ((gi M1 353 2) + 1) → (b23 v1 v2 v3 v4 v5 (v6 + 1) M2)))
theorem W_feed_78 {fz : Bool} {S : gS} {B : rf_M} {M : rf_M} {ls : rf_L} {v1 : Int} {v2 : Int} {v3 : Int} {v4 : Int} {v5 : Int} {v6 : Int} {s0 : Int} {b23 : Int → Int → Int → Int → Int → Int → rf_M → Prop} {K : Int → rf_M → Prop} (hS : rk fz S B.2.2) (hR : fq B M) (a0 : rf_ld ls 0 = some (.ref 353)) (a1 : rf_ld ls 1 = some (zv v1)) (a2 : rf_ld ls 2 = some (zv v2)) (a3 : rf_ld ls 3 = some (zv v3)) (a4 : rf_ld ls 4 = some (zv v4)) (a5 : rf_ld ls 5 = some (zv v5)) (a6 : rf_ld ls 6 = some (zv v6)) (hb23 : ∀ (v1 : Int) (v2 : Int) (v3 : Int) (v4 : Int) (v5 : Int) (v6 : Int) (M : rf_M) (ls : rf_L), fq B M → rf_ld ls 0 = some (.ref 353) → rf_ld ls 1 = some (zv v1) → rf_ld ls 2 = some (zv v2) → rf_ld ls 3 = some (zv v3) → rf_ld ls 4 = some (zv v4) → rf_ld ls 5 = some (zv v5) → rf_ld ls 6 = some (zv v6) → b23 v1 v2 v3 v4 v5 v6 M → gx (cx0 fz) (0, 0) 128 23 ls [] (M, S) (vq_i B S K)) (h : w_feed_78 v1 v2 v3 v4 v5 v6 s0 M b23 K) : gx (cx0 fz) (0, 0) 128 78 ls [zv s0] (M, S) (vq_i B S K) := by
  unfold w_feed_78 at h
  refine n_s1 (n := 2) rfl rfl rfl rfl (fun ls l1 ho => ?_)
  replace a0 := ho 0 _ (by decide) (fun q => by cases q.2) a0
  have l2 := ho 1 _ (by decide) (fun q => by cases q.2) a1
  have l3 := ho 2 _ (by decide) (fun q => by cases q.2) a2
  have l4 := ho 3 _ (by decide) (fun q => by cases q.2) a3
  have l5 := ho 4 _ (by decide) (fun q => by cases q.2) a4
  have l6 := ho 5 _ (by decide) (fun q => by cases q.2) a5
  have l7 := ho 6 _ (by decide) (fun q => by cases q.2) a6
  refine g1 (n := 1) rfl rfl rfl (la_of a0) ?_
  refine n_gr rfl hS.1 rfl (fun _ => rfl) hR (rk_354 hS).2 ?_
  refine g1 (n := 1) rfl rfl rfl (la_of a0) ?_
  refine n_gi rfl hS.1 rfl (fun _ => rfl) ?_
  refine g1 (n := 2) rfl rfl rfl (li_of l1) ?_
  refine n_bi rfl (by decide) ?_
  refine n_bi rfl (by decide) ?_
  refine g1 (n := 2) rfl rfl rfl (li_of l7) ?_
  refine g1 (n := 1) rfl rfl rfl rfl ?_
  refine n_op (T := (Int32.ofInt v6 - Int32.ofInt v6 / Int32.ofInt 4 * Int32.ofInt 4)) rfl rfl rfl ?_
  refine n_mul rfl ?_
  refine n_sub rfl ?_
  refine n_op (T := (Int32.ofInt s0 >>> (Int32.ofInt (24 - (8 * (Int32.ofInt v6 - Int32.ofInt v6 / Int32.ofInt 4 * Int32.ofInt 4).toInt)) &&& 31))) rfl rfl rfl ?_
  refine n_op (T := (Int32.ofInt (Int32.ofInt s0 >>> (Int32.ofInt (24 - (8 * (Int32.ofInt v6 - Int32.ofInt v6 / Int32.ofInt 4 * Int32.ofInt 4).toInt)) &&& 31)).toInt).toInt8.toInt32) rfl rfl rfl ?_
  obtain ⟨q, h⟩ := h
  refine n_bs (Nat.le_of_ble_eq_true rfl) rfl (rk_354 hS).1 (Nat.le_of_ble_eq_true rfl) q (fun M1 e r => ?_)
  replace h := h M1 e
  have r1 := hR.trans r
  refine g1 (n := 1) rfl rfl rfl (la_of a0) ?_
  refine g0 rfl rfl rfl ?_
  refine n_gi rfl hS.1 rfl (fun _ => rfl) ?_
  refine g1 (n := 1) rfl rfl rfl rfl ?_
  refine n_add rfl ?_
  refine n_pi (Nat.le_of_ble_eq_true rfl) rfl hS.1 rfl (fun _ _ => rfl) (fun M2 e r => ?_)
  replace h := h M2 e
  have r2 := r1.trans r
  refine n_ii rfl l7 (Nat.le_of_ble_eq_true rfl) (fun ls l8 ho => ?_)
  replace a0 := ho 0 _ (by decide) (fun q => by cases q.2) a0
  have l9 := ho 1 _ (by decide) (fun q => by cases q.2) l2
  have l10 := ho 2 _ (by decide) (fun q => by cases q.2) l3
  have l11 := ho 3 _ (by decide) (fun q => by cases q.2) l4
  have l12 := ho 4 _ (by decide) (fun q => by cases q.2) l5
  have l13 := ho 5 _ (by decide) (fun q => by cases q.2) l6
  refine g3 rfl rfl rfl ?_
  exact hb23 _ _ _ _ _ _ _ _ r2 a0 l9 l10 l11 l12 l13 l8 h
def w_feed_23b (v1 : Int) (v2 : Int) (v3 : Int) (v4 : Int) (v5 : Int) (v6 : Int) (M : rf_M) (b23 : Int → Int → Int → Int → Int → Int → rf_M → Prop) (K : Int → rf_M → Prop) : Prop := inr v6 ∧ ((20 ≤ v6 → (K (gi M 353 2) M)) ∧ (¬ (20 ≤ v6) → (((Int32.ofInt v6 / Int32.ofInt 4).toInt = 0 → (w_feed_78 v1 v2 v3 v4 v5 v6 v1 M b23 K)) ∧ (¬ (Int32.ofInt v6 / Int32.ofInt 4).toInt = 0 → (((Int32.ofInt v6 / Int32.ofInt 4).toInt = 1 → (w_feed_78 v1 v2 v3 v4 v5 v6 v2 M b23 K)) ∧ (¬ (Int32.ofInt v6 / Int32.ofInt 4).toInt = 1 → (((Int32.ofInt v6 / Int32.ofInt 4).toInt = 2 → (w_feed_78 v1 v2 v3 v4 v5 v6 v3 M b23 K)) ∧ (¬ (Int32.ofInt v6 / Int32.ofInt 4).toInt = 2 → (((Int32.ofInt v6 / Int32.ofInt 4).toInt = 3 → (w_feed_78 v1 v2 v3 v4 v5 v6 v4 M b23 K)) ∧ (¬ (Int32.ofInt v6 / Int32.ofInt 4).toInt = 3 → (w_feed_78 v1 v2 v3 v4 v5 v6 v5 M b23 K)))))))))))
theorem W_feed_23b {fz : Bool} {S : gS} {B : rf_M} {M : rf_M} {ls : rf_L} {v1 : Int} {v2 : Int} {v3 : Int} {v4 : Int} {v5 : Int} {v6 : Int} {b23 : Int → Int → Int → Int → Int → Int → rf_M → Prop} {K : Int → rf_M → Prop} (hS : rk fz S B.2.2) (hR : fq B M) (a0 : rf_ld ls 0 = some (.ref 353)) (a1 : rf_ld ls 1 = some (zv v1)) (a2 : rf_ld ls 2 = some (zv v2)) (a3 : rf_ld ls 3 = some (zv v3)) (a4 : rf_ld ls 4 = some (zv v4)) (a5 : rf_ld ls 5 = some (zv v5)) (a6 : rf_ld ls 6 = some (zv v6)) (hb23 : ∀ (v1 : Int) (v2 : Int) (v3 : Int) (v4 : Int) (v5 : Int) (v6 : Int) (M : rf_M) (ls : rf_L), fq B M → rf_ld ls 0 = some (.ref 353) → rf_ld ls 1 = some (zv v1) → rf_ld ls 2 = some (zv v2) → rf_ld ls 3 = some (zv v3) → rf_ld ls 4 = some (zv v4) → rf_ld ls 5 = some (zv v5) → rf_ld ls 6 = some (zv v6) → b23 v1 v2 v3 v4 v5 v6 M → gx (cx0 fz) (0, 0) 128 23 ls [] (M, S) (vq_i B S K)) (h : w_feed_23b v1 v2 v3 v4 v5 v6 M b23 K) : gx (cx0 fz) (0, 0) 128 23 ls [] (M, S) (vq_i B S K) := by
  unfold w_feed_23b at h
  refine g1 (n := 2) rfl rfl rfl (li_of a6) ?_
  refine n_bi rfl (by decide) ?_
  obtain ⟨i1, h⟩ := h
  refine n_ic rfl i1 ⟨by decide, by decide⟩ (fun c => ?_) (fun c => ?_)
  · replace h := h.1 c
    refine g1 (n := 1) rfl rfl rfl (la_of a0) ?_
    refine n_gi rfl hS.1 rfl (fun _ => rfl) ?_
    exact gx_ret rfl rfl ⟨(gi M 353 2), M, rfl, rfl, hR, h⟩
  · replace h := h.2 c
    refine g1 (n := 2) rfl rfl rfl (li_of a6) ?_
    refine g1 (n := 1) rfl rfl rfl rfl ?_
    refine n_op (T := (Int32.ofInt v6 / Int32.ofInt 4)) rfl rfl rfl ?_
    refine n_s1 (n := 2) rfl rfl rfl rfl (fun ls l1 ho => ?_)
    replace a0 := ho 0 _ (by decide) (fun q => by cases q.2) a0
    have l2 := ho 1 _ (by decide) (fun q => by cases q.2) a1
    have l3 := ho 2 _ (by decide) (fun q => by cases q.2) a2
    have l4 := ho 3 _ (by decide) (fun q => by cases q.2) a3
    have l5 := ho 4 _ (by decide) (fun q => by cases q.2) a4
    have l6 := ho 5 _ (by decide) (fun q => by cases q.2) a5
    have l7 := ho 6 _ (by decide) (fun q => by cases q.2) a6
    refine g1 (n := 2) rfl rfl rfl (li_of l1) ?_
    refine n_if rfl (inr_ti _) (fun c => ?_) (fun c => ?_)
    · replace h := h.2 c
      refine g1 (n := 2) rfl rfl rfl (li_of l1) ?_
      refine g1 (n := 1) rfl rfl rfl rfl ?_
      refine n_ic rfl (inr_ti _) ⟨by decide, by decide⟩ (fun c => ?_) (fun c => ?_)
      · replace h := h.2 c
        refine g1 (n := 2) rfl rfl rfl (li_of l1) ?_
        refine g1 (n := 1) rfl rfl rfl rfl ?_
        refine n_ic rfl (inr_ti _) ⟨by decide, by decide⟩ (fun c => ?_) (fun c => ?_)
        · replace h := h.2 c
          refine g1 (n := 2) rfl rfl rfl (li_of l1) ?_
          refine g1 (n := 1) rfl rfl rfl rfl ?_
          refine n_ic rfl (inr_ti _) ⟨by decide, by decide⟩ (fun c => ?_) (fun c => ?_)
          · replace h := h.2 c
            refine g1 (n := 2) rfl rfl rfl (li_of l6) ?_
            exact W_feed_78 hS hR a0 l2 l3 l4 l5 l6 l7 hb23 h
          · replace h := h.1 (Classical.not_not.mp c)
            refine g1 (n := 2) rfl rfl rfl (li_of l5) ?_
            refine g3 rfl rfl rfl ?_
            exact W_feed_78 hS hR a0 l2 l3 l4 l5 l6 l7 hb23 h
        · replace h := h.1 (Classical.not_not.mp c)
          refine g1 (n := 1) rfl rfl rfl (li_of l4) ?_
          refine g3 rfl rfl rfl ?_
          exact W_feed_78 hS hR a0 l2 l3 l4 l5 l6 l7 hb23 h
      · replace h := h.1 (Classical.not_not.mp c)
        refine g1 (n := 1) rfl rfl rfl (li_of l3) ?_
        refine g3 rfl rfl rfl ?_
        exact W_feed_78 hS hR a0 l2 l3 l4 l5 l6 l7 hb23 h
    · replace h := h.1 (Classical.not_not.mp c)
      refine g1 (n := 1) rfl rfl rfl (li_of l2) ?_
      refine g3 rfl rfl rfl ?_
      exact W_feed_78 hS hR a0 l2 l3 l4 l5 l6 l7 hb23 h
def w_feed_23 (v1 : Int) (v2 : Int) (v3 : Int) (v4 : Int) (v5 : Int) (v6 : Int) (M : rf_M) (K : Int → rf_M → Prop) : Prop := ∃ Inv : Nat → Int → Int → Int → Int → Int → Int → rf_M → Prop, (∃ m, Inv m v1 v2 v3 v4 v5 v6 M) ∧ ∀ (m : Nat) (v1 : Int) (v2 : Int) (v3 : Int) (v4 : Int) (v5 : Int) (v6 : Int) (M : rf_M), Inv m v1 v2 v3 v4 v5 v6 M → w_feed_23b v1 v2 v3 v4 v5 v6 M (fun (v1' : Int) (v2' : Int) (v3' : Int) (v4' : Int) (v5' : Int) (v6' : Int) (M' : rf_M) => ∃ m', m' < m ∧ Inv m' v1' v2' v3' v4' v5' v6' M') K
theorem W_feed_23 {fz : Bool} {S : gS} {B : rf_M} {M : rf_M} {ls : rf_L} {v1 : Int} {v2 : Int} {v3 : Int} {v4 : Int} {v5 : Int} {v6 : Int} {K : Int → rf_M → Prop} (hS : rk fz S B.2.2) (hR : fq B M) (a0 : rf_ld ls 0 = some (.ref 353)) (a1 : rf_ld ls 1 = some (zv v1)) (a2 : rf_ld ls 2 = some (zv v2)) (a3 : rf_ld ls 3 = some (zv v3)) (a4 : rf_ld ls 4 = some (zv v4)) (a5 : rf_ld ls 5 = some (zv v5)) (a6 : rf_ld ls 6 = some (zv v6)) (h : w_feed_23 v1 v2 v3 v4 v5 v6 M K) : gx (cx0 fz) (0, 0) 128 23 ls [] (M, S) (vq_i B S K) := by
  obtain ⟨Inv, ⟨m, hm⟩, hb⟩ := h
  induction m using Nat.strongRecOn generalizing ls M v1 v2 v3 v4 v5 v6 with
  | _ m ih =>
    refine W_feed_23b hS hR a0 a1 a2 a3 a4 a5 a6 (fun v1' v2' v3' v4' v5' v6' M' ls' hR' f0 f1 f2 f3 f4 f5 f6 ⟨m', q1, q2⟩ => ih m' q1 hR' f0 f1 f2 f3 f4 f5 f6 q2) (hb m v1 v2 v3 v4 v5 v6 M hm)
def w_feed (v1 : Int) (v2 : Int) (v3 : Int) (v4 : Int) (v5 : Int) (M : rf_M) (K : Int → rf_M → Prop) : Prop := ∀ M1 : rf_M, M1 = wi M 353 0 0 → (inr ((gi M1 353 2) + 20) ∧ ((((gi M1 353 2) + 20) ≤ 800 → (w_feed_23 v1 v2 v3 v4 v5 0 M1 K)) ∧ (¬ (((gi M1 353 2) + 20) ≤ 800) → (K (-1) M1))))
theorem W_feed {fz : Bool} {S : gS} {B : rf_M} {M : rf_M} {ls : rf_L} {v1 : Int} {v2 : Int} {v3 : Int} {v4 : Int} {v5 : Int} {K : Int → rf_M → Prop} (hS : rk fz S B.2.2) (hR : fq B M) (a0 : rf_ld ls 0 = some (.ref 353)) (a1 : rf_ld ls 1 = some (zv v1)) (a2 : rf_ld ls 2 = some (zv v2)) (a3 : rf_ld ls 3 = some (zv v3)) (a4 : rf_ld ls 4 = some (zv v4)) (a5 : rf_ld ls 5 = some (zv v5)) (h : w_feed v1 v2 v3 v4 v5 M K) : gx (cx0 fz) (0, 0) 128 0 ls [] (M, S) (vq_i B S K) := by
  unfold w_feed at h
  refine g1 (n := 1) rfl rfl rfl (la_of a0) ?_
  refine g1 (n := 1) rfl rfl rfl rfl ?_
  refine n_pi (Nat.le_of_ble_eq_true rfl) rfl hS.1 rfl (fun _ _ => rfl) (fun M1 e r => ?_)
  replace h := h M1 e
  have r1 := hR.trans r
  refine g1 (n := 1) rfl rfl rfl (la_of a0) ?_
  refine n_gi rfl hS.1 rfl (fun _ => rfl) ?_
  refine n_bi rfl (by decide) ?_
  refine n_add rfl ?_
  refine n_si rfl (by decide) ?_
  obtain ⟨i1, h⟩ := h
  refine n_ic rfl i1 ⟨by decide, by decide⟩ (fun c => ?_) (fun c => ?_)
  · replace h := h.1 c
    refine g1 (n := 1) rfl rfl rfl rfl ?_
    refine n_s1 (n := 2) rfl rfl rfl rfl (fun ls l1 ho => ?_)
    replace a0 := ho 0 _ (by decide) (fun q => by cases q.2) a0
    have l2 := ho 1 _ (by decide) (fun q => by cases q.2) a1
    have l3 := ho 2 _ (by decide) (fun q => by cases q.2) a2
    have l4 := ho 3 _ (by decide) (fun q => by cases q.2) a3
    have l5 := ho 4 _ (by decide) (fun q => by cases q.2) a4
    have l6 := ho 5 _ (by decide) (fun q => by cases q.2) a5
    exact W_feed_23 hS r1 a0 l2 l3 l4 l5 l6 l1 h
  · replace h := h.2 c
    refine g1 (n := 1) rfl rfl rfl rfl ?_
    exact gx_ret rfl rfl ⟨(-1), M1, rfl, rfl, r1, h⟩
def wm_feed (x0 : Int) (x1 : Int) (x2 : Int) (x3 : Int) (x4 : Int) (M : rf_M) (K : Int → rf_M → Prop) : Prop := w_feed x0 x1 x2 x3 x4 M K
theorem W_feed_m {fz : Bool} {S : gS} {B : rf_M} {M : rf_M} {x0 : Int} {x1 : Int} {x2 : Int} {x3 : Int} {x4 : Int} {K : Int → rf_M → Prop} (hS : rk fz S B.2.2) (hR : fq B M) (h : wm_feed x0 x1 x2 x3 x4 M K) : gx (cx0 fz) (0, 0) 128 0 (lv_args 0 [.ref 353, zv x0, zv x1, zv x2, zv x3, zv x4]) [] (M, S) (vq_i B S K) :=
  W_feed hS hR rfl rfl rfl rfl rfl rfl h
def w_end_24 (M : rf_M) (K : Int → rf_M → Prop) : Prop := K (-1) M
theorem W_end_24 {fz : Bool} {S : gS} {B : rf_M} {M : rf_M} {ls : rf_L} {K : Int → rf_M → Prop} (hS : rk fz S B.2.2) (hR : fq B M) (h : w_end_24 M K) : gx (cx0 fz) (0, 0) 129 24 ls [] (M, S) (vq_i B S K) := by
  unfold w_end_24 at h
  refine g1 (n := 1) rfl rfl rfl rfl ?_
  exact gx_ret rfl rfl ⟨(-1), M, rfl, rfl, hR, h⟩
def w_end (v1 : Int) (M : rf_M) (K : Int → rf_M → Prop) : Prop := ∀ M1 : rf_M, M1 = wi M 353 0 0 → (inr v1 ∧ ((v1 < 0 → (w_end_24 M1 K)) ∧ (¬ (v1 < 0) → (inr v1 ∧ ((20 < v1 → (w_end_24 M1 K)) ∧ (¬ (20 < v1) → ((20 ≤ (gi M1 353 2) → (∀ M2 : rf_M, M2 = wi M1 353 2 ((gi M1 353 2) - (20 - v1)) → (K (gi M2 353 2) M2))) ∧ (¬ (20 ≤ (gi M1 353 2)) → (w_end_24 M1 K)))))))))
theorem W_end {fz : Bool} {S : gS} {B : rf_M} {M : rf_M} {ls : rf_L} {v1 : Int} {K : Int → rf_M → Prop} (hS : rk fz S B.2.2) (hR : fq B M) (a0 : rf_ld ls 0 = some (.ref 353)) (a1 : rf_ld ls 1 = some (zv v1)) (h : w_end v1 M K) : gx (cx0 fz) (0, 0) 129 0 ls [] (M, S) (vq_i B S K) := by
  unfold w_end at h
  refine g1 (n := 1) rfl rfl rfl (la_of a0) ?_
  refine g1 (n := 1) rfl rfl rfl rfl ?_
  refine n_pi (Nat.le_of_ble_eq_true rfl) rfl hS.1 rfl (fun _ _ => rfl) (fun M1 e r => ?_)
  replace h := h M1 e
  have r1 := hR.trans r
  refine g1 (n := 1) rfl rfl rfl (li_of a1) ?_
  obtain ⟨i1, h⟩ := h
  refine n_if rfl i1 (fun c => ?_) (fun c => ?_)
  · replace h := h.1 c
    exact W_end_24 hS r1  h
  · replace h := h.2 c
    refine g1 (n := 1) rfl rfl rfl (li_of a1) ?_
    refine n_bi rfl (by decide) ?_
    obtain ⟨i2, h⟩ := h
    refine n_ic rfl i2 ⟨by decide, by decide⟩ (fun c => ?_) (fun c => ?_)
    · replace h := h.1 c
      exact W_end_24 hS r1  h
    · replace h := h.2 c
      refine g1 (n := 1) rfl rfl rfl (la_of a0) ?_
      refine n_gi rfl hS.1 rfl (fun _ => rfl) ?_
      refine n_bi rfl (by decide) ?_
      refine n_ic rfl (inr_gi _ _ _) ⟨by decide, by decide⟩ (fun c => ?_) (fun c => ?_)
      · replace h := h.1 c
        refine g1 (n := 1) rfl rfl rfl (la_of a0) ?_
        refine g0 rfl rfl rfl ?_
        refine n_gi rfl hS.1 rfl (fun _ => rfl) ?_
        refine n_bi rfl (by decide) ?_
        refine g1 (n := 1) rfl rfl rfl (li_of a1) ?_
        refine n_sub rfl ?_
        refine n_sub rfl ?_
        refine n_pi (Nat.le_of_ble_eq_true rfl) rfl hS.1 rfl (fun _ _ => rfl) (fun M2 e r => ?_)
        replace h := h M2 e
        have r2 := r1.trans r
        refine g1 (n := 1) rfl rfl rfl (la_of a0) ?_
        refine n_gi rfl hS.1 rfl (fun _ => rfl) ?_
        exact gx_ret rfl rfl ⟨(gi M2 353 2), M2, rfl, rfl, r2, h⟩
      · replace h := h.2 c
        exact W_end_24 hS r1  h
def wm_end (x0 : Int) (M : rf_M) (K : Int → rf_M → Prop) : Prop := w_end x0 M K
theorem W_end_m {fz : Bool} {S : gS} {B : rf_M} {M : rf_M} {x0 : Int} {K : Int → rf_M → Prop} (hS : rk fz S B.2.2) (hR : fq B M) (h : wm_end x0 M K) : gx (cx0 fz) (0, 0) 129 0 (lv_args 0 [.ref 353, zv x0]) [] (M, S) (vq_i B S K) :=
  W_end hS hR rfl rfl h
def w_byteAt_22 (s0 : Int) (M : rf_M) (K : Int → rf_M → Prop) : Prop := K s0 M
theorem W_byteAt_22 {fz : Bool} {S : gS} {B : rf_M} {M : rf_M} {ls : rf_L} {s0 : Int} {K : Int → rf_M → Prop} (hS : rk fz S B.2.2) (hR : fq B M) (h : w_byteAt_22 s0 M K) : gx (cx0 fz) (0, 0) 133 22 ls [zv s0] (M, S) (vq_i B S K) := by
  unfold w_byteAt_22 at h
  exact gx_ret rfl rfl ⟨s0, M, rfl, rfl, hR, h⟩
def w_byteAt (v1 : Int) (M : rf_M) (K : Int → rf_M → Prop) : Prop := inr v1 ∧ (((gi M 353 2) ≤ v1 → (w_byteAt_22 (-1) M K)) ∧ (¬ ((gi M 353 2) ≤ v1) → ((0 ≤ v1 ∧ v1 < 800) ∧ (w_byteAt_22 (Int32.ofInt (gi M 354 (v1).toNat) &&& Int32.ofInt 255).toInt M K))))
theorem W_byteAt {fz : Bool} {S : gS} {B : rf_M} {M : rf_M} {ls : rf_L} {v1 : Int} {K : Int → rf_M → Prop} (hS : rk fz S B.2.2) (hR : fq B M) (a0 : rf_ld ls 0 = some (.ref 353)) (a1 : rf_ld ls 1 = some (zv v1)) (h : w_byteAt v1 M K) : gx (cx0 fz) (0, 0) 133 0 ls [] (M, S) (vq_i B S K) := by
  unfold w_byteAt at h
  refine g1 (n := 1) rfl rfl rfl (li_of a1) ?_
  refine g1 (n := 1) rfl rfl rfl (la_of a0) ?_
  refine n_gi rfl hS.1 rfl (fun _ => rfl) ?_
  obtain ⟨i1, h⟩ := h
  refine n_ic rfl i1 (inr_gi _ _ _) (fun c => ?_) (fun c => ?_)
  · replace h := h.1 c
    refine g1 (n := 1) rfl rfl rfl rfl ?_
    exact W_byteAt_22 hS hR  h
  · replace h := h.2 c
    refine g1 (n := 1) rfl rfl rfl (la_of a0) ?_
    refine n_gr rfl hS.1 rfl (fun _ => rfl) hR (rk_354 hS).2 ?_
    refine g1 (n := 1) rfl rfl rfl (li_of a1) ?_
    obtain ⟨q, h⟩ := h
    refine n_ba rfl (rk_354 hS).1 (Nat.le_of_ble_eq_true rfl) q ?_
    refine n_si rfl (by decide) ?_
    refine n_op (T := (Int32.ofInt (gi M 354 (v1).toNat) &&& Int32.ofInt 255)) rfl rfl rfl ?_
    refine g3 rfl rfl rfl ?_
    exact W_byteAt_22 hS hR  h
def wm_byteAt (x0 : Int) (M : rf_M) (K : Int → rf_M → Prop) : Prop := w_byteAt x0 M K
theorem W_byteAt_m {fz : Bool} {S : gS} {B : rf_M} {M : rf_M} {x0 : Int} {K : Int → rf_M → Prop} (hS : rk fz S B.2.2) (hR : fq B M) (h : wm_byteAt x0 M K) : gx (cx0 fz) (0, 0) 133 0 (lv_args 0 [.ref 353, zv x0]) [] (M, S) (vq_i B S K) :=
  W_byteAt hS hR rfl rfl h
def w_isSmall_17 (s0 : Int) (M : rf_M) (K : Int → rf_M → Prop) : Prop := (s0 = 0 ∨ s0 = 1) ∧ K s0 M
theorem W_isSmall_17 {fz : Bool} {S : gS} {B : rf_M} {M : rf_M} {ls : rf_L} {s0 : Int} {K : Int → rf_M → Prop} (hS : rk fz S B.2.2) (hR : fq B M) (h : w_isSmall_17 s0 M K) : gx (cx0 fz) (0, 0) 134 17 ls [zv s0] (M, S) (vq_i B S K) := by
  unfold w_isSmall_17 at h
  exact n_rb rfl rfl h.1 hR h.2
def w_isSmall_16 (M : rf_M) (K : Int → rf_M → Prop) : Prop := w_isSmall_17 0 M K
theorem W_isSmall_16 {fz : Bool} {S : gS} {B : rf_M} {M : rf_M} {ls : rf_L} {K : Int → rf_M → Prop} (hS : rk fz S B.2.2) (hR : fq B M) (h : w_isSmall_16 M K) : gx (cx0 fz) (0, 0) 134 16 ls [] (M, S) (vq_i B S K) := by
  unfold w_isSmall_16 at h
  refine g1 (n := 1) rfl rfl rfl rfl ?_
  exact W_isSmall_17 hS hR  h
def w_isSmall (v0 : Int) (M : rf_M) (K : Int → rf_M → Prop) : Prop := inr v0 ∧ ((v0 < 97 → (w_isSmall_16 M K)) ∧ (¬ (v0 < 97) → (inr v0 ∧ ((122 < v0 → (w_isSmall_16 M K)) ∧ (¬ (122 < v0) → (w_isSmall_17 1 M K))))))
theorem W_isSmall {fz : Bool} {S : gS} {B : rf_M} {M : rf_M} {ls : rf_L} {v0 : Int} {K : Int → rf_M → Prop} (hS : rk fz S B.2.2) (hR : fq B M) (a0 : rf_ld ls 0 = some (zv v0)) (h : w_isSmall v0 M K) : gx (cx0 fz) (0, 0) 134 0 ls [] (M, S) (vq_i B S K) := by
  unfold w_isSmall at h
  refine g1 (n := 1) rfl rfl rfl (li_of a0) ?_
  refine n_bi rfl (by decide) ?_
  obtain ⟨i1, h⟩ := h
  refine n_ic rfl i1 ⟨by decide, by decide⟩ (fun c => ?_) (fun c => ?_)
  · replace h := h.1 c
    exact W_isSmall_16 hS hR  h
  · replace h := h.2 c
    refine g1 (n := 1) rfl rfl rfl (li_of a0) ?_
    refine n_bi rfl (by decide) ?_
    obtain ⟨i2, h⟩ := h
    refine n_ic rfl i2 ⟨by decide, by decide⟩ (fun c => ?_) (fun c => ?_)
    · replace h := h.1 c
      exact W_isSmall_16 hS hR  h
    · replace h := h.2 c
      refine g1 (n := 1) rfl rfl rfl rfl ?_
      refine g3 rfl rfl rfl ?_
      exact W_isSmall_17 hS hR  h
def wm_isSmall (x0 : Int) (M : rf_M) (K : Int → rf_M → Prop) : Prop := w_isSmall x0 M K
theorem W_isSmall_m {fz : Bool} {S : gS} {B : rf_M} {M : rf_M} {x0 : Int} {K : Int → rf_M → Prop} (hS : rk fz S B.2.2) (hR : fq B M) (h : wm_isSmall x0 M K) : gx (cx0 fz) (0, 0) 134 0 (lv_args 0 [zv x0]) [] (M, S) (vq_i B S K) :=
  W_isSmall hS hR rfl h
def w_wordOf (v0 : Int64) (M : rf_M) (K : Int → rf_M → Prop) : Prop := ((lg_cmp v0 (Int64.ofNat 26982)).toInt = 0 → (K 0 M)) ∧ (¬ (lg_cmp v0 (Int64.ofNat 26982)).toInt = 0 → (((lg_cmp v0 (Int64.ofNat 1701606245)).toInt = 0 → (K 1 M)) ∧ (¬ (lg_cmp v0 (Int64.ofNat 1701606245)).toInt = 0 → (((lg_cmp v0 (Int64.ofNat 512852847717)).toInt = 0 → (K 2 M)) ∧ (¬ (lg_cmp v0 (Int64.ofNat 512852847717)).toInt = 0 → (((lg_cmp v0 (Int64.ofNat 491328402041)).toInt = 0 → (K 3 M)) ∧ (¬ (lg_cmp v0 (Int64.ofNat 491328402041)).toInt = 0 → (((lg_cmp v0 (Int64.ofNat 499968536439)).toInt = 0 → (K 4 M)) ∧ (¬ (lg_cmp v0 (Int64.ofNat 499968536439)).toInt = 0 → (((lg_cmp v0 (Int64.ofNat 111503598970226)).toInt = 0 → (K 5 M)) ∧ (¬ (lg_cmp v0 (Int64.ofNat 111503598970226)).toInt = 0 → (((lg_cmp v0 (Int64.ofNat 28530)).toInt = 0 → (K 6 M)) ∧ (¬ (lg_cmp v0 (Int64.ofNat 28530)).toInt = 0 → (((lg_cmp v0 (Int64.ofNat 7631481)).toInt = 0 → (K 7 M)) ∧ (¬ (lg_cmp v0 (Int64.ofNat 7631481)).toInt = 0 → (((lg_cmp v0 (Int64.ofNat 426836779880)).toInt = 0 → (K 8 M)) ∧ (¬ (lg_cmp v0 (Int64.ofNat 426836779880)).toInt = 0 → (((lg_cmp v0 (Int64.ofNat 107118487239027)).toInt = 0 → (K 9 M)) ∧ (¬ (lg_cmp v0 (Int64.ofNat 107118487239027)).toInt = 0 → (K (-1) M))))))))))))))))))))
theorem W_wordOf {fz : Bool} {S : gS} {B : rf_M} {M : rf_M} {ls : rf_L} {v0 : Int64} {K : Int → rf_M → Prop} (hS : rk fz S B.2.2) (hR : fq B M) (a0 : rf_ld ls 0 = some (.long v0)) (h : w_wordOf v0 M K) : gx (cx0 fz) (0, 0) 135 0 ls [] (M, S) (vq_i B S K) := by
  unfold w_wordOf at h
  refine g1 (n := 1) rfl rfl rfl (ll_of a0) ?_
  refine g7 (n := 3) rfl rfl rfl rfl ?_
  refine n_op (T := (lg_cmp v0 (Int64.ofNat 26982))) rfl rfl rfl ?_
  refine n_if rfl (inr_ti _) (fun c => ?_) (fun c => ?_)
  · replace h := h.2 c
    refine g1 (n := 1) rfl rfl rfl (ll_of a0) ?_
    refine g7 (n := 3) rfl rfl rfl rfl ?_
    refine n_op (T := (lg_cmp v0 (Int64.ofNat 1701606245))) rfl rfl rfl ?_
    refine n_if rfl (inr_ti _) (fun c => ?_) (fun c => ?_)
    · replace h := h.2 c
      refine g1 (n := 1) rfl rfl rfl (ll_of a0) ?_
      refine g7 (n := 3) rfl rfl rfl rfl ?_
      refine n_op (T := (lg_cmp v0 (Int64.ofNat 512852847717))) rfl rfl rfl ?_
      refine n_if rfl (inr_ti _) (fun c => ?_) (fun c => ?_)
      · replace h := h.2 c
        refine g1 (n := 1) rfl rfl rfl (ll_of a0) ?_
        refine g7 (n := 3) rfl rfl rfl rfl ?_
        refine n_op (T := (lg_cmp v0 (Int64.ofNat 491328402041))) rfl rfl rfl ?_
        refine n_if rfl (inr_ti _) (fun c => ?_) (fun c => ?_)
        · replace h := h.2 c
          refine g1 (n := 1) rfl rfl rfl (ll_of a0) ?_
          refine g7 (n := 3) rfl rfl rfl rfl ?_
          refine n_op (T := (lg_cmp v0 (Int64.ofNat 499968536439))) rfl rfl rfl ?_
          refine n_if rfl (inr_ti _) (fun c => ?_) (fun c => ?_)
          · replace h := h.2 c
            refine g1 (n := 1) rfl rfl rfl (ll_of a0) ?_
            refine g7 (n := 3) rfl rfl rfl rfl ?_
            refine n_op (T := (lg_cmp v0 (Int64.ofNat 111503598970226))) rfl rfl rfl ?_
            refine n_if rfl (inr_ti _) (fun c => ?_) (fun c => ?_)
            · replace h := h.2 c
              refine g1 (n := 1) rfl rfl rfl (ll_of a0) ?_
              refine g7 (n := 3) rfl rfl rfl rfl ?_
              refine n_op (T := (lg_cmp v0 (Int64.ofNat 28530))) rfl rfl rfl ?_
              refine n_if rfl (inr_ti _) (fun c => ?_) (fun c => ?_)
              · replace h := h.2 c
                refine g1 (n := 1) rfl rfl rfl (ll_of a0) ?_
                refine g7 (n := 3) rfl rfl rfl rfl ?_
                refine n_op (T := (lg_cmp v0 (Int64.ofNat 7631481))) rfl rfl rfl ?_
                refine n_if rfl (inr_ti _) (fun c => ?_) (fun c => ?_)
                · replace h := h.2 c
                  refine g1 (n := 1) rfl rfl rfl (ll_of a0) ?_
                  refine g7 (n := 3) rfl rfl rfl rfl ?_
                  refine n_op (T := (lg_cmp v0 (Int64.ofNat 426836779880))) rfl rfl rfl ?_
                  refine n_if rfl (inr_ti _) (fun c => ?_) (fun c => ?_)
                  · replace h := h.2 c
                    refine g1 (n := 1) rfl rfl rfl (ll_of a0) ?_
                    refine g7 (n := 3) rfl rfl rfl rfl ?_
                    refine n_op (T := (lg_cmp v0 (Int64.ofNat 107118487239027))) rfl rfl rfl ?_
                    refine n_if rfl (inr_ti _) (fun c => ?_) (fun c => ?_)
                    · replace h := h.2 c
                      refine g1 (n := 1) rfl rfl rfl rfl ?_
                      exact gx_ret rfl rfl ⟨(-1), M, rfl, rfl, hR, h⟩
                    · replace h := h.1 (Classical.not_not.mp c)
                      refine n_bi rfl (by decide) ?_
                      exact gx_ret rfl rfl ⟨9, M, rfl, rfl, hR, h⟩
                  · replace h := h.1 (Classical.not_not.mp c)
                    refine n_bi rfl (by decide) ?_
                    exact gx_ret rfl rfl ⟨8, M, rfl, rfl, hR, h⟩
                · replace h := h.1 (Classical.not_not.mp c)
                  refine n_bi rfl (by decide) ?_
                  exact gx_ret rfl rfl ⟨7, M, rfl, rfl, hR, h⟩
              · replace h := h.1 (Classical.not_not.mp c)
                refine n_bi rfl (by decide) ?_
                exact gx_ret rfl rfl ⟨6, M, rfl, rfl, hR, h⟩
            · replace h := h.1 (Classical.not_not.mp c)
              refine g1 (n := 1) rfl rfl rfl rfl ?_
              exact gx_ret rfl rfl ⟨5, M, rfl, rfl, hR, h⟩
          · replace h := h.1 (Classical.not_not.mp c)
            refine g1 (n := 1) rfl rfl rfl rfl ?_
            exact gx_ret rfl rfl ⟨4, M, rfl, rfl, hR, h⟩
        · replace h := h.1 (Classical.not_not.mp c)
          refine g1 (n := 1) rfl rfl rfl rfl ?_
          exact gx_ret rfl rfl ⟨3, M, rfl, rfl, hR, h⟩
      · replace h := h.1 (Classical.not_not.mp c)
        refine g1 (n := 1) rfl rfl rfl rfl ?_
        exact gx_ret rfl rfl ⟨2, M, rfl, rfl, hR, h⟩
    · replace h := h.1 (Classical.not_not.mp c)
      refine g1 (n := 1) rfl rfl rfl rfl ?_
      exact gx_ret rfl rfl ⟨1, M, rfl, rfl, hR, h⟩
  · replace h := h.1 (Classical.not_not.mp c)
    refine g1 (n := 1) rfl rfl rfl rfl ?_
    exact gx_ret rfl rfl ⟨0, M, rfl, rfl, hR, h⟩
def wm_wordOf (x0 : Int64) (M : rf_M) (K : Int → rf_M → Prop) : Prop := w_wordOf x0 M K
theorem W_wordOf_m {fz : Bool} {S : gS} {B : rf_M} {M : rf_M} {x0 : Int64} {K : Int → rf_M → Prop} (hS : rk fz S B.2.2) (hR : fq B M) (h : wm_wordOf x0 M K) : gx (cx0 fz) (0, 0) 135 0 (lv_args 0 [.long x0]) [] (M, S) (vq_i B S K) :=
  W_wordOf hS hR rfl h
def w_isFigure_17 (s0 : Int) (M : rf_M) (K : Int → rf_M → Prop) : Prop := (s0 = 0 ∨ s0 = 1) ∧ K s0 M
theorem W_isFigure_17 {fz : Bool} {S : gS} {B : rf_M} {M : rf_M} {ls : rf_L} {s0 : Int} {K : Int → rf_M → Prop} (hS : rk fz S B.2.2) (hR : fq B M) (h : w_isFigure_17 s0 M K) : gx (cx0 fz) (0, 0) 136 17 ls [zv s0] (M, S) (vq_i B S K) := by
  unfold w_isFigure_17 at h
  exact n_rb rfl rfl h.1 hR h.2
def w_isFigure_16 (M : rf_M) (K : Int → rf_M → Prop) : Prop := w_isFigure_17 0 M K
theorem W_isFigure_16 {fz : Bool} {S : gS} {B : rf_M} {M : rf_M} {ls : rf_L} {K : Int → rf_M → Prop} (hS : rk fz S B.2.2) (hR : fq B M) (h : w_isFigure_16 M K) : gx (cx0 fz) (0, 0) 136 16 ls [] (M, S) (vq_i B S K) := by
  unfold w_isFigure_16 at h
  refine g1 (n := 1) rfl rfl rfl rfl ?_
  exact W_isFigure_17 hS hR  h
def w_isFigure (v0 : Int) (M : rf_M) (K : Int → rf_M → Prop) : Prop := inr v0 ∧ ((v0 < 48 → (w_isFigure_16 M K)) ∧ (¬ (v0 < 48) → (inr v0 ∧ ((57 < v0 → (w_isFigure_16 M K)) ∧ (¬ (57 < v0) → (w_isFigure_17 1 M K))))))
theorem W_isFigure {fz : Bool} {S : gS} {B : rf_M} {M : rf_M} {ls : rf_L} {v0 : Int} {K : Int → rf_M → Prop} (hS : rk fz S B.2.2) (hR : fq B M) (a0 : rf_ld ls 0 = some (zv v0)) (h : w_isFigure v0 M K) : gx (cx0 fz) (0, 0) 136 0 ls [] (M, S) (vq_i B S K) := by
  unfold w_isFigure at h
  refine g1 (n := 1) rfl rfl rfl (li_of a0) ?_
  refine n_bi rfl (by decide) ?_
  obtain ⟨i1, h⟩ := h
  refine n_ic rfl i1 ⟨by decide, by decide⟩ (fun c => ?_) (fun c => ?_)
  · replace h := h.1 c
    exact W_isFigure_16 hS hR  h
  · replace h := h.2 c
    refine g1 (n := 1) rfl rfl rfl (li_of a0) ?_
    refine n_bi rfl (by decide) ?_
    obtain ⟨i2, h⟩ := h
    refine n_ic rfl i2 ⟨by decide, by decide⟩ (fun c => ?_) (fun c => ?_)
    · replace h := h.1 c
      exact W_isFigure_16 hS hR  h
    · replace h := h.2 c
      refine g1 (n := 1) rfl rfl rfl rfl ?_
      refine g3 rfl rfl rfl ?_
      exact W_isFigure_17 hS hR  h
def wm_isFigure (x0 : Int) (M : rf_M) (K : Int → rf_M → Prop) : Prop := w_isFigure x0 M K
theorem W_isFigure_m {fz : Bool} {S : gS} {B : rf_M} {M : rf_M} {x0 : Int} {K : Int → rf_M → Prop} (hS : rk fz S B.2.2) (hR : fq B M) (h : wm_isFigure x0 M K) : gx (cx0 fz) (0, 0) 136 0 (lv_args 0 [zv x0]) [] (M, S) (vq_i B S K) :=
  W_isFigure hS hR rfl h
def w_isSignByte (v0 : Int) (M : rf_M) (K : Int → rf_M → Prop) : Prop := inr v0 ∧ ((v0 = 35 → (K 1 M)) ∧ (v0 = 37 → (K 1 M)) ∧ (v0 = 40 → (K 1 M)) ∧ (v0 = 41 → (K 1 M)) ∧ (v0 = 42 → (K 1 M)) ∧ (v0 = 43 → (K 1 M)) ∧ (v0 = 45 → (K 1 M)) ∧ (v0 = 47 → (K 1 M)) ∧ (v0 = 59 → (K 1 M)) ∧ (v0 = 60 → (K 1 M)) ∧ (v0 = 61 → (K 1 M)) ∧ (v0 = 123 → (K 1 M)) ∧ (v0 = 125 → (K 1 M)) ∧ (¬ v0 = 35 ∧ ¬ v0 = 37 ∧ ¬ v0 = 40 ∧ ¬ v0 = 41 ∧ ¬ v0 = 42 ∧ ¬ v0 = 43 ∧ ¬ v0 = 45 ∧ ¬ v0 = 47 ∧ ¬ v0 = 59 ∧ ¬ v0 = 60 ∧ ¬ v0 = 61 ∧ ¬ v0 = 123 ∧ ¬ v0 = 125 → (K 0 M)))
theorem W_isSignByte {fz : Bool} {S : gS} {B : rf_M} {M : rf_M} {ls : rf_L} {v0 : Int} {K : Int → rf_M → Prop} (hS : rk fz S B.2.2) (hR : fq B M) (a0 : rf_ld ls 0 = some (zv v0)) (h : w_isSignByte v0 M K) : gx (cx0 fz) (0, 0) 137 0 ls [] (M, S) (vq_i B S K) := by
  unfold w_isSignByte at h
  refine g1 (n := 1) rfl rfl rfl (li_of a0) ?_
  obtain ⟨ia, h⟩ := h
  obtain ⟨h1, h⟩ := h
  by_cases e35 : v0 = 35
  · replace h := h1 e35
    refine n_sw (pc' := 116) e35 rfl rfl rfl ?_
    refine g1 (n := 1) rfl rfl rfl rfl ?_
    exact n_rb rfl rfl (Or.inr rfl) hR h
  obtain ⟨h1, h⟩ := h
  by_cases e37 : v0 = 37
  · replace h := h1 e37
    refine n_sw (pc' := 116) e37 rfl rfl rfl ?_
    refine g1 (n := 1) rfl rfl rfl rfl ?_
    exact n_rb rfl rfl (Or.inr rfl) hR h
  obtain ⟨h1, h⟩ := h
  by_cases e40 : v0 = 40
  · replace h := h1 e40
    refine n_sw (pc' := 116) e40 rfl rfl rfl ?_
    refine g1 (n := 1) rfl rfl rfl rfl ?_
    exact n_rb rfl rfl (Or.inr rfl) hR h
  obtain ⟨h1, h⟩ := h
  by_cases e41 : v0 = 41
  · replace h := h1 e41
    refine n_sw (pc' := 116) e41 rfl rfl rfl ?_
    refine g1 (n := 1) rfl rfl rfl rfl ?_
    exact n_rb rfl rfl (Or.inr rfl) hR h
  obtain ⟨h1, h⟩ := h
  by_cases e42 : v0 = 42
  · replace h := h1 e42
    refine n_sw (pc' := 116) e42 rfl rfl rfl ?_
    refine g1 (n := 1) rfl rfl rfl rfl ?_
    exact n_rb rfl rfl (Or.inr rfl) hR h
  obtain ⟨h1, h⟩ := h
  by_cases e43 : v0 = 43
  · replace h := h1 e43
    refine n_sw (pc' := 116) e43 rfl rfl rfl ?_
    refine g1 (n := 1) rfl rfl rfl rfl ?_
    exact n_rb rfl rfl (Or.inr rfl) hR h
  obtain ⟨h1, h⟩ := h
  by_cases e45 : v0 = 45
  · replace h := h1 e45
    refine n_sw (pc' := 116) e45 rfl rfl rfl ?_
    refine g1 (n := 1) rfl rfl rfl rfl ?_
    exact n_rb rfl rfl (Or.inr rfl) hR h
  obtain ⟨h1, h⟩ := h
  by_cases e47 : v0 = 47
  · replace h := h1 e47
    refine n_sw (pc' := 116) e47 rfl rfl rfl ?_
    refine g1 (n := 1) rfl rfl rfl rfl ?_
    exact n_rb rfl rfl (Or.inr rfl) hR h
  obtain ⟨h1, h⟩ := h
  by_cases e59 : v0 = 59
  · replace h := h1 e59
    refine n_sw (pc' := 116) e59 rfl rfl rfl ?_
    refine g1 (n := 1) rfl rfl rfl rfl ?_
    exact n_rb rfl rfl (Or.inr rfl) hR h
  obtain ⟨h1, h⟩ := h
  by_cases e60 : v0 = 60
  · replace h := h1 e60
    refine n_sw (pc' := 116) e60 rfl rfl rfl ?_
    refine g1 (n := 1) rfl rfl rfl rfl ?_
    exact n_rb rfl rfl (Or.inr rfl) hR h
  obtain ⟨h1, h⟩ := h
  by_cases e61 : v0 = 61
  · replace h := h1 e61
    refine n_sw (pc' := 116) e61 rfl rfl rfl ?_
    refine g1 (n := 1) rfl rfl rfl rfl ?_
    exact n_rb rfl rfl (Or.inr rfl) hR h
  obtain ⟨h1, h⟩ := h
  by_cases e123 : v0 = 123
  · replace h := h1 e123
    refine n_sw (pc' := 116) e123 rfl rfl rfl ?_
    refine g1 (n := 1) rfl rfl rfl rfl ?_
    exact n_rb rfl rfl (Or.inr rfl) hR h
  obtain ⟨h1, h⟩ := h
  by_cases e125 : v0 = 125
  · replace h := h1 e125
    refine n_sw (pc' := 116) e125 rfl rfl rfl ?_
    refine g1 (n := 1) rfl rfl rfl rfl ?_
    exact n_rb rfl rfl (Or.inr rfl) hR h
  replace h := h ⟨e35, e37, e40, e41, e42, e43, e45, e47, e59, e60, e61, e123, e125⟩
  refine n_swl (t := 118) rfl ia (by simp only [List.tail_cons, rf_sw, if_neg (Ne.symm e35), if_neg (Ne.symm e37), if_neg (Ne.symm e40), if_neg (Ne.symm e41), if_neg (Ne.symm e42), if_neg (Ne.symm e43), if_neg (Ne.symm e45), if_neg (Ne.symm e47), if_neg (Ne.symm e59), if_neg (Ne.symm e60), if_neg (Ne.symm e61), if_neg (Ne.symm e123), if_neg (Ne.symm e125)]; rfl) ?_
  refine g1 (n := 1) rfl rfl rfl rfl ?_
  exact n_rb rfl rfl (Or.inl rfl) hR h
def wm_isSignByte (x0 : Int) (M : rf_M) (K : Int → rf_M → Prop) : Prop := w_isSignByte x0 M K
theorem W_isSignByte_m {fz : Bool} {S : gS} {B : rf_M} {M : rf_M} {x0 : Int} {K : Int → rf_M → Prop} (hS : rk fz S B.2.2) (hR : fq B M) (h : wm_isSignByte x0 M K) : gx (cx0 fz) (0, 0) 137 0 (lv_args 0 [zv x0]) [] (M, S) (vq_i B S K) :=
  W_isSignByte hS hR rfl h
def w_next_26 (M : rf_M) (b0 : rf_M → Prop) (K : rf_M → Prop) : Prop := ∀ M1 : rf_M, M1 = wi M 353 3 ((gi M 353 3) + 1) → (b0 M1)
theorem W_next_26 {fz : Bool} {S : gS} {B : rf_M} {M : rf_M} {ls : rf_L} {b0 : rf_M → Prop} {K : rf_M → Prop} (hS : rk fz S B.2.2) (hR : fq B M) (a0 : rf_ld ls 0 = some (.ref 353)) (hb0 : ∀ (M : rf_M) (ls : rf_L), fq B M → rf_ld ls 0 = some (.ref 353) → b0  M → gx (cx0 fz) (1, 21) 132 0 ls [] (M, S) (vq_v B S K)) (h : w_next_26 M b0 K) : gx (cx0 fz) (1, 21) 132 26 ls [] (M, S) (vq_v B S K) := by
  unfold w_next_26 at h
  refine g1 (n := 1) rfl rfl rfl (la_of a0) ?_
  refine g0 rfl rfl rfl ?_
  refine n_gi rfl hS.1 rfl (fun _ => rfl) ?_
  refine g1 (n := 1) rfl rfl rfl rfl ?_
  refine n_add rfl ?_
  refine n_pi (Nat.le_of_ble_eq_true rfl) rfl hS.1 rfl (fun _ _ => rfl) (fun M1 e r => ?_)
  replace h := h M1 e
  have r1 := hR.trans r
  refine g3 rfl rfl rfl ?_
  exact hb0 _ _ r1 a0 h
def w_next_320 (M : rf_M) (K : rf_M → Prop) : Prop := K M
theorem W_next_320 {fz : Bool} {S : gS} {B : rf_M} {M : rf_M} {ls : rf_L} {K : rf_M → Prop} (hS : rk fz S B.2.2) (hR : fq B M) (h : w_next_320 M K) : gx (cx0 fz) (1, 21) 132 320 ls [] (M, S) (vq_v B S K) := by
  unfold w_next_320 at h
  exact gx_ret rfl rfl ⟨M, rfl, rfl, hR, h⟩
def w_next_117 (v1 : Int) (v2 : Int) (s0 : Int64) (M : rf_M) (b79 : Int → Int → Int64 → rf_M → Prop) (K : rf_M → Prop) : Prop := ∀ M1 : rf_M, M1 = wi M 353 3 ((gi M 353 3) + 1) → (b79 v1 (v2 + 1) s0 M1)
theorem W_next_117 {fz : Bool} {S : gS} {B : rf_M} {M : rf_M} {ls : rf_L} {v1 : Int} {v2 : Int} {s0 : Int64} {b79 : Int → Int → Int64 → rf_M → Prop} {K : rf_M → Prop} (hS : rk fz S B.2.2) (hR : fq B M) (a0 : rf_ld ls 0 = some (.ref 353)) (a1 : rf_ld ls 1 = some (zv v1)) (a2 : rf_ld ls 2 = some (zv v2)) (hb79 : ∀ (v1 : Int) (v2 : Int) (v3 : Int64) (M : rf_M) (ls : rf_L), fq B M → rf_ld ls 0 = some (.ref 353) → rf_ld ls 1 = some (zv v1) → rf_ld ls 2 = some (zv v2) → rf_ld ls 3 = some (.long v3) → b79 v1 v2 v3 M → gx (cx0 fz) (1, 21) 132 79 ls [] (M, S) (vq_v B S K)) (h : w_next_117 v1 v2 s0 M b79 K) : gx (cx0 fz) (1, 21) 132 117 ls [.long s0] (M, S) (vq_v B S K) := by
  unfold w_next_117 at h
  refine n_s2 (n := 1) rfl rfl rfl rfl (fun ls l1 ho => ?_)
  replace a0 := ho 0 _ (by decide) (by decide) (fun q => by cases q.2) a0
  have l2 := ho 1 _ (by decide) (by decide) (fun q => by cases q.2) a1
  have l3 := ho 2 _ (by decide) (by decide) (fun q => by cases q.2) a2
  refine n_ii rfl l3 (Nat.le_of_ble_eq_true rfl) (fun ls l4 ho => ?_)
  replace a0 := ho 0 _ (by decide) (fun q => by cases q.2) a0
  have l5 := ho 1 _ (by decide) (fun q => by cases q.2) l2
  have l6 := ho 3 _ (by decide) (fun q => absurd q.1 (by decide)) l1
  refine g1 (n := 1) rfl rfl rfl (la_of a0) ?_
  refine g0 rfl rfl rfl ?_
  refine n_gi rfl hS.1 rfl (fun _ => rfl) ?_
  refine g1 (n := 1) rfl rfl rfl rfl ?_
  refine n_add rfl ?_
  refine n_pi (Nat.le_of_ble_eq_true rfl) rfl hS.1 rfl (fun _ _ => rfl) (fun M1 e r => ?_)
  replace h := h M1 e
  have r1 := hR.trans r
  refine g3 rfl rfl rfl ?_
  exact hb79 _ _ _ _ _ r1 a0 l5 l4 l6 h
def w_next_182 (s1 : Int) (M : rf_M) (K : rf_M → Prop) : Prop := ∀ M1 : rf_M, M1 = wi M 353 4 s1 → (w_next_320 M1 K)
theorem W_next_182 {fz : Bool} {S : gS} {B : rf_M} {M : rf_M} {ls : rf_L} {s1 : Int} {K : rf_M → Prop} (hS : rk fz S B.2.2) (hR : fq B M) (h : w_next_182 s1 M K) : gx (cx0 fz) (1, 21) 132 182 ls [zv s1, .ref 353] (M, S) (vq_v B S K) := by
  unfold w_next_182 at h
  refine n_pi (Nat.le_of_ble_eq_true rfl) rfl hS.1 rfl (fun _ _ => rfl) (fun M1 e r => ?_)
  replace h := h M1 e
  have r1 := hR.trans r
  refine g3 rfl rfl rfl ?_
  exact W_next_320 hS r1  h
def w_next_156 (v2 : Int) (s0 : Int) (M : rf_M) (K : rf_M → Prop) : Prop := inr v2 ∧ ((v2 = 1 → (w_next_182 2 M K)) ∧ (¬ v2 = 1 → (inr s0 ∧ ((0 ≤ s0 → (w_next_182 (10 + s0) M K)) ∧ (¬ (0 ≤ s0) → (w_next_182 1 M K))))))
theorem W_next_156 {fz : Bool} {S : gS} {B : rf_M} {M : rf_M} {ls : rf_L} {v2 : Int} {s0 : Int} {K : rf_M → Prop} (hS : rk fz S B.2.2) (hR : fq B M) (a0 : rf_ld ls 0 = some (.ref 353)) (a2 : rf_ld ls 2 = some (zv v2)) (h : w_next_156 v2 s0 M K) : gx (cx0 fz) (1, 21) 132 156 ls [zv s0] (M, S) (vq_v B S K) := by
  unfold w_next_156 at h
  refine n_s1 (n := 2) rfl rfl rfl rfl (fun ls l1 ho => ?_)
  replace a0 := ho 0 _ (by decide) (fun q => by cases q.2) a0
  have l2 := ho 2 _ (by decide) (fun q => by cases q.2) a2
  refine g1 (n := 1) rfl rfl rfl (la_of a0) ?_
  refine g1 (n := 1) rfl rfl rfl (li_of l2) ?_
  refine g1 (n := 1) rfl rfl rfl rfl ?_
  obtain ⟨i1, h⟩ := h
  refine n_ic rfl i1 ⟨by decide, by decide⟩ (fun c => ?_) (fun c => ?_)
  · replace h := h.2 c
    refine g1 (n := 2) rfl rfl rfl (li_of l1) ?_
    obtain ⟨i2, h⟩ := h
    refine n_if rfl i2 (fun c => ?_) (fun c => ?_)
    · replace h := h.1 c
      refine n_bi rfl (by decide) ?_
      refine g1 (n := 2) rfl rfl rfl (li_of l1) ?_
      refine n_add rfl ?_
      exact W_next_182 hS hR  h
    · replace h := h.2 c
      refine g1 (n := 1) rfl rfl rfl rfl ?_
      refine g3 rfl rfl rfl ?_
      exact W_next_182 hS hR  h
  · replace h := h.1 (Classical.not_not.mp c)
    refine g1 (n := 1) rfl rfl rfl rfl ?_
    refine g3 rfl rfl rfl ?_
    exact W_next_182 hS hR  h
def w_next_79b (v1 : Int) (v2 : Int) (v3 : Int64) (M : rf_M) (b79 : Int → Int → Int64 → rf_M → Prop) (K : rf_M → Prop) : Prop := wm_byteAt (gi M 353 3) M (fun (z1 : Int) (M1 : rf_M) => wm_isSmall z1 M1 (fun (z2 : Int) (M2 : rf_M) => inr z2 ∧ ((z2 = 0 → (∀ M3 : rf_M, M3 = wi M2 353 6 (v1 - 97) → (inr v2 ∧ ((7 ≤ v2 → (w_next_156 v2 (-1) M3 K)) ∧ (¬ (7 ≤ v2) → (wm_wordOf v3 M3 (fun (z4 : Int) (M4 : rf_M) => w_next_156 v2 z4 M4 K))))))) ∧ (¬ (z2 = 0) → (inr v2 ∧ ((7 ≤ v2 → (w_next_117 v1 v2 v3 M2 b79 K)) ∧ (¬ (7 ≤ v2) → (wm_byteAt (gi M2 353 3) M2 (fun (z5 : Int) (M5 : rf_M) => w_next_117 v1 v2 ((v3 <<< ((Int32.ofInt 8).toInt64 &&& 63)) ||| (Int32.ofInt z5).toInt64) M5 b79 K)))))))))
theorem W_next_79b {fz : Bool} {S : gS} {B : rf_M} {M : rf_M} {ls : rf_L} {v1 : Int} {v2 : Int} {v3 : Int64} {b79 : Int → Int → Int64 → rf_M → Prop} {K : rf_M → Prop} (hS : rk fz S B.2.2) (hR : fq B M) (a0 : rf_ld ls 0 = some (.ref 353)) (a1 : rf_ld ls 1 = some (zv v1)) (a2 : rf_ld ls 2 = some (zv v2)) (a3 : rf_ld ls 3 = some (.long v3)) (hb79 : ∀ (v1 : Int) (v2 : Int) (v3 : Int64) (M : rf_M) (ls : rf_L), fq B M → rf_ld ls 0 = some (.ref 353) → rf_ld ls 1 = some (zv v1) → rf_ld ls 2 = some (zv v2) → rf_ld ls 3 = some (.long v3) → b79 v1 v2 v3 M → gx (cx0 fz) (1, 21) 132 79 ls [] (M, S) (vq_v B S K)) (h : w_next_79b v1 v2 v3 M b79 K) : gx (cx0 fz) (1, 21) 132 79 ls [] (M, S) (vq_v B S K) := by
  unfold w_next_79b at h
  refine g1 (n := 1) rfl rfl rfl (la_of a0) ?_
  refine g1 (n := 1) rfl rfl rfl (la_of a0) ?_
  refine n_gi rfl hS.1 rfl (fun _ => rfl) ?_
  refine m_iv (a := 353) (as := [zv (gi M 353 3)]) (rest := []) rfl (by decide) hS.1 rfl rfl (Nat.le_of_ble_eq_true rfl) ⟨Nat.le_of_ble_eq_true rfl, Nat.le_of_ble_eq_true rfl, Nat.le_of_ble_eq_true rfl⟩ ?_
  refine gx_room (gx_mono (W_byteAt_m hS hR h) ?_) (Nat.le_of_ble_eq_true rfl) (Nat.le_of_ble_eq_true rfl)
  rintro _ _ ⟨z1, M1, rfl, rfl, r1, h⟩
  refine m_st (as := [zv z1]) (rest := []) rfl (by decide) rfl (Nat.le_of_ble_eq_true rfl) ⟨Nat.le_of_ble_eq_true rfl, Nat.le_of_ble_eq_true rfl, Nat.le_of_ble_eq_true rfl⟩ ?_
  refine gx_room (gx_mono (W_isSmall_m hS r1 h) ?_) (Nat.le_of_ble_eq_true rfl) (Nat.le_of_ble_eq_true rfl)
  rintro _ _ ⟨z2, M2, rfl, rfl, r2, h⟩
  obtain ⟨i1, h⟩ := h
  refine n_if rfl i1 (fun c => ?_) (fun c => ?_)
  · replace h := h.1 c
    refine g1 (n := 1) rfl rfl rfl (la_of a0) ?_
    refine g1 (n := 1) rfl rfl rfl (li_of a1) ?_
    refine n_bi rfl (by decide) ?_
    refine n_sub rfl ?_
    refine n_pi (Nat.le_of_ble_eq_true rfl) rfl hS.1 rfl (fun _ _ => rfl) (fun M3 e r => ?_)
    replace h := h M3 e
    have r3 := r2.trans r
    refine g1 (n := 1) rfl rfl rfl (li_of a2) ?_
    refine n_bi rfl (by decide) ?_
    obtain ⟨i2, h⟩ := h
    refine n_ic rfl i2 ⟨by decide, by decide⟩ (fun c => ?_) (fun c => ?_)
    · replace h := h.1 c
      refine g1 (n := 1) rfl rfl rfl rfl ?_
      exact W_next_156 hS r3 a0 a2 h
    · replace h := h.2 c
      refine g1 (n := 1) rfl rfl rfl (ll_of a3) ?_
      refine m_st (as := [.long v3]) (rest := []) rfl (by decide) rfl (Nat.le_of_ble_eq_true rfl) ⟨Nat.le_of_ble_eq_true rfl, Nat.le_of_ble_eq_true rfl, Nat.le_of_ble_eq_true rfl⟩ ?_
      refine gx_room (gx_mono (W_wordOf_m hS r3 h) ?_) (Nat.le_of_ble_eq_true rfl) (Nat.le_of_ble_eq_true rfl)
      rintro _ _ ⟨z4, M4, rfl, rfl, r4, h⟩
      refine g3 rfl rfl rfl ?_
      exact W_next_156 hS r4 a0 a2 h
  · replace h := h.2 c
    refine g1 (n := 1) rfl rfl rfl (li_of a2) ?_
    refine n_bi rfl (by decide) ?_
    obtain ⟨i3, h⟩ := h
    refine n_ic rfl i3 ⟨by decide, by decide⟩ (fun c => ?_) (fun c => ?_)
    · replace h := h.1 c
      refine g1 (n := 1) rfl rfl rfl (ll_of a3) ?_
      exact W_next_117 hS r2 a0 a1 a2 hb79 h
    · replace h := h.2 c
      refine g1 (n := 1) rfl rfl rfl (ll_of a3) ?_
      refine n_bi rfl (by decide) ?_
      refine g0 rfl rfl rfl ?_
      refine g1 (n := 1) rfl rfl rfl (la_of a0) ?_
      refine g1 (n := 1) rfl rfl rfl (la_of a0) ?_
      refine n_gi rfl hS.1 rfl (fun _ => rfl) ?_
      refine m_iv (a := 353) (as := [zv (gi M2 353 3)]) (rest := [.long (v3 <<< ((Int32.ofInt 8).toInt64 &&& 63))]) rfl (by decide) hS.1 rfl rfl (Nat.le_of_ble_eq_true rfl) ⟨Nat.le_of_ble_eq_true rfl, Nat.le_of_ble_eq_true rfl, Nat.le_of_ble_eq_true rfl⟩ ?_
      refine gx_room (gx_mono (W_byteAt_m hS r2 h) ?_) (Nat.le_of_ble_eq_true rfl) (Nat.le_of_ble_eq_true rfl)
      rintro _ _ ⟨z5, M5, rfl, rfl, r5, h⟩
      refine g0 rfl rfl rfl ?_
      refine g0 rfl rfl rfl ?_
      refine g3 rfl rfl rfl ?_
      exact W_next_117 hS r5 a0 a1 a2 hb79 h
def w_next_79 (v1 : Int) (v2 : Int) (v3 : Int64) (M : rf_M) (K : rf_M → Prop) : Prop := ∃ Inv : Nat → Int → Int → Int64 → rf_M → Prop, (∃ m, Inv m v1 v2 v3 M) ∧ ∀ (m : Nat) (v1 : Int) (v2 : Int) (v3 : Int64) (M : rf_M), Inv m v1 v2 v3 M → w_next_79b v1 v2 v3 M (fun (v1' : Int) (v2' : Int) (v3' : Int64) (M' : rf_M) => ∃ m', m' < m ∧ Inv m' v1' v2' v3' M') K
theorem W_next_79 {fz : Bool} {S : gS} {B : rf_M} {M : rf_M} {ls : rf_L} {v1 : Int} {v2 : Int} {v3 : Int64} {K : rf_M → Prop} (hS : rk fz S B.2.2) (hR : fq B M) (a0 : rf_ld ls 0 = some (.ref 353)) (a1 : rf_ld ls 1 = some (zv v1)) (a2 : rf_ld ls 2 = some (zv v2)) (a3 : rf_ld ls 3 = some (.long v3)) (h : w_next_79 v1 v2 v3 M K) : gx (cx0 fz) (1, 21) 132 79 ls [] (M, S) (vq_v B S K) := by
  obtain ⟨Inv, ⟨m, hm⟩, hb⟩ := h
  induction m using Nat.strongRecOn generalizing ls M v1 v2 v3 with
  | _ m ih =>
    refine W_next_79b hS hR a0 a1 a2 a3 (fun v1' v2' v3' M' ls' hR' f0 f1 f2 f3 ⟨m', q1, q2⟩ => ih m' q1 hR' f0 f1 f2 f3 q2) (hb m v1 v2 v3 M hm)
def w_next_252 (v2 : Int) (s1 : Int64) (M : rf_M) (b202 : Int → rf_M → Prop) (K : rf_M → Prop) : Prop := ∀ M1 : rf_M, M1 = wl M 353 7 s1 → (∀ M2 : rf_M, M2 = wi M1 353 3 ((gi M1 353 3) + 1) → (b202 (v2 + 1) M2))
theorem W_next_252 {fz : Bool} {S : gS} {B : rf_M} {M : rf_M} {ls : rf_L} {v2 : Int} {s1 : Int64} {b202 : Int → rf_M → Prop} {K : rf_M → Prop} (hS : rk fz S B.2.2) (hR : fq B M) (a0 : rf_ld ls 0 = some (.ref 353)) (a2 : rf_ld ls 2 = some (zv v2)) (hb202 : ∀ (v2 : Int) (M : rf_M) (ls : rf_L), fq B M → rf_ld ls 0 = some (.ref 353) → rf_ld ls 2 = some (zv v2) → b202 v2 M → gx (cx0 fz) (1, 21) 132 202 ls [] (M, S) (vq_v B S K)) (h : w_next_252 v2 s1 M b202 K) : gx (cx0 fz) (1, 21) 132 252 ls [.long s1, .ref 353] (M, S) (vq_v B S K) := by
  unfold w_next_252 at h
  refine n_pl (Nat.le_of_ble_eq_true rfl) rfl hS.1 rfl (fun _ _ => rfl) (fun M1 e r => ?_)
  replace h := h M1 e
  have r1 := hR.trans r
  refine n_ii rfl a2 (Nat.le_of_ble_eq_true rfl) (fun ls l1 ho => ?_)
  replace a0 := ho 0 _ (by decide) (fun q => by cases q.2) a0
  refine g1 (n := 1) rfl rfl rfl (la_of a0) ?_
  refine g0 rfl rfl rfl ?_
  refine n_gi rfl hS.1 rfl (fun _ => rfl) ?_
  refine g1 (n := 1) rfl rfl rfl rfl ?_
  refine n_add rfl ?_
  refine n_pi (Nat.le_of_ble_eq_true rfl) rfl hS.1 rfl (fun _ _ => rfl) (fun M2 e r => ?_)
  replace h := h M2 e
  have r2 := r1.trans r
  refine g3 rfl rfl rfl ?_
  exact hb202 _ _ _ r2 a0 l1 h
def w_next_283 (s1 : Int) (M : rf_M) (K : rf_M → Prop) : Prop := ∀ M1 : rf_M, M1 = wi M 353 4 s1 → (w_next_320 M1 K)
theorem W_next_283 {fz : Bool} {S : gS} {B : rf_M} {M : rf_M} {ls : rf_L} {s1 : Int} {K : rf_M → Prop} (hS : rk fz S B.2.2) (hR : fq B M) (h : w_next_283 s1 M K) : gx (cx0 fz) (1, 21) 132 283 ls [zv s1, .ref 353] (M, S) (vq_v B S K) := by
  unfold w_next_283 at h
  refine n_pi (Nat.le_of_ble_eq_true rfl) rfl hS.1 rfl (fun _ _ => rfl) (fun M1 e r => ?_)
  replace h := h M1 e
  have r1 := hR.trans r
  refine g3 rfl rfl rfl ?_
  exact W_next_320 hS r1  h
def w_next_202b (v2 : Int) (M : rf_M) (b202 : Int → rf_M → Prop) (K : rf_M → Prop) : Prop := wm_byteAt (gi M 353 3) M (fun (z1 : Int) (M1 : rf_M) => wm_isFigure z1 M1 (fun (z2 : Int) (M2 : rf_M) => inr z2 ∧ ((z2 = 0 → (inr v2 ∧ ((v2 ≤ 9 → (w_next_283 3 M2 K)) ∧ (¬ (v2 ≤ 9) → (w_next_283 1 M2 K))))) ∧ (¬ (z2 = 0) → (inr v2 ∧ ((9 ≤ v2 → (w_next_252 v2 (gl M2 353 7) M2 b202 K)) ∧ (¬ (9 ≤ v2) → (wm_byteAt (gi M2 353 3) M2 (fun (z3 : Int) (M3 : rf_M) => w_next_252 v2 ((((Int64.ofNat 10) * (gl M2 353 7)) + (Int32.ofInt z3).toInt64) - (Int64.ofNat 48)) M3 b202 K)))))))))
theorem W_next_202b {fz : Bool} {S : gS} {B : rf_M} {M : rf_M} {ls : rf_L} {v2 : Int} {b202 : Int → rf_M → Prop} {K : rf_M → Prop} (hS : rk fz S B.2.2) (hR : fq B M) (a0 : rf_ld ls 0 = some (.ref 353)) (a2 : rf_ld ls 2 = some (zv v2)) (hb202 : ∀ (v2 : Int) (M : rf_M) (ls : rf_L), fq B M → rf_ld ls 0 = some (.ref 353) → rf_ld ls 2 = some (zv v2) → b202 v2 M → gx (cx0 fz) (1, 21) 132 202 ls [] (M, S) (vq_v B S K)) (h : w_next_202b v2 M b202 K) : gx (cx0 fz) (1, 21) 132 202 ls [] (M, S) (vq_v B S K) := by
  unfold w_next_202b at h
  refine g1 (n := 1) rfl rfl rfl (la_of a0) ?_
  refine g1 (n := 1) rfl rfl rfl (la_of a0) ?_
  refine n_gi rfl hS.1 rfl (fun _ => rfl) ?_
  refine m_iv (a := 353) (as := [zv (gi M 353 3)]) (rest := []) rfl (by decide) hS.1 rfl rfl (Nat.le_of_ble_eq_true rfl) ⟨Nat.le_of_ble_eq_true rfl, Nat.le_of_ble_eq_true rfl, Nat.le_of_ble_eq_true rfl⟩ ?_
  refine gx_room (gx_mono (W_byteAt_m hS hR h) ?_) (Nat.le_of_ble_eq_true rfl) (Nat.le_of_ble_eq_true rfl)
  rintro _ _ ⟨z1, M1, rfl, rfl, r1, h⟩
  refine m_st (as := [zv z1]) (rest := []) rfl (by decide) rfl (Nat.le_of_ble_eq_true rfl) ⟨Nat.le_of_ble_eq_true rfl, Nat.le_of_ble_eq_true rfl, Nat.le_of_ble_eq_true rfl⟩ ?_
  refine gx_room (gx_mono (W_isFigure_m hS r1 h) ?_) (Nat.le_of_ble_eq_true rfl) (Nat.le_of_ble_eq_true rfl)
  rintro _ _ ⟨z2, M2, rfl, rfl, r2, h⟩
  obtain ⟨i1, h⟩ := h
  refine n_if rfl i1 (fun c => ?_) (fun c => ?_)
  · replace h := h.1 c
    refine g1 (n := 1) rfl rfl rfl (la_of a0) ?_
    refine g1 (n := 1) rfl rfl rfl (li_of a2) ?_
    refine n_bi rfl (by decide) ?_
    obtain ⟨i2, h⟩ := h
    refine n_ic rfl i2 ⟨by decide, by decide⟩ (fun c => ?_) (fun c => ?_)
    · replace h := h.1 c
      refine g1 (n := 1) rfl rfl rfl rfl ?_
      exact W_next_283 hS r2  h
    · replace h := h.2 c
      refine g1 (n := 1) rfl rfl rfl rfl ?_
      refine g3 rfl rfl rfl ?_
      exact W_next_283 hS r2  h
  · replace h := h.2 c
    refine g1 (n := 1) rfl rfl rfl (la_of a0) ?_
    refine g1 (n := 1) rfl rfl rfl (li_of a2) ?_
    refine n_bi rfl (by decide) ?_
    obtain ⟨i3, h⟩ := h
    refine n_ic rfl i3 ⟨by decide, by decide⟩ (fun c => ?_) (fun c => ?_)
    · replace h := h.1 c
      refine g1 (n := 1) rfl rfl rfl (la_of a0) ?_
      refine n_gl rfl hS.1 rfl (fun _ => rfl) ?_
      exact W_next_252 hS r2 a0 a2 hb202 h
    · replace h := h.2 c
      refine g7 (n := 3) rfl rfl rfl rfl ?_
      refine g1 (n := 1) rfl rfl rfl (la_of a0) ?_
      refine n_gl rfl hS.1 rfl (fun _ => rfl) ?_
      refine g0 rfl rfl rfl ?_
      refine g1 (n := 1) rfl rfl rfl (la_of a0) ?_
      refine g1 (n := 1) rfl rfl rfl (la_of a0) ?_
      refine n_gi rfl hS.1 rfl (fun _ => rfl) ?_
      refine m_iv (a := 353) (as := [zv (gi M2 353 3)]) (rest := [.long ((Int64.ofNat 10) * (gl M2 353 7)), .ref 353]) rfl (by decide) hS.1 rfl rfl (Nat.le_of_ble_eq_true rfl) ⟨Nat.le_of_ble_eq_true rfl, Nat.le_of_ble_eq_true rfl, Nat.le_of_ble_eq_true rfl⟩ ?_
      refine gx_room (gx_mono (W_byteAt_m hS r2 h) ?_) (Nat.le_of_ble_eq_true rfl) (Nat.le_of_ble_eq_true rfl)
      rintro _ _ ⟨z3, M3, rfl, rfl, r3, h⟩
      refine g0 rfl rfl rfl ?_
      refine g0 rfl rfl rfl ?_
      refine g7 (n := 3) rfl rfl rfl rfl ?_
      refine g0 rfl rfl rfl ?_
      refine g3 rfl rfl rfl ?_
      exact W_next_252 hS r3 a0 a2 hb202 h
def w_next_202 (v2 : Int) (M : rf_M) (K : rf_M → Prop) : Prop := ∃ Inv : Nat → Int → rf_M → Prop, (∃ m, Inv m v2 M) ∧ ∀ (m : Nat) (v2 : Int) (M : rf_M), Inv m v2 M → w_next_202b v2 M (fun (v2' : Int) (M' : rf_M) => ∃ m', m' < m ∧ Inv m' v2' M') K
theorem W_next_202 {fz : Bool} {S : gS} {B : rf_M} {M : rf_M} {ls : rf_L} {v2 : Int} {K : rf_M → Prop} (hS : rk fz S B.2.2) (hR : fq B M) (a0 : rf_ld ls 0 = some (.ref 353)) (a2 : rf_ld ls 2 = some (zv v2)) (h : w_next_202 v2 M K) : gx (cx0 fz) (1, 21) 132 202 ls [] (M, S) (vq_v B S K) := by
  obtain ⟨Inv, ⟨m, hm⟩, hb⟩ := h
  induction m using Nat.strongRecOn generalizing ls M v2 with
  | _ m ih =>
    refine W_next_202b hS hR a0 a2 (fun v2' M' ls' hR' f0 f1 ⟨m', q1, q2⟩ => ih m' q1 hR' f0 f1 q2) (hb m v2 M hm)
def w_next_307 (s1 : Int) (M : rf_M) (K : rf_M → Prop) : Prop := ∀ M1 : rf_M, M1 = wi M 353 4 s1 → (∀ M2 : rf_M, M2 = wi M1 353 3 ((gi M1 353 3) + 1) → (w_next_320 M2 K))
theorem W_next_307 {fz : Bool} {S : gS} {B : rf_M} {M : rf_M} {ls : rf_L} {s1 : Int} {K : rf_M → Prop} (hS : rk fz S B.2.2) (hR : fq B M) (a0 : rf_ld ls 0 = some (.ref 353)) (h : w_next_307 s1 M K) : gx (cx0 fz) (1, 21) 132 307 ls [zv s1, .ref 353] (M, S) (vq_v B S K) := by
  unfold w_next_307 at h
  refine n_pi (Nat.le_of_ble_eq_true rfl) rfl hS.1 rfl (fun _ _ => rfl) (fun M1 e r => ?_)
  replace h := h M1 e
  have r1 := hR.trans r
  refine g1 (n := 1) rfl rfl rfl (la_of a0) ?_
  refine g0 rfl rfl rfl ?_
  refine n_gi rfl hS.1 rfl (fun _ => rfl) ?_
  refine g1 (n := 1) rfl rfl rfl rfl ?_
  refine n_add rfl ?_
  refine n_pi (Nat.le_of_ble_eq_true rfl) rfl hS.1 rfl (fun _ _ => rfl) (fun M2 e r => ?_)
  replace h := h M2 e
  have r2 := r1.trans r
  exact W_next_320 hS r2  h
def w_next_0b (M : rf_M) (b0 : rf_M → Prop) (K : rf_M → Prop) : Prop := wm_byteAt (gi M 353 3) M (fun (z1 : Int) (M1 : rf_M) => inr z1 ∧ ((z1 = 32 → (w_next_26 M1 b0 K)) ∧ (¬ (z1 = 32) → (wm_byteAt (gi M1 353 3) M1 (fun (z2 : Int) (M2 : rf_M) => inr z2 ∧ ((z2 = 10 → (w_next_26 M2 b0 K)) ∧ (¬ z2 = 10 → (∀ M3 : rf_M, M3 = wi M2 353 5 (gi M2 353 3) → (wm_byteAt (gi M3 353 3) M3 (fun (z4 : Int) (M4 : rf_M) => inr z4 ∧ ((0 ≤ z4 → (wm_isSmall z4 M4 (fun (z5 : Int) (M5 : rf_M) => inr z5 ∧ ((z5 = 0 → (wm_isFigure z4 M5 (fun (z6 : Int) (M6 : rf_M) => inr z6 ∧ ((z6 = 0 → (∀ M7 : rf_M, M7 = wi M6 353 8 z4 → (wm_isSignByte z4 M7 (fun (z8 : Int) (M8 : rf_M) => inr z8 ∧ ((z8 = 0 → (w_next_307 1 M8 K)) ∧ (¬ (z8 = 0) → (w_next_307 4 M8 K))))))) ∧ (¬ (z6 = 0) → (∀ M9 : rf_M, M9 = wl M6 353 7 (Int64.ofNat 0) → (w_next_202 0 M9 K))))))) ∧ (¬ (z5 = 0) → (w_next_79 z4 0 (Int64.ofNat 0) M5 K)))))) ∧ (¬ (0 ≤ z4) → (∀ M10 : rf_M, M10 = wi M4 353 4 0 → (w_next_320 M10 K))))))))))))))
theorem W_next_0b {fz : Bool} {S : gS} {B : rf_M} {M : rf_M} {ls : rf_L} {b0 : rf_M → Prop} {K : rf_M → Prop} (hS : rk fz S B.2.2) (hR : fq B M) (a0 : rf_ld ls 0 = some (.ref 353)) (hb0 : ∀ (M : rf_M) (ls : rf_L), fq B M → rf_ld ls 0 = some (.ref 353) → b0  M → gx (cx0 fz) (1, 21) 132 0 ls [] (M, S) (vq_v B S K)) (h : w_next_0b M b0 K) : gx (cx0 fz) (1, 21) 132 0 ls [] (M, S) (vq_v B S K) := by
  unfold w_next_0b at h
  refine g1 (n := 1) rfl rfl rfl (la_of a0) ?_
  refine g1 (n := 1) rfl rfl rfl (la_of a0) ?_
  refine n_gi rfl hS.1 rfl (fun _ => rfl) ?_
  refine m_iv (a := 353) (as := [zv (gi M 353 3)]) (rest := []) rfl (by decide) hS.1 rfl rfl (Nat.le_of_ble_eq_true rfl) ⟨Nat.le_of_ble_eq_true rfl, Nat.le_of_ble_eq_true rfl, Nat.le_of_ble_eq_true rfl⟩ ?_
  refine gx_room (gx_mono (W_byteAt_m hS hR h) ?_) (Nat.le_of_ble_eq_true rfl) (Nat.le_of_ble_eq_true rfl)
  rintro _ _ ⟨z1, M1, rfl, rfl, r1, h⟩
  refine n_bi rfl (by decide) ?_
  obtain ⟨i1, h⟩ := h
  refine n_ic rfl i1 ⟨by decide, by decide⟩ (fun c => ?_) (fun c => ?_)
  · replace h := h.1 c
    exact W_next_26 hS r1 a0 hb0 h
  · replace h := h.2 c
    refine g1 (n := 1) rfl rfl rfl (la_of a0) ?_
    refine g1 (n := 1) rfl rfl rfl (la_of a0) ?_
    refine n_gi rfl hS.1 rfl (fun _ => rfl) ?_
    refine m_iv (a := 353) (as := [zv (gi M1 353 3)]) (rest := []) rfl (by decide) hS.1 rfl rfl (Nat.le_of_ble_eq_true rfl) ⟨Nat.le_of_ble_eq_true rfl, Nat.le_of_ble_eq_true rfl, Nat.le_of_ble_eq_true rfl⟩ ?_
    refine gx_room (gx_mono (W_byteAt_m hS r1 h) ?_) (Nat.le_of_ble_eq_true rfl) (Nat.le_of_ble_eq_true rfl)
    rintro _ _ ⟨z2, M2, rfl, rfl, r2, h⟩
    refine n_bi rfl (by decide) ?_
    obtain ⟨i2, h⟩ := h
    refine n_ic rfl i2 ⟨by decide, by decide⟩ (fun c => ?_) (fun c => ?_)
    · replace h := h.2 c
      refine g1 (n := 1) rfl rfl rfl (la_of a0) ?_
      refine g1 (n := 1) rfl rfl rfl (la_of a0) ?_
      refine n_gi rfl hS.1 rfl (fun _ => rfl) ?_
      refine n_pi (Nat.le_of_ble_eq_true rfl) rfl hS.1 rfl (fun _ _ => rfl) (fun M3 e r => ?_)
      replace h := h M3 e
      have r3 := r2.trans r
      refine g1 (n := 1) rfl rfl rfl (la_of a0) ?_
      refine g1 (n := 1) rfl rfl rfl (la_of a0) ?_
      refine n_gi rfl hS.1 rfl (fun _ => rfl) ?_
      refine m_iv (a := 353) (as := [zv (gi M3 353 3)]) (rest := []) rfl (by decide) hS.1 rfl rfl (Nat.le_of_ble_eq_true rfl) ⟨Nat.le_of_ble_eq_true rfl, Nat.le_of_ble_eq_true rfl, Nat.le_of_ble_eq_true rfl⟩ ?_
      refine gx_room (gx_mono (W_byteAt_m hS r3 h) ?_) (Nat.le_of_ble_eq_true rfl) (Nat.le_of_ble_eq_true rfl)
      rintro _ _ ⟨z4, M4, rfl, rfl, r4, h⟩
      refine n_s1 (n := 1) rfl rfl rfl rfl (fun ls l1 ho => ?_)
      replace a0 := ho 0 _ (by decide) (fun q => by cases q.2) a0
      refine g1 (n := 1) rfl rfl rfl (li_of l1) ?_
      obtain ⟨i3, h⟩ := h
      refine n_if rfl i3 (fun c => ?_) (fun c => ?_)
      · replace h := h.1 c
        refine g1 (n := 1) rfl rfl rfl (li_of l1) ?_
        refine m_st (as := [zv z4]) (rest := []) rfl (by decide) rfl (Nat.le_of_ble_eq_true rfl) ⟨Nat.le_of_ble_eq_true rfl, Nat.le_of_ble_eq_true rfl, Nat.le_of_ble_eq_true rfl⟩ ?_
        refine gx_room (gx_mono (W_isSmall_m hS r4 h) ?_) (Nat.le_of_ble_eq_true rfl) (Nat.le_of_ble_eq_true rfl)
        rintro _ _ ⟨z5, M5, rfl, rfl, r5, h⟩
        obtain ⟨i4, h⟩ := h
        refine n_if rfl i4 (fun c => ?_) (fun c => ?_)
        · replace h := h.1 c
          refine g1 (n := 1) rfl rfl rfl (li_of l1) ?_
          refine m_st (as := [zv z4]) (rest := []) rfl (by decide) rfl (Nat.le_of_ble_eq_true rfl) ⟨Nat.le_of_ble_eq_true rfl, Nat.le_of_ble_eq_true rfl, Nat.le_of_ble_eq_true rfl⟩ ?_
          refine gx_room (gx_mono (W_isFigure_m hS r5 h) ?_) (Nat.le_of_ble_eq_true rfl) (Nat.le_of_ble_eq_true rfl)
          rintro _ _ ⟨z6, M6, rfl, rfl, r6, h⟩
          obtain ⟨i5, h⟩ := h
          refine n_if rfl i5 (fun c => ?_) (fun c => ?_)
          · replace h := h.1 c
            refine g1 (n := 1) rfl rfl rfl (la_of a0) ?_
            refine g1 (n := 1) rfl rfl rfl (li_of l1) ?_
            refine n_pi (Nat.le_of_ble_eq_true rfl) rfl hS.1 rfl (fun _ _ => rfl) (fun M7 e r => ?_)
            replace h := h M7 e
            have r7 := r6.trans r
            refine g1 (n := 1) rfl rfl rfl (la_of a0) ?_
            refine g1 (n := 1) rfl rfl rfl (li_of l1) ?_
            refine m_st (as := [zv z4]) (rest := [.ref 353]) rfl (by decide) rfl (Nat.le_of_ble_eq_true rfl) ⟨Nat.le_of_ble_eq_true rfl, Nat.le_of_ble_eq_true rfl, Nat.le_of_ble_eq_true rfl⟩ ?_
            refine gx_room (gx_mono (W_isSignByte_m hS r7 h) ?_) (Nat.le_of_ble_eq_true rfl) (Nat.le_of_ble_eq_true rfl)
            rintro _ _ ⟨z8, M8, rfl, rfl, r8, h⟩
            obtain ⟨i6, h⟩ := h
            refine n_if rfl i6 (fun c => ?_) (fun c => ?_)
            · replace h := h.1 c
              refine g1 (n := 1) rfl rfl rfl rfl ?_
              exact W_next_307 hS r8 a0 h
            · replace h := h.2 c
              refine g1 (n := 1) rfl rfl rfl rfl ?_
              refine g3 rfl rfl rfl ?_
              exact W_next_307 hS r8 a0 h
          · replace h := h.2 c
            refine g1 (n := 1) rfl rfl rfl rfl ?_
            refine n_s1 (n := 1) rfl rfl rfl rfl (fun ls l2 ho => ?_)
            replace a0 := ho 0 _ (by decide) (fun q => by cases q.2) a0
            refine g1 (n := 1) rfl rfl rfl (la_of a0) ?_
            refine g1 (n := 1) rfl rfl rfl rfl ?_
            refine n_pl (Nat.le_of_ble_eq_true rfl) rfl hS.1 rfl (fun _ _ => rfl) (fun M9 e r => ?_)
            replace h := h M9 e
            have r9 := r6.trans r
            exact W_next_202 hS r9 a0 l2 h
        · replace h := h.2 c
          refine g1 (n := 1) rfl rfl rfl rfl ?_
          refine n_s1 (n := 1) rfl rfl rfl rfl (fun ls l3 ho => ?_)
          replace a0 := ho 0 _ (by decide) (fun q => by cases q.2) a0
          have l4 := ho 1 _ (by decide) (fun q => by cases q.2) l1
          refine g1 (n := 1) rfl rfl rfl rfl ?_
          refine n_s2 (n := 1) rfl rfl rfl rfl (fun ls l5 ho => ?_)
          replace a0 := ho 0 _ (by decide) (by decide) (fun q => by cases q.2) a0
          have l6 := ho 1 _ (by decide) (by decide) (fun q => by cases q.2) l4
          have l7 := ho 2 _ (by decide) (by decide) (fun q => by cases q.2) l3
          exact W_next_79 hS r5 a0 l6 l7 l5 h
      · replace h := h.2 c
        refine g1 (n := 1) rfl rfl rfl (la_of a0) ?_
        refine g1 (n := 1) rfl rfl rfl rfl ?_
        refine n_pi (Nat.le_of_ble_eq_true rfl) rfl hS.1 rfl (fun _ _ => rfl) (fun M10 e r => ?_)
        replace h := h M10 e
        have r10 := r4.trans r
        refine g3 rfl rfl rfl ?_
        exact W_next_320 hS r10  h
    · replace h := h.1 (Classical.not_not.mp c)
      exact W_next_26 hS r2 a0 hb0 h
def w_next_0 (M : rf_M) (K : rf_M → Prop) : Prop := ∃ Inv : Nat → rf_M → Prop, (∃ m, Inv m M) ∧ ∀ (m : Nat) (M : rf_M), Inv m M → w_next_0b M (fun (M' : rf_M) => ∃ m', m' < m ∧ Inv m' M') K
theorem W_next_0 {fz : Bool} {S : gS} {B : rf_M} {M : rf_M} {ls : rf_L} {K : rf_M → Prop} (hS : rk fz S B.2.2) (hR : fq B M) (a0 : rf_ld ls 0 = some (.ref 353)) (h : w_next_0 M K) : gx (cx0 fz) (1, 21) 132 0 ls [] (M, S) (vq_v B S K) := by
  obtain ⟨Inv, ⟨m, hm⟩, hb⟩ := h
  induction m using Nat.strongRecOn generalizing ls M with
  | _ m ih =>
    refine W_next_0b hS hR a0 (fun M' ls' hR' f0 ⟨m', q1, q2⟩ => ih m' q1 hR' f0 q2) (hb m M hm)
def wm_next (M : rf_M) (K : rf_M → Prop) : Prop := w_next_0  M K
theorem W_next_m {fz : Bool} {S : gS} {B : rf_M} {M : rf_M} {K : rf_M → Prop} (hS : rk fz S B.2.2) (hR : fq B M) (h : wm_next  M K) : gx (cx0 fz) (1, 21) 132 0 (lv_args 0 [.ref 353]) [] (M, S) (vq_v B S K) :=
  W_next_0 hS hR rfl h
def w_isSign_21 (s0 : Int) (M : rf_M) (K : Int → rf_M → Prop) : Prop := (s0 = 0 ∨ s0 = 1) ∧ K s0 M
theorem W_isSign_21 {fz : Bool} {S : gS} {B : rf_M} {M : rf_M} {ls : rf_L} {s0 : Int} {K : Int → rf_M → Prop} (hS : rk fz S B.2.2) (hR : fq B M) (h : w_isSign_21 s0 M K) : gx (cx0 fz) (0, 0) 138 21 ls [zv s0] (M, S) (vq_i B S K) := by
  unfold w_isSign_21 at h
  exact n_rb rfl rfl h.1 hR h.2
def w_isSign_20 (M : rf_M) (K : Int → rf_M → Prop) : Prop := w_isSign_21 0 M K
theorem W_isSign_20 {fz : Bool} {S : gS} {B : rf_M} {M : rf_M} {ls : rf_L} {K : Int → rf_M → Prop} (hS : rk fz S B.2.2) (hR : fq B M) (h : w_isSign_20 M K) : gx (cx0 fz) (0, 0) 138 20 ls [] (M, S) (vq_i B S K) := by
  unfold w_isSign_20 at h
  refine g1 (n := 1) rfl rfl rfl rfl ?_
  exact W_isSign_21 hS hR  h
def w_isSign (v1 : Int) (M : rf_M) (K : Int → rf_M → Prop) : Prop := ((gi M 353 4) = 4 → (inr v1 ∧ (((gi M 353 8) = v1 → (w_isSign_21 1 M K)) ∧ (¬ (gi M 353 8) = v1 → (w_isSign_20 M K))))) ∧ (¬ (gi M 353 4) = 4 → (w_isSign_20 M K))
theorem W_isSign {fz : Bool} {S : gS} {B : rf_M} {M : rf_M} {ls : rf_L} {v1 : Int} {K : Int → rf_M → Prop} (hS : rk fz S B.2.2) (hR : fq B M) (a0 : rf_ld ls 0 = some (.ref 353)) (a1 : rf_ld ls 1 = some (zv v1)) (h : w_isSign v1 M K) : gx (cx0 fz) (0, 0) 138 0 ls [] (M, S) (vq_i B S K) := by
  unfold w_isSign at h
  refine g1 (n := 1) rfl rfl rfl (la_of a0) ?_
  refine n_gi rfl hS.1 rfl (fun _ => rfl) ?_
  refine g1 (n := 1) rfl rfl rfl rfl ?_
  refine n_ic rfl (inr_gi _ _ _) ⟨by decide, by decide⟩ (fun c => ?_) (fun c => ?_)
  · replace h := h.2 c
    exact W_isSign_20 hS hR  h
  · replace h := h.1 (Classical.not_not.mp c)
    refine g1 (n := 1) rfl rfl rfl (la_of a0) ?_
    refine n_gi rfl hS.1 rfl (fun _ => rfl) ?_
    refine g1 (n := 1) rfl rfl rfl (li_of a1) ?_
    obtain ⟨i1, h⟩ := h
    refine n_ic rfl (inr_gi _ _ _) i1 (fun c => ?_) (fun c => ?_)
    · replace h := h.2 c
      exact W_isSign_20 hS hR  h
    · replace h := h.1 (Classical.not_not.mp c)
      refine g1 (n := 1) rfl rfl rfl rfl ?_
      refine g3 rfl rfl rfl ?_
      exact W_isSign_21 hS hR  h
def wm_isSign (x0 : Int) (M : rf_M) (K : Int → rf_M → Prop) : Prop := w_isSign x0 M K
theorem W_isSign_m {fz : Bool} {S : gS} {B : rf_M} {M : rf_M} {x0 : Int} {K : Int → rf_M → Prop} (hS : rk fz S B.2.2) (hR : fq B M) (h : wm_isSign x0 M K) : gx (cx0 fz) (0, 0) 138 0 (lv_args 0 [.ref 353, zv x0]) [] (M, S) (vq_i B S K) :=
  W_isSign hS hR rfl rfl h
def w_misplaced_20 (M : rf_M) (K : rf_M → Prop) : Prop := K M
theorem W_misplaced_20 {fz : Bool} {S : gS} {B : rf_M} {M : rf_M} {ls : rf_L} {K : rf_M → Prop} (hS : rk fz S B.2.2) (hR : fq B M) (h : w_misplaced_20 M K) : gx (cx0 fz) (0, 0) 139 20 ls [] (M, S) (vq_v B S K) := by
  unfold w_misplaced_20 at h
  exact gx_ret rfl rfl ⟨M, rfl, rfl, hR, h⟩
def w_misplaced (M : rf_M) (K : rf_M → Prop) : Prop := ((gi M 353 9) = 0 → (∀ M1 : rf_M, M1 = wi M 353 9 1 → (∀ M2 : rf_M, M2 = wi M1 353 10 (gi M1 353 5) → (w_misplaced_20 M2 K)))) ∧ (¬ (gi M 353 9) = 0 → (w_misplaced_20 M K))
theorem W_misplaced {fz : Bool} {S : gS} {B : rf_M} {M : rf_M} {ls : rf_L} {K : rf_M → Prop} (hS : rk fz S B.2.2) (hR : fq B M) (a0 : rf_ld ls 0 = some (.ref 353)) (h : w_misplaced M K) : gx (cx0 fz) (0, 0) 139 0 ls [] (M, S) (vq_v B S K) := by
  unfold w_misplaced at h
  refine g1 (n := 1) rfl rfl rfl (la_of a0) ?_
  refine n_gi rfl hS.1 rfl (fun _ => rfl) ?_
  refine n_if rfl (inr_gi _ _ _) (fun c => ?_) (fun c => ?_)
  · replace h := h.2 c
    exact W_misplaced_20 hS hR  h
  · replace h := h.1 (Classical.not_not.mp c)
    refine g1 (n := 1) rfl rfl rfl (la_of a0) ?_
    refine g1 (n := 1) rfl rfl rfl rfl ?_
    refine n_pb (Nat.le_of_ble_eq_true rfl) rfl hS.1 rfl rfl (Or.inr rfl) (fun M1 e r => ?_)
    replace h := h M1 e
    have r1 := hR.trans r
    refine g1 (n := 1) rfl rfl rfl (la_of a0) ?_
    refine g1 (n := 1) rfl rfl rfl (la_of a0) ?_
    refine n_gi rfl hS.1 rfl (fun _ => rfl) ?_
    refine n_pi (Nat.le_of_ble_eq_true rfl) rfl hS.1 rfl (fun _ _ => rfl) (fun M2 e r => ?_)
    replace h := h M2 e
    have r2 := r1.trans r
    exact W_misplaced_20 hS r2  h
def wm_misplaced (M : rf_M) (K : rf_M → Prop) : Prop := w_misplaced  M K
theorem W_misplaced_m {fz : Bool} {S : gS} {B : rf_M} {M : rf_M} {K : rf_M → Prop} (hS : rk fz S B.2.2) (hR : fq B M) (h : wm_misplaced  M K) : gx (cx0 fz) (0, 0) 139 0 (lv_args 0 [.ref 353]) [] (M, S) (vq_v B S K) :=
  W_misplaced hS hR rfl h
def w_openBody_18 (M : rf_M) (K : rf_M → Prop) : Prop := wm_misplaced  M (fun (M1 : rf_M) => K M1)
theorem W_openBody_18 {fz : Bool} {S : gS} {B : rf_M} {M : rf_M} {ls : rf_L} {K : rf_M → Prop} (hS : rk fz S B.2.2) (hR : fq B M) (a0 : rf_ld ls 0 = some (.ref 353)) (h : w_openBody_18 M K) : gx (cx0 fz) (2, 46) 141 18 ls [] (M, S) (vq_v B S K) := by
  unfold w_openBody_18 at h
  refine g1 (n := 1) rfl rfl rfl (la_of a0) ?_
  refine m_iv (a := 353) (as := []) (rest := []) rfl (by decide) hS.1 rfl rfl (Nat.le_of_ble_eq_true rfl) ⟨Nat.le_of_ble_eq_true rfl, Nat.le_of_ble_eq_true rfl, Nat.le_of_ble_eq_true rfl⟩ ?_
  refine gx_room (gx_mono (W_misplaced_m hS hR h) ?_) (Nat.le_of_ble_eq_true rfl) (Nat.le_of_ble_eq_true rfl)
  rintro _ _ ⟨M1, rfl, rfl, r1, h⟩
  exact gx_ret rfl rfl ⟨M1, rfl, rfl, r1, h⟩
def w_openBody_73 (v1 : Int) (v2 : Int) (s1 : Int) (s2 : Int) (M : rf_M) (K : rf_M → Prop) : Prop := (0 ≤ s1 ∧ s1 < 12) ∧ (∀ M1 : rf_M, M1 = wi M 357 (s1).toNat s2 → ((0 ≤ (gi M1 353 37) ∧ (gi M1 353 37) < 10) ∧ (∀ M2 : rf_M, M2 = wi M1 373 (gi M1 353 37).toNat v1 → ((0 ≤ (gi M2 353 37) ∧ (gi M2 353 37) < 10) ∧ (∀ M3 : rf_M, M3 = wi M2 374 (gi M2 353 37).toNat v2 → ((0 ≤ (gi M3 353 37) ∧ (gi M3 353 37) < 10) ∧ (∀ M4 : rf_M, M4 = wi M3 375 (gi M3 353 37).toNat (-1) → (wm_next  M4 (fun (M5 : rf_M) => K M5)))))))))
theorem W_openBody_73 {fz : Bool} {S : gS} {B : rf_M} {M : rf_M} {ls : rf_L} {v1 : Int} {v2 : Int} {s1 : Int} {s2 : Int} {K : rf_M → Prop} (hS : rk fz S B.2.2) (hR : fq B M) (a0 : rf_ld ls 0 = some (.ref 353)) (a1 : rf_ld ls 1 = some (zv v1)) (a2 : rf_ld ls 2 = some (zv v2)) (h : w_openBody_73 v1 v2 s1 s2 M K) : gx (cx0 fz) (2, 46) 141 73 ls [zv s2, zv s1, .ref 357] (M, S) (vq_v B S K) := by
  unfold w_openBody_73 at h
  obtain ⟨q, h⟩ := h
  refine n_is (Nat.le_of_ble_eq_true rfl) rfl (rk_357 hS).1 (Nat.le_of_ble_eq_true rfl) q (fun M1 e r => ?_)
  replace h := h M1 e
  have r1 := hR.trans r
  refine g1 (n := 1) rfl rfl rfl (la_of a0) ?_
  refine n_gr rfl hS.1 rfl (fun _ => rfl) r1 (rk_373 hS).2 ?_
  refine g1 (n := 1) rfl rfl rfl (la_of a0) ?_
  refine n_gi rfl hS.1 rfl (fun _ => rfl) ?_
  refine g1 (n := 1) rfl rfl rfl (li_of a1) ?_
  obtain ⟨q, h⟩ := h
  refine n_is (Nat.le_of_ble_eq_true rfl) rfl (rk_373 hS).1 (Nat.le_of_ble_eq_true rfl) q (fun M2 e r => ?_)
  replace h := h M2 e
  have r2 := r1.trans r
  refine g1 (n := 1) rfl rfl rfl (la_of a0) ?_
  refine n_gr rfl hS.1 rfl (fun _ => rfl) r2 (rk_374 hS).2 ?_
  refine g1 (n := 1) rfl rfl rfl (la_of a0) ?_
  refine n_gi rfl hS.1 rfl (fun _ => rfl) ?_
  refine g1 (n := 1) rfl rfl rfl (li_of a2) ?_
  obtain ⟨q, h⟩ := h
  refine n_is (Nat.le_of_ble_eq_true rfl) rfl (rk_374 hS).1 (Nat.le_of_ble_eq_true rfl) q (fun M3 e r => ?_)
  replace h := h M3 e
  have r3 := r2.trans r
  refine g1 (n := 1) rfl rfl rfl (la_of a0) ?_
  refine n_gr rfl hS.1 rfl (fun _ => rfl) r3 (rk_375 hS).2 ?_
  refine g1 (n := 1) rfl rfl rfl (la_of a0) ?_
  refine n_gi rfl hS.1 rfl (fun _ => rfl) ?_
  refine g1 (n := 1) rfl rfl rfl rfl ?_
  obtain ⟨q, h⟩ := h
  refine n_is (Nat.le_of_ble_eq_true rfl) rfl (rk_375 hS).1 (Nat.le_of_ble_eq_true rfl) q (fun M4 e r => ?_)
  replace h := h M4 e
  have r4 := r3.trans r
  refine g1 (n := 1) rfl rfl rfl (la_of a0) ?_
  refine m_iv (a := 353) (as := []) (rest := []) rfl (by decide) hS.1 rfl rfl (Nat.le_of_ble_eq_true rfl) ⟨Nat.le_of_ble_eq_true rfl, Nat.le_of_ble_eq_true rfl, Nat.le_of_ble_eq_true rfl⟩ ?_
  refine gx_room (gx_mono (W_next_m hS r4 h) ?_) (Nat.le_of_ble_eq_true rfl) (Nat.le_of_ble_eq_true rfl)
  rintro _ _ ⟨M5, rfl, rfl, r5, h⟩
  exact gx_ret rfl rfl ⟨M5, rfl, rfl, r5, h⟩
def w_openBody (v1 : Int) (v2 : Int) (M : rf_M) (K : rf_M → Prop) : Prop := wm_isSign 123 M (fun (z1 : Int) (M1 : rf_M) => inr z1 ∧ ((z1 = 0 → (w_openBody_18 M1 K)) ∧ (¬ (z1 = 0) → (((gi M1 353 37) = 8 → (w_openBody_18 M1 K)) ∧ (¬ (gi M1 353 37) = 8 → (∀ M2 : rf_M, M2 = wi M1 353 37 ((gi M1 353 37) + 1) → ((0 ≤ (gi M2 353 28) ∧ (gi M2 353 28) < 12) ∧ (((gi M2 353 37) ≤ (gi M2 357 (gi M2 353 28).toNat) → ((0 ≤ (gi M2 353 28) ∧ (gi M2 353 28) < 12) ∧ (w_openBody_73 v1 v2 (gi M2 353 28) (gi M2 357 (gi M2 353 28).toNat) M2 K))) ∧ (¬ ((gi M2 353 37) ≤ (gi M2 357 (gi M2 353 28).toNat)) → (w_openBody_73 v1 v2 (gi M2 353 28) (gi M2 353 37) M2 K))))))))))
theorem W_openBody {fz : Bool} {S : gS} {B : rf_M} {M : rf_M} {ls : rf_L} {v1 : Int} {v2 : Int} {K : rf_M → Prop} (hS : rk fz S B.2.2) (hR : fq B M) (a0 : rf_ld ls 0 = some (.ref 353)) (a1 : rf_ld ls 1 = some (zv v1)) (a2 : rf_ld ls 2 = some (zv v2)) (h : w_openBody v1 v2 M K) : gx (cx0 fz) (2, 46) 141 0 ls [] (M, S) (vq_v B S K) := by
  unfold w_openBody at h
  refine g1 (n := 1) rfl rfl rfl (la_of a0) ?_
  refine n_bi rfl (by decide) ?_
  refine m_iv (a := 353) (as := [zv 123]) (rest := []) rfl (by decide) hS.1 rfl rfl (Nat.le_of_ble_eq_true rfl) ⟨Nat.le_of_ble_eq_true rfl, Nat.le_of_ble_eq_true rfl, Nat.le_of_ble_eq_true rfl⟩ ?_
  refine gx_room (gx_mono (W_isSign_m hS hR h) ?_) (Nat.le_of_ble_eq_true rfl) (Nat.le_of_ble_eq_true rfl)
  rintro _ _ ⟨z1, M1, rfl, rfl, r1, h⟩
  obtain ⟨i1, h⟩ := h
  refine n_if rfl i1 (fun c => ?_) (fun c => ?_)
  · replace h := h.1 c
    exact W_openBody_18 hS r1 a0 h
  · replace h := h.2 c
    refine g1 (n := 1) rfl rfl rfl (la_of a0) ?_
    refine n_gi rfl hS.1 rfl (fun _ => rfl) ?_
    refine n_bi rfl (by decide) ?_
    refine n_ic rfl (inr_gi _ _ _) ⟨by decide, by decide⟩ (fun c => ?_) (fun c => ?_)
    · replace h := h.2 c
      refine g1 (n := 1) rfl rfl rfl (la_of a0) ?_
      refine g0 rfl rfl rfl ?_
      refine n_gi rfl hS.1 rfl (fun _ => rfl) ?_
      refine g1 (n := 1) rfl rfl rfl rfl ?_
      refine n_add rfl ?_
      refine n_pi (Nat.le_of_ble_eq_true rfl) rfl hS.1 rfl (fun _ _ => rfl) (fun M2 e r => ?_)
      replace h := h M2 e
      have r2 := r1.trans r
      refine g1 (n := 1) rfl rfl rfl (la_of a0) ?_
      refine n_gr rfl hS.1 rfl (fun _ => rfl) r2 (rk_357 hS).2 ?_
      refine g1 (n := 1) rfl rfl rfl (la_of a0) ?_
      refine n_gi rfl hS.1 rfl (fun _ => rfl) ?_
      refine g1 (n := 1) rfl rfl rfl (la_of a0) ?_
      refine n_gi rfl hS.1 rfl (fun _ => rfl) ?_
      refine g1 (n := 1) rfl rfl rfl (la_of a0) ?_
      refine n_gr rfl hS.1 rfl (fun _ => rfl) r2 (rk_357 hS).2 ?_
      refine g1 (n := 1) rfl rfl rfl (la_of a0) ?_
      refine n_gi rfl hS.1 rfl (fun _ => rfl) ?_
      obtain ⟨q, h⟩ := h
      refine n_ia rfl (rk_357 hS).1 (Nat.le_of_ble_eq_true rfl) q ?_
      refine n_ic rfl (inr_gi _ _ _) (inr_gi _ _ _) (fun c => ?_) (fun c => ?_)
      · replace h := h.1 c
        refine g1 (n := 1) rfl rfl rfl (la_of a0) ?_
        refine n_gr rfl hS.1 rfl (fun _ => rfl) r2 (rk_357 hS).2 ?_
        refine g1 (n := 1) rfl rfl rfl (la_of a0) ?_
        refine n_gi rfl hS.1 rfl (fun _ => rfl) ?_
        obtain ⟨q, h⟩ := h
        refine n_ia rfl (rk_357 hS).1 (Nat.le_of_ble_eq_true rfl) q ?_
        exact W_openBody_73 hS r2 a0 a1 a2 h
      · replace h := h.2 c
        refine g1 (n := 1) rfl rfl rfl (la_of a0) ?_
        refine n_gi rfl hS.1 rfl (fun _ => rfl) ?_
        refine g3 rfl rfl rfl ?_
        exact W_openBody_73 hS r2 a0 a1 a2 h
    · replace h := h.1 (Classical.not_not.mp c)
      exact W_openBody_18 hS r1 a0 h
def wm_openBody (x0 : Int) (x1 : Int) (M : rf_M) (K : rf_M → Prop) : Prop := w_openBody x0 x1 M K
theorem W_openBody_m {fz : Bool} {S : gS} {B : rf_M} {M : rf_M} {x0 : Int} {x1 : Int} {K : rf_M → Prop} (hS : rk fz S B.2.2) (hR : fq B M) (h : wm_openBody x0 x1 M K) : gx (cx0 fz) (2, 46) 141 0 (lv_args 0 [.ref 353, zv x0, zv x1]) [] (M, S) (vq_v B S K) :=
  W_openBody hS hR rfl rfl rfl h
def w_takeWord_26 (M : rf_M) (K : rf_M → Prop) : Prop := K M
theorem W_takeWord_26 {fz : Bool} {S : gS} {B : rf_M} {M : rf_M} {ls : rf_L} {K : rf_M → Prop} (hS : rk fz S B.2.2) (hR : fq B M) (h : w_takeWord_26 M K) : gx (cx0 fz) (2, 46) 142 26 ls [] (M, S) (vq_v B S K) := by
  unfold w_takeWord_26 at h
  exact gx_ret rfl rfl ⟨M, rfl, rfl, hR, h⟩
def w_takeWord_15 (M : rf_M) (K : rf_M → Prop) : Prop := ((gi M 353 9) = 0 → (wm_next  M (fun (M1 : rf_M) => w_takeWord_26 M1 K))) ∧ (¬ (gi M 353 9) = 0 → (w_takeWord_26 M K))
theorem W_takeWord_15 {fz : Bool} {S : gS} {B : rf_M} {M : rf_M} {ls : rf_L} {K : rf_M → Prop} (hS : rk fz S B.2.2) (hR : fq B M) (a0 : rf_ld ls 0 = some (.ref 353)) (h : w_takeWord_15 M K) : gx (cx0 fz) (2, 46) 142 15 ls [] (M, S) (vq_v B S K) := by
  unfold w_takeWord_15 at h
  refine g1 (n := 1) rfl rfl rfl (la_of a0) ?_
  refine n_gi rfl hS.1 rfl (fun _ => rfl) ?_
  refine n_if rfl (inr_gi _ _ _) (fun c => ?_) (fun c => ?_)
  · replace h := h.2 c
    exact W_takeWord_26 hS hR  h
  · replace h := h.1 (Classical.not_not.mp c)
    refine g1 (n := 1) rfl rfl rfl (la_of a0) ?_
    refine m_iv (a := 353) (as := []) (rest := []) rfl (by decide) hS.1 rfl rfl (Nat.le_of_ble_eq_true rfl) ⟨Nat.le_of_ble_eq_true rfl, Nat.le_of_ble_eq_true rfl, Nat.le_of_ble_eq_true rfl⟩ ?_
    refine gx_room (gx_mono (W_next_m hS hR h) ?_) (Nat.le_of_ble_eq_true rfl) (Nat.le_of_ble_eq_true rfl)
    rintro _ _ ⟨M1, rfl, rfl, r1, h⟩
    exact W_takeWord_26 hS r1  h
def w_takeWord (v1 : Int) (M : rf_M) (K : rf_M → Prop) : Prop := inr (10 + v1) ∧ (((gi M 353 4) = (10 + v1) → (w_takeWord_15 M K)) ∧ (¬ ((gi M 353 4) = (10 + v1)) → (wm_misplaced  M (fun (M1 : rf_M) => w_takeWord_15 M1 K))))
theorem W_takeWord {fz : Bool} {S : gS} {B : rf_M} {M : rf_M} {ls : rf_L} {v1 : Int} {K : rf_M → Prop} (hS : rk fz S B.2.2) (hR : fq B M) (a0 : rf_ld ls 0 = some (.ref 353)) (a1 : rf_ld ls 1 = some (zv v1)) (h : w_takeWord v1 M K) : gx (cx0 fz) (2, 46) 142 0 ls [] (M, S) (vq_v B S K) := by
  unfold w_takeWord at h
  refine g1 (n := 1) rfl rfl rfl (la_of a0) ?_
  refine n_gi rfl hS.1 rfl (fun _ => rfl) ?_
  refine n_bi rfl (by decide) ?_
  refine g1 (n := 1) rfl rfl rfl (li_of a1) ?_
  refine n_add rfl ?_
  obtain ⟨i1, h⟩ := h
  refine n_ic rfl (inr_gi _ _ _) i1 (fun c => ?_) (fun c => ?_)
  · replace h := h.1 c
    exact W_takeWord_15 hS hR a0 h
  · replace h := h.2 c
    refine g1 (n := 1) rfl rfl rfl (la_of a0) ?_
    refine m_iv (a := 353) (as := []) (rest := []) rfl (by decide) hS.1 rfl rfl (Nat.le_of_ble_eq_true rfl) ⟨Nat.le_of_ble_eq_true rfl, Nat.le_of_ble_eq_true rfl, Nat.le_of_ble_eq_true rfl⟩ ?_
    refine gx_room (gx_mono (W_misplaced_m hS hR h) ?_) (Nat.le_of_ble_eq_true rfl) (Nat.le_of_ble_eq_true rfl)
    rintro _ _ ⟨M1, rfl, rfl, r1, h⟩
    exact W_takeWord_15 hS r1 a0 h
def wm_takeWord (x0 : Int) (M : rf_M) (K : rf_M → Prop) : Prop := w_takeWord x0 M K
theorem W_takeWord_m {fz : Bool} {S : gS} {B : rf_M} {M : rf_M} {x0 : Int} {K : rf_M → Prop} (hS : rk fz S B.2.2) (hR : fq B M) (h : wm_takeWord x0 M K) : gx (cx0 fz) (2, 46) 142 0 (lv_args 0 [.ref 353, zv x0]) [] (M, S) (vq_v B S K) :=
  W_takeWord hS hR rfl rfl h
def w_closeBody_49 (M : rf_M) (K : rf_M → Prop) : Prop := K M
theorem W_closeBody_49 {fz : Bool} {S : gS} {B : rf_M} {M : rf_M} {ls : rf_L} {K : rf_M → Prop} (hS : rk fz S B.2.2) (hR : fq B M) (h : w_closeBody_49 M K) : gx (cx0 fz) (3, 68) 140 49 ls [] (M, S) (vq_v B S K) := by
  unfold w_closeBody_49 at h
  exact gx_ret rfl rfl ⟨M, rfl, rfl, hR, h⟩
def w_closeBody_78 (M : rf_M) (K : rf_M → Prop) : Prop := K M
theorem W_closeBody_78 {fz : Bool} {S : gS} {B : rf_M} {M : rf_M} {ls : rf_L} {K : rf_M → Prop} (hS : rk fz S B.2.2) (hR : fq B M) (h : w_closeBody_78 M K) : gx (cx0 fz) (3, 68) 140 78 ls [] (M, S) (vq_v B S K) := by
  unfold w_closeBody_78 at h
  exact gx_ret rfl rfl ⟨M, rfl, rfl, hR, h⟩
def w_closeBody_135 (M : rf_M) (K : rf_M → Prop) : Prop := wm_misplaced  M (fun (M1 : rf_M) => K M1)
theorem W_closeBody_135 {fz : Bool} {S : gS} {B : rf_M} {M : rf_M} {ls : rf_L} {K : rf_M → Prop} (hS : rk fz S B.2.2) (hR : fq B M) (a0 : rf_ld ls 0 = some (.ref 353)) (h : w_closeBody_135 M K) : gx (cx0 fz) (3, 68) 140 135 ls [] (M, S) (vq_v B S K) := by
  unfold w_closeBody_135 at h
  refine g1 (n := 1) rfl rfl rfl (la_of a0) ?_
  refine m_iv (a := 353) (as := []) (rest := []) rfl (by decide) hS.1 rfl rfl (Nat.le_of_ble_eq_true rfl) ⟨Nat.le_of_ble_eq_true rfl, Nat.le_of_ble_eq_true rfl, Nat.le_of_ble_eq_true rfl⟩ ?_
  refine gx_room (gx_mono (W_misplaced_m hS hR h) ?_) (Nat.le_of_ble_eq_true rfl) (Nat.le_of_ble_eq_true rfl)
  rintro _ _ ⟨M1, rfl, rfl, r1, h⟩
  exact gx_ret rfl rfl ⟨M1, rfl, rfl, r1, h⟩
def w_closeBody_167 (M : rf_M) (K : rf_M → Prop) : Prop := K M
theorem W_closeBody_167 {fz : Bool} {S : gS} {B : rf_M} {M : rf_M} {ls : rf_L} {K : rf_M → Prop} (hS : rk fz S B.2.2) (hR : fq B M) (h : w_closeBody_167 M K) : gx (cx0 fz) (3, 68) 140 167 ls [] (M, S) (vq_v B S K) := by
  unfold w_closeBody_167 at h
  exact gx_ret rfl rfl ⟨M, rfl, rfl, hR, h⟩
def w_closeBody_154 (v1 : Int) (M : rf_M) (K : rf_M → Prop) : Prop := ((gi M 353 9) = 0 → (wm_openBody v1 1 M (fun (M1 : rf_M) => w_closeBody_167 M1 K))) ∧ (¬ (gi M 353 9) = 0 → (w_closeBody_167 M K))
theorem W_closeBody_154 {fz : Bool} {S : gS} {B : rf_M} {M : rf_M} {ls : rf_L} {v1 : Int} {K : rf_M → Prop} (hS : rk fz S B.2.2) (hR : fq B M) (a0 : rf_ld ls 0 = some (.ref 353)) (a1 : rf_ld ls 1 = some (zv v1)) (h : w_closeBody_154 v1 M K) : gx (cx0 fz) (3, 68) 140 154 ls [] (M, S) (vq_v B S K) := by
  unfold w_closeBody_154 at h
  refine g1 (n := 1) rfl rfl rfl (la_of a0) ?_
  refine n_gi rfl hS.1 rfl (fun _ => rfl) ?_
  refine n_if rfl (inr_gi _ _ _) (fun c => ?_) (fun c => ?_)
  · replace h := h.2 c
    exact W_closeBody_167 hS hR  h
  · replace h := h.1 (Classical.not_not.mp c)
    refine g1 (n := 1) rfl rfl rfl (la_of a0) ?_
    refine g1 (n := 1) rfl rfl rfl (li_of a1) ?_
    refine g1 (n := 1) rfl rfl rfl rfl ?_
    refine m_iv (a := 353) (as := [zv v1, zv 1]) (rest := []) rfl (by decide) hS.1 rfl rfl (Nat.le_of_ble_eq_true rfl) ⟨Nat.le_of_ble_eq_true rfl, Nat.le_of_ble_eq_true rfl, Nat.le_of_ble_eq_true rfl⟩ ?_
    refine gx_room (gx_mono (W_openBody_m hS hR h) ?_) (Nat.le_of_ble_eq_true rfl) (Nat.le_of_ble_eq_true rfl)
    rintro _ _ ⟨M1, rfl, rfl, r1, h⟩
    exact W_closeBody_167 hS r1  h
def w_closeBody_97 (v1 : Int) (s1 : Int) (M : rf_M) (K : rf_M → Prop) : Prop := wm_takeWord s1 M (fun (M1 : rf_M) => (0 ≤ v1 ∧ v1 < 480) ∧ (((gi M1 360 (v1).toNat) = 7 → (((gi M1 353 9) = 0 → (((gi M1 353 4) = 2 → ((16 ≤ (gi M1 353 6) → ((0 ≤ v1 ∧ v1 < 480) ∧ (∀ M2 : rf_M, M2 = wi M1 367 (v1).toNat (gi M1 353 6) → (wm_next  M2 (fun (M3 : rf_M) => w_closeBody_154 v1 M3 K))))) ∧ (¬ (16 ≤ (gi M1 353 6)) → (w_closeBody_135 M1 K)))) ∧ (¬ (gi M1 353 4) = 2 → (w_closeBody_135 M1 K)))) ∧ (¬ (gi M1 353 9) = 0 → (w_closeBody_154 v1 M1 K)))) ∧ (¬ (gi M1 360 (v1).toNat) = 7 → (w_closeBody_154 v1 M1 K))))
theorem W_closeBody_97 {fz : Bool} {S : gS} {B : rf_M} {M : rf_M} {ls : rf_L} {v1 : Int} {s1 : Int} {K : rf_M → Prop} (hS : rk fz S B.2.2) (hR : fq B M) (a0 : rf_ld ls 0 = some (.ref 353)) (a1 : rf_ld ls 1 = some (zv v1)) (h : w_closeBody_97 v1 s1 M K) : gx (cx0 fz) (3, 68) 140 97 ls [zv s1, .ref 353] (M, S) (vq_v B S K) := by
  unfold w_closeBody_97 at h
  refine m_iv (a := 353) (as := [zv s1]) (rest := []) rfl (by decide) hS.1 rfl rfl (Nat.le_of_ble_eq_true rfl) ⟨Nat.le_of_ble_eq_true rfl, Nat.le_of_ble_eq_true rfl, Nat.le_of_ble_eq_true rfl⟩ ?_
  refine gx_room (gx_mono (W_takeWord_m hS hR h) ?_) (Nat.le_of_ble_eq_true rfl) (Nat.le_of_ble_eq_true rfl)
  rintro _ _ ⟨M1, rfl, rfl, r1, h⟩
  refine g1 (n := 1) rfl rfl rfl (la_of a0) ?_
  refine n_gr rfl hS.1 rfl (fun _ => rfl) r1 (rk_360 hS).2 ?_
  refine g1 (n := 1) rfl rfl rfl (li_of a1) ?_
  obtain ⟨q, h⟩ := h
  refine n_ia rfl (rk_360 hS).1 (Nat.le_of_ble_eq_true rfl) q ?_
  refine n_bi rfl (by decide) ?_
  refine n_ic rfl (inr_gi _ _ _) ⟨by decide, by decide⟩ (fun c => ?_) (fun c => ?_)
  · replace h := h.2 c
    exact W_closeBody_154 hS r1 a0 a1 h
  · replace h := h.1 (Classical.not_not.mp c)
    refine g1 (n := 1) rfl rfl rfl (la_of a0) ?_
    refine n_gi rfl hS.1 rfl (fun _ => rfl) ?_
    refine n_if rfl (inr_gi _ _ _) (fun c => ?_) (fun c => ?_)
    · replace h := h.2 c
      exact W_closeBody_154 hS r1 a0 a1 h
    · replace h := h.1 (Classical.not_not.mp c)
      refine g1 (n := 1) rfl rfl rfl (la_of a0) ?_
      refine n_gi rfl hS.1 rfl (fun _ => rfl) ?_
      refine g1 (n := 1) rfl rfl rfl rfl ?_
      refine n_ic rfl (inr_gi _ _ _) ⟨by decide, by decide⟩ (fun c => ?_) (fun c => ?_)
      · replace h := h.2 c
        exact W_closeBody_135 hS r1 a0 h
      · replace h := h.1 (Classical.not_not.mp c)
        refine g1 (n := 1) rfl rfl rfl (la_of a0) ?_
        refine n_gi rfl hS.1 rfl (fun _ => rfl) ?_
        refine n_bi rfl (by decide) ?_
        refine n_ic rfl (inr_gi _ _ _) ⟨by decide, by decide⟩ (fun c => ?_) (fun c => ?_)
        · replace h := h.1 c
          refine g1 (n := 1) rfl rfl rfl (la_of a0) ?_
          refine n_gr rfl hS.1 rfl (fun _ => rfl) r1 (rk_367 hS).2 ?_
          refine g1 (n := 1) rfl rfl rfl (li_of a1) ?_
          refine g1 (n := 1) rfl rfl rfl (la_of a0) ?_
          refine n_gi rfl hS.1 rfl (fun _ => rfl) ?_
          obtain ⟨q, h⟩ := h
          refine n_is (Nat.le_of_ble_eq_true rfl) rfl (rk_367 hS).1 (Nat.le_of_ble_eq_true rfl) q (fun M2 e r => ?_)
          replace h := h M2 e
          have r2 := r1.trans r
          refine g1 (n := 1) rfl rfl rfl (la_of a0) ?_
          refine m_iv (a := 353) (as := []) (rest := []) rfl (by decide) hS.1 rfl rfl (Nat.le_of_ble_eq_true rfl) ⟨Nat.le_of_ble_eq_true rfl, Nat.le_of_ble_eq_true rfl, Nat.le_of_ble_eq_true rfl⟩ ?_
          refine gx_room (gx_mono (W_next_m hS r2 h) ?_) (Nat.le_of_ble_eq_true rfl) (Nat.le_of_ble_eq_true rfl)
          rintro _ _ ⟨M3, rfl, rfl, r3, h⟩
          exact W_closeBody_154 hS r3 a0 a1 h
        · replace h := h.2 c
          exact W_closeBody_135 hS r1 a0 h
def w_closeBody (M : rf_M) (K : rf_M → Prop) : Prop := (0 ≤ (gi M 353 37) ∧ (gi M 353 37) < 10) ∧ ((0 ≤ (gi M 353 37) ∧ (gi M 353 37) < 10) ∧ (∀ M1 : rf_M, M1 = wi M 353 37 ((gi M 353 37) - 1) → (wm_next  M1 (fun (M2 : rf_M) => ((gi M 374 (gi M 353 37).toNat) = 1 → (w_closeBody_49 M2 K)) ∧ (¬ ((gi M 374 (gi M 353 37).toNat) = 1) → ((0 ≤ (gi M 373 (gi M 353 37).toNat) ∧ (gi M 373 (gi M 353 37).toNat) < 480) ∧ (((gi M2 360 (gi M 373 (gi M 353 37).toNat).toNat) = 2 → (w_closeBody_49 M2 K)) ∧ (¬ (gi M2 360 (gi M 373 (gi M 353 37).toNat).toNat) = 2 → ((0 ≤ (gi M 373 (gi M 353 37).toNat) ∧ (gi M 373 (gi M 353 37).toNat) < 480) ∧ (((gi M2 360 (gi M 373 (gi M 353 37).toNat).toNat) = 0 → (((gi M2 353 4) = 11 → (wm_next  M2 (fun (M3 : rf_M) => wm_openBody (gi M 373 (gi M 353 37).toNat) 1 M3 (fun (M4 : rf_M) => w_closeBody_78 M4 K)))) ∧ (¬ (gi M2 353 4) = 11 → (w_closeBody_78 M2 K)))) ∧ (¬ (gi M2 360 (gi M 373 (gi M 353 37).toNat).toNat) = 0 → ((0 ≤ (gi M 373 (gi M 353 37).toNat) ∧ (gi M 373 (gi M 353 37).toNat) < 480) ∧ (((gi M2 360 (gi M 373 (gi M 353 37).toNat).toNat) = 5 → (w_closeBody_97 (gi M 373 (gi M 353 37).toNat) 6 M2 K)) ∧ (¬ (gi M2 360 (gi M 373 (gi M 353 37).toNat).toNat) = 5 → (w_closeBody_97 (gi M 373 (gi M 353 37).toNat) 8 M2 K)))))))))))))))
theorem W_closeBody {fz : Bool} {S : gS} {B : rf_M} {M : rf_M} {ls : rf_L} {K : rf_M → Prop} (hS : rk fz S B.2.2) (hR : fq B M) (a0 : rf_ld ls 0 = some (.ref 353)) (h : w_closeBody M K) : gx (cx0 fz) (3, 68) 140 0 ls [] (M, S) (vq_v B S K) := by
  unfold w_closeBody at h
  refine g1 (n := 1) rfl rfl rfl (la_of a0) ?_
  refine n_gr rfl hS.1 rfl (fun _ => rfl) hR (rk_373 hS).2 ?_
  refine g1 (n := 1) rfl rfl rfl (la_of a0) ?_
  refine n_gi rfl hS.1 rfl (fun _ => rfl) ?_
  obtain ⟨q, h⟩ := h
  refine n_ia rfl (rk_373 hS).1 (Nat.le_of_ble_eq_true rfl) q ?_
  refine n_s1 (n := 1) rfl rfl rfl rfl (fun ls l1 ho => ?_)
  replace a0 := ho 0 _ (by decide) (fun q => by cases q.2) a0
  refine g1 (n := 1) rfl rfl rfl (la_of a0) ?_
  refine n_gr rfl hS.1 rfl (fun _ => rfl) hR (rk_374 hS).2 ?_
  refine g1 (n := 1) rfl rfl rfl (la_of a0) ?_
  refine n_gi rfl hS.1 rfl (fun _ => rfl) ?_
  obtain ⟨q, h⟩ := h
  refine n_ia rfl (rk_374 hS).1 (Nat.le_of_ble_eq_true rfl) q ?_
  refine n_s1 (n := 1) rfl rfl rfl rfl (fun ls l2 ho => ?_)
  replace a0 := ho 0 _ (by decide) (fun q => by cases q.2) a0
  have l3 := ho 1 _ (by decide) (fun q => by cases q.2) l1
  refine g1 (n := 1) rfl rfl rfl (la_of a0) ?_
  refine g0 rfl rfl rfl ?_
  refine n_gi rfl hS.1 rfl (fun _ => rfl) ?_
  refine g1 (n := 1) rfl rfl rfl rfl ?_
  refine n_sub rfl ?_
  refine n_pi (Nat.le_of_ble_eq_true rfl) rfl hS.1 rfl (fun _ _ => rfl) (fun M1 e r => ?_)
  replace h := h M1 e
  have r1 := hR.trans r
  refine g1 (n := 1) rfl rfl rfl (la_of a0) ?_
  refine m_iv (a := 353) (as := []) (rest := []) rfl (by decide) hS.1 rfl rfl (Nat.le_of_ble_eq_true rfl) ⟨Nat.le_of_ble_eq_true rfl, Nat.le_of_ble_eq_true rfl, Nat.le_of_ble_eq_true rfl⟩ ?_
  refine gx_room (gx_mono (W_next_m hS r1 h) ?_) (Nat.le_of_ble_eq_true rfl) (Nat.le_of_ble_eq_true rfl)
  rintro _ _ ⟨M2, rfl, rfl, r2, h⟩
  refine g1 (n := 1) rfl rfl rfl (li_of l2) ?_
  refine g1 (n := 1) rfl rfl rfl rfl ?_
  refine n_ic rfl (inr_gi _ _ _) ⟨by decide, by decide⟩ (fun c => ?_) (fun c => ?_)
  · replace h := h.1 c
    exact W_closeBody_49 hS r2  h
  · replace h := h.2 c
    refine g1 (n := 1) rfl rfl rfl (la_of a0) ?_
    refine n_gr rfl hS.1 rfl (fun _ => rfl) r2 (rk_360 hS).2 ?_
    refine g1 (n := 1) rfl rfl rfl (li_of l3) ?_
    obtain ⟨q, h⟩ := h
    refine n_ia rfl (rk_360 hS).1 (Nat.le_of_ble_eq_true rfl) q ?_
    refine g1 (n := 1) rfl rfl rfl rfl ?_
    refine n_ic rfl (inr_gi _ _ _) ⟨by decide, by decide⟩ (fun c => ?_) (fun c => ?_)
    · replace h := h.2 c
      refine g1 (n := 1) rfl rfl rfl (la_of a0) ?_
      refine n_gr rfl hS.1 rfl (fun _ => rfl) r2 (rk_360 hS).2 ?_
      refine g1 (n := 1) rfl rfl rfl (li_of l3) ?_
      obtain ⟨q, h⟩ := h
      refine n_ia rfl (rk_360 hS).1 (Nat.le_of_ble_eq_true rfl) q ?_
      refine n_if rfl (inr_gi _ _ _) (fun c => ?_) (fun c => ?_)
      · replace h := h.2 c
        refine g1 (n := 1) rfl rfl rfl (la_of a0) ?_
        refine g1 (n := 1) rfl rfl rfl (la_of a0) ?_
        refine n_gr rfl hS.1 rfl (fun _ => rfl) r2 (rk_360 hS).2 ?_
        refine g1 (n := 1) rfl rfl rfl (li_of l3) ?_
        obtain ⟨q, h⟩ := h
        refine n_ia rfl (rk_360 hS).1 (Nat.le_of_ble_eq_true rfl) q ?_
        refine g1 (n := 1) rfl rfl rfl rfl ?_
        refine n_ic rfl (inr_gi _ _ _) ⟨by decide, by decide⟩ (fun c => ?_) (fun c => ?_)
        · replace h := h.2 c
          refine n_bi rfl (by decide) ?_
          exact W_closeBody_97 hS r2 a0 l3 h
        · replace h := h.1 (Classical.not_not.mp c)
          refine n_bi rfl (by decide) ?_
          refine g3 rfl rfl rfl ?_
          exact W_closeBody_97 hS r2 a0 l3 h
      · replace h := h.1 (Classical.not_not.mp c)
        refine g1 (n := 1) rfl rfl rfl (la_of a0) ?_
        refine n_gi rfl hS.1 rfl (fun _ => rfl) ?_
        refine n_bi rfl (by decide) ?_
        refine n_ic rfl (inr_gi _ _ _) ⟨by decide, by decide⟩ (fun c => ?_) (fun c => ?_)
        · replace h := h.2 c
          exact W_closeBody_78 hS r2  h
        · replace h := h.1 (Classical.not_not.mp c)
          refine g1 (n := 1) rfl rfl rfl (la_of a0) ?_
          refine m_iv (a := 353) (as := []) (rest := []) rfl (by decide) hS.1 rfl rfl (Nat.le_of_ble_eq_true rfl) ⟨Nat.le_of_ble_eq_true rfl, Nat.le_of_ble_eq_true rfl, Nat.le_of_ble_eq_true rfl⟩ ?_
          refine gx_room (gx_mono (W_next_m hS r2 h) ?_) (Nat.le_of_ble_eq_true rfl) (Nat.le_of_ble_eq_true rfl)
          rintro _ _ ⟨M3, rfl, rfl, r3, h⟩
          refine g1 (n := 1) rfl rfl rfl (la_of a0) ?_
          refine g1 (n := 1) rfl rfl rfl (li_of l3) ?_
          refine g1 (n := 1) rfl rfl rfl rfl ?_
          refine m_iv (a := 353) (as := [zv (gi M 373 (gi M 353 37).toNat), zv 1]) (rest := []) rfl (by decide) hS.1 rfl rfl (Nat.le_of_ble_eq_true rfl) ⟨Nat.le_of_ble_eq_true rfl, Nat.le_of_ble_eq_true rfl, Nat.le_of_ble_eq_true rfl⟩ ?_
          refine gx_room (gx_mono (W_openBody_m hS r3 h) ?_) (Nat.le_of_ble_eq_true rfl) (Nat.le_of_ble_eq_true rfl)
          rintro _ _ ⟨M4, rfl, rfl, r4, h⟩
          exact W_closeBody_78 hS r4  h
    · replace h := h.1 (Classical.not_not.mp c)
      exact W_closeBody_49 hS r2  h
def wm_closeBody (M : rf_M) (K : rf_M → Prop) : Prop := w_closeBody  M K
theorem W_closeBody_m {fz : Bool} {S : gS} {B : rf_M} {M : rf_M} {K : rf_M → Prop} (hS : rk fz S B.2.2) (hR : fq B M) (h : wm_closeBody  M K) : gx (cx0 fz) (3, 68) 140 0 (lv_args 0 [.ref 353]) [] (M, S) (vq_v B S K) :=
  W_closeBody hS hR rfl h
def w_newStatement_176 (v1 : Int) (M : rf_M) (K : Int → rf_M → Prop) : Prop := (0 ≤ (gi M 353 37) ∧ (gi M 353 37) < 10) ∧ (∀ M1 : rf_M, M1 = wi M 375 (gi M 353 37).toNat v1 → (K v1 M1))
theorem W_newStatement_176 {fz : Bool} {S : gS} {B : rf_M} {M : rf_M} {ls : rf_L} {v1 : Int} {K : Int → rf_M → Prop} (hS : rk fz S B.2.2) (hR : fq B M) (a0 : rf_ld ls 0 = some (.ref 353)) (a1 : rf_ld ls 1 = some (zv v1)) (h : w_newStatement_176 v1 M K) : gx (cx0 fz) (0, 0) 144 176 ls [] (M, S) (vq_i B S K) := by
  unfold w_newStatement_176 at h
  refine g1 (n := 1) rfl rfl rfl (la_of a0) ?_
  refine n_gr rfl hS.1 rfl (fun _ => rfl) hR (rk_375 hS).2 ?_
  refine g1 (n := 1) rfl rfl rfl (la_of a0) ?_
  refine n_gi rfl hS.1 rfl (fun _ => rfl) ?_
  refine g1 (n := 1) rfl rfl rfl (li_of a1) ?_
  obtain ⟨q, h⟩ := h
  refine n_is (Nat.le_of_ble_eq_true rfl) rfl (rk_375 hS).1 (Nat.le_of_ble_eq_true rfl) q (fun M1 e r => ?_)
  replace h := h M1 e
  have r1 := hR.trans r
  refine g1 (n := 1) rfl rfl rfl (li_of a1) ?_
  exact gx_ret rfl rfl ⟨v1, M1, rfl, rfl, r1, h⟩
def w_newStatement (M : rf_M) (K : Int → rf_M → Prop) : Prop := (0 ≤ (gi M 353 28) ∧ (gi M 353 28) < 12) ∧ ((0 ≤ (gi M 353 28) ∧ (gi M 353 28) < 12) ∧ ((0 ≤ (gi M 353 28) ∧ (gi M 353 28) < 12) ∧ (∀ M1 : rf_M, M1 = wi M 355 (gi M 353 28).toNat ((gi M 355 (gi M 353 28).toNat) + 1) → ((0 ≤ ((40 * (gi M 353 28)) + (gi M 355 (gi M 353 28).toNat)) ∧ ((40 * (gi M 353 28)) + (gi M 355 (gi M 353 28).toNat)) < 480) ∧ (∀ M2 : rf_M, M2 = wi M1 361 ((40 * (gi M 353 28)) + (gi M 355 (gi M 353 28).toNat)).toNat (-1) → ((0 ≤ (gi M2 353 37) ∧ (gi M2 353 37) < 10) ∧ ((0 ≤ ((40 * (gi M 353 28)) + (gi M 355 (gi M 353 28).toNat)) ∧ ((40 * (gi M 353 28)) + (gi M 355 (gi M 353 28).toNat)) < 480) ∧ (∀ M3 : rf_M, M3 = wi M2 362 ((40 * (gi M 353 28)) + (gi M 355 (gi M 353 28).toNat)).toNat (gi M2 373 (gi M2 353 37).toNat) → ((0 ≤ (gi M3 353 37) ∧ (gi M3 353 37) < 10) ∧ ((0 ≤ ((40 * (gi M 353 28)) + (gi M 355 (gi M 353 28).toNat)) ∧ ((40 * (gi M 353 28)) + (gi M 355 (gi M 353 28).toNat)) < 480) ∧ (∀ M4 : rf_M, M4 = wi M3 363 ((40 * (gi M 353 28)) + (gi M 355 (gi M 353 28).toNat)).toNat (gi M3 374 (gi M3 353 37).toNat) → ((0 ≤ ((40 * (gi M 353 28)) + (gi M 355 (gi M 353 28).toNat)) ∧ ((40 * (gi M 353 28)) + (gi M 355 (gi M 353 28).toNat)) < 480) ∧ (∀ M5 : rf_M, M5 = wi M4 364 ((40 * (gi M 353 28)) + (gi M 355 (gi M 353 28).toNat)).toNat (-1) → ((0 ≤ ((40 * (gi M 353 28)) + (gi M 355 (gi M 353 28).toNat)) ∧ ((40 * (gi M 353 28)) + (gi M 355 (gi M 353 28).toNat)) < 480) ∧ (∀ M6 : rf_M, M6 = wi M5 365 ((40 * (gi M 353 28)) + (gi M 355 (gi M 353 28).toNat)).toNat (-1) → ((0 ≤ ((40 * (gi M 353 28)) + (gi M 355 (gi M 353 28).toNat)) ∧ ((40 * (gi M 353 28)) + (gi M 355 (gi M 353 28).toNat)) < 480) ∧ (∀ M7 : rf_M, M7 = wi M6 366 ((40 * (gi M 353 28)) + (gi M 355 (gi M 353 28).toNat)).toNat (-1) → ((0 ≤ ((40 * (gi M 353 28)) + (gi M 355 (gi M 353 28).toNat)) ∧ ((40 * (gi M 353 28)) + (gi M 355 (gi M 353 28).toNat)) < 480) ∧ (∀ M8 : rf_M, M8 = wi M7 367 ((40 * (gi M 353 28)) + (gi M 355 (gi M 353 28).toNat)).toNat (-1) → ((0 ≤ (gi M8 353 37) ∧ (gi M8 353 37) < 10) ∧ ((0 ≤ (gi M8 353 37) ∧ (gi M8 353 37) < 10) ∧ (((gi M8 375 (gi M8 353 37).toNat) < 0 → ((0 ≤ (gi M8 373 (gi M8 353 37).toNat) → ((0 ≤ (gi M8 353 37) ∧ (gi M8 353 37) < 10) ∧ (((gi M8 374 (gi M8 353 37).toNat) = 0 → ((0 ≤ (gi M8 373 (gi M8 353 37).toNat) ∧ (gi M8 373 (gi M8 353 37).toNat) < 480) ∧ (∀ M10 : rf_M, M10 = wi M8 365 (gi M8 373 (gi M8 353 37).toNat).toNat ((40 * (gi M 353 28)) + (gi M 355 (gi M 353 28).toNat)) → (w_newStatement_176 ((40 * (gi M 353 28)) + (gi M 355 (gi M 353 28).toNat)) M10 K)))) ∧ (¬ (gi M8 374 (gi M8 353 37).toNat) = 0 → ((0 ≤ (gi M8 373 (gi M8 353 37).toNat) ∧ (gi M8 373 (gi M8 353 37).toNat) < 480) ∧ (∀ M9 : rf_M, M9 = wi M8 366 (gi M8 373 (gi M8 353 37).toNat).toNat ((40 * (gi M 353 28)) + (gi M 355 (gi M 353 28).toNat)) → (w_newStatement_176 ((40 * (gi M 353 28)) + (gi M 355 (gi M 353 28).toNat)) M9 K))))))) ∧ (¬ (0 ≤ (gi M8 373 (gi M8 353 37).toNat)) → ((0 ≤ (gi M8 353 28) ∧ (gi M8 353 28) < 12) ∧ (∀ M11 : rf_M, M11 = wi M8 358 (gi M8 353 28).toNat ((40 * (gi M 353 28)) + (gi M 355 (gi M 353 28).toNat)) → (w_newStatement_176 ((40 * (gi M 353 28)) + (gi M 355 (gi M 353 28).toNat)) M11 K)))))) ∧ (¬ ((gi M8 375 (gi M8 353 37).toNat) < 0) → ((0 ≤ (gi M8 375 (gi M8 353 37).toNat) ∧ (gi M8 375 (gi M8 353 37).toNat) < 480) ∧ (∀ M12 : rf_M, M12 = wi M8 361 (gi M8 375 (gi M8 353 37).toNat).toNat ((40 * (gi M 353 28)) + (gi M 355 (gi M 353 28).toNat)) → (w_newStatement_176 ((40 * (gi M 353 28)) + (gi M 355 (gi M 353 28).toNat)) M12 K))))))))))))))))))))))))))
theorem W_newStatement {fz : Bool} {S : gS} {B : rf_M} {M : rf_M} {ls : rf_L} {K : Int → rf_M → Prop} (hS : rk fz S B.2.2) (hR : fq B M) (a0 : rf_ld ls 0 = some (.ref 353)) (h : w_newStatement M K) : gx (cx0 fz) (0, 0) 144 0 ls [] (M, S) (vq_i B S K) := by
  unfold w_newStatement at h
  refine n_bi rfl (by decide) ?_
  refine g1 (n := 1) rfl rfl rfl (la_of a0) ?_
  refine n_gi rfl hS.1 rfl (fun _ => rfl) ?_
  refine n_mul rfl ?_
  refine g1 (n := 1) rfl rfl rfl (la_of a0) ?_
  refine n_gr rfl hS.1 rfl (fun _ => rfl) hR (rk_355 hS).2 ?_
  refine g1 (n := 1) rfl rfl rfl (la_of a0) ?_
  refine n_gi rfl hS.1 rfl (fun _ => rfl) ?_
  obtain ⟨q, h⟩ := h
  refine n_ia rfl (rk_355 hS).1 (Nat.le_of_ble_eq_true rfl) q ?_
  refine n_add rfl ?_
  refine n_s1 (n := 1) rfl rfl rfl rfl (fun ls l1 ho => ?_)
  replace a0 := ho 0 _ (by decide) (fun q => by cases q.2) a0
  refine g1 (n := 1) rfl rfl rfl (la_of a0) ?_
  refine n_gr rfl hS.1 rfl (fun _ => rfl) hR (rk_355 hS).2 ?_
  refine g1 (n := 1) rfl rfl rfl (la_of a0) ?_
  refine n_gi rfl hS.1 rfl (fun _ => rfl) ?_
  refine g0 rfl rfl rfl ?_
  obtain ⟨q, h⟩ := h
  refine n_ia rfl (rk_355 hS).1 (Nat.le_of_ble_eq_true rfl) q ?_
  refine g1 (n := 1) rfl rfl rfl rfl ?_
  refine n_add rfl ?_
  obtain ⟨q, h⟩ := h
  refine n_is (Nat.le_of_ble_eq_true rfl) rfl (rk_355 hS).1 (Nat.le_of_ble_eq_true rfl) q (fun M1 e r => ?_)
  replace h := h M1 e
  have r1 := hR.trans r
  refine g1 (n := 1) rfl rfl rfl (la_of a0) ?_
  refine n_gr rfl hS.1 rfl (fun _ => rfl) r1 (rk_361 hS).2 ?_
  refine g1 (n := 1) rfl rfl rfl (li_of l1) ?_
  refine g1 (n := 1) rfl rfl rfl rfl ?_
  obtain ⟨q, h⟩ := h
  refine n_is (Nat.le_of_ble_eq_true rfl) rfl (rk_361 hS).1 (Nat.le_of_ble_eq_true rfl) q (fun M2 e r => ?_)
  replace h := h M2 e
  have r2 := r1.trans r
  refine g1 (n := 1) rfl rfl rfl (la_of a0) ?_
  refine n_gr rfl hS.1 rfl (fun _ => rfl) r2 (rk_362 hS).2 ?_
  refine g1 (n := 1) rfl rfl rfl (li_of l1) ?_
  refine g1 (n := 1) rfl rfl rfl (la_of a0) ?_
  refine n_gr rfl hS.1 rfl (fun _ => rfl) r2 (rk_373 hS).2 ?_
  refine g1 (n := 1) rfl rfl rfl (la_of a0) ?_
  refine n_gi rfl hS.1 rfl (fun _ => rfl) ?_
  obtain ⟨q, h⟩ := h
  refine n_ia rfl (rk_373 hS).1 (Nat.le_of_ble_eq_true rfl) q ?_
  obtain ⟨q, h⟩ := h
  refine n_is (Nat.le_of_ble_eq_true rfl) rfl (rk_362 hS).1 (Nat.le_of_ble_eq_true rfl) q (fun M3 e r => ?_)
  replace h := h M3 e
  have r3 := r2.trans r
  refine g1 (n := 1) rfl rfl rfl (la_of a0) ?_
  refine n_gr rfl hS.1 rfl (fun _ => rfl) r3 (rk_363 hS).2 ?_
  refine g1 (n := 1) rfl rfl rfl (li_of l1) ?_
  refine g1 (n := 1) rfl rfl rfl (la_of a0) ?_
  refine n_gr rfl hS.1 rfl (fun _ => rfl) r3 (rk_374 hS).2 ?_
  refine g1 (n := 1) rfl rfl rfl (la_of a0) ?_
  refine n_gi rfl hS.1 rfl (fun _ => rfl) ?_
  obtain ⟨q, h⟩ := h
  refine n_ia rfl (rk_374 hS).1 (Nat.le_of_ble_eq_true rfl) q ?_
  obtain ⟨q, h⟩ := h
  refine n_is (Nat.le_of_ble_eq_true rfl) rfl (rk_363 hS).1 (Nat.le_of_ble_eq_true rfl) q (fun M4 e r => ?_)
  replace h := h M4 e
  have r4 := r3.trans r
  refine g1 (n := 1) rfl rfl rfl (la_of a0) ?_
  refine n_gr rfl hS.1 rfl (fun _ => rfl) r4 (rk_364 hS).2 ?_
  refine g1 (n := 1) rfl rfl rfl (li_of l1) ?_
  refine g1 (n := 1) rfl rfl rfl rfl ?_
  obtain ⟨q, h⟩ := h
  refine n_is (Nat.le_of_ble_eq_true rfl) rfl (rk_364 hS).1 (Nat.le_of_ble_eq_true rfl) q (fun M5 e r => ?_)
  replace h := h M5 e
  have r5 := r4.trans r
  refine g1 (n := 1) rfl rfl rfl (la_of a0) ?_
  refine n_gr rfl hS.1 rfl (fun _ => rfl) r5 (rk_365 hS).2 ?_
  refine g1 (n := 1) rfl rfl rfl (li_of l1) ?_
  refine g1 (n := 1) rfl rfl rfl rfl ?_
  obtain ⟨q, h⟩ := h
  refine n_is (Nat.le_of_ble_eq_true rfl) rfl (rk_365 hS).1 (Nat.le_of_ble_eq_true rfl) q (fun M6 e r => ?_)
  replace h := h M6 e
  have r6 := r5.trans r
  refine g1 (n := 1) rfl rfl rfl (la_of a0) ?_
  refine n_gr rfl hS.1 rfl (fun _ => rfl) r6 (rk_366 hS).2 ?_
  refine g1 (n := 1) rfl rfl rfl (li_of l1) ?_
  refine g1 (n := 1) rfl rfl rfl rfl ?_
  obtain ⟨q, h⟩ := h
  refine n_is (Nat.le_of_ble_eq_true rfl) rfl (rk_366 hS).1 (Nat.le_of_ble_eq_true rfl) q (fun M7 e r => ?_)
  replace h := h M7 e
  have r7 := r6.trans r
  refine g1 (n := 1) rfl rfl rfl (la_of a0) ?_
  refine n_gr rfl hS.1 rfl (fun _ => rfl) r7 (rk_367 hS).2 ?_
  refine g1 (n := 1) rfl rfl rfl (li_of l1) ?_
  refine g1 (n := 1) rfl rfl rfl rfl ?_
  obtain ⟨q, h⟩ := h
  refine n_is (Nat.le_of_ble_eq_true rfl) rfl (rk_367 hS).1 (Nat.le_of_ble_eq_true rfl) q (fun M8 e r => ?_)
  replace h := h M8 e
  have r8 := r7.trans r
  refine g1 (n := 1) rfl rfl rfl (la_of a0) ?_
  refine n_gr rfl hS.1 rfl (fun _ => rfl) r8 (rk_375 hS).2 ?_
  refine g1 (n := 1) rfl rfl rfl (la_of a0) ?_
  refine n_gi rfl hS.1 rfl (fun _ => rfl) ?_
  obtain ⟨q, h⟩ := h
  refine n_ia rfl (rk_375 hS).1 (Nat.le_of_ble_eq_true rfl) q ?_
  refine n_s1 (n := 1) rfl rfl rfl rfl (fun ls l2 ho => ?_)
  replace a0 := ho 0 _ (by decide) (fun q => by cases q.2) a0
  have l3 := ho 1 _ (by decide) (fun q => by cases q.2) l1
  refine g1 (n := 1) rfl rfl rfl (la_of a0) ?_
  refine n_gr rfl hS.1 rfl (fun _ => rfl) r8 (rk_373 hS).2 ?_
  refine g1 (n := 1) rfl rfl rfl (la_of a0) ?_
  refine n_gi rfl hS.1 rfl (fun _ => rfl) ?_
  obtain ⟨q, h⟩ := h
  refine n_ia rfl (rk_373 hS).1 (Nat.le_of_ble_eq_true rfl) q ?_
  refine n_s1 (n := 1) rfl rfl rfl rfl (fun ls l4 ho => ?_)
  replace a0 := ho 0 _ (by decide) (fun q => by cases q.2) a0
  have l5 := ho 1 _ (by decide) (fun q => by cases q.2) l3
  have l6 := ho 2 _ (by decide) (fun q => by cases q.2) l2
  refine g1 (n := 1) rfl rfl rfl (li_of l6) ?_
  refine n_if rfl (inr_gi _ _ _) (fun c => ?_) (fun c => ?_)
  · replace h := h.1 c
    refine g1 (n := 1) rfl rfl rfl (li_of l4) ?_
    refine n_if rfl (inr_gi _ _ _) (fun c => ?_) (fun c => ?_)
    · replace h := h.1 c
      refine g1 (n := 1) rfl rfl rfl (la_of a0) ?_
      refine n_gr rfl hS.1 rfl (fun _ => rfl) r8 (rk_374 hS).2 ?_
      refine g1 (n := 1) rfl rfl rfl (la_of a0) ?_
      refine n_gi rfl hS.1 rfl (fun _ => rfl) ?_
      obtain ⟨q, h⟩ := h
      refine n_ia rfl (rk_374 hS).1 (Nat.le_of_ble_eq_true rfl) q ?_
      refine n_if rfl (inr_gi _ _ _) (fun c => ?_) (fun c => ?_)
      · replace h := h.2 c
        refine g1 (n := 1) rfl rfl rfl (la_of a0) ?_
        refine n_gr rfl hS.1 rfl (fun _ => rfl) r8 (rk_366 hS).2 ?_
        refine g1 (n := 1) rfl rfl rfl (li_of l4) ?_
        refine g1 (n := 1) rfl rfl rfl (li_of l5) ?_
        obtain ⟨q, h⟩ := h
        refine n_is (Nat.le_of_ble_eq_true rfl) rfl (rk_366 hS).1 (Nat.le_of_ble_eq_true rfl) q (fun M9 e r => ?_)
        replace h := h M9 e
        have r9 := r8.trans r
        exact W_newStatement_176 hS r9 a0 l5 h
      · replace h := h.1 (Classical.not_not.mp c)
        refine g1 (n := 1) rfl rfl rfl (la_of a0) ?_
        refine n_gr rfl hS.1 rfl (fun _ => rfl) r8 (rk_365 hS).2 ?_
        refine g1 (n := 1) rfl rfl rfl (li_of l4) ?_
        refine g1 (n := 1) rfl rfl rfl (li_of l5) ?_
        obtain ⟨q, h⟩ := h
        refine n_is (Nat.le_of_ble_eq_true rfl) rfl (rk_365 hS).1 (Nat.le_of_ble_eq_true rfl) q (fun M10 e r => ?_)
        replace h := h M10 e
        have r10 := r8.trans r
        refine g3 rfl rfl rfl ?_
        exact W_newStatement_176 hS r10 a0 l5 h
    · replace h := h.2 c
      refine g1 (n := 1) rfl rfl rfl (la_of a0) ?_
      refine n_gr rfl hS.1 rfl (fun _ => rfl) r8 (rk_358 hS).2 ?_
      refine g1 (n := 1) rfl rfl rfl (la_of a0) ?_
      refine n_gi rfl hS.1 rfl (fun _ => rfl) ?_
      refine g1 (n := 1) rfl rfl rfl (li_of l5) ?_
      obtain ⟨q, h⟩ := h
      refine n_is (Nat.le_of_ble_eq_true rfl) rfl (rk_358 hS).1 (Nat.le_of_ble_eq_true rfl) q (fun M11 e r => ?_)
      replace h := h M11 e
      have r11 := r8.trans r
      refine g3 rfl rfl rfl ?_
      exact W_newStatement_176 hS r11 a0 l5 h
  · replace h := h.2 c
    refine g1 (n := 1) rfl rfl rfl (la_of a0) ?_
    refine n_gr rfl hS.1 rfl (fun _ => rfl) r8 (rk_361 hS).2 ?_
    refine g1 (n := 1) rfl rfl rfl (li_of l6) ?_
    refine g1 (n := 1) rfl rfl rfl (li_of l5) ?_
    obtain ⟨q, h⟩ := h
    refine n_is (Nat.le_of_ble_eq_true rfl) rfl (rk_361 hS).1 (Nat.le_of_ble_eq_true rfl) q (fun M12 e r => ?_)
    replace h := h M12 e
    have r12 := r8.trans r
    refine g3 rfl rfl rfl ?_
    exact W_newStatement_176 hS r12 a0 l5 h
def wm_newStatement (M : rf_M) (K : Int → rf_M → Prop) : Prop := w_newStatement  M K
theorem W_newStatement_m {fz : Bool} {S : gS} {B : rf_M} {M : rf_M} {K : Int → rf_M → Prop} (hS : rk fz S B.2.2) (hR : fq B M) (h : wm_newStatement  M K) : gx (cx0 fz) (0, 0) 144 0 (lv_args 0 [.ref 353]) [] (M, S) (vq_i B S K) :=
  W_newStatement hS hR rfl h
def w_take_23 (M : rf_M) (K : rf_M → Prop) : Prop := K M
theorem W_take_23 {fz : Bool} {S : gS} {B : rf_M} {M : rf_M} {ls : rf_L} {K : rf_M → Prop} (hS : rk fz S B.2.2) (hR : fq B M) (h : w_take_23 M K) : gx (cx0 fz) (2, 46) 145 23 ls [] (M, S) (vq_v B S K) := by
  unfold w_take_23 at h
  exact gx_ret rfl rfl ⟨M, rfl, rfl, hR, h⟩
def w_take_12 (M : rf_M) (K : rf_M → Prop) : Prop := ((gi M 353 9) = 0 → (wm_next  M (fun (M1 : rf_M) => w_take_23 M1 K))) ∧ (¬ (gi M 353 9) = 0 → (w_take_23 M K))
theorem W_take_12 {fz : Bool} {S : gS} {B : rf_M} {M : rf_M} {ls : rf_L} {K : rf_M → Prop} (hS : rk fz S B.2.2) (hR : fq B M) (a0 : rf_ld ls 0 = some (.ref 353)) (h : w_take_12 M K) : gx (cx0 fz) (2, 46) 145 12 ls [] (M, S) (vq_v B S K) := by
  unfold w_take_12 at h
  refine g1 (n := 1) rfl rfl rfl (la_of a0) ?_
  refine n_gi rfl hS.1 rfl (fun _ => rfl) ?_
  refine n_if rfl (inr_gi _ _ _) (fun c => ?_) (fun c => ?_)
  · replace h := h.2 c
    exact W_take_23 hS hR  h
  · replace h := h.1 (Classical.not_not.mp c)
    refine g1 (n := 1) rfl rfl rfl (la_of a0) ?_
    refine m_iv (a := 353) (as := []) (rest := []) rfl (by decide) hS.1 rfl rfl (Nat.le_of_ble_eq_true rfl) ⟨Nat.le_of_ble_eq_true rfl, Nat.le_of_ble_eq_true rfl, Nat.le_of_ble_eq_true rfl⟩ ?_
    refine gx_room (gx_mono (W_next_m hS hR h) ?_) (Nat.le_of_ble_eq_true rfl) (Nat.le_of_ble_eq_true rfl)
    rintro _ _ ⟨M1, rfl, rfl, r1, h⟩
    exact W_take_23 hS r1  h
def w_take (v1 : Int) (M : rf_M) (K : rf_M → Prop) : Prop := wm_isSign v1 M (fun (z1 : Int) (M1 : rf_M) => inr z1 ∧ ((z1 = 0 → (wm_misplaced  M1 (fun (M2 : rf_M) => w_take_12 M2 K))) ∧ (¬ z1 = 0 → (w_take_12 M1 K))))
theorem W_take {fz : Bool} {S : gS} {B : rf_M} {M : rf_M} {ls : rf_L} {v1 : Int} {K : rf_M → Prop} (hS : rk fz S B.2.2) (hR : fq B M) (a0 : rf_ld ls 0 = some (.ref 353)) (a1 : rf_ld ls 1 = some (zv v1)) (h : w_take v1 M K) : gx (cx0 fz) (2, 46) 145 0 ls [] (M, S) (vq_v B S K) := by
  unfold w_take at h
  refine g1 (n := 1) rfl rfl rfl (la_of a0) ?_
  refine g1 (n := 1) rfl rfl rfl (li_of a1) ?_
  refine m_iv (a := 353) (as := [zv v1]) (rest := []) rfl (by decide) hS.1 rfl rfl (Nat.le_of_ble_eq_true rfl) ⟨Nat.le_of_ble_eq_true rfl, Nat.le_of_ble_eq_true rfl, Nat.le_of_ble_eq_true rfl⟩ ?_
  refine gx_room (gx_mono (W_isSign_m hS hR h) ?_) (Nat.le_of_ble_eq_true rfl) (Nat.le_of_ble_eq_true rfl)
  rintro _ _ ⟨z1, M1, rfl, rfl, r1, h⟩
  obtain ⟨i1, h⟩ := h
  refine n_if rfl i1 (fun c => ?_) (fun c => ?_)
  · replace h := h.2 c
    exact W_take_12 hS r1 a0 h
  · replace h := h.1 (Classical.not_not.mp c)
    refine g1 (n := 1) rfl rfl rfl (la_of a0) ?_
    refine m_iv (a := 353) (as := []) (rest := []) rfl (by decide) hS.1 rfl rfl (Nat.le_of_ble_eq_true rfl) ⟨Nat.le_of_ble_eq_true rfl, Nat.le_of_ble_eq_true rfl, Nat.le_of_ble_eq_true rfl⟩ ?_
    refine gx_room (gx_mono (W_misplaced_m hS r1 h) ?_) (Nat.le_of_ble_eq_true rfl) (Nat.le_of_ble_eq_true rfl)
    rintro _ _ ⟨M2, rfl, rfl, r2, h⟩
    exact W_take_12 hS r2 a0 h
def wm_take (x0 : Int) (M : rf_M) (K : rf_M → Prop) : Prop := w_take x0 M K
theorem W_take_m {fz : Bool} {S : gS} {B : rf_M} {M : rf_M} {x0 : Int} {K : rf_M → Prop} (hS : rk fz S B.2.2) (hR : fq B M) (h : wm_take x0 M K) : gx (cx0 fz) (2, 46) 145 0 (lv_args 0 [.ref 353, zv x0]) [] (M, S) (vq_v B S K) :=
  W_take hS hR rfl rfl h
def w_act (v1 : Int) (v2 : Int) (v3 : Int64) (M : rf_M) (K : rf_M → Prop) : Prop := (0 ≤ (gi M 353 28) ∧ (gi M 353 28) < 12) ∧ ((0 ≤ (gi M 353 28) ∧ (gi M 353 28) < 12) ∧ ((0 ≤ (gi M 353 28) ∧ (gi M 353 28) < 12) ∧ (∀ M1 : rf_M, M1 = wi M 359 (gi M 353 28).toNat ((gi M 359 (gi M 353 28).toNat) + 1) → ((0 ≤ ((200 * (gi M 353 28)) + (gi M 359 (gi M 353 28).toNat)) ∧ ((200 * (gi M 353 28)) + (gi M 359 (gi M 353 28).toNat)) < 2400) ∧ (∀ M2 : rf_M, M2 = wi M1 368 ((200 * (gi M 353 28)) + (gi M 359 (gi M 353 28).toNat)).toNat v1 → ((0 ≤ ((200 * (gi M 353 28)) + (gi M 359 (gi M 353 28).toNat)) ∧ ((200 * (gi M 353 28)) + (gi M 359 (gi M 353 28).toNat)) < 2400) ∧ (∀ M3 : rf_M, M3 = wi M2 369 ((200 * (gi M 353 28)) + (gi M 359 (gi M 353 28).toNat)).toNat v2 → ((0 ≤ ((200 * (gi M 353 28)) + (gi M 359 (gi M 353 28).toNat)) ∧ ((200 * (gi M 353 28)) + (gi M 359 (gi M 353 28).toNat)) < 2400) ∧ (∀ M4 : rf_M, M4 = wl M3 370 ((200 * (gi M 353 28)) + (gi M 359 (gi M 353 28).toNat)).toNat v3 → (K M4))))))))))
theorem W_act {fz : Bool} {S : gS} {B : rf_M} {M : rf_M} {ls : rf_L} {v1 : Int} {v2 : Int} {v3 : Int64} {K : rf_M → Prop} (hS : rk fz S B.2.2) (hR : fq B M) (a0 : rf_ld ls 0 = some (.ref 353)) (a1 : rf_ld ls 1 = some (zv v1)) (a2 : rf_ld ls 2 = some (zv v2)) (a3 : rf_ld ls 3 = some (.long v3)) (h : w_act v1 v2 v3 M K) : gx (cx0 fz) (0, 0) 148 0 ls [] (M, S) (vq_v B S K) := by
  unfold w_act at h
  refine n_si rfl (by decide) ?_
  refine g1 (n := 1) rfl rfl rfl (la_of a0) ?_
  refine n_gi rfl hS.1 rfl (fun _ => rfl) ?_
  refine n_mul rfl ?_
  refine g1 (n := 1) rfl rfl rfl (la_of a0) ?_
  refine n_gr rfl hS.1 rfl (fun _ => rfl) hR (rk_359 hS).2 ?_
  refine g1 (n := 1) rfl rfl rfl (la_of a0) ?_
  refine n_gi rfl hS.1 rfl (fun _ => rfl) ?_
  obtain ⟨q, h⟩ := h
  refine n_ia rfl (rk_359 hS).1 (Nat.le_of_ble_eq_true rfl) q ?_
  refine n_add rfl ?_
  refine n_s1 (n := 2) rfl rfl rfl rfl (fun ls l1 ho => ?_)
  replace a0 := ho 0 _ (by decide) (fun q => by cases q.2) a0
  have l2 := ho 1 _ (by decide) (fun q => by cases q.2) a1
  have l3 := ho 2 _ (by decide) (fun q => by cases q.2) a2
  have l4 := ho 3 _ (by decide) (fun q => absurd q.1 (by decide)) a3
  refine g1 (n := 1) rfl rfl rfl (la_of a0) ?_
  refine n_gr rfl hS.1 rfl (fun _ => rfl) hR (rk_359 hS).2 ?_
  refine g1 (n := 1) rfl rfl rfl (la_of a0) ?_
  refine n_gi rfl hS.1 rfl (fun _ => rfl) ?_
  refine g0 rfl rfl rfl ?_
  obtain ⟨q, h⟩ := h
  refine n_ia rfl (rk_359 hS).1 (Nat.le_of_ble_eq_true rfl) q ?_
  refine g1 (n := 1) rfl rfl rfl rfl ?_
  refine n_add rfl ?_
  obtain ⟨q, h⟩ := h
  refine n_is (Nat.le_of_ble_eq_true rfl) rfl (rk_359 hS).1 (Nat.le_of_ble_eq_true rfl) q (fun M1 e r => ?_)
  replace h := h M1 e
  have r1 := hR.trans r
  refine g1 (n := 1) rfl rfl rfl (la_of a0) ?_
  refine n_gr rfl hS.1 rfl (fun _ => rfl) r1 (rk_368 hS).2 ?_
  refine g1 (n := 2) rfl rfl rfl (li_of l1) ?_
  refine g1 (n := 1) rfl rfl rfl (li_of l2) ?_
  obtain ⟨q, h⟩ := h
  refine n_is (Nat.le_of_ble_eq_true rfl) rfl (rk_368 hS).1 (Nat.le_of_ble_eq_true rfl) q (fun M2 e r => ?_)
  replace h := h M2 e
  have r2 := r1.trans r
  refine g1 (n := 1) rfl rfl rfl (la_of a0) ?_
  refine n_gr rfl hS.1 rfl (fun _ => rfl) r2 (rk_369 hS).2 ?_
  refine g1 (n := 2) rfl rfl rfl (li_of l1) ?_
  refine g1 (n := 1) rfl rfl rfl (li_of l3) ?_
  obtain ⟨q, h⟩ := h
  refine n_is (Nat.le_of_ble_eq_true rfl) rfl (rk_369 hS).1 (Nat.le_of_ble_eq_true rfl) q (fun M3 e r => ?_)
  replace h := h M3 e
  have r3 := r2.trans r
  refine g1 (n := 1) rfl rfl rfl (la_of a0) ?_
  refine n_gr rfl hS.1 rfl (fun _ => rfl) r3 (rk_370 hS).2 ?_
  refine g1 (n := 2) rfl rfl rfl (li_of l1) ?_
  refine g1 (n := 1) rfl rfl rfl (ll_of l4) ?_
  obtain ⟨q, h⟩ := h
  refine n_ls (Nat.le_of_ble_eq_true rfl) rfl (rk_370 hS).1 (Nat.le_of_ble_eq_true rfl) q (fun M4 e r => ?_)
  replace h := h M4 e
  have r4 := r3.trans r
  exact gx_ret rfl rfl ⟨M4, rfl, rfl, r4, h⟩
def wm_act (x0 : Int) (x1 : Int) (x2 : Int64) (M : rf_M) (K : rf_M → Prop) : Prop := w_act x0 x1 x2 M K
theorem W_act_m {fz : Bool} {S : gS} {B : rf_M} {M : rf_M} {x0 : Int} {x1 : Int} {x2 : Int64} {K : rf_M → Prop} (hS : rk fz S B.2.2) (hR : fq B M) (h : wm_act x0 x1 x2 M K) : gx (cx0 fz) (0, 0) 148 0 (lv_args 0 [.ref 353, zv x0, zv x1, .long x2]) [] (M, S) (vq_v B S K) :=
  W_act hS hR rfl rfl rfl rfl h
def w_operandIsThere_54 (M : rf_M) (K : rf_M → Prop) : Prop := K M
theorem W_operandIsThere_54 {fz : Bool} {S : gS} {B : rf_M} {M : rf_M} {ls : rf_L} {K : rf_M → Prop} (hS : rk fz S B.2.2) (hR : fq B M) (h : w_operandIsThere_54 M K) : gx (cx0 fz) (1, 25) 149 54 ls [] (M, S) (vq_v B S K) := by
  unfold w_operandIsThere_54 at h
  exact gx_ret rfl rfl ⟨M, rfl, rfl, hR, h⟩
def w_operandIsThere_0b (M : rf_M) (b0 : rf_M → Prop) (K : rf_M → Prop) : Prop := ((gi M 353 30) ≤ 0 → (w_operandIsThere_54 M K)) ∧ (¬ ((gi M 353 30) ≤ 0) → ((0 ≤ ((gi M 353 30) - 1) ∧ ((gi M 353 30) - 1) < 64) ∧ (((gi M 371 ((gi M 353 30) - 1).toNat) = 1000 → (∀ M1 : rf_M, M1 = wi M 353 30 ((gi M 353 30) - 1) → (∀ M2 : rf_M, M2 = wi M1 353 31 ((gi M1 353 31) - 1) → (wm_act 3 (-1) (Int64.ofNat 0) M2 (fun (M3 : rf_M) => b0 M3))))) ∧ (¬ (gi M 371 ((gi M 353 30) - 1).toNat) = 1000 → (w_operandIsThere_54 M K)))))
theorem W_operandIsThere_0b {fz : Bool} {S : gS} {B : rf_M} {M : rf_M} {ls : rf_L} {b0 : rf_M → Prop} {K : rf_M → Prop} (hS : rk fz S B.2.2) (hR : fq B M) (a0 : rf_ld ls 0 = some (.ref 353)) (hb0 : ∀ (M : rf_M) (ls : rf_L), fq B M → rf_ld ls 0 = some (.ref 353) → b0  M → gx (cx0 fz) (1, 25) 149 0 ls [] (M, S) (vq_v B S K)) (h : w_operandIsThere_0b M b0 K) : gx (cx0 fz) (1, 25) 149 0 ls [] (M, S) (vq_v B S K) := by
  unfold w_operandIsThere_0b at h
  refine g1 (n := 1) rfl rfl rfl (la_of a0) ?_
  refine n_gi rfl hS.1 rfl (fun _ => rfl) ?_
  refine n_if rfl (inr_gi _ _ _) (fun c => ?_) (fun c => ?_)
  · replace h := h.1 c
    exact W_operandIsThere_54 hS hR  h
  · replace h := h.2 c
    refine g1 (n := 1) rfl rfl rfl (la_of a0) ?_
    refine n_gr rfl hS.1 rfl (fun _ => rfl) hR (rk_371 hS).2 ?_
    refine g1 (n := 1) rfl rfl rfl (la_of a0) ?_
    refine n_gi rfl hS.1 rfl (fun _ => rfl) ?_
    refine g1 (n := 1) rfl rfl rfl rfl ?_
    refine n_sub rfl ?_
    obtain ⟨q, h⟩ := h
    refine n_ia rfl (rk_371 hS).1 (Nat.le_of_ble_eq_true rfl) q ?_
    refine n_si rfl (by decide) ?_
    refine n_ic rfl (inr_gi _ _ _) ⟨by decide, by decide⟩ (fun c => ?_) (fun c => ?_)
    · replace h := h.2 c
      exact W_operandIsThere_54 hS hR  h
    · replace h := h.1 (Classical.not_not.mp c)
      refine g1 (n := 1) rfl rfl rfl (la_of a0) ?_
      refine g0 rfl rfl rfl ?_
      refine n_gi rfl hS.1 rfl (fun _ => rfl) ?_
      refine g1 (n := 1) rfl rfl rfl rfl ?_
      refine n_sub rfl ?_
      refine n_pi (Nat.le_of_ble_eq_true rfl) rfl hS.1 rfl (fun _ _ => rfl) (fun M1 e r => ?_)
      replace h := h M1 e
      have r1 := hR.trans r
      refine g1 (n := 1) rfl rfl rfl (la_of a0) ?_
      refine g0 rfl rfl rfl ?_
      refine n_gi rfl hS.1 rfl (fun _ => rfl) ?_
      refine g1 (n := 1) rfl rfl rfl rfl ?_
      refine n_sub rfl ?_
      refine n_pi (Nat.le_of_ble_eq_true rfl) rfl hS.1 rfl (fun _ _ => rfl) (fun M2 e r => ?_)
      replace h := h M2 e
      have r2 := r1.trans r
      refine g1 (n := 1) rfl rfl rfl (la_of a0) ?_
      refine g1 (n := 1) rfl rfl rfl rfl ?_
      refine g1 (n := 1) rfl rfl rfl rfl ?_
      refine g1 (n := 1) rfl rfl rfl rfl ?_
      refine m_iv (a := 353) (as := [zv 3, zv (-1), .long (Int64.ofNat 0)]) (rest := []) rfl (by decide) hS.1 rfl rfl (Nat.le_of_ble_eq_true rfl) ⟨Nat.le_of_ble_eq_true rfl, Nat.le_of_ble_eq_true rfl, Nat.le_of_ble_eq_true rfl⟩ ?_
      refine gx_room (gx_mono (W_act_m hS r2 h) ?_) (Nat.le_of_ble_eq_true rfl) (Nat.le_of_ble_eq_true rfl)
      rintro _ _ ⟨M3, rfl, rfl, r3, h⟩
      refine g3 rfl rfl rfl ?_
      exact hb0 _ _ r3 a0 h
def w_operandIsThere_0 (M : rf_M) (K : rf_M → Prop) : Prop := ∃ Inv : Nat → rf_M → Prop, (∃ m, Inv m M) ∧ ∀ (m : Nat) (M : rf_M), Inv m M → w_operandIsThere_0b M (fun (M' : rf_M) => ∃ m', m' < m ∧ Inv m' M') K
theorem W_operandIsThere_0 {fz : Bool} {S : gS} {B : rf_M} {M : rf_M} {ls : rf_L} {K : rf_M → Prop} (hS : rk fz S B.2.2) (hR : fq B M) (a0 : rf_ld ls 0 = some (.ref 353)) (h : w_operandIsThere_0 M K) : gx (cx0 fz) (1, 25) 149 0 ls [] (M, S) (vq_v B S K) := by
  obtain ⟨Inv, ⟨m, hm⟩, hb⟩ := h
  induction m using Nat.strongRecOn generalizing ls M with
  | _ m ih =>
    refine W_operandIsThere_0b hS hR a0 (fun M' ls' hR' f0 ⟨m', q1, q2⟩ => ih m' q1 hR' f0 q2) (hb m M hm)
def wm_operandIsThere (M : rf_M) (K : rf_M → Prop) : Prop := w_operandIsThere_0  M K
theorem W_operandIsThere_m {fz : Bool} {S : gS} {B : rf_M} {M : rf_M} {K : rf_M → Prop} (hS : rk fz S B.2.2) (hR : fq B M) (h : wm_operandIsThere  M K) : gx (cx0 fz) (1, 25) 149 0 (lv_args 0 [.ref 353]) [] (M, S) (vq_v B S K) :=
  W_operandIsThere_0 hS hR rfl h
def w_readUnary_94 (M : rf_M) (K : Int → rf_M → Prop) : Prop := wm_misplaced  M (fun (M1 : rf_M) => K 0 M1)
theorem W_readUnary_94 {fz : Bool} {S : gS} {B : rf_M} {M : rf_M} {ls : rf_L} {K : Int → rf_M → Prop} (hS : rk fz S B.2.2) (hR : fq B M) (a0 : rf_ld ls 0 = some (.ref 353)) (h : w_readUnary_94 M K) : gx (cx0 fz) (2, 46) 147 94 ls [] (M, S) (vq_i B S K) := by
  unfold w_readUnary_94 at h
  refine g1 (n := 1) rfl rfl rfl (la_of a0) ?_
  refine m_iv (a := 353) (as := []) (rest := []) rfl (by decide) hS.1 rfl rfl (Nat.le_of_ble_eq_true rfl) ⟨Nat.le_of_ble_eq_true rfl, Nat.le_of_ble_eq_true rfl, Nat.le_of_ble_eq_true rfl⟩ ?_
  refine gx_room (gx_mono (W_misplaced_m hS hR h) ?_) (Nat.le_of_ble_eq_true rfl) (Nat.le_of_ble_eq_true rfl)
  rintro _ _ ⟨M1, rfl, rfl, r1, h⟩
  refine g1 (n := 1) rfl rfl rfl rfl ?_
  exact n_rb rfl rfl (Or.inl rfl) r1 h
def w_readUnary_192 (M : rf_M) (K : Int → rf_M → Prop) : Prop := wm_next  M (fun (M1 : rf_M) => K 1 M1)
theorem W_readUnary_192 {fz : Bool} {S : gS} {B : rf_M} {M : rf_M} {ls : rf_L} {K : Int → rf_M → Prop} (hS : rk fz S B.2.2) (hR : fq B M) (a0 : rf_ld ls 0 = some (.ref 353)) (h : w_readUnary_192 M K) : gx (cx0 fz) (2, 46) 147 192 ls [] (M, S) (vq_i B S K) := by
  unfold w_readUnary_192 at h
  refine g1 (n := 1) rfl rfl rfl (la_of a0) ?_
  refine m_iv (a := 353) (as := []) (rest := []) rfl (by decide) hS.1 rfl rfl (Nat.le_of_ble_eq_true rfl) ⟨Nat.le_of_ble_eq_true rfl, Nat.le_of_ble_eq_true rfl, Nat.le_of_ble_eq_true rfl⟩ ?_
  refine gx_room (gx_mono (W_next_m hS hR h) ?_) (Nat.le_of_ble_eq_true rfl) (Nat.le_of_ble_eq_true rfl)
  rintro _ _ ⟨M1, rfl, rfl, r1, h⟩
  refine g1 (n := 1) rfl rfl rfl rfl ?_
  exact n_rb rfl rfl (Or.inr rfl) r1 h
def w_readUnary_152 (s1 : Int) (s2 : Int) (M : rf_M) (K : Int → rf_M → Prop) : Prop := (0 ≤ s1 ∧ s1 < 64) ∧ (∀ M1 : rf_M, M1 = wi M 371 (s1).toNat s2 → (∀ M2 : rf_M, M2 = wi M1 353 30 ((gi M1 353 30) + 1) → (wm_isSign 40 M2 (fun (z3 : Int) (M3 : rf_M) => inr z3 ∧ ((z3 = 0 → (w_readUnary_192 M3 K)) ∧ (¬ (z3 = 0) → (∀ M4 : rf_M, M4 = wi M3 353 33 ((gi M3 353 33) + 1) → ((0 ≤ (gi M4 353 33) ∧ (gi M4 353 33) < 16) ∧ (∀ M5 : rf_M, M5 = wi M4 372 (gi M4 353 33).toNat (Int32.ofInt 0 &&& 1).toInt → (w_readUnary_192 M5 K))))))))))
theorem W_readUnary_152 {fz : Bool} {S : gS} {B : rf_M} {M : rf_M} {ls : rf_L} {s1 : Int} {s2 : Int} {K : Int → rf_M → Prop} (hS : rk fz S B.2.2) (hR : fq B M) (a0 : rf_ld ls 0 = some (.ref 353)) (h : w_readUnary_152 s1 s2 M K) : gx (cx0 fz) (2, 46) 147 152 ls [zv s2, zv s1, .ref 371] (M, S) (vq_i B S K) := by
  unfold w_readUnary_152 at h
  obtain ⟨q, h⟩ := h
  refine n_is (Nat.le_of_ble_eq_true rfl) rfl (rk_371 hS).1 (Nat.le_of_ble_eq_true rfl) q (fun M1 e r => ?_)
  replace h := h M1 e
  have r1 := hR.trans r
  refine g1 (n := 1) rfl rfl rfl (la_of a0) ?_
  refine g0 rfl rfl rfl ?_
  refine n_gi rfl hS.1 rfl (fun _ => rfl) ?_
  refine g1 (n := 1) rfl rfl rfl rfl ?_
  refine n_add rfl ?_
  refine n_pi (Nat.le_of_ble_eq_true rfl) rfl hS.1 rfl (fun _ _ => rfl) (fun M2 e r => ?_)
  replace h := h M2 e
  have r2 := r1.trans r
  refine g1 (n := 1) rfl rfl rfl (la_of a0) ?_
  refine n_bi rfl (by decide) ?_
  refine m_iv (a := 353) (as := [zv 40]) (rest := []) rfl (by decide) hS.1 rfl rfl (Nat.le_of_ble_eq_true rfl) ⟨Nat.le_of_ble_eq_true rfl, Nat.le_of_ble_eq_true rfl, Nat.le_of_ble_eq_true rfl⟩ ?_
  refine gx_room (gx_mono (W_isSign_m hS r2 h) ?_) (Nat.le_of_ble_eq_true rfl) (Nat.le_of_ble_eq_true rfl)
  rintro _ _ ⟨z3, M3, rfl, rfl, r3, h⟩
  obtain ⟨i1, h⟩ := h
  refine n_if rfl i1 (fun c => ?_) (fun c => ?_)
  · replace h := h.1 c
    exact W_readUnary_192 hS r3 a0 h
  · replace h := h.2 c
    refine g1 (n := 1) rfl rfl rfl (la_of a0) ?_
    refine g0 rfl rfl rfl ?_
    refine n_gi rfl hS.1 rfl (fun _ => rfl) ?_
    refine g1 (n := 1) rfl rfl rfl rfl ?_
    refine n_add rfl ?_
    refine n_pi (Nat.le_of_ble_eq_true rfl) rfl hS.1 rfl (fun _ _ => rfl) (fun M4 e r => ?_)
    replace h := h M4 e
    have r4 := r3.trans r
    refine g1 (n := 1) rfl rfl rfl (la_of a0) ?_
    refine n_gr rfl hS.1 rfl (fun _ => rfl) r4 (rk_372 hS).2 ?_
    refine g1 (n := 1) rfl rfl rfl (la_of a0) ?_
    refine n_gi rfl hS.1 rfl (fun _ => rfl) ?_
    refine g1 (n := 1) rfl rfl rfl rfl ?_
    obtain ⟨q, h⟩ := h
    refine n_zs (Nat.le_of_ble_eq_true rfl) rfl (rk_372 hS).1 (Nat.le_of_ble_eq_true rfl) q (fun M5 e r => ?_)
    replace h := h M5 e
    have r5 := r4.trans r
    exact W_readUnary_192 hS r5 a0 h
def w_readUnary_244 (s1 : Int) (s2 : Int) (s3 : Int64) (M : rf_M) (K : Int → rf_M → Prop) : Prop := wm_act s1 s2 s3 M (fun (M1 : rf_M) => wm_next  M1 (fun (M2 : rf_M) => wm_operandIsThere  M2 (fun (M3 : rf_M) => K 0 M3)))
theorem W_readUnary_244 {fz : Bool} {S : gS} {B : rf_M} {M : rf_M} {ls : rf_L} {s1 : Int} {s2 : Int} {s3 : Int64} {K : Int → rf_M → Prop} (hS : rk fz S B.2.2) (hR : fq B M) (a0 : rf_ld ls 0 = some (.ref 353)) (h : w_readUnary_244 s1 s2 s3 M K) : gx (cx0 fz) (2, 46) 147 244 ls [.long s3, zv s2, zv s1, .ref 353] (M, S) (vq_i B S K) := by
  unfold w_readUnary_244 at h
  refine m_iv (a := 353) (as := [zv s1, zv s2, .long s3]) (rest := []) rfl (by decide) hS.1 rfl rfl (Nat.le_of_ble_eq_true rfl) ⟨Nat.le_of_ble_eq_true rfl, Nat.le_of_ble_eq_true rfl, Nat.le_of_ble_eq_true rfl⟩ ?_
  refine gx_room (gx_mono (W_act_m hS hR h) ?_) (Nat.le_of_ble_eq_true rfl) (Nat.le_of_ble_eq_true rfl)
  rintro _ _ ⟨M1, rfl, rfl, r1, h⟩
  refine g1 (n := 1) rfl rfl rfl (la_of a0) ?_
  refine m_iv (a := 353) (as := []) (rest := []) rfl (by decide) hS.1 rfl rfl (Nat.le_of_ble_eq_true rfl) ⟨Nat.le_of_ble_eq_true rfl, Nat.le_of_ble_eq_true rfl, Nat.le_of_ble_eq_true rfl⟩ ?_
  refine gx_room (gx_mono (W_next_m hS r1 h) ?_) (Nat.le_of_ble_eq_true rfl) (Nat.le_of_ble_eq_true rfl)
  rintro _ _ ⟨M2, rfl, rfl, r2, h⟩
  refine g1 (n := 1) rfl rfl rfl (la_of a0) ?_
  refine m_iv (a := 353) (as := []) (rest := []) rfl (by decide) hS.1 rfl rfl (Nat.le_of_ble_eq_true rfl) ⟨Nat.le_of_ble_eq_true rfl, Nat.le_of_ble_eq_true rfl, Nat.le_of_ble_eq_true rfl⟩ ?_
  refine gx_room (gx_mono (W_operandIsThere_m hS r2 h) ?_) (Nat.le_of_ble_eq_true rfl) (Nat.le_of_ble_eq_true rfl)
  rintro _ _ ⟨M3, rfl, rfl, r3, h⟩
  refine g1 (n := 1) rfl rfl rfl rfl ?_
  exact n_rb rfl rfl (Or.inl rfl) r3 h
def w_readUnary_228 (s1 : Int) (s2 : Int) (M : rf_M) (K : Int → rf_M → Prop) : Prop := ((gi M 353 4) = 3 → (w_readUnary_244 s1 s2 (gl M 353 7) M K)) ∧ (¬ (gi M 353 4) = 3 → (w_readUnary_244 s1 s2 (Int64.ofNat 0) M K))
theorem W_readUnary_228 {fz : Bool} {S : gS} {B : rf_M} {M : rf_M} {ls : rf_L} {s1 : Int} {s2 : Int} {K : Int → rf_M → Prop} (hS : rk fz S B.2.2) (hR : fq B M) (a0 : rf_ld ls 0 = some (.ref 353)) (h : w_readUnary_228 s1 s2 M K) : gx (cx0 fz) (2, 46) 147 228 ls [zv s2, zv s1, .ref 353] (M, S) (vq_i B S K) := by
  unfold w_readUnary_228 at h
  refine g1 (n := 1) rfl rfl rfl (la_of a0) ?_
  refine n_gi rfl hS.1 rfl (fun _ => rfl) ?_
  refine g1 (n := 1) rfl rfl rfl rfl ?_
  refine n_ic rfl (inr_gi _ _ _) ⟨by decide, by decide⟩ (fun c => ?_) (fun c => ?_)
  · replace h := h.2 c
    refine g1 (n := 1) rfl rfl rfl rfl ?_
    exact W_readUnary_244 hS hR a0 h
  · replace h := h.1 (Classical.not_not.mp c)
    refine g1 (n := 1) rfl rfl rfl (la_of a0) ?_
    refine n_gl rfl hS.1 rfl (fun _ => rfl) ?_
    refine g3 rfl rfl rfl ?_
    exact W_readUnary_244 hS hR a0 h
def w_readUnary_212 (s1 : Int) (M : rf_M) (K : Int → rf_M → Prop) : Prop := ((gi M 353 4) = 2 → (w_readUnary_228 s1 (gi M 353 6) M K)) ∧ (¬ (gi M 353 4) = 2 → (w_readUnary_228 s1 (-1) M K))
theorem W_readUnary_212 {fz : Bool} {S : gS} {B : rf_M} {M : rf_M} {ls : rf_L} {s1 : Int} {K : Int → rf_M → Prop} (hS : rk fz S B.2.2) (hR : fq B M) (a0 : rf_ld ls 0 = some (.ref 353)) (h : w_readUnary_212 s1 M K) : gx (cx0 fz) (2, 46) 147 212 ls [zv s1, .ref 353] (M, S) (vq_i B S K) := by
  unfold w_readUnary_212 at h
  refine g1 (n := 1) rfl rfl rfl (la_of a0) ?_
  refine n_gi rfl hS.1 rfl (fun _ => rfl) ?_
  refine g1 (n := 1) rfl rfl rfl rfl ?_
  refine n_ic rfl (inr_gi _ _ _) ⟨by decide, by decide⟩ (fun c => ?_) (fun c => ?_)
  · replace h := h.2 c
    refine g1 (n := 1) rfl rfl rfl rfl ?_
    exact W_readUnary_228 hS hR a0 h
  · replace h := h.1 (Classical.not_not.mp c)
    refine g1 (n := 1) rfl rfl rfl (la_of a0) ?_
    refine n_gi rfl hS.1 rfl (fun _ => rfl) ?_
    refine g3 rfl rfl rfl ?_
    exact W_readUnary_228 hS hR a0 h
def w_readUnary_100 (v2 : Int) (M : rf_M) (K : Int → rf_M → Prop) : Prop := (0 ≤ (gi M 353 28) ∧ (gi M 353 28) < 12) ∧ ((0 ≤ (gi M 353 28) ∧ (gi M 353 28) < 12) ∧ (∀ M1 : rf_M, M1 = wi M 356 (gi M 353 28).toNat ((gi M 356 (gi M 353 28).toNat) + 1) → (inr v2 ∧ ((v2 = 0 → (((gi M1 353 4) = 3 → (w_readUnary_212 1 M1 K)) ∧ (¬ (gi M1 353 4) = 3 → (w_readUnary_212 2 M1 K)))) ∧ (¬ (v2 = 0) → (∀ M2 : rf_M, M2 = wi M1 353 31 ((gi M1 353 31) + 1) → (wm_isSign 40 M2 (fun (z3 : Int) (M3 : rf_M) => inr z3 ∧ ((z3 = 0 → (w_readUnary_152 (gi M2 353 30) 1000 M3 K)) ∧ (¬ (z3 = 0) → (w_readUnary_152 (gi M2 353 30) 40 M3 K)))))))))))
theorem W_readUnary_100 {fz : Bool} {S : gS} {B : rf_M} {M : rf_M} {ls : rf_L} {v2 : Int} {K : Int → rf_M → Prop} (hS : rk fz S B.2.2) (hR : fq B M) (a0 : rf_ld ls 0 = some (.ref 353)) (a2 : rf_ld ls 2 = some (zv v2)) (h : w_readUnary_100 v2 M K) : gx (cx0 fz) (2, 46) 147 100 ls [] (M, S) (vq_i B S K) := by
  unfold w_readUnary_100 at h
  refine g1 (n := 1) rfl rfl rfl (la_of a0) ?_
  refine n_gr rfl hS.1 rfl (fun _ => rfl) hR (rk_356 hS).2 ?_
  refine g1 (n := 1) rfl rfl rfl (la_of a0) ?_
  refine n_gi rfl hS.1 rfl (fun _ => rfl) ?_
  refine g0 rfl rfl rfl ?_
  obtain ⟨q, h⟩ := h
  refine n_ia rfl (rk_356 hS).1 (Nat.le_of_ble_eq_true rfl) q ?_
  refine g1 (n := 1) rfl rfl rfl rfl ?_
  refine n_add rfl ?_
  obtain ⟨q, h⟩ := h
  refine n_is (Nat.le_of_ble_eq_true rfl) rfl (rk_356 hS).1 (Nat.le_of_ble_eq_true rfl) q (fun M1 e r => ?_)
  replace h := h M1 e
  have r1 := hR.trans r
  refine g1 (n := 1) rfl rfl rfl (li_of a2) ?_
  obtain ⟨i1, h⟩ := h
  refine n_if rfl i1 (fun c => ?_) (fun c => ?_)
  · replace h := h.1 c
    refine g1 (n := 1) rfl rfl rfl (la_of a0) ?_
    refine g1 (n := 1) rfl rfl rfl (la_of a0) ?_
    refine n_gi rfl hS.1 rfl (fun _ => rfl) ?_
    refine g1 (n := 1) rfl rfl rfl rfl ?_
    refine n_ic rfl (inr_gi _ _ _) ⟨by decide, by decide⟩ (fun c => ?_) (fun c => ?_)
    · replace h := h.2 c
      refine g1 (n := 1) rfl rfl rfl rfl ?_
      exact W_readUnary_212 hS r1 a0 h
    · replace h := h.1 (Classical.not_not.mp c)
      refine g1 (n := 1) rfl rfl rfl rfl ?_
      refine g3 rfl rfl rfl ?_
      exact W_readUnary_212 hS r1 a0 h
  · replace h := h.2 c
    refine g1 (n := 1) rfl rfl rfl (la_of a0) ?_
    refine g0 rfl rfl rfl ?_
    refine n_gi rfl hS.1 rfl (fun _ => rfl) ?_
    refine g1 (n := 1) rfl rfl rfl rfl ?_
    refine n_add rfl ?_
    refine n_pi (Nat.le_of_ble_eq_true rfl) rfl hS.1 rfl (fun _ _ => rfl) (fun M2 e r => ?_)
    replace h := h M2 e
    have r2 := r1.trans r
    refine g1 (n := 1) rfl rfl rfl (la_of a0) ?_
    refine n_gr rfl hS.1 rfl (fun _ => rfl) r2 (rk_371 hS).2 ?_
    refine g1 (n := 1) rfl rfl rfl (la_of a0) ?_
    refine n_gi rfl hS.1 rfl (fun _ => rfl) ?_
    refine g1 (n := 1) rfl rfl rfl (la_of a0) ?_
    refine n_bi rfl (by decide) ?_
    refine m_iv (a := 353) (as := [zv 40]) (rest := [zv (gi M2 353 30), .ref 371]) rfl (by decide) hS.1 rfl rfl (Nat.le_of_ble_eq_true rfl) ⟨Nat.le_of_ble_eq_true rfl, Nat.le_of_ble_eq_true rfl, Nat.le_of_ble_eq_true rfl⟩ ?_
    refine gx_room (gx_mono (W_isSign_m hS r2 h) ?_) (Nat.le_of_ble_eq_true rfl) (Nat.le_of_ble_eq_true rfl)
    rintro _ _ ⟨z3, M3, rfl, rfl, r3, h⟩
    obtain ⟨i2, h⟩ := h
    refine n_if rfl i2 (fun c => ?_) (fun c => ?_)
    · replace h := h.1 c
      refine n_si rfl (by decide) ?_
      exact W_readUnary_152 hS r3 a0 h
    · replace h := h.2 c
      refine n_bi rfl (by decide) ?_
      refine g3 rfl rfl rfl ?_
      exact W_readUnary_152 hS r3 a0 h
def w_readUnary_62 (v2 : Int) (s0 : Int) (M : rf_M) (K : Int → rf_M → Prop) : Prop := inr s0 ∧ ((s0 = 0 → (w_readUnary_94 M K)) ∧ (¬ (s0 = 0) → ((0 ≤ (gi M 353 28) ∧ (gi M 353 28) < 12) ∧ (((gi M 356 (gi M 353 28).toNat) = 60 → (w_readUnary_94 M K)) ∧ (¬ ((gi M 356 (gi M 353 28).toNat) = 60) → (inr v2 ∧ ((v2 = 0 → (w_readUnary_100 v2 M K)) ∧ (¬ (v2 = 0) → (((gi M 353 31) = 8 → (w_readUnary_94 M K)) ∧ (¬ (gi M 353 31) = 8 → (w_readUnary_100 v2 M K)))))))))))
theorem W_readUnary_62 {fz : Bool} {S : gS} {B : rf_M} {M : rf_M} {ls : rf_L} {v2 : Int} {s0 : Int} {K : Int → rf_M → Prop} (hS : rk fz S B.2.2) (hR : fq B M) (a0 : rf_ld ls 0 = some (.ref 353)) (a2 : rf_ld ls 2 = some (zv v2)) (h : w_readUnary_62 v2 s0 M K) : gx (cx0 fz) (2, 46) 147 62 ls [zv s0] (M, S) (vq_i B S K) := by
  unfold w_readUnary_62 at h
  refine n_s1 (n := 1) rfl rfl rfl rfl (fun ls l1 ho => ?_)
  replace a0 := ho 0 _ (by decide) (fun q => by cases q.2) a0
  have l2 := ho 2 _ (by decide) (fun q => by cases q.2) a2
  refine g1 (n := 1) rfl rfl rfl (li_of l1) ?_
  obtain ⟨i1, h⟩ := h
  refine n_if rfl i1 (fun c => ?_) (fun c => ?_)
  · replace h := h.1 c
    exact W_readUnary_94 hS hR a0 h
  · replace h := h.2 c
    refine g1 (n := 1) rfl rfl rfl (la_of a0) ?_
    refine n_gr rfl hS.1 rfl (fun _ => rfl) hR (rk_356 hS).2 ?_
    refine g1 (n := 1) rfl rfl rfl (la_of a0) ?_
    refine n_gi rfl hS.1 rfl (fun _ => rfl) ?_
    obtain ⟨q, h⟩ := h
    refine n_ia rfl (rk_356 hS).1 (Nat.le_of_ble_eq_true rfl) q ?_
    refine n_bi rfl (by decide) ?_
    refine n_ic rfl (inr_gi _ _ _) ⟨by decide, by decide⟩ (fun c => ?_) (fun c => ?_)
    · replace h := h.1 c
      exact W_readUnary_94 hS hR a0 h
    · replace h := h.2 c
      refine g1 (n := 1) rfl rfl rfl (li_of l2) ?_
      obtain ⟨i2, h⟩ := h
      refine n_if rfl i2 (fun c => ?_) (fun c => ?_)
      · replace h := h.1 c
        exact W_readUnary_100 hS hR a0 l2 h
      · replace h := h.2 c
        refine g1 (n := 1) rfl rfl rfl (la_of a0) ?_
        refine n_gi rfl hS.1 rfl (fun _ => rfl) ?_
        refine n_bi rfl (by decide) ?_
        refine n_ic rfl (inr_gi _ _ _) ⟨by decide, by decide⟩ (fun c => ?_) (fun c => ?_)
        · replace h := h.2 c
          exact W_readUnary_100 hS hR a0 l2 h
        · replace h := h.1 (Classical.not_not.mp c)
          exact W_readUnary_94 hS hR a0 h
def w_readUnary_57 (v2 : Int) (M : rf_M) (K : Int → rf_M → Prop) : Prop := w_readUnary_62 v2 1 M K
theorem W_readUnary_57 {fz : Bool} {S : gS} {B : rf_M} {M : rf_M} {ls : rf_L} {v2 : Int} {K : Int → rf_M → Prop} (hS : rk fz S B.2.2) (hR : fq B M) (a0 : rf_ld ls 0 = some (.ref 353)) (a2 : rf_ld ls 2 = some (zv v2)) (h : w_readUnary_57 v2 M K) : gx (cx0 fz) (2, 46) 147 57 ls [] (M, S) (vq_i B S K) := by
  unfold w_readUnary_57 at h
  refine g1 (n := 1) rfl rfl rfl rfl ?_
  refine g3 rfl rfl rfl ?_
  exact W_readUnary_62 hS hR a0 a2 h
def w_readUnary_61 (v2 : Int) (M : rf_M) (K : Int → rf_M → Prop) : Prop := w_readUnary_62 v2 0 M K
theorem W_readUnary_61 {fz : Bool} {S : gS} {B : rf_M} {M : rf_M} {ls : rf_L} {v2 : Int} {K : Int → rf_M → Prop} (hS : rk fz S B.2.2) (hR : fq B M) (a0 : rf_ld ls 0 = some (.ref 353)) (a2 : rf_ld ls 2 = some (zv v2)) (h : w_readUnary_61 v2 M K) : gx (cx0 fz) (2, 46) 147 61 ls [] (M, S) (vq_i B S K) := by
  unfold w_readUnary_61 at h
  refine g1 (n := 1) rfl rfl rfl rfl ?_
  exact W_readUnary_62 hS hR a0 a2 h
def w_readUnary_23 (v1 : Int) (s0 : Int) (M : rf_M) (K : Int → rf_M → Prop) : Prop := inr s0 ∧ ((s0 = 0 → (((gi M 353 4) = 3 → (w_readUnary_57 s0 M K)) ∧ (¬ ((gi M 353 4) = 3) → (((gi M 353 4) = 2 → (inr v1 ∧ ((v1 = 0 → (w_readUnary_57 s0 M K)) ∧ (¬ (v1 = 0) → ((16 ≤ (gi M 353 6) → (w_readUnary_61 s0 M K)) ∧ (¬ (16 ≤ (gi M 353 6)) → (w_readUnary_57 s0 M K))))))) ∧ (¬ (gi M 353 4) = 2 → (w_readUnary_61 s0 M K)))))) ∧ (¬ s0 = 0 → (w_readUnary_57 s0 M K)))
theorem W_readUnary_23 {fz : Bool} {S : gS} {B : rf_M} {M : rf_M} {ls : rf_L} {v1 : Int} {s0 : Int} {K : Int → rf_M → Prop} (hS : rk fz S B.2.2) (hR : fq B M) (a0 : rf_ld ls 0 = some (.ref 353)) (a1 : rf_ld ls 1 = some (zv v1)) (h : w_readUnary_23 v1 s0 M K) : gx (cx0 fz) (2, 46) 147 23 ls [zv s0] (M, S) (vq_i B S K) := by
  unfold w_readUnary_23 at h
  refine n_s1 (n := 1) rfl rfl rfl rfl (fun ls l1 ho => ?_)
  replace a0 := ho 0 _ (by decide) (fun q => by cases q.2) a0
  have l2 := ho 1 _ (by decide) (fun q => by cases q.2) a1
  refine g1 (n := 1) rfl rfl rfl (li_of l1) ?_
  obtain ⟨i1, h⟩ := h
  refine n_if rfl i1 (fun c => ?_) (fun c => ?_)
  · replace h := h.2 c
    exact W_readUnary_57 hS hR a0 l1 h
  · replace h := h.1 (Classical.not_not.mp c)
    refine g1 (n := 1) rfl rfl rfl (la_of a0) ?_
    refine n_gi rfl hS.1 rfl (fun _ => rfl) ?_
    refine g1 (n := 1) rfl rfl rfl rfl ?_
    refine n_ic rfl (inr_gi _ _ _) ⟨by decide, by decide⟩ (fun c => ?_) (fun c => ?_)
    · replace h := h.1 c
      exact W_readUnary_57 hS hR a0 l1 h
    · replace h := h.2 c
      refine g1 (n := 1) rfl rfl rfl (la_of a0) ?_
      refine n_gi rfl hS.1 rfl (fun _ => rfl) ?_
      refine g1 (n := 1) rfl rfl rfl rfl ?_
      refine n_ic rfl (inr_gi _ _ _) ⟨by decide, by decide⟩ (fun c => ?_) (fun c => ?_)
      · replace h := h.2 c
        exact W_readUnary_61 hS hR a0 l1 h
      · replace h := h.1 (Classical.not_not.mp c)
        refine g1 (n := 1) rfl rfl rfl (li_of l2) ?_
        obtain ⟨i2, h⟩ := h
        refine n_if rfl i2 (fun c => ?_) (fun c => ?_)
        · replace h := h.1 c
          exact W_readUnary_57 hS hR a0 l1 h
        · replace h := h.2 c
          refine g1 (n := 1) rfl rfl rfl (la_of a0) ?_
          refine n_gi rfl hS.1 rfl (fun _ => rfl) ?_
          refine n_bi rfl (by decide) ?_
          refine n_ic rfl (inr_gi _ _ _) ⟨by decide, by decide⟩ (fun c => ?_) (fun c => ?_)
          · replace h := h.1 c
            exact W_readUnary_61 hS hR a0 l1 h
          · replace h := h.2 c
            exact W_readUnary_57 hS hR a0 l1 h
def w_readUnary_18 (v1 : Int) (M : rf_M) (K : Int → rf_M → Prop) : Prop := w_readUnary_23 v1 1 M K
theorem W_readUnary_18 {fz : Bool} {S : gS} {B : rf_M} {M : rf_M} {ls : rf_L} {v1 : Int} {K : Int → rf_M → Prop} (hS : rk fz S B.2.2) (hR : fq B M) (a0 : rf_ld ls 0 = some (.ref 353)) (a1 : rf_ld ls 1 = some (zv v1)) (h : w_readUnary_18 v1 M K) : gx (cx0 fz) (2, 46) 147 18 ls [] (M, S) (vq_i B S K) := by
  unfold w_readUnary_18 at h
  refine g1 (n := 1) rfl rfl rfl rfl ?_
  refine g3 rfl rfl rfl ?_
  exact W_readUnary_23 hS hR a0 a1 h
def w_readUnary (v1 : Int) (M : rf_M) (K : Int → rf_M → Prop) : Prop := wm_isSign 45 M (fun (z1 : Int) (M1 : rf_M) => inr z1 ∧ ((z1 = 0 → (wm_isSign 40 M1 (fun (z2 : Int) (M2 : rf_M) => inr z2 ∧ ((z2 = 0 → (w_readUnary_23 v1 0 M2 K)) ∧ (¬ (z2 = 0) → (w_readUnary_18 v1 M2 K)))))) ∧ (¬ z1 = 0 → (w_readUnary_18 v1 M1 K))))
theorem W_readUnary {fz : Bool} {S : gS} {B : rf_M} {M : rf_M} {ls : rf_L} {v1 : Int} {K : Int → rf_M → Prop} (hS : rk fz S B.2.2) (hR : fq B M) (a0 : rf_ld ls 0 = some (.ref 353)) (a1 : rf_ld ls 1 = some (zv v1)) (h : w_readUnary v1 M K) : gx (cx0 fz) (2, 46) 147 0 ls [] (M, S) (vq_i B S K) := by
  unfold w_readUnary at h
  refine g1 (n := 1) rfl rfl rfl (la_of a0) ?_
  refine n_bi rfl (by decide) ?_
  refine m_iv (a := 353) (as := [zv 45]) (rest := []) rfl (by decide) hS.1 rfl rfl (Nat.le_of_ble_eq_true rfl) ⟨Nat.le_of_ble_eq_true rfl, Nat.le_of_ble_eq_true rfl, Nat.le_of_ble_eq_true rfl⟩ ?_
  refine gx_room (gx_mono (W_isSign_m hS hR h) ?_) (Nat.le_of_ble_eq_true rfl) (Nat.le_of_ble_eq_true rfl)
  rintro _ _ ⟨z1, M1, rfl, rfl, r1, h⟩
  obtain ⟨i1, h⟩ := h
  refine n_if rfl i1 (fun c => ?_) (fun c => ?_)
  · replace h := h.2 c
    exact W_readUnary_18 hS r1 a0 a1 h
  · replace h := h.1 (Classical.not_not.mp c)
    refine g1 (n := 1) rfl rfl rfl (la_of a0) ?_
    refine n_bi rfl (by decide) ?_
    refine m_iv (a := 353) (as := [zv 40]) (rest := []) rfl (by decide) hS.1 rfl rfl (Nat.le_of_ble_eq_true rfl) ⟨Nat.le_of_ble_eq_true rfl, Nat.le_of_ble_eq_true rfl, Nat.le_of_ble_eq_true rfl⟩ ?_
    refine gx_room (gx_mono (W_isSign_m hS r1 h) ?_) (Nat.le_of_ble_eq_true rfl) (Nat.le_of_ble_eq_true rfl)
    rintro _ _ ⟨z2, M2, rfl, rfl, r2, h⟩
    obtain ⟨i2, h⟩ := h
    refine n_if rfl i2 (fun c => ?_) (fun c => ?_)
    · replace h := h.1 c
      refine g1 (n := 1) rfl rfl rfl rfl ?_
      exact W_readUnary_23 hS r2 a0 a1 h
    · replace h := h.2 c
      exact W_readUnary_18 hS r2 a0 a1 h
def wm_readUnary (x0 : Int) (M : rf_M) (K : Int → rf_M → Prop) : Prop := w_readUnary x0 M K
theorem W_readUnary_m {fz : Bool} {S : gS} {B : rf_M} {M : rf_M} {x0 : Int} {K : Int → rf_M → Prop} (hS : rk fz S B.2.2) (hR : fq B M) (h : wm_readUnary x0 M K) : gx (cx0 fz) (2, 46) 147 0 (lv_args 0 [.ref 353, zv x0]) [] (M, S) (vq_i B S K) :=
  W_readUnary hS hR rfl rfl h
def w_strength_61 (s0 : Int) (M : rf_M) (K : Int → rf_M → Prop) : Prop := K s0 M
theorem W_strength_61 {fz : Bool} {S : gS} {B : rf_M} {M : rf_M} {ls : rf_L} {s0 : Int} {K : Int → rf_M → Prop} (hS : rk fz S B.2.2) (hR : fq B M) (h : w_strength_61 s0 M K) : gx (cx0 fz) (0, 0) 151 61 ls [zv s0] (M, S) (vq_i B S K) := by
  unfold w_strength_61 at h
  exact gx_ret rfl rfl ⟨s0, M, rfl, rfl, hR, h⟩
def w_strength_18 (M : rf_M) (K : Int → rf_M → Prop) : Prop := w_strength_61 3 M K
theorem W_strength_18 {fz : Bool} {S : gS} {B : rf_M} {M : rf_M} {ls : rf_L} {K : Int → rf_M → Prop} (hS : rk fz S B.2.2) (hR : fq B M) (h : w_strength_18 M K) : gx (cx0 fz) (0, 0) 151 18 ls [] (M, S) (vq_i B S K) := by
  unfold w_strength_18 at h
  refine g1 (n := 1) rfl rfl rfl rfl ?_
  refine g3 rfl rfl rfl ?_
  exact W_strength_61 hS hR  h
def w_strength_34 (M : rf_M) (K : Int → rf_M → Prop) : Prop := w_strength_61 2 M K
theorem W_strength_34 {fz : Bool} {S : gS} {B : rf_M} {M : rf_M} {ls : rf_L} {K : Int → rf_M → Prop} (hS : rk fz S B.2.2) (hR : fq B M) (h : w_strength_34 M K) : gx (cx0 fz) (0, 0) 151 34 ls [] (M, S) (vq_i B S K) := by
  unfold w_strength_34 at h
  refine g1 (n := 1) rfl rfl rfl rfl ?_
  refine g3 rfl rfl rfl ?_
  exact W_strength_61 hS hR  h
def w_strength_56 (M : rf_M) (K : Int → rf_M → Prop) : Prop := w_strength_61 1 M K
theorem W_strength_56 {fz : Bool} {S : gS} {B : rf_M} {M : rf_M} {ls : rf_L} {K : Int → rf_M → Prop} (hS : rk fz S B.2.2) (hR : fq B M) (h : w_strength_56 M K) : gx (cx0 fz) (0, 0) 151 56 ls [] (M, S) (vq_i B S K) := by
  unfold w_strength_56 at h
  refine g1 (n := 1) rfl rfl rfl rfl ?_
  refine g3 rfl rfl rfl ?_
  exact W_strength_61 hS hR  h
def w_strength (v0 : Int) (M : rf_M) (K : Int → rf_M → Prop) : Prop := inr v0 ∧ ((v0 = 42 → (w_strength_18 M K)) ∧ (¬ (v0 = 42) → (inr v0 ∧ ((v0 = 47 → (w_strength_18 M K)) ∧ (¬ (v0 = 47) → (inr v0 ∧ ((v0 = 37 → (w_strength_18 M K)) ∧ (¬ v0 = 37 → (inr v0 ∧ ((v0 = 43 → (w_strength_34 M K)) ∧ (¬ (v0 = 43) → (inr v0 ∧ ((v0 = 45 → (w_strength_34 M K)) ∧ (¬ v0 = 45 → (inr v0 ∧ ((v0 = 60 → (w_strength_56 M K)) ∧ (¬ (v0 = 60) → (inr v0 ∧ ((v0 = 61 → (w_strength_56 M K)) ∧ (¬ (v0 = 61) → (inr v0 ∧ ((v0 = 35 → (w_strength_56 M K)) ∧ (¬ v0 = 35 → (w_strength_61 0 M K))))))))))))))))))))))))
theorem W_strength {fz : Bool} {S : gS} {B : rf_M} {M : rf_M} {ls : rf_L} {v0 : Int} {K : Int → rf_M → Prop} (hS : rk fz S B.2.2) (hR : fq B M) (a0 : rf_ld ls 0 = some (zv v0)) (h : w_strength v0 M K) : gx (cx0 fz) (0, 0) 151 0 ls [] (M, S) (vq_i B S K) := by
  unfold w_strength at h
  refine g1 (n := 1) rfl rfl rfl (li_of a0) ?_
  refine n_bi rfl (by decide) ?_
  obtain ⟨i1, h⟩ := h
  refine n_ic rfl i1 ⟨by decide, by decide⟩ (fun c => ?_) (fun c => ?_)
  · replace h := h.1 c
    exact W_strength_18 hS hR  h
  · replace h := h.2 c
    refine g1 (n := 1) rfl rfl rfl (li_of a0) ?_
    refine n_bi rfl (by decide) ?_
    obtain ⟨i2, h⟩ := h
    refine n_ic rfl i2 ⟨by decide, by decide⟩ (fun c => ?_) (fun c => ?_)
    · replace h := h.1 c
      exact W_strength_18 hS hR  h
    · replace h := h.2 c
      refine g1 (n := 1) rfl rfl rfl (li_of a0) ?_
      refine n_bi rfl (by decide) ?_
      obtain ⟨i3, h⟩ := h
      refine n_ic rfl i3 ⟨by decide, by decide⟩ (fun c => ?_) (fun c => ?_)
      · replace h := h.2 c
        refine g1 (n := 1) rfl rfl rfl (li_of a0) ?_
        refine n_bi rfl (by decide) ?_
        obtain ⟨i4, h⟩ := h
        refine n_ic rfl i4 ⟨by decide, by decide⟩ (fun c => ?_) (fun c => ?_)
        · replace h := h.1 c
          exact W_strength_34 hS hR  h
        · replace h := h.2 c
          refine g1 (n := 1) rfl rfl rfl (li_of a0) ?_
          refine n_bi rfl (by decide) ?_
          obtain ⟨i5, h⟩ := h
          refine n_ic rfl i5 ⟨by decide, by decide⟩ (fun c => ?_) (fun c => ?_)
          · replace h := h.2 c
            refine g1 (n := 1) rfl rfl rfl (li_of a0) ?_
            refine n_bi rfl (by decide) ?_
            obtain ⟨i6, h⟩ := h
            refine n_ic rfl i6 ⟨by decide, by decide⟩ (fun c => ?_) (fun c => ?_)
            · replace h := h.1 c
              exact W_strength_56 hS hR  h
            · replace h := h.2 c
              refine g1 (n := 1) rfl rfl rfl (li_of a0) ?_
              refine n_bi rfl (by decide) ?_
              obtain ⟨i7, h⟩ := h
              refine n_ic rfl i7 ⟨by decide, by decide⟩ (fun c => ?_) (fun c => ?_)
              · replace h := h.1 c
                exact W_strength_56 hS hR  h
              · replace h := h.2 c
                refine g1 (n := 1) rfl rfl rfl (li_of a0) ?_
                refine n_bi rfl (by decide) ?_
                obtain ⟨i8, h⟩ := h
                refine n_ic rfl i8 ⟨by decide, by decide⟩ (fun c => ?_) (fun c => ?_)
                · replace h := h.2 c
                  refine g1 (n := 1) rfl rfl rfl rfl ?_
                  exact W_strength_61 hS hR  h
                · replace h := h.1 (Classical.not_not.mp c)
                  exact W_strength_56 hS hR  h
          · replace h := h.1 (Classical.not_not.mp c)
            exact W_strength_34 hS hR  h
      · replace h := h.1 (Classical.not_not.mp c)
        exact W_strength_18 hS hR  h
def wm_strength (x0 : Int) (M : rf_M) (K : Int → rf_M → Prop) : Prop := w_strength x0 M K
theorem W_strength_m {fz : Bool} {S : gS} {B : rf_M} {M : rf_M} {x0 : Int} {K : Int → rf_M → Prop} (hS : rk fz S B.2.2) (hR : fq B M) (h : wm_strength x0 M K) : gx (cx0 fz) (0, 0) 151 0 (lv_args 0 [zv x0]) [] (M, S) (vq_i B S K) :=
  W_strength hS hR rfl h
def w_reduce_86 (M : rf_M) (K : rf_M → Prop) : Prop := K M
theorem W_reduce_86 {fz : Bool} {S : gS} {B : rf_M} {M : rf_M} {ls : rf_L} {K : rf_M → Prop} (hS : rk fz S B.2.2) (hR : fq B M) (h : w_reduce_86 M K) : gx (cx0 fz) (1, 25) 150 86 ls [] (M, S) (vq_v B S K) := by
  unfold w_reduce_86 at h
  exact gx_ret rfl rfl ⟨M, rfl, rfl, hR, h⟩
def w_reduce_0b (v1 : Int) (M : rf_M) (b0 : Int → rf_M → Prop) (K : rf_M → Prop) : Prop := ((gi M 353 30) ≤ 0 → (w_reduce_86 M K)) ∧ (¬ ((gi M 353 30) ≤ 0) → ((0 ≤ ((gi M 353 30) - 1) ∧ ((gi M 353 30) - 1) < 64) ∧ (((gi M 371 ((gi M 353 30) - 1).toNat) = 40 → (w_reduce_86 M K)) ∧ (¬ ((gi M 371 ((gi M 353 30) - 1).toNat) = 40) → ((0 ≤ ((gi M 353 30) - 1) ∧ ((gi M 353 30) - 1) < 64) ∧ (((gi M 371 ((gi M 353 30) - 1).toNat) = 1000 → (w_reduce_86 M K)) ∧ (¬ ((gi M 371 ((gi M 353 30) - 1).toNat) = 1000) → ((0 ≤ ((gi M 353 30) - 1) ∧ ((gi M 353 30) - 1) < 64) ∧ (wm_strength (gi M 371 ((gi M 353 30) - 1).toNat) M (fun (z1 : Int) (M1 : rf_M) => inr z1 ∧ (inr v1 ∧ ((z1 < v1 → (w_reduce_86 M1 K)) ∧ (¬ (z1 < v1) → (∀ M2 : rf_M, M2 = wi M1 353 30 ((gi M1 353 30) - 1) → ((0 ≤ (gi M2 353 30) ∧ (gi M2 353 30) < 64) ∧ (wm_act (gi M2 371 (gi M2 353 30).toNat) (-1) (Int64.ofNat 0) M2 (fun (M3 : rf_M) => b0 v1 M3)))))))))))))))))
theorem W_reduce_0b {fz : Bool} {S : gS} {B : rf_M} {M : rf_M} {ls : rf_L} {v1 : Int} {b0 : Int → rf_M → Prop} {K : rf_M → Prop} (hS : rk fz S B.2.2) (hR : fq B M) (a0 : rf_ld ls 0 = some (.ref 353)) (a1 : rf_ld ls 1 = some (zv v1)) (hb0 : ∀ (v1 : Int) (M : rf_M) (ls : rf_L), fq B M → rf_ld ls 0 = some (.ref 353) → rf_ld ls 1 = some (zv v1) → b0 v1 M → gx (cx0 fz) (1, 25) 150 0 ls [] (M, S) (vq_v B S K)) (h : w_reduce_0b v1 M b0 K) : gx (cx0 fz) (1, 25) 150 0 ls [] (M, S) (vq_v B S K) := by
  unfold w_reduce_0b at h
  refine g1 (n := 1) rfl rfl rfl (la_of a0) ?_
  refine n_gi rfl hS.1 rfl (fun _ => rfl) ?_
  refine n_if rfl (inr_gi _ _ _) (fun c => ?_) (fun c => ?_)
  · replace h := h.1 c
    exact W_reduce_86 hS hR  h
  · replace h := h.2 c
    refine g1 (n := 1) rfl rfl rfl (la_of a0) ?_
    refine n_gr rfl hS.1 rfl (fun _ => rfl) hR (rk_371 hS).2 ?_
    refine g1 (n := 1) rfl rfl rfl (la_of a0) ?_
    refine n_gi rfl hS.1 rfl (fun _ => rfl) ?_
    refine g1 (n := 1) rfl rfl rfl rfl ?_
    refine n_sub rfl ?_
    obtain ⟨q, h⟩ := h
    refine n_ia rfl (rk_371 hS).1 (Nat.le_of_ble_eq_true rfl) q ?_
    refine n_bi rfl (by decide) ?_
    refine n_ic rfl (inr_gi _ _ _) ⟨by decide, by decide⟩ (fun c => ?_) (fun c => ?_)
    · replace h := h.1 c
      exact W_reduce_86 hS hR  h
    · replace h := h.2 c
      refine g1 (n := 1) rfl rfl rfl (la_of a0) ?_
      refine n_gr rfl hS.1 rfl (fun _ => rfl) hR (rk_371 hS).2 ?_
      refine g1 (n := 1) rfl rfl rfl (la_of a0) ?_
      refine n_gi rfl hS.1 rfl (fun _ => rfl) ?_
      refine g1 (n := 1) rfl rfl rfl rfl ?_
      refine n_sub rfl ?_
      obtain ⟨q, h⟩ := h
      refine n_ia rfl (rk_371 hS).1 (Nat.le_of_ble_eq_true rfl) q ?_
      refine n_si rfl (by decide) ?_
      refine n_ic rfl (inr_gi _ _ _) ⟨by decide, by decide⟩ (fun c => ?_) (fun c => ?_)
      · replace h := h.1 c
        exact W_reduce_86 hS hR  h
      · replace h := h.2 c
        refine g1 (n := 1) rfl rfl rfl (la_of a0) ?_
        refine n_gr rfl hS.1 rfl (fun _ => rfl) hR (rk_371 hS).2 ?_
        refine g1 (n := 1) rfl rfl rfl (la_of a0) ?_
        refine n_gi rfl hS.1 rfl (fun _ => rfl) ?_
        refine g1 (n := 1) rfl rfl rfl rfl ?_
        refine n_sub rfl ?_
        obtain ⟨q, h⟩ := h
        refine n_ia rfl (rk_371 hS).1 (Nat.le_of_ble_eq_true rfl) q ?_
        refine m_st (as := [zv (gi M 371 ((gi M 353 30) - 1).toNat)]) (rest := []) rfl (by decide) rfl (Nat.le_of_ble_eq_true rfl) ⟨Nat.le_of_ble_eq_true rfl, Nat.le_of_ble_eq_true rfl, Nat.le_of_ble_eq_true rfl⟩ ?_
        refine gx_room (gx_mono (W_strength_m hS hR h) ?_) (Nat.le_of_ble_eq_true rfl) (Nat.le_of_ble_eq_true rfl)
        rintro _ _ ⟨z1, M1, rfl, rfl, r1, h⟩
        refine g1 (n := 1) rfl rfl rfl (li_of a1) ?_
        obtain ⟨i1, h⟩ := h
        obtain ⟨i2, h⟩ := h
        refine n_ic rfl i1 i2 (fun c => ?_) (fun c => ?_)
        · replace h := h.1 c
          exact W_reduce_86 hS r1  h
        · replace h := h.2 c
          refine g1 (n := 1) rfl rfl rfl (la_of a0) ?_
          refine g0 rfl rfl rfl ?_
          refine n_gi rfl hS.1 rfl (fun _ => rfl) ?_
          refine g1 (n := 1) rfl rfl rfl rfl ?_
          refine n_sub rfl ?_
          refine n_pi (Nat.le_of_ble_eq_true rfl) rfl hS.1 rfl (fun _ _ => rfl) (fun M2 e r => ?_)
          replace h := h M2 e
          have r2 := r1.trans r
          refine g1 (n := 1) rfl rfl rfl (la_of a0) ?_
          refine g1 (n := 1) rfl rfl rfl (la_of a0) ?_
          refine n_gr rfl hS.1 rfl (fun _ => rfl) r2 (rk_371 hS).2 ?_
          refine g1 (n := 1) rfl rfl rfl (la_of a0) ?_
          refine n_gi rfl hS.1 rfl (fun _ => rfl) ?_
          obtain ⟨q, h⟩ := h
          refine n_ia rfl (rk_371 hS).1 (Nat.le_of_ble_eq_true rfl) q ?_
          refine g1 (n := 1) rfl rfl rfl rfl ?_
          refine g1 (n := 1) rfl rfl rfl rfl ?_
          refine m_iv (a := 353) (as := [zv (gi M2 371 (gi M2 353 30).toNat), zv (-1), .long (Int64.ofNat 0)]) (rest := []) rfl (by decide) hS.1 rfl rfl (Nat.le_of_ble_eq_true rfl) ⟨Nat.le_of_ble_eq_true rfl, Nat.le_of_ble_eq_true rfl, Nat.le_of_ble_eq_true rfl⟩ ?_
          refine gx_room (gx_mono (W_act_m hS r2 h) ?_) (Nat.le_of_ble_eq_true rfl) (Nat.le_of_ble_eq_true rfl)
          rintro _ _ ⟨M3, rfl, rfl, r3, h⟩
          refine g3 rfl rfl rfl ?_
          exact hb0 _ _ _ r3 a0 a1 h
def w_reduce_0 (v1 : Int) (M : rf_M) (K : rf_M → Prop) : Prop := ∃ Inv : Nat → Int → rf_M → Prop, (∃ m, Inv m v1 M) ∧ ∀ (m : Nat) (v1 : Int) (M : rf_M), Inv m v1 M → w_reduce_0b v1 M (fun (v1' : Int) (M' : rf_M) => ∃ m', m' < m ∧ Inv m' v1' M') K
theorem W_reduce_0 {fz : Bool} {S : gS} {B : rf_M} {M : rf_M} {ls : rf_L} {v1 : Int} {K : rf_M → Prop} (hS : rk fz S B.2.2) (hR : fq B M) (a0 : rf_ld ls 0 = some (.ref 353)) (a1 : rf_ld ls 1 = some (zv v1)) (h : w_reduce_0 v1 M K) : gx (cx0 fz) (1, 25) 150 0 ls [] (M, S) (vq_v B S K) := by
  obtain ⟨Inv, ⟨m, hm⟩, hb⟩ := h
  induction m using Nat.strongRecOn generalizing ls M v1 with
  | _ m ih =>
    refine W_reduce_0b hS hR a0 a1 (fun v1' M' ls' hR' f0 f1 ⟨m', q1, q2⟩ => ih m' q1 hR' f0 f1 q2) (hb m v1 M hm)
def wm_reduce (x0 : Int) (M : rf_M) (K : rf_M → Prop) : Prop := w_reduce_0 x0 M K
theorem W_reduce_m {fz : Bool} {S : gS} {B : rf_M} {M : rf_M} {x0 : Int} {K : rf_M → Prop} (hS : rk fz S B.2.2) (hR : fq B M) (h : wm_reduce x0 M K) : gx (cx0 fz) (1, 25) 150 0 (lv_args 0 [.ref 353, zv x0]) [] (M, S) (vq_v B S K) :=
  W_reduce_0 hS hR rfl rfl h
def w_exp_237 (v1 : Int) (v2 : Int) (v4 : Int) (s1 : Int) (M : rf_M) (b46 : Int → Int → Int → Int → rf_M → Prop) (K : Int → rf_M → Prop) : Prop := wm_reduce s1 M (fun (M1 : rf_M) => (0 ≤ (gi M1 353 30) ∧ (gi M1 353 30) < 64) ∧ (∀ M2 : rf_M, M2 = wi M1 371 (gi M1 353 30).toNat (gi M1 353 8) → (∀ M3 : rf_M, M3 = wi M2 353 30 ((gi M2 353 30) + 1) → (wm_next  M3 (fun (M4 : rf_M) => b46 v1 v2 1 v4 M4)))))
theorem W_exp_237 {fz : Bool} {S : gS} {B : rf_M} {M : rf_M} {ls : rf_L} {v1 : Int} {v2 : Int} {v4 : Int} {s1 : Int} {b46 : Int → Int → Int → Int → rf_M → Prop} {K : Int → rf_M → Prop} (hS : rk fz S B.2.2) (hR : fq B M) (a0 : rf_ld ls 0 = some (.ref 353)) (a1 : rf_ld ls 1 = some (zv v1)) (a2 : rf_ld ls 2 = some (zv v2)) (a4 : rf_ld ls 4 = some (zv v4)) (hb46 : ∀ (v1 : Int) (v2 : Int) (v3 : Int) (v4 : Int) (M : rf_M) (ls : rf_L), fq B M → rf_ld ls 0 = some (.ref 353) → rf_ld ls 1 = some (zv v1) → rf_ld ls 2 = some (zv v2) → rf_ld ls 3 = some (zv v3) → rf_ld ls 4 = some (zv v4) → b46 v1 v2 v3 v4 M → gx (cx0 fz) (3, 69) 146 46 ls [] (M, S) (vq_i B S K)) (h : w_exp_237 v1 v2 v4 s1 M b46 K) : gx (cx0 fz) (3, 69) 146 237 ls [zv s1, .ref 353] (M, S) (vq_i B S K) := by
  unfold w_exp_237 at h
  refine m_iv (a := 353) (as := [zv s1]) (rest := []) rfl (by decide) hS.1 rfl rfl (Nat.le_of_ble_eq_true rfl) ⟨Nat.le_of_ble_eq_true rfl, Nat.le_of_ble_eq_true rfl, Nat.le_of_ble_eq_true rfl⟩ ?_
  refine gx_room (gx_mono (W_reduce_m hS hR h) ?_) (Nat.le_of_ble_eq_true rfl) (Nat.le_of_ble_eq_true rfl)
  rintro _ _ ⟨M1, rfl, rfl, r1, h⟩
  refine g1 (n := 1) rfl rfl rfl (la_of a0) ?_
  refine n_gr rfl hS.1 rfl (fun _ => rfl) r1 (rk_371 hS).2 ?_
  refine g1 (n := 1) rfl rfl rfl (la_of a0) ?_
  refine n_gi rfl hS.1 rfl (fun _ => rfl) ?_
  refine g1 (n := 1) rfl rfl rfl (la_of a0) ?_
  refine n_gi rfl hS.1 rfl (fun _ => rfl) ?_
  obtain ⟨q, h⟩ := h
  refine n_is (Nat.le_of_ble_eq_true rfl) rfl (rk_371 hS).1 (Nat.le_of_ble_eq_true rfl) q (fun M2 e r => ?_)
  replace h := h M2 e
  have r2 := r1.trans r
  refine g1 (n := 1) rfl rfl rfl (la_of a0) ?_
  refine g0 rfl rfl rfl ?_
  refine n_gi rfl hS.1 rfl (fun _ => rfl) ?_
  refine g1 (n := 1) rfl rfl rfl rfl ?_
  refine n_add rfl ?_
  refine n_pi (Nat.le_of_ble_eq_true rfl) rfl hS.1 rfl (fun _ _ => rfl) (fun M3 e r => ?_)
  replace h := h M3 e
  have r3 := r2.trans r
  refine g1 (n := 1) rfl rfl rfl (la_of a0) ?_
  refine m_iv (a := 353) (as := []) (rest := []) rfl (by decide) hS.1 rfl rfl (Nat.le_of_ble_eq_true rfl) ⟨Nat.le_of_ble_eq_true rfl, Nat.le_of_ble_eq_true rfl, Nat.le_of_ble_eq_true rfl⟩ ?_
  refine gx_room (gx_mono (W_next_m hS r3 h) ?_) (Nat.le_of_ble_eq_true rfl) (Nat.le_of_ble_eq_true rfl)
  rintro _ _ ⟨M4, rfl, rfl, r4, h⟩
  refine g1 (n := 1) rfl rfl rfl rfl ?_
  refine n_s1 (n := 1) rfl rfl rfl rfl (fun ls l1 ho => ?_)
  replace a0 := ho 0 _ (by decide) (fun q => by cases q.2) a0
  have l2 := ho 1 _ (by decide) (fun q => by cases q.2) a1
  have l3 := ho 2 _ (by decide) (fun q => by cases q.2) a2
  have l4 := ho 4 _ (by decide) (fun q => by cases q.2) a4
  refine g3 rfl rfl rfl ?_
  exact hb46 _ _ _ _ _ _ r4 a0 l2 l3 l1 l4 h
def w_exp_223 (v1 : Int) (v2 : Int) (v4 : Int) (v5 : Int) (s1 : Int) (s2 : Int) (M : rf_M) (b46 : Int → Int → Int → Int → rf_M → Prop) (K : Int → rf_M → Prop) : Prop := (0 ≤ s1 ∧ s1 < 16) ∧ (∀ M1 : rf_M, M1 = wi M 372 (s1).toNat (Int32.ofInt s2 &&& 1).toInt → (inr v5 ∧ ((v5 = 1 → (w_exp_237 v1 v2 v4 2 M1 b46 K)) ∧ (¬ v5 = 1 → (w_exp_237 v1 v2 v4 v5 M1 b46 K)))))
theorem W_exp_223 {fz : Bool} {S : gS} {B : rf_M} {M : rf_M} {ls : rf_L} {v1 : Int} {v2 : Int} {v4 : Int} {v5 : Int} {s1 : Int} {s2 : Int} {b46 : Int → Int → Int → Int → rf_M → Prop} {K : Int → rf_M → Prop} (hS : rk fz S B.2.2) (hR : fq B M) (a0 : rf_ld ls 0 = some (.ref 353)) (a1 : rf_ld ls 1 = some (zv v1)) (a2 : rf_ld ls 2 = some (zv v2)) (a4 : rf_ld ls 4 = some (zv v4)) (a5 : rf_ld ls 5 = some (zv v5)) (hb46 : ∀ (v1 : Int) (v2 : Int) (v3 : Int) (v4 : Int) (M : rf_M) (ls : rf_L), fq B M → rf_ld ls 0 = some (.ref 353) → rf_ld ls 1 = some (zv v1) → rf_ld ls 2 = some (zv v2) → rf_ld ls 3 = some (zv v3) → rf_ld ls 4 = some (zv v4) → b46 v1 v2 v3 v4 M → gx (cx0 fz) (3, 69) 146 46 ls [] (M, S) (vq_i B S K)) (h : w_exp_223 v1 v2 v4 v5 s1 s2 M b46 K) : gx (cx0 fz) (3, 69) 146 223 ls [zv s2, zv s1, .ref 372] (M, S) (vq_i B S K) := by
  unfold w_exp_223 at h
  obtain ⟨q, h⟩ := h
  refine n_zs (Nat.le_of_ble_eq_true rfl) rfl (rk_372 hS).1 (Nat.le_of_ble_eq_true rfl) q (fun M1 e r => ?_)
  replace h := h M1 e
  have r1 := hR.trans r
  refine g1 (n := 1) rfl rfl rfl (la_of a0) ?_
  refine g1 (n := 2) rfl rfl rfl (li_of a5) ?_
  refine g1 (n := 1) rfl rfl rfl rfl ?_
  obtain ⟨i1, h⟩ := h
  refine n_ic rfl i1 ⟨by decide, by decide⟩ (fun c => ?_) (fun c => ?_)
  · replace h := h.2 c
    refine g1 (n := 2) rfl rfl rfl (li_of a5) ?_
    exact W_exp_237 hS r1 a0 a1 a2 a4 hb46 h
  · replace h := h.1 (Classical.not_not.mp c)
    refine g1 (n := 1) rfl rfl rfl rfl ?_
    refine g3 rfl rfl rfl ?_
    exact W_exp_237 hS r1 a0 a1 a2 a4 hb46 h
def w_exp_218 (v1 : Int) (v2 : Int) (v4 : Int) (v5 : Int) (s1 : Int) (M : rf_M) (b46 : Int → Int → Int → Int → rf_M → Prop) (K : Int → rf_M → Prop) : Prop := w_exp_223 v1 v2 v4 v5 s1 1 M b46 K
theorem W_exp_218 {fz : Bool} {S : gS} {B : rf_M} {M : rf_M} {ls : rf_L} {v1 : Int} {v2 : Int} {v4 : Int} {v5 : Int} {s1 : Int} {b46 : Int → Int → Int → Int → rf_M → Prop} {K : Int → rf_M → Prop} (hS : rk fz S B.2.2) (hR : fq B M) (a0 : rf_ld ls 0 = some (.ref 353)) (a1 : rf_ld ls 1 = some (zv v1)) (a2 : rf_ld ls 2 = some (zv v2)) (a4 : rf_ld ls 4 = some (zv v4)) (a5 : rf_ld ls 5 = some (zv v5)) (hb46 : ∀ (v1 : Int) (v2 : Int) (v3 : Int) (v4 : Int) (M : rf_M) (ls : rf_L), fq B M → rf_ld ls 0 = some (.ref 353) → rf_ld ls 1 = some (zv v1) → rf_ld ls 2 = some (zv v2) → rf_ld ls 3 = some (zv v3) → rf_ld ls 4 = some (zv v4) → b46 v1 v2 v3 v4 M → gx (cx0 fz) (3, 69) 146 46 ls [] (M, S) (vq_i B S K)) (h : w_exp_218 v1 v2 v4 v5 s1 M b46 K) : gx (cx0 fz) (3, 69) 146 218 ls [zv s1, .ref 372] (M, S) (vq_i B S K) := by
  unfold w_exp_218 at h
  refine g1 (n := 1) rfl rfl rfl rfl ?_
  refine g3 rfl rfl rfl ?_
  exact W_exp_223 hS hR a0 a1 a2 a4 a5 hb46 h
def w_exp_183 (v1 : Int) (v2 : Int) (v4 : Int) (M : rf_M) (b46 : Int → Int → Int → Int → rf_M → Prop) (K : Int → rf_M → Prop) : Prop := wm_strength (gi M 353 8) M (fun (z1 : Int) (M1 : rf_M) => (0 ≤ (gi M1 353 33) ∧ (gi M1 353 33) < 16) ∧ (((gi M1 372 (gi M1 353 33).toNat) = 0 → (inr z1 ∧ ((z1 = 1 → (w_exp_218 v1 v2 v4 z1 (gi M1 353 33) M1 b46 K)) ∧ (¬ z1 = 1 → (w_exp_223 v1 v2 v4 z1 (gi M1 353 33) 0 M1 b46 K))))) ∧ (¬ (gi M1 372 (gi M1 353 33).toNat) = 0 → (w_exp_218 v1 v2 v4 z1 (gi M1 353 33) M1 b46 K))))
theorem W_exp_183 {fz : Bool} {S : gS} {B : rf_M} {M : rf_M} {ls : rf_L} {v1 : Int} {v2 : Int} {v4 : Int} {b46 : Int → Int → Int → Int → rf_M → Prop} {K : Int → rf_M → Prop} (hS : rk fz S B.2.2) (hR : fq B M) (a0 : rf_ld ls 0 = some (.ref 353)) (a1 : rf_ld ls 1 = some (zv v1)) (a2 : rf_ld ls 2 = some (zv v2)) (a4 : rf_ld ls 4 = some (zv v4)) (hb46 : ∀ (v1 : Int) (v2 : Int) (v3 : Int) (v4 : Int) (M : rf_M) (ls : rf_L), fq B M → rf_ld ls 0 = some (.ref 353) → rf_ld ls 1 = some (zv v1) → rf_ld ls 2 = some (zv v2) → rf_ld ls 3 = some (zv v3) → rf_ld ls 4 = some (zv v4) → b46 v1 v2 v3 v4 M → gx (cx0 fz) (3, 69) 146 46 ls [] (M, S) (vq_i B S K)) (h : w_exp_183 v1 v2 v4 M b46 K) : gx (cx0 fz) (3, 69) 146 183 ls [] (M, S) (vq_i B S K) := by
  unfold w_exp_183 at h
  refine g1 (n := 1) rfl rfl rfl (la_of a0) ?_
  refine n_gi rfl hS.1 rfl (fun _ => rfl) ?_
  refine m_st (as := [zv (gi M 353 8)]) (rest := []) rfl (by decide) rfl (Nat.le_of_ble_eq_true rfl) ⟨Nat.le_of_ble_eq_true rfl, Nat.le_of_ble_eq_true rfl, Nat.le_of_ble_eq_true rfl⟩ ?_
  refine gx_room (gx_mono (W_strength_m hS hR h) ?_) (Nat.le_of_ble_eq_true rfl) (Nat.le_of_ble_eq_true rfl)
  rintro _ _ ⟨z1, M1, rfl, rfl, r1, h⟩
  refine n_s1 (n := 2) rfl rfl rfl rfl (fun ls l1 ho => ?_)
  replace a0 := ho 0 _ (by decide) (fun q => by cases q.2) a0
  have l2 := ho 1 _ (by decide) (fun q => by cases q.2) a1
  have l3 := ho 2 _ (by decide) (fun q => by cases q.2) a2
  have l4 := ho 4 _ (by decide) (fun q => by cases q.2) a4
  refine g1 (n := 1) rfl rfl rfl (la_of a0) ?_
  refine n_gr rfl hS.1 rfl (fun _ => rfl) r1 (rk_372 hS).2 ?_
  refine g1 (n := 1) rfl rfl rfl (la_of a0) ?_
  refine n_gi rfl hS.1 rfl (fun _ => rfl) ?_
  refine g1 (n := 1) rfl rfl rfl (la_of a0) ?_
  refine n_gr rfl hS.1 rfl (fun _ => rfl) r1 (rk_372 hS).2 ?_
  refine g1 (n := 1) rfl rfl rfl (la_of a0) ?_
  refine n_gi rfl hS.1 rfl (fun _ => rfl) ?_
  obtain ⟨q, h⟩ := h
  refine n_za rfl (rk_372 hS).1 (Nat.le_of_ble_eq_true rfl) q ?_
  refine n_if rfl (inr_gi _ _ _) (fun c => ?_) (fun c => ?_)
  · replace h := h.2 c
    exact W_exp_218 hS r1 a0 l2 l3 l4 l1 hb46 h
  · replace h := h.1 (Classical.not_not.mp c)
    refine g1 (n := 2) rfl rfl rfl (li_of l1) ?_
    refine g1 (n := 1) rfl rfl rfl rfl ?_
    obtain ⟨i1, h⟩ := h
    refine n_ic rfl i1 ⟨by decide, by decide⟩ (fun c => ?_) (fun c => ?_)
    · replace h := h.2 c
      refine g1 (n := 1) rfl rfl rfl rfl ?_
      exact W_exp_223 hS r1 a0 l2 l3 l4 l1 hb46 h
    · replace h := h.1 (Classical.not_not.mp c)
      exact W_exp_218 hS r1 a0 l2 l3 l4 l1 hb46 h
def w_exp_272 (v1 : Int) (v2 : Int) (v3 : Int) (M : rf_M) (b46 : Int → Int → Int → Int → rf_M → Prop) (K : Int → rf_M → Prop) : Prop := b46 v1 v2 v3 0 M
theorem W_exp_272 {fz : Bool} {S : gS} {B : rf_M} {M : rf_M} {ls : rf_L} {v1 : Int} {v2 : Int} {v3 : Int} {b46 : Int → Int → Int → Int → rf_M → Prop} {K : Int → rf_M → Prop} (hS : rk fz S B.2.2) (hR : fq B M) (a0 : rf_ld ls 0 = some (.ref 353)) (a1 : rf_ld ls 1 = some (zv v1)) (a2 : rf_ld ls 2 = some (zv v2)) (a3 : rf_ld ls 3 = some (zv v3)) (hb46 : ∀ (v1 : Int) (v2 : Int) (v3 : Int) (v4 : Int) (M : rf_M) (ls : rf_L), fq B M → rf_ld ls 0 = some (.ref 353) → rf_ld ls 1 = some (zv v1) → rf_ld ls 2 = some (zv v2) → rf_ld ls 3 = some (zv v3) → rf_ld ls 4 = some (zv v4) → b46 v1 v2 v3 v4 M → gx (cx0 fz) (3, 69) 146 46 ls [] (M, S) (vq_i B S K)) (h : w_exp_272 v1 v2 v3 M b46 K) : gx (cx0 fz) (3, 69) 146 272 ls [] (M, S) (vq_i B S K) := by
  unfold w_exp_272 at h
  refine g1 (n := 1) rfl rfl rfl rfl ?_
  refine n_s1 (n := 2) rfl rfl rfl rfl (fun ls l1 ho => ?_)
  replace a0 := ho 0 _ (by decide) (fun q => by cases q.2) a0
  have l2 := ho 1 _ (by decide) (fun q => by cases q.2) a1
  have l3 := ho 2 _ (by decide) (fun q => by cases q.2) a2
  have l4 := ho 3 _ (by decide) (fun q => by cases q.2) a3
  refine g3 rfl rfl rfl ?_
  exact hb46 _ _ _ _ _ _ hR a0 l2 l3 l4 l1 h
def w_exp_152 (v1 : Int) (v2 : Int) (v3 : Int) (v4 : Int) (M : rf_M) (b46 : Int → Int → Int → Int → rf_M → Prop) (K : Int → rf_M → Prop) : Prop := ((gi M 353 4) = 4 → (wm_strength (gi M 353 8) M (fun (z1 : Int) (M1 : rf_M) => inr z1 ∧ ((z1 = 1 → ((0 ≤ (gi M1 353 33) ∧ (gi M1 353 33) < 16) ∧ (((gi M1 372 (gi M1 353 33).toNat) = 0 → (w_exp_183 v1 v2 v4 M1 b46 K)) ∧ (¬ (gi M1 372 (gi M1 353 33).toNat) = 0 → (w_exp_272 v1 v2 v3 M1 b46 K))))) ∧ (¬ z1 = 1 → (w_exp_272 v1 v2 v3 M1 b46 K)))))) ∧ (¬ (gi M 353 4) = 4 → (w_exp_272 v1 v2 v3 M b46 K))
theorem W_exp_152 {fz : Bool} {S : gS} {B : rf_M} {M : rf_M} {ls : rf_L} {v1 : Int} {v2 : Int} {v3 : Int} {v4 : Int} {b46 : Int → Int → Int → Int → rf_M → Prop} {K : Int → rf_M → Prop} (hS : rk fz S B.2.2) (hR : fq B M) (a0 : rf_ld ls 0 = some (.ref 353)) (a1 : rf_ld ls 1 = some (zv v1)) (a2 : rf_ld ls 2 = some (zv v2)) (a3 : rf_ld ls 3 = some (zv v3)) (a4 : rf_ld ls 4 = some (zv v4)) (hb46 : ∀ (v1 : Int) (v2 : Int) (v3 : Int) (v4 : Int) (M : rf_M) (ls : rf_L), fq B M → rf_ld ls 0 = some (.ref 353) → rf_ld ls 1 = some (zv v1) → rf_ld ls 2 = some (zv v2) → rf_ld ls 3 = some (zv v3) → rf_ld ls 4 = some (zv v4) → b46 v1 v2 v3 v4 M → gx (cx0 fz) (3, 69) 146 46 ls [] (M, S) (vq_i B S K)) (h : w_exp_152 v1 v2 v3 v4 M b46 K) : gx (cx0 fz) (3, 69) 146 152 ls [] (M, S) (vq_i B S K) := by
  unfold w_exp_152 at h
  refine g1 (n := 1) rfl rfl rfl (la_of a0) ?_
  refine n_gi rfl hS.1 rfl (fun _ => rfl) ?_
  refine g1 (n := 1) rfl rfl rfl rfl ?_
  refine n_ic rfl (inr_gi _ _ _) ⟨by decide, by decide⟩ (fun c => ?_) (fun c => ?_)
  · replace h := h.2 c
    exact W_exp_272 hS hR a0 a1 a2 a3 hb46 h
  · replace h := h.1 (Classical.not_not.mp c)
    refine g1 (n := 1) rfl rfl rfl (la_of a0) ?_
    refine n_gi rfl hS.1 rfl (fun _ => rfl) ?_
    refine m_st (as := [zv (gi M 353 8)]) (rest := []) rfl (by decide) rfl (Nat.le_of_ble_eq_true rfl) ⟨Nat.le_of_ble_eq_true rfl, Nat.le_of_ble_eq_true rfl, Nat.le_of_ble_eq_true rfl⟩ ?_
    refine gx_room (gx_mono (W_strength_m hS hR h) ?_) (Nat.le_of_ble_eq_true rfl) (Nat.le_of_ble_eq_true rfl)
    rintro _ _ ⟨z1, M1, rfl, rfl, r1, h⟩
    refine g1 (n := 1) rfl rfl rfl rfl ?_
    obtain ⟨i1, h⟩ := h
    refine n_ic rfl i1 ⟨by decide, by decide⟩ (fun c => ?_) (fun c => ?_)
    · replace h := h.2 c
      exact W_exp_272 hS r1 a0 a1 a2 a3 hb46 h
    · replace h := h.1 (Classical.not_not.mp c)
      refine g1 (n := 1) rfl rfl rfl (la_of a0) ?_
      refine n_gr rfl hS.1 rfl (fun _ => rfl) r1 (rk_372 hS).2 ?_
      refine g1 (n := 1) rfl rfl rfl (la_of a0) ?_
      refine n_gi rfl hS.1 rfl (fun _ => rfl) ?_
      obtain ⟨q, h⟩ := h
      refine n_za rfl (rk_372 hS).1 (Nat.le_of_ble_eq_true rfl) q ?_
      refine n_if rfl (inr_gi _ _ _) (fun c => ?_) (fun c => ?_)
      · replace h := h.2 c
        exact W_exp_272 hS r1 a0 a1 a2 a3 hb46 h
      · replace h := h.1 (Classical.not_not.mp c)
        exact W_exp_183 hS r1 a0 a1 a2 a4 hb46 h
def w_exp_133 (v1 : Int) (v2 : Int) (v3 : Int) (v4 : Int) (M : rf_M) (b46 : Int → Int → Int → Int → rf_M → Prop) (K : Int → rf_M → Prop) : Prop := ((gi M 353 4) = 4 → (wm_strength (gi M 353 8) M (fun (z1 : Int) (M1 : rf_M) => inr z1 ∧ ((1 < z1 → (w_exp_183 v1 v2 v4 M1 b46 K)) ∧ (¬ (1 < z1) → (w_exp_152 v1 v2 v3 v4 M1 b46 K)))))) ∧ (¬ (gi M 353 4) = 4 → (w_exp_152 v1 v2 v3 v4 M b46 K))
theorem W_exp_133 {fz : Bool} {S : gS} {B : rf_M} {M : rf_M} {ls : rf_L} {v1 : Int} {v2 : Int} {v3 : Int} {v4 : Int} {b46 : Int → Int → Int → Int → rf_M → Prop} {K : Int → rf_M → Prop} (hS : rk fz S B.2.2) (hR : fq B M) (a0 : rf_ld ls 0 = some (.ref 353)) (a1 : rf_ld ls 1 = some (zv v1)) (a2 : rf_ld ls 2 = some (zv v2)) (a3 : rf_ld ls 3 = some (zv v3)) (a4 : rf_ld ls 4 = some (zv v4)) (hb46 : ∀ (v1 : Int) (v2 : Int) (v3 : Int) (v4 : Int) (M : rf_M) (ls : rf_L), fq B M → rf_ld ls 0 = some (.ref 353) → rf_ld ls 1 = some (zv v1) → rf_ld ls 2 = some (zv v2) → rf_ld ls 3 = some (zv v3) → rf_ld ls 4 = some (zv v4) → b46 v1 v2 v3 v4 M → gx (cx0 fz) (3, 69) 146 46 ls [] (M, S) (vq_i B S K)) (h : w_exp_133 v1 v2 v3 v4 M b46 K) : gx (cx0 fz) (3, 69) 146 133 ls [] (M, S) (vq_i B S K) := by
  unfold w_exp_133 at h
  refine g1 (n := 1) rfl rfl rfl (la_of a0) ?_
  refine n_gi rfl hS.1 rfl (fun _ => rfl) ?_
  refine g1 (n := 1) rfl rfl rfl rfl ?_
  refine n_ic rfl (inr_gi _ _ _) ⟨by decide, by decide⟩ (fun c => ?_) (fun c => ?_)
  · replace h := h.2 c
    exact W_exp_152 hS hR a0 a1 a2 a3 a4 hb46 h
  · replace h := h.1 (Classical.not_not.mp c)
    refine g1 (n := 1) rfl rfl rfl (la_of a0) ?_
    refine n_gi rfl hS.1 rfl (fun _ => rfl) ?_
    refine m_st (as := [zv (gi M 353 8)]) (rest := []) rfl (by decide) rfl (Nat.le_of_ble_eq_true rfl) ⟨Nat.le_of_ble_eq_true rfl, Nat.le_of_ble_eq_true rfl, Nat.le_of_ble_eq_true rfl⟩ ?_
    refine gx_room (gx_mono (W_strength_m hS hR h) ?_) (Nat.le_of_ble_eq_true rfl) (Nat.le_of_ble_eq_true rfl)
    rintro _ _ ⟨z1, M1, rfl, rfl, r1, h⟩
    refine g1 (n := 1) rfl rfl rfl rfl ?_
    obtain ⟨i1, h⟩ := h
    refine n_ic rfl i1 ⟨by decide, by decide⟩ (fun c => ?_) (fun c => ?_)
    · replace h := h.1 c
      exact W_exp_183 hS r1 a0 a1 a2 a4 hb46 h
    · replace h := h.2 c
      exact W_exp_152 hS r1 a0 a1 a2 a3 a4 hb46 h
def w_exp_289 (v2 : Int) (M : rf_M) (K : Int → rf_M → Prop) : Prop := wm_reduce 1 M (fun (M1 : rf_M) => wm_act 4 (-1) (Int64.ofNat 0) M1 (fun (M2 : rf_M) => K v2 M2))
theorem W_exp_289 {fz : Bool} {S : gS} {B : rf_M} {M : rf_M} {ls : rf_L} {v2 : Int} {K : Int → rf_M → Prop} (hS : rk fz S B.2.2) (hR : fq B M) (a0 : rf_ld ls 0 = some (.ref 353)) (a2 : rf_ld ls 2 = some (zv v2)) (h : w_exp_289 v2 M K) : gx (cx0 fz) (3, 69) 146 289 ls [] (M, S) (vq_i B S K) := by
  unfold w_exp_289 at h
  refine g1 (n := 1) rfl rfl rfl (la_of a0) ?_
  refine g1 (n := 1) rfl rfl rfl rfl ?_
  refine m_iv (a := 353) (as := [zv 1]) (rest := []) rfl (by decide) hS.1 rfl rfl (Nat.le_of_ble_eq_true rfl) ⟨Nat.le_of_ble_eq_true rfl, Nat.le_of_ble_eq_true rfl, Nat.le_of_ble_eq_true rfl⟩ ?_
  refine gx_room (gx_mono (W_reduce_m hS hR h) ?_) (Nat.le_of_ble_eq_true rfl) (Nat.le_of_ble_eq_true rfl)
  rintro _ _ ⟨M1, rfl, rfl, r1, h⟩
  refine g1 (n := 1) rfl rfl rfl (la_of a0) ?_
  refine g1 (n := 1) rfl rfl rfl rfl ?_
  refine g1 (n := 1) rfl rfl rfl rfl ?_
  refine g1 (n := 1) rfl rfl rfl rfl ?_
  refine m_iv (a := 353) (as := [zv 4, zv (-1), .long (Int64.ofNat 0)]) (rest := []) rfl (by decide) hS.1 rfl rfl (Nat.le_of_ble_eq_true rfl) ⟨Nat.le_of_ble_eq_true rfl, Nat.le_of_ble_eq_true rfl, Nat.le_of_ble_eq_true rfl⟩ ?_
  refine gx_room (gx_mono (W_act_m hS r1 h) ?_) (Nat.le_of_ble_eq_true rfl) (Nat.le_of_ble_eq_true rfl)
  rintro _ _ ⟨M2, rfl, rfl, r2, h⟩
  refine g1 (n := 1) rfl rfl rfl (li_of a2) ?_
  exact gx_ret rfl rfl ⟨v2, M2, rfl, rfl, r2, h⟩
def w_exp_278 (v2 : Int) (M : rf_M) (K : Int → rf_M → Prop) : Prop := ((gi M 353 33) ≤ 0 → (w_exp_289 v2 M K)) ∧ (¬ ((gi M 353 33) ≤ 0) → (wm_misplaced  M (fun (M1 : rf_M) => w_exp_289 v2 M1 K)))
theorem W_exp_278 {fz : Bool} {S : gS} {B : rf_M} {M : rf_M} {ls : rf_L} {v2 : Int} {K : Int → rf_M → Prop} (hS : rk fz S B.2.2) (hR : fq B M) (a0 : rf_ld ls 0 = some (.ref 353)) (a2 : rf_ld ls 2 = some (zv v2)) (h : w_exp_278 v2 M K) : gx (cx0 fz) (3, 69) 146 278 ls [] (M, S) (vq_i B S K) := by
  unfold w_exp_278 at h
  refine g1 (n := 1) rfl rfl rfl (la_of a0) ?_
  refine n_gi rfl hS.1 rfl (fun _ => rfl) ?_
  refine n_if rfl (inr_gi _ _ _) (fun c => ?_) (fun c => ?_)
  · replace h := h.1 c
    exact W_exp_289 hS hR a0 a2 h
  · replace h := h.2 c
    refine g1 (n := 1) rfl rfl rfl (la_of a0) ?_
    refine m_iv (a := 353) (as := []) (rest := []) rfl (by decide) hS.1 rfl rfl (Nat.le_of_ble_eq_true rfl) ⟨Nat.le_of_ble_eq_true rfl, Nat.le_of_ble_eq_true rfl, Nat.le_of_ble_eq_true rfl⟩ ?_
    refine gx_room (gx_mono (W_misplaced_m hS hR h) ?_) (Nat.le_of_ble_eq_true rfl) (Nat.le_of_ble_eq_true rfl)
    rintro _ _ ⟨M1, rfl, rfl, r1, h⟩
    exact W_exp_289 hS r1 a0 a2 h
def w_exp_46b (v1 : Int) (v2 : Int) (v3 : Int) (v4 : Int) (M : rf_M) (b46 : Int → Int → Int → Int → rf_M → Prop) (K : Int → rf_M → Prop) : Prop := inr v4 ∧ ((v4 = 0 → (w_exp_278 v2 M K)) ∧ (¬ (v4 = 0) → (((gi M 353 9) = 0 → (inr v3 ∧ ((v3 = 0 → (wm_isSign 41 M (fun (z1 : Int) (M1 : rf_M) => inr z1 ∧ ((z1 = 0 → (w_exp_133 v1 v2 v3 v4 M1 b46 K)) ∧ (¬ (z1 = 0) → (((gi M1 353 33) ≤ 0 → (w_exp_133 v1 v2 v3 v4 M1 b46 K)) ∧ (¬ ((gi M1 353 33) ≤ 0) → (wm_reduce 1 M1 (fun (M2 : rf_M) => ∀ M3 : rf_M, M3 = wi M2 353 30 ((gi M2 353 30) - 1) → (∀ M4 : rf_M, M4 = wi M3 353 33 ((gi M3 353 33) - 1) → (∀ M5 : rf_M, M5 = wi M4 353 31 ((gi M4 353 31) - 1) → (wm_next  M5 (fun (M6 : rf_M) => wm_operandIsThere  M6 (fun (M7 : rf_M) => b46 v1 v2 v3 v4 M7)))))))))))))) ∧ (¬ (v3 = 0) → (wm_readUnary v1 M (fun (z8 : Int) (M8 : rf_M) => b46 v1 v2 z8 v4 M8)))))) ∧ (¬ (gi M 353 9) = 0 → (w_exp_278 v2 M K)))))
theorem W_exp_46b {fz : Bool} {S : gS} {B : rf_M} {M : rf_M} {ls : rf_L} {v1 : Int} {v2 : Int} {v3 : Int} {v4 : Int} {b46 : Int → Int → Int → Int → rf_M → Prop} {K : Int → rf_M → Prop} (hS : rk fz S B.2.2) (hR : fq B M) (a0 : rf_ld ls 0 = some (.ref 353)) (a1 : rf_ld ls 1 = some (zv v1)) (a2 : rf_ld ls 2 = some (zv v2)) (a3 : rf_ld ls 3 = some (zv v3)) (a4 : rf_ld ls 4 = some (zv v4)) (hb46 : ∀ (v1 : Int) (v2 : Int) (v3 : Int) (v4 : Int) (M : rf_M) (ls : rf_L), fq B M → rf_ld ls 0 = some (.ref 353) → rf_ld ls 1 = some (zv v1) → rf_ld ls 2 = some (zv v2) → rf_ld ls 3 = some (zv v3) → rf_ld ls 4 = some (zv v4) → b46 v1 v2 v3 v4 M → gx (cx0 fz) (3, 69) 146 46 ls [] (M, S) (vq_i B S K)) (h : w_exp_46b v1 v2 v3 v4 M b46 K) : gx (cx0 fz) (3, 69) 146 46 ls [] (M, S) (vq_i B S K) := by
  unfold w_exp_46b at h
  refine g1 (n := 2) rfl rfl rfl (li_of a4) ?_
  obtain ⟨i1, h⟩ := h
  refine n_if rfl i1 (fun c => ?_) (fun c => ?_)
  · replace h := h.1 c
    exact W_exp_278 hS hR a0 a2 h
  · replace h := h.2 c
    refine g1 (n := 1) rfl rfl rfl (la_of a0) ?_
    refine n_gi rfl hS.1 rfl (fun _ => rfl) ?_
    refine n_if rfl (inr_gi _ _ _) (fun c => ?_) (fun c => ?_)
    · replace h := h.2 c
      exact W_exp_278 hS hR a0 a2 h
    · replace h := h.1 (Classical.not_not.mp c)
      refine g1 (n := 1) rfl rfl rfl (li_of a3) ?_
      obtain ⟨i2, h⟩ := h
      refine n_if rfl i2 (fun c => ?_) (fun c => ?_)
      · replace h := h.1 c
        refine g1 (n := 1) rfl rfl rfl (la_of a0) ?_
        refine n_bi rfl (by decide) ?_
        refine m_iv (a := 353) (as := [zv 41]) (rest := []) rfl (by decide) hS.1 rfl rfl (Nat.le_of_ble_eq_true rfl) ⟨Nat.le_of_ble_eq_true rfl, Nat.le_of_ble_eq_true rfl, Nat.le_of_ble_eq_true rfl⟩ ?_
        refine gx_room (gx_mono (W_isSign_m hS hR h) ?_) (Nat.le_of_ble_eq_true rfl) (Nat.le_of_ble_eq_true rfl)
        rintro _ _ ⟨z1, M1, rfl, rfl, r1, h⟩
        obtain ⟨i3, h⟩ := h
        refine n_if rfl i3 (fun c => ?_) (fun c => ?_)
        · replace h := h.1 c
          exact W_exp_133 hS r1 a0 a1 a2 a3 a4 hb46 h
        · replace h := h.2 c
          refine g1 (n := 1) rfl rfl rfl (la_of a0) ?_
          refine n_gi rfl hS.1 rfl (fun _ => rfl) ?_
          refine n_if rfl (inr_gi _ _ _) (fun c => ?_) (fun c => ?_)
          · replace h := h.1 c
            exact W_exp_133 hS r1 a0 a1 a2 a3 a4 hb46 h
          · replace h := h.2 c
            refine g1 (n := 1) rfl rfl rfl (la_of a0) ?_
            refine g1 (n := 1) rfl rfl rfl rfl ?_
            refine m_iv (a := 353) (as := [zv 1]) (rest := []) rfl (by decide) hS.1 rfl rfl (Nat.le_of_ble_eq_true rfl) ⟨Nat.le_of_ble_eq_true rfl, Nat.le_of_ble_eq_true rfl, Nat.le_of_ble_eq_true rfl⟩ ?_
            refine gx_room (gx_mono (W_reduce_m hS r1 h) ?_) (Nat.le_of_ble_eq_true rfl) (Nat.le_of_ble_eq_true rfl)
            rintro _ _ ⟨M2, rfl, rfl, r2, h⟩
            refine g1 (n := 1) rfl rfl rfl (la_of a0) ?_
            refine g0 rfl rfl rfl ?_
            refine n_gi rfl hS.1 rfl (fun _ => rfl) ?_
            refine g1 (n := 1) rfl rfl rfl rfl ?_
            refine n_sub rfl ?_
            refine n_pi (Nat.le_of_ble_eq_true rfl) rfl hS.1 rfl (fun _ _ => rfl) (fun M3 e r => ?_)
            replace h := h M3 e
            have r3 := r2.trans r
            refine g1 (n := 1) rfl rfl rfl (la_of a0) ?_
            refine g0 rfl rfl rfl ?_
            refine n_gi rfl hS.1 rfl (fun _ => rfl) ?_
            refine g1 (n := 1) rfl rfl rfl rfl ?_
            refine n_sub rfl ?_
            refine n_pi (Nat.le_of_ble_eq_true rfl) rfl hS.1 rfl (fun _ _ => rfl) (fun M4 e r => ?_)
            replace h := h M4 e
            have r4 := r3.trans r
            refine g1 (n := 1) rfl rfl rfl (la_of a0) ?_
            refine g0 rfl rfl rfl ?_
            refine n_gi rfl hS.1 rfl (fun _ => rfl) ?_
            refine g1 (n := 1) rfl rfl rfl rfl ?_
            refine n_sub rfl ?_
            refine n_pi (Nat.le_of_ble_eq_true rfl) rfl hS.1 rfl (fun _ _ => rfl) (fun M5 e r => ?_)
            replace h := h M5 e
            have r5 := r4.trans r
            refine g1 (n := 1) rfl rfl rfl (la_of a0) ?_
            refine m_iv (a := 353) (as := []) (rest := []) rfl (by decide) hS.1 rfl rfl (Nat.le_of_ble_eq_true rfl) ⟨Nat.le_of_ble_eq_true rfl, Nat.le_of_ble_eq_true rfl, Nat.le_of_ble_eq_true rfl⟩ ?_
            refine gx_room (gx_mono (W_next_m hS r5 h) ?_) (Nat.le_of_ble_eq_true rfl) (Nat.le_of_ble_eq_true rfl)
            rintro _ _ ⟨M6, rfl, rfl, r6, h⟩
            refine g1 (n := 1) rfl rfl rfl (la_of a0) ?_
            refine m_iv (a := 353) (as := []) (rest := []) rfl (by decide) hS.1 rfl rfl (Nat.le_of_ble_eq_true rfl) ⟨Nat.le_of_ble_eq_true rfl, Nat.le_of_ble_eq_true rfl, Nat.le_of_ble_eq_true rfl⟩ ?_
            refine gx_room (gx_mono (W_operandIsThere_m hS r6 h) ?_) (Nat.le_of_ble_eq_true rfl) (Nat.le_of_ble_eq_true rfl)
            rintro _ _ ⟨M7, rfl, rfl, r7, h⟩
            refine g3 rfl rfl rfl ?_
            exact hb46 _ _ _ _ _ _ r7 a0 a1 a2 a3 a4 h
      · replace h := h.2 c
        refine g1 (n := 1) rfl rfl rfl (la_of a0) ?_
        refine g1 (n := 1) rfl rfl rfl (li_of a1) ?_
        refine m_iv (a := 353) (as := [zv v1]) (rest := []) rfl (by decide) hS.1 rfl rfl (Nat.le_of_ble_eq_true rfl) ⟨Nat.le_of_ble_eq_true rfl, Nat.le_of_ble_eq_true rfl, Nat.le_of_ble_eq_true rfl⟩ ?_
        refine gx_room (gx_mono (W_readUnary_m hS hR h) ?_) (Nat.le_of_ble_eq_true rfl) (Nat.le_of_ble_eq_true rfl)
        rintro _ _ ⟨z8, M8, rfl, rfl, r8, h⟩
        refine n_s1 (n := 1) rfl rfl rfl rfl (fun ls l1 ho => ?_)
        replace a0 := ho 0 _ (by decide) (fun q => by cases q.2) a0
        have l2 := ho 1 _ (by decide) (fun q => by cases q.2) a1
        have l3 := ho 2 _ (by decide) (fun q => by cases q.2) a2
        have l4 := ho 4 _ (by decide) (fun q => by cases q.2) a4
        refine g3 rfl rfl rfl ?_
        exact hb46 _ _ _ _ _ _ r8 a0 l2 l3 l1 l4 h
def w_exp_46 (v1 : Int) (v2 : Int) (v3 : Int) (v4 : Int) (M : rf_M) (K : Int → rf_M → Prop) : Prop := ∃ Inv : Nat → Int → Int → Int → Int → rf_M → Prop, (∃ m, Inv m v1 v2 v3 v4 M) ∧ ∀ (m : Nat) (v1 : Int) (v2 : Int) (v3 : Int) (v4 : Int) (M : rf_M), Inv m v1 v2 v3 v4 M → w_exp_46b v1 v2 v3 v4 M (fun (v1' : Int) (v2' : Int) (v3' : Int) (v4' : Int) (M' : rf_M) => ∃ m', m' < m ∧ Inv m' v1' v2' v3' v4' M') K
theorem W_exp_46 {fz : Bool} {S : gS} {B : rf_M} {M : rf_M} {ls : rf_L} {v1 : Int} {v2 : Int} {v3 : Int} {v4 : Int} {K : Int → rf_M → Prop} (hS : rk fz S B.2.2) (hR : fq B M) (a0 : rf_ld ls 0 = some (.ref 353)) (a1 : rf_ld ls 1 = some (zv v1)) (a2 : rf_ld ls 2 = some (zv v2)) (a3 : rf_ld ls 3 = some (zv v3)) (a4 : rf_ld ls 4 = some (zv v4)) (h : w_exp_46 v1 v2 v3 v4 M K) : gx (cx0 fz) (3, 69) 146 46 ls [] (M, S) (vq_i B S K) := by
  obtain ⟨Inv, ⟨m, hm⟩, hb⟩ := h
  induction m using Nat.strongRecOn generalizing ls M v1 v2 v3 v4 with
  | _ m ih =>
    refine W_exp_46b hS hR a0 a1 a2 a3 a4 (fun v1' v2' v3' v4' M' ls' hR' f0 f1 f2 f3 f4 ⟨m', q1, q2⟩ => ih m' q1 hR' f0 f1 f2 f3 f4 q2) (hb m v1 v2 v3 v4 M hm)
def w_exp (v1 : Int) (M : rf_M) (K : Int → rf_M → Prop) : Prop := (0 ≤ (gi M 353 28) ∧ (gi M 353 28) < 12) ∧ (∀ M1 : rf_M, M1 = wi M 353 30 0 → (∀ M2 : rf_M, M2 = wi M1 353 31 0 → (∀ M3 : rf_M, M3 = wi M2 353 33 0 → ((0 ≤ (0 : Int) ∧ (0 : Int) < 16) ∧ (∀ M4 : rf_M, M4 = wi M3 372 0 (Int32.ofInt 0 &&& 1).toInt → (w_exp_46 v1 ((200 * (gi M 353 28)) + (gi M 359 (gi M 353 28).toNat)) 1 1 M4 K))))))
theorem W_exp {fz : Bool} {S : gS} {B : rf_M} {M : rf_M} {ls : rf_L} {v1 : Int} {K : Int → rf_M → Prop} (hS : rk fz S B.2.2) (hR : fq B M) (a0 : rf_ld ls 0 = some (.ref 353)) (a1 : rf_ld ls 1 = some (zv v1)) (h : w_exp v1 M K) : gx (cx0 fz) (3, 69) 146 0 ls [] (M, S) (vq_i B S K) := by
  unfold w_exp at h
  refine n_si rfl (by decide) ?_
  refine g1 (n := 1) rfl rfl rfl (la_of a0) ?_
  refine n_gi rfl hS.1 rfl (fun _ => rfl) ?_
  refine n_mul rfl ?_
  refine g1 (n := 1) rfl rfl rfl (la_of a0) ?_
  refine n_gr rfl hS.1 rfl (fun _ => rfl) hR (rk_359 hS).2 ?_
  refine g1 (n := 1) rfl rfl rfl (la_of a0) ?_
  refine n_gi rfl hS.1 rfl (fun _ => rfl) ?_
  obtain ⟨q, h⟩ := h
  refine n_ia rfl (rk_359 hS).1 (Nat.le_of_ble_eq_true rfl) q ?_
  refine n_add rfl ?_
  refine n_s1 (n := 1) rfl rfl rfl rfl (fun ls l1 ho => ?_)
  replace a0 := ho 0 _ (by decide) (fun q => by cases q.2) a0
  have l2 := ho 1 _ (by decide) (fun q => by cases q.2) a1
  refine g1 (n := 1) rfl rfl rfl (la_of a0) ?_
  refine g1 (n := 1) rfl rfl rfl rfl ?_
  refine n_pi (Nat.le_of_ble_eq_true rfl) rfl hS.1 rfl (fun _ _ => rfl) (fun M1 e r => ?_)
  replace h := h M1 e
  have r1 := hR.trans r
  refine g1 (n := 1) rfl rfl rfl (la_of a0) ?_
  refine g1 (n := 1) rfl rfl rfl rfl ?_
  refine n_pi (Nat.le_of_ble_eq_true rfl) rfl hS.1 rfl (fun _ _ => rfl) (fun M2 e r => ?_)
  replace h := h M2 e
  have r2 := r1.trans r
  refine g1 (n := 1) rfl rfl rfl (la_of a0) ?_
  refine g1 (n := 1) rfl rfl rfl rfl ?_
  refine n_pi (Nat.le_of_ble_eq_true rfl) rfl hS.1 rfl (fun _ _ => rfl) (fun M3 e r => ?_)
  replace h := h M3 e
  have r3 := r2.trans r
  refine g1 (n := 1) rfl rfl rfl (la_of a0) ?_
  refine n_gr rfl hS.1 rfl (fun _ => rfl) r3 (rk_372 hS).2 ?_
  refine g1 (n := 1) rfl rfl rfl rfl ?_
  refine g1 (n := 1) rfl rfl rfl rfl ?_
  obtain ⟨q, h⟩ := h
  refine n_zs (Nat.le_of_ble_eq_true rfl) rfl (rk_372 hS).1 (Nat.le_of_ble_eq_true rfl) q (fun M4 e r => ?_)
  replace h := h M4 e
  have r4 := r3.trans r
  refine g1 (n := 1) rfl rfl rfl rfl ?_
  refine n_s1 (n := 1) rfl rfl rfl rfl (fun ls l3 ho => ?_)
  replace a0 := ho 0 _ (by decide) (fun q => by cases q.2) a0
  have l4 := ho 1 _ (by decide) (fun q => by cases q.2) l2
  have l5 := ho 2 _ (by decide) (fun q => by cases q.2) l1
  refine g1 (n := 1) rfl rfl rfl rfl ?_
  refine n_s1 (n := 2) rfl rfl rfl rfl (fun ls l6 ho => ?_)
  replace a0 := ho 0 _ (by decide) (fun q => by cases q.2) a0
  have l7 := ho 1 _ (by decide) (fun q => by cases q.2) l4
  have l8 := ho 2 _ (by decide) (fun q => by cases q.2) l5
  have l9 := ho 3 _ (by decide) (fun q => by cases q.2) l3
  exact W_exp_46 hS r4 a0 l7 l8 l9 l6 h
def wm_exp (x0 : Int) (M : rf_M) (K : Int → rf_M → Prop) : Prop := w_exp x0 M K
theorem W_exp_m {fz : Bool} {S : gS} {B : rf_M} {M : rf_M} {x0 : Int} {K : Int → rf_M → Prop} (hS : rk fz S B.2.2) (hR : fq B M) (h : wm_exp x0 M K) : gx (cx0 fz) (3, 69) 146 0 (lv_args 0 [.ref 353, zv x0]) [] (M, S) (vq_i B S K) :=
  W_exp hS hR rfl rfl h
def w_readStatement_76 (M : rf_M) (K : rf_M → Prop) : Prop := wm_misplaced  M (fun (M1 : rf_M) => K M1)
theorem W_readStatement_76 {fz : Bool} {S : gS} {B : rf_M} {M : rf_M} {ls : rf_L} {K : rf_M → Prop} (hS : rk fz S B.2.2) (hR : fq B M) (a0 : rf_ld ls 0 = some (.ref 353)) (h : w_readStatement_76 M K) : gx (cx0 fz) (4, 94) 143 76 ls [] (M, S) (vq_v B S K) := by
  unfold w_readStatement_76 at h
  refine g1 (n := 1) rfl rfl rfl (la_of a0) ?_
  refine m_iv (a := 353) (as := []) (rest := []) rfl (by decide) hS.1 rfl rfl (Nat.le_of_ble_eq_true rfl) ⟨Nat.le_of_ble_eq_true rfl, Nat.le_of_ble_eq_true rfl, Nat.le_of_ble_eq_true rfl⟩ ?_
  refine gx_room (gx_mono (W_misplaced_m hS hR h) ?_) (Nat.le_of_ble_eq_true rfl) (Nat.le_of_ble_eq_true rfl)
  rintro _ _ ⟨M1, rfl, rfl, r1, h⟩
  exact gx_ret rfl rfl ⟨M1, rfl, rfl, r1, h⟩
def w_readStatement_319 (M : rf_M) (K : rf_M → Prop) : Prop := K M
theorem W_readStatement_319 {fz : Bool} {S : gS} {B : rf_M} {M : rf_M} {ls : rf_L} {K : rf_M → Prop} (hS : rk fz S B.2.2) (hR : fq B M) (h : w_readStatement_319 M K) : gx (cx0 fz) (4, 94) 143 319 ls [] (M, S) (vq_v B S K) := by
  unfold w_readStatement_319 at h
  exact gx_ret rfl rfl ⟨M, rfl, rfl, hR, h⟩
def w_readStatement_304 (v3 : Int) (M : rf_M) (K : rf_M → Prop) : Prop := wm_openBody v3 0 M (fun (M1 : rf_M) => w_readStatement_319 M1 K)
theorem W_readStatement_304 {fz : Bool} {S : gS} {B : rf_M} {M : rf_M} {ls : rf_L} {v3 : Int} {K : rf_M → Prop} (hS : rk fz S B.2.2) (hR : fq B M) (a0 : rf_ld ls 0 = some (.ref 353)) (a3 : rf_ld ls 3 = some (zv v3)) (h : w_readStatement_304 v3 M K) : gx (cx0 fz) (4, 94) 143 304 ls [] (M, S) (vq_v B S K) := by
  unfold w_readStatement_304 at h
  refine g1 (n := 1) rfl rfl rfl (la_of a0) ?_
  refine g1 (n := 1) rfl rfl rfl (li_of a3) ?_
  refine g1 (n := 1) rfl rfl rfl rfl ?_
  refine m_iv (a := 353) (as := [zv v3, zv 0]) (rest := []) rfl (by decide) hS.1 rfl rfl (Nat.le_of_ble_eq_true rfl) ⟨Nat.le_of_ble_eq_true rfl, Nat.le_of_ble_eq_true rfl, Nat.le_of_ble_eq_true rfl⟩ ?_
  refine gx_room (gx_mono (W_openBody_m hS hR h) ?_) (Nat.le_of_ble_eq_true rfl) (Nat.le_of_ble_eq_true rfl)
  rintro _ _ ⟨M1, rfl, rfl, r1, h⟩
  refine g3 rfl rfl rfl ?_
  exact W_readStatement_319 hS r1  h
def w_readStatement_256 (v3 : Int) (M : rf_M) (K : rf_M → Prop) : Prop := ((gi M 353 9) = 0 → ((0 ≤ v3 ∧ v3 < 480) ∧ (((gi M 360 (v3).toNat) = 0 → (w_readStatement_304 v3 M K)) ∧ (¬ ((gi M 360 (v3).toNat) = 0) → ((0 ≤ v3 ∧ v3 < 480) ∧ (((gi M 360 (v3).toNat) = 2 → (w_readStatement_304 v3 M K)) ∧ (¬ ((gi M 360 (v3).toNat) = 2) → ((0 ≤ v3 ∧ v3 < 480) ∧ (((gi M 360 (v3).toNat) = 5 → (w_readStatement_304 v3 M K)) ∧ (¬ ((gi M 360 (v3).toNat) = 5) → ((0 ≤ v3 ∧ v3 < 480) ∧ (((gi M 360 (v3).toNat) = 7 → (w_readStatement_304 v3 M K)) ∧ (¬ (gi M 360 (v3).toNat) = 7 → (wm_take 59 M (fun (M1 : rf_M) => w_readStatement_319 M1 K))))))))))))))) ∧ (¬ ((gi M 353 9) = 0) → (K M))
theorem W_readStatement_256 {fz : Bool} {S : gS} {B : rf_M} {M : rf_M} {ls : rf_L} {v3 : Int} {K : rf_M → Prop} (hS : rk fz S B.2.2) (hR : fq B M) (a0 : rf_ld ls 0 = some (.ref 353)) (a3 : rf_ld ls 3 = some (zv v3)) (h : w_readStatement_256 v3 M K) : gx (cx0 fz) (4, 94) 143 256 ls [] (M, S) (vq_v B S K) := by
  unfold w_readStatement_256 at h
  refine g1 (n := 1) rfl rfl rfl (la_of a0) ?_
  refine n_gi rfl hS.1 rfl (fun _ => rfl) ?_
  refine n_if rfl (inr_gi _ _ _) (fun c => ?_) (fun c => ?_)
  · replace h := h.1 c
    refine g1 (n := 1) rfl rfl rfl (la_of a0) ?_
    refine n_gr rfl hS.1 rfl (fun _ => rfl) hR (rk_360 hS).2 ?_
    refine g1 (n := 1) rfl rfl rfl (li_of a3) ?_
    obtain ⟨q, h⟩ := h
    refine n_ia rfl (rk_360 hS).1 (Nat.le_of_ble_eq_true rfl) q ?_
    refine n_if rfl (inr_gi _ _ _) (fun c => ?_) (fun c => ?_)
    · replace h := h.1 c
      exact W_readStatement_304 hS hR a0 a3 h
    · replace h := h.2 c
      refine g1 (n := 1) rfl rfl rfl (la_of a0) ?_
      refine n_gr rfl hS.1 rfl (fun _ => rfl) hR (rk_360 hS).2 ?_
      refine g1 (n := 1) rfl rfl rfl (li_of a3) ?_
      obtain ⟨q, h⟩ := h
      refine n_ia rfl (rk_360 hS).1 (Nat.le_of_ble_eq_true rfl) q ?_
      refine g1 (n := 1) rfl rfl rfl rfl ?_
      refine n_ic rfl (inr_gi _ _ _) ⟨by decide, by decide⟩ (fun c => ?_) (fun c => ?_)
      · replace h := h.1 c
        exact W_readStatement_304 hS hR a0 a3 h
      · replace h := h.2 c
        refine g1 (n := 1) rfl rfl rfl (la_of a0) ?_
        refine n_gr rfl hS.1 rfl (fun _ => rfl) hR (rk_360 hS).2 ?_
        refine g1 (n := 1) rfl rfl rfl (li_of a3) ?_
        obtain ⟨q, h⟩ := h
        refine n_ia rfl (rk_360 hS).1 (Nat.le_of_ble_eq_true rfl) q ?_
        refine g1 (n := 1) rfl rfl rfl rfl ?_
        refine n_ic rfl (inr_gi _ _ _) ⟨by decide, by decide⟩ (fun c => ?_) (fun c => ?_)
        · replace h := h.1 c
          exact W_readStatement_304 hS hR a0 a3 h
        · replace h := h.2 c
          refine g1 (n := 1) rfl rfl rfl (la_of a0) ?_
          refine n_gr rfl hS.1 rfl (fun _ => rfl) hR (rk_360 hS).2 ?_
          refine g1 (n := 1) rfl rfl rfl (li_of a3) ?_
          obtain ⟨q, h⟩ := h
          refine n_ia rfl (rk_360 hS).1 (Nat.le_of_ble_eq_true rfl) q ?_
          refine n_bi rfl (by decide) ?_
          refine n_ic rfl (inr_gi _ _ _) ⟨by decide, by decide⟩ (fun c => ?_) (fun c => ?_)
          · replace h := h.2 c
            refine g1 (n := 1) rfl rfl rfl (la_of a0) ?_
            refine n_bi rfl (by decide) ?_
            refine m_iv (a := 353) (as := [zv 59]) (rest := []) rfl (by decide) hS.1 rfl rfl (Nat.le_of_ble_eq_true rfl) ⟨Nat.le_of_ble_eq_true rfl, Nat.le_of_ble_eq_true rfl, Nat.le_of_ble_eq_true rfl⟩ ?_
            refine gx_room (gx_mono (W_take_m hS hR h) ?_) (Nat.le_of_ble_eq_true rfl) (Nat.le_of_ble_eq_true rfl)
            rintro _ _ ⟨M1, rfl, rfl, r1, h⟩
            exact W_readStatement_319 hS r1  h
          · replace h := h.1 (Classical.not_not.mp c)
            exact W_readStatement_304 hS hR a0 a3 h
  · replace h := h.2 c
    exact gx_ret rfl rfl ⟨M, rfl, rfl, hR, h⟩
def w_readStatement_250 (v3 : Int) (M : rf_M) (K : rf_M → Prop) : Prop := wm_take 41 M (fun (M1 : rf_M) => w_readStatement_256 v3 M1 K)
theorem W_readStatement_250 {fz : Bool} {S : gS} {B : rf_M} {M : rf_M} {ls : rf_L} {v3 : Int} {K : rf_M → Prop} (hS : rk fz S B.2.2) (hR : fq B M) (a0 : rf_ld ls 0 = some (.ref 353)) (a3 : rf_ld ls 3 = some (zv v3)) (h : w_readStatement_250 v3 M K) : gx (cx0 fz) (4, 94) 143 250 ls [] (M, S) (vq_v B S K) := by
  unfold w_readStatement_250 at h
  refine g1 (n := 1) rfl rfl rfl (la_of a0) ?_
  refine n_bi rfl (by decide) ?_
  refine m_iv (a := 353) (as := [zv 41]) (rest := []) rfl (by decide) hS.1 rfl rfl (Nat.le_of_ble_eq_true rfl) ⟨Nat.le_of_ble_eq_true rfl, Nat.le_of_ble_eq_true rfl, Nat.le_of_ble_eq_true rfl⟩ ?_
  refine gx_room (gx_mono (W_take_m hS hR h) ?_) (Nat.le_of_ble_eq_true rfl) (Nat.le_of_ble_eq_true rfl)
  rintro _ _ ⟨M1, rfl, rfl, r1, h⟩
  exact W_readStatement_256 hS r1 a0 a3 h
def w_readStatement_231 (v3 : Int) (M : rf_M) (K : rf_M → Prop) : Prop := (0 ≤ v3 ∧ v3 < 480) ∧ (((gi M 360 (v3).toNat) = 0 → (w_readStatement_250 v3 M K)) ∧ (¬ ((gi M 360 (v3).toNat) = 0) → ((0 ≤ v3 ∧ v3 < 480) ∧ (((gi M 360 (v3).toNat) = 2 → (w_readStatement_250 v3 M K)) ∧ (¬ (gi M 360 (v3).toNat) = 2 → (w_readStatement_256 v3 M K))))))
theorem W_readStatement_231 {fz : Bool} {S : gS} {B : rf_M} {M : rf_M} {ls : rf_L} {v3 : Int} {K : rf_M → Prop} (hS : rk fz S B.2.2) (hR : fq B M) (a0 : rf_ld ls 0 = some (.ref 353)) (a3 : rf_ld ls 3 = some (zv v3)) (h : w_readStatement_231 v3 M K) : gx (cx0 fz) (4, 94) 143 231 ls [] (M, S) (vq_v B S K) := by
  unfold w_readStatement_231 at h
  refine g1 (n := 1) rfl rfl rfl (la_of a0) ?_
  refine n_gr rfl hS.1 rfl (fun _ => rfl) hR (rk_360 hS).2 ?_
  refine g1 (n := 1) rfl rfl rfl (li_of a3) ?_
  obtain ⟨q, h⟩ := h
  refine n_ia rfl (rk_360 hS).1 (Nat.le_of_ble_eq_true rfl) q ?_
  refine n_if rfl (inr_gi _ _ _) (fun c => ?_) (fun c => ?_)
  · replace h := h.1 c
    exact W_readStatement_250 hS hR a0 a3 h
  · replace h := h.2 c
    refine g1 (n := 1) rfl rfl rfl (la_of a0) ?_
    refine n_gr rfl hS.1 rfl (fun _ => rfl) hR (rk_360 hS).2 ?_
    refine g1 (n := 1) rfl rfl rfl (li_of a3) ?_
    obtain ⟨q, h⟩ := h
    refine n_ia rfl (rk_360 hS).1 (Nat.le_of_ble_eq_true rfl) q ?_
    refine g1 (n := 1) rfl rfl rfl rfl ?_
    refine n_ic rfl (inr_gi _ _ _) ⟨by decide, by decide⟩ (fun c => ?_) (fun c => ?_)
    · replace h := h.2 c
      exact W_readStatement_256 hS hR a0 a3 h
    · replace h := h.1 (Classical.not_not.mp c)
      exact W_readStatement_250 hS hR a0 a3 h
def w_readStatement_227 (v3 : Int) (s1 : Int) (s3 : Int) (M : rf_M) (K : rf_M → Prop) : Prop := wm_exp s3 M (fun (z1 : Int) (M1 : rf_M) => (0 ≤ s1 ∧ s1 < 480) ∧ (∀ M2 : rf_M, M2 = wi M1 364 (s1).toNat z1 → (w_readStatement_231 v3 M2 K)))
theorem W_readStatement_227 {fz : Bool} {S : gS} {B : rf_M} {M : rf_M} {ls : rf_L} {v3 : Int} {s1 : Int} {s3 : Int} {K : rf_M → Prop} (hS : rk fz S B.2.2) (hR : fq B M) (a0 : rf_ld ls 0 = some (.ref 353)) (a3 : rf_ld ls 3 = some (zv v3)) (h : w_readStatement_227 v3 s1 s3 M K) : gx (cx0 fz) (4, 94) 143 227 ls [zv s3, .ref 353, zv s1, .ref 364] (M, S) (vq_v B S K) := by
  unfold w_readStatement_227 at h
  refine m_iv (a := 353) (as := [zv s3]) (rest := [zv s1, .ref 364]) rfl (by decide) hS.1 rfl rfl (Nat.le_of_ble_eq_true rfl) ⟨Nat.le_of_ble_eq_true rfl, Nat.le_of_ble_eq_true rfl, Nat.le_of_ble_eq_true rfl⟩ ?_
  refine gx_room (gx_mono (W_exp_m hS hR h) ?_) (Nat.le_of_ble_eq_true rfl) (Nat.le_of_ble_eq_true rfl)
  rintro _ _ ⟨z1, M1, rfl, rfl, r1, h⟩
  obtain ⟨q, h⟩ := h
  refine n_is (Nat.le_of_ble_eq_true rfl) rfl (rk_364 hS).1 (Nat.le_of_ble_eq_true rfl) q (fun M2 e r => ?_)
  replace h := h M2 e
  have r2 := r1.trans r
  exact W_readStatement_231 hS r2 a0 a3 h
def w_readStatement_167 (v3 : Int) (M : rf_M) (K : rf_M → Prop) : Prop := ((gi M 353 9) = 0 → ((0 ≤ v3 ∧ v3 < 480) ∧ (((gi M 360 (v3).toNat) = 3 → (w_readStatement_231 v3 M K)) ∧ (¬ ((gi M 360 (v3).toNat) = 3) → ((0 ≤ v3 ∧ v3 < 480) ∧ (((gi M 360 (v3).toNat) = 5 → (w_readStatement_231 v3 M K)) ∧ (¬ ((gi M 360 (v3).toNat) = 5) → ((0 ≤ v3 ∧ v3 < 480) ∧ (((gi M 360 (v3).toNat) = 7 → (w_readStatement_231 v3 M K)) ∧ (¬ ((gi M 360 (v3).toNat) = 7) → ((0 ≤ v3 ∧ v3 < 480) ∧ (((gi M 360 (v3).toNat) = 9 → (w_readStatement_227 v3 v3 1 M K)) ∧ (¬ (gi M 360 (v3).toNat) = 9 → (w_readStatement_227 v3 v3 0 M K)))))))))))))) ∧ (¬ (gi M 353 9) = 0 → (w_readStatement_231 v3 M K))
theorem W_readStatement_167 {fz : Bool} {S : gS} {B : rf_M} {M : rf_M} {ls : rf_L} {v3 : Int} {K : rf_M → Prop} (hS : rk fz S B.2.2) (hR : fq B M) (a0 : rf_ld ls 0 = some (.ref 353)) (a3 : rf_ld ls 3 = some (zv v3)) (h : w_readStatement_167 v3 M K) : gx (cx0 fz) (4, 94) 143 167 ls [] (M, S) (vq_v B S K) := by
  unfold w_readStatement_167 at h
  refine g1 (n := 1) rfl rfl rfl (la_of a0) ?_
  refine n_gi rfl hS.1 rfl (fun _ => rfl) ?_
  refine n_if rfl (inr_gi _ _ _) (fun c => ?_) (fun c => ?_)
  · replace h := h.2 c
    exact W_readStatement_231 hS hR a0 a3 h
  · replace h := h.1 (Classical.not_not.mp c)
    refine g1 (n := 1) rfl rfl rfl (la_of a0) ?_
    refine n_gr rfl hS.1 rfl (fun _ => rfl) hR (rk_360 hS).2 ?_
    refine g1 (n := 1) rfl rfl rfl (li_of a3) ?_
    obtain ⟨q, h⟩ := h
    refine n_ia rfl (rk_360 hS).1 (Nat.le_of_ble_eq_true rfl) q ?_
    refine g1 (n := 1) rfl rfl rfl rfl ?_
    refine n_ic rfl (inr_gi _ _ _) ⟨by decide, by decide⟩ (fun c => ?_) (fun c => ?_)
    · replace h := h.1 c
      exact W_readStatement_231 hS hR a0 a3 h
    · replace h := h.2 c
      refine g1 (n := 1) rfl rfl rfl (la_of a0) ?_
      refine n_gr rfl hS.1 rfl (fun _ => rfl) hR (rk_360 hS).2 ?_
      refine g1 (n := 1) rfl rfl rfl (li_of a3) ?_
      obtain ⟨q, h⟩ := h
      refine n_ia rfl (rk_360 hS).1 (Nat.le_of_ble_eq_true rfl) q ?_
      refine g1 (n := 1) rfl rfl rfl rfl ?_
      refine n_ic rfl (inr_gi _ _ _) ⟨by decide, by decide⟩ (fun c => ?_) (fun c => ?_)
      · replace h := h.1 c
        exact W_readStatement_231 hS hR a0 a3 h
      · replace h := h.2 c
        refine g1 (n := 1) rfl rfl rfl (la_of a0) ?_
        refine n_gr rfl hS.1 rfl (fun _ => rfl) hR (rk_360 hS).2 ?_
        refine g1 (n := 1) rfl rfl rfl (li_of a3) ?_
        obtain ⟨q, h⟩ := h
        refine n_ia rfl (rk_360 hS).1 (Nat.le_of_ble_eq_true rfl) q ?_
        refine n_bi rfl (by decide) ?_
        refine n_ic rfl (inr_gi _ _ _) ⟨by decide, by decide⟩ (fun c => ?_) (fun c => ?_)
        · replace h := h.1 c
          exact W_readStatement_231 hS hR a0 a3 h
        · replace h := h.2 c
          refine g1 (n := 1) rfl rfl rfl (la_of a0) ?_
          refine n_gr rfl hS.1 rfl (fun _ => rfl) hR (rk_364 hS).2 ?_
          refine g1 (n := 1) rfl rfl rfl (li_of a3) ?_
          refine g1 (n := 1) rfl rfl rfl (la_of a0) ?_
          refine g1 (n := 1) rfl rfl rfl (la_of a0) ?_
          refine n_gr rfl hS.1 rfl (fun _ => rfl) hR (rk_360 hS).2 ?_
          refine g1 (n := 1) rfl rfl rfl (li_of a3) ?_
          obtain ⟨q, h⟩ := h
          refine n_ia rfl (rk_360 hS).1 (Nat.le_of_ble_eq_true rfl) q ?_
          refine n_bi rfl (by decide) ?_
          refine n_ic rfl (inr_gi _ _ _) ⟨by decide, by decide⟩ (fun c => ?_) (fun c => ?_)
          · replace h := h.2 c
            refine g1 (n := 1) rfl rfl rfl rfl ?_
            exact W_readStatement_227 hS hR a0 a3 h
          · replace h := h.1 (Classical.not_not.mp c)
            refine g1 (n := 1) rfl rfl rfl rfl ?_
            refine g3 rfl rfl rfl ?_
            exact W_readStatement_227 hS hR a0 a3 h
def w_readStatement_161 (v3 : Int) (M : rf_M) (K : rf_M → Prop) : Prop := wm_take 40 M (fun (M1 : rf_M) => w_readStatement_167 v3 M1 K)
theorem W_readStatement_161 {fz : Bool} {S : gS} {B : rf_M} {M : rf_M} {ls : rf_L} {v3 : Int} {K : rf_M → Prop} (hS : rk fz S B.2.2) (hR : fq B M) (a0 : rf_ld ls 0 = some (.ref 353)) (a3 : rf_ld ls 3 = some (zv v3)) (h : w_readStatement_161 v3 M K) : gx (cx0 fz) (4, 94) 143 161 ls [] (M, S) (vq_v B S K) := by
  unfold w_readStatement_161 at h
  refine g1 (n := 1) rfl rfl rfl (la_of a0) ?_
  refine n_bi rfl (by decide) ?_
  refine m_iv (a := 353) (as := [zv 40]) (rest := []) rfl (by decide) hS.1 rfl rfl (Nat.le_of_ble_eq_true rfl) ⟨Nat.le_of_ble_eq_true rfl, Nat.le_of_ble_eq_true rfl, Nat.le_of_ble_eq_true rfl⟩ ?_
  refine gx_room (gx_mono (W_take_m hS hR h) ?_) (Nat.le_of_ble_eq_true rfl) (Nat.le_of_ble_eq_true rfl)
  rintro _ _ ⟨M1, rfl, rfl, r1, h⟩
  exact W_readStatement_167 hS r1 a0 a3 h
def w_readStatement_127 (v1 : Int) (v3 : Int) (s1 : Int) (s2 : Int) (M : rf_M) (K : rf_M → Prop) : Prop := (0 ≤ s1 ∧ s1 < 480) ∧ (∀ M1 : rf_M, M1 = wi M 367 (s1).toNat s2 → (wm_next  M1 (fun (M2 : rf_M) => (0 ≤ v3 ∧ v3 < 480) ∧ (((gi M2 360 (v3).toNat) = 20 → (wm_take 61 M2 (fun (M3 : rf_M) => w_readStatement_167 v3 M3 K))) ∧ (¬ (gi M2 360 (v3).toNat) = 20 → (inr v1 ∧ ((v1 = 0 → (w_readStatement_161 v3 M2 K)) ∧ (¬ (v1 = 0) → (inr v1 ∧ ((v1 = 2 → (w_readStatement_161 v3 M2 K)) ∧ (¬ v1 = 2 → (w_readStatement_167 v3 M2 K))))))))))))
theorem W_readStatement_127 {fz : Bool} {S : gS} {B : rf_M} {M : rf_M} {ls : rf_L} {v1 : Int} {v3 : Int} {s1 : Int} {s2 : Int} {K : rf_M → Prop} (hS : rk fz S B.2.2) (hR : fq B M) (a0 : rf_ld ls 0 = some (.ref 353)) (a1 : rf_ld ls 1 = some (zv v1)) (a3 : rf_ld ls 3 = some (zv v3)) (h : w_readStatement_127 v1 v3 s1 s2 M K) : gx (cx0 fz) (4, 94) 143 127 ls [zv s2, zv s1, .ref 367] (M, S) (vq_v B S K) := by
  unfold w_readStatement_127 at h
  obtain ⟨q, h⟩ := h
  refine n_is (Nat.le_of_ble_eq_true rfl) rfl (rk_367 hS).1 (Nat.le_of_ble_eq_true rfl) q (fun M1 e r => ?_)
  replace h := h M1 e
  have r1 := hR.trans r
  refine g1 (n := 1) rfl rfl rfl (la_of a0) ?_
  refine m_iv (a := 353) (as := []) (rest := []) rfl (by decide) hS.1 rfl rfl (Nat.le_of_ble_eq_true rfl) ⟨Nat.le_of_ble_eq_true rfl, Nat.le_of_ble_eq_true rfl, Nat.le_of_ble_eq_true rfl⟩ ?_
  refine gx_room (gx_mono (W_next_m hS r1 h) ?_) (Nat.le_of_ble_eq_true rfl) (Nat.le_of_ble_eq_true rfl)
  rintro _ _ ⟨M2, rfl, rfl, r2, h⟩
  refine g1 (n := 1) rfl rfl rfl (la_of a0) ?_
  refine n_gr rfl hS.1 rfl (fun _ => rfl) r2 (rk_360 hS).2 ?_
  refine g1 (n := 1) rfl rfl rfl (li_of a3) ?_
  obtain ⟨q, h⟩ := h
  refine n_ia rfl (rk_360 hS).1 (Nat.le_of_ble_eq_true rfl) q ?_
  refine n_bi rfl (by decide) ?_
  refine n_ic rfl (inr_gi _ _ _) ⟨by decide, by decide⟩ (fun c => ?_) (fun c => ?_)
  · replace h := h.2 c
    refine g1 (n := 1) rfl rfl rfl (li_of a1) ?_
    obtain ⟨i1, h⟩ := h
    refine n_if rfl i1 (fun c => ?_) (fun c => ?_)
    · replace h := h.1 c
      exact W_readStatement_161 hS r2 a0 a3 h
    · replace h := h.2 c
      refine g1 (n := 1) rfl rfl rfl (li_of a1) ?_
      refine g1 (n := 1) rfl rfl rfl rfl ?_
      obtain ⟨i2, h⟩ := h
      refine n_ic rfl i2 ⟨by decide, by decide⟩ (fun c => ?_) (fun c => ?_)
      · replace h := h.2 c
        exact W_readStatement_167 hS r2 a0 a3 h
      · replace h := h.1 (Classical.not_not.mp c)
        exact W_readStatement_161 hS r2 a0 a3 h
  · replace h := h.1 (Classical.not_not.mp c)
    refine g1 (n := 1) rfl rfl rfl (la_of a0) ?_
    refine n_bi rfl (by decide) ?_
    refine m_iv (a := 353) (as := [zv 61]) (rest := []) rfl (by decide) hS.1 rfl rfl (Nat.le_of_ble_eq_true rfl) ⟨Nat.le_of_ble_eq_true rfl, Nat.le_of_ble_eq_true rfl, Nat.le_of_ble_eq_true rfl⟩ ?_
    refine gx_room (gx_mono (W_take_m hS r2 h) ?_) (Nat.le_of_ble_eq_true rfl) (Nat.le_of_ble_eq_true rfl)
    rintro _ _ ⟨M3, rfl, rfl, r3, h⟩
    refine g3 rfl rfl rfl ?_
    exact W_readStatement_167 hS r3 a0 a3 h
def w_readStatement_105 (v1 : Int) (v3 : Int) (s1 : Int) (s2 : Int) (M : rf_M) (K : rf_M → Prop) : Prop := (0 ≤ s1 ∧ s1 < 480) ∧ (∀ M1 : rf_M, M1 = wi M 360 (s1).toNat s2 → (((gi M1 353 4) = 2 → (w_readStatement_127 v1 v3 v3 (gi M1 353 6) M1 K)) ∧ (¬ (gi M1 353 4) = 2 → (w_readStatement_127 v1 v3 v3 (-1) M1 K))))
theorem W_readStatement_105 {fz : Bool} {S : gS} {B : rf_M} {M : rf_M} {ls : rf_L} {v1 : Int} {v3 : Int} {s1 : Int} {s2 : Int} {K : rf_M → Prop} (hS : rk fz S B.2.2) (hR : fq B M) (a0 : rf_ld ls 0 = some (.ref 353)) (a1 : rf_ld ls 1 = some (zv v1)) (a3 : rf_ld ls 3 = some (zv v3)) (h : w_readStatement_105 v1 v3 s1 s2 M K) : gx (cx0 fz) (4, 94) 143 105 ls [zv s2, zv s1, .ref 360] (M, S) (vq_v B S K) := by
  unfold w_readStatement_105 at h
  obtain ⟨q, h⟩ := h
  refine n_is (Nat.le_of_ble_eq_true rfl) rfl (rk_360 hS).1 (Nat.le_of_ble_eq_true rfl) q (fun M1 e r => ?_)
  replace h := h M1 e
  have r1 := hR.trans r
  refine g1 (n := 1) rfl rfl rfl (la_of a0) ?_
  refine n_gr rfl hS.1 rfl (fun _ => rfl) r1 (rk_367 hS).2 ?_
  refine g1 (n := 1) rfl rfl rfl (li_of a3) ?_
  refine g1 (n := 1) rfl rfl rfl (la_of a0) ?_
  refine n_gi rfl hS.1 rfl (fun _ => rfl) ?_
  refine g1 (n := 1) rfl rfl rfl rfl ?_
  refine n_ic rfl (inr_gi _ _ _) ⟨by decide, by decide⟩ (fun c => ?_) (fun c => ?_)
  · replace h := h.2 c
    refine g1 (n := 1) rfl rfl rfl rfl ?_
    exact W_readStatement_127 hS r1 a0 a1 a3 h
  · replace h := h.1 (Classical.not_not.mp c)
    refine g1 (n := 1) rfl rfl rfl (la_of a0) ?_
    refine n_gi rfl hS.1 rfl (fun _ => rfl) ?_
    refine g3 rfl rfl rfl ?_
    exact W_readStatement_127 hS r1 a0 a1 a3 h
def w_readStatement_57 (v1 : Int) (s0 : Int) (M : rf_M) (K : rf_M → Prop) : Prop := inr s0 ∧ ((s0 = 0 → (w_readStatement_76 M K)) ∧ (¬ (s0 = 0) → ((0 ≤ (gi M 353 28) ∧ (gi M 353 28) < 12) ∧ (((gi M 355 (gi M 353 28).toNat) = 40 → (w_readStatement_76 M K)) ∧ (¬ (gi M 355 (gi M 353 28).toNat) = 40 → (wm_newStatement  M (fun (z1 : Int) (M1 : rf_M) => ((gi M1 353 4) = 2 → (w_readStatement_105 v1 z1 z1 20 M1 K)) ∧ (¬ (gi M1 353 4) = 2 → (w_readStatement_105 v1 z1 z1 v1 M1 K)))))))))
theorem W_readStatement_57 {fz : Bool} {S : gS} {B : rf_M} {M : rf_M} {ls : rf_L} {v1 : Int} {s0 : Int} {K : rf_M → Prop} (hS : rk fz S B.2.2) (hR : fq B M) (a0 : rf_ld ls 0 = some (.ref 353)) (a1 : rf_ld ls 1 = some (zv v1)) (h : w_readStatement_57 v1 s0 M K) : gx (cx0 fz) (4, 94) 143 57 ls [zv s0] (M, S) (vq_v B S K) := by
  unfold w_readStatement_57 at h
  refine n_s1 (n := 1) rfl rfl rfl rfl (fun ls l1 ho => ?_)
  replace a0 := ho 0 _ (by decide) (fun q => by cases q.2) a0
  have l2 := ho 1 _ (by decide) (fun q => by cases q.2) a1
  refine g1 (n := 1) rfl rfl rfl (li_of l1) ?_
  obtain ⟨i1, h⟩ := h
  refine n_if rfl i1 (fun c => ?_) (fun c => ?_)
  · replace h := h.1 c
    exact W_readStatement_76 hS hR a0 h
  · replace h := h.2 c
    refine g1 (n := 1) rfl rfl rfl (la_of a0) ?_
    refine n_gr rfl hS.1 rfl (fun _ => rfl) hR (rk_355 hS).2 ?_
    refine g1 (n := 1) rfl rfl rfl (la_of a0) ?_
    refine n_gi rfl hS.1 rfl (fun _ => rfl) ?_
    obtain ⟨q, h⟩ := h
    refine n_ia rfl (rk_355 hS).1 (Nat.le_of_ble_eq_true rfl) q ?_
    refine n_bi rfl (by decide) ?_
    refine n_ic rfl (inr_gi _ _ _) ⟨by decide, by decide⟩ (fun c => ?_) (fun c => ?_)
    · replace h := h.2 c
      refine g1 (n := 1) rfl rfl rfl (la_of a0) ?_
      refine m_iv (a := 353) (as := []) (rest := []) rfl (by decide) hS.1 rfl rfl (Nat.le_of_ble_eq_true rfl) ⟨Nat.le_of_ble_eq_true rfl, Nat.le_of_ble_eq_true rfl, Nat.le_of_ble_eq_true rfl⟩ ?_
      refine gx_room (gx_mono (W_newStatement_m hS hR h) ?_) (Nat.le_of_ble_eq_true rfl) (Nat.le_of_ble_eq_true rfl)
      rintro _ _ ⟨z1, M1, rfl, rfl, r1, h⟩
      refine n_s1 (n := 1) rfl rfl rfl rfl (fun ls l3 ho => ?_)
      replace a0 := ho 0 _ (by decide) (fun q => by cases q.2) a0
      have l4 := ho 1 _ (by decide) (fun q => by cases q.2) l2
      refine g1 (n := 1) rfl rfl rfl (la_of a0) ?_
      refine n_gr rfl hS.1 rfl (fun _ => rfl) r1 (rk_360 hS).2 ?_
      refine g1 (n := 1) rfl rfl rfl (li_of l3) ?_
      refine g1 (n := 1) rfl rfl rfl (la_of a0) ?_
      refine n_gi rfl hS.1 rfl (fun _ => rfl) ?_
      refine g1 (n := 1) rfl rfl rfl rfl ?_
      refine n_ic rfl (inr_gi _ _ _) ⟨by decide, by decide⟩ (fun c => ?_) (fun c => ?_)
      · replace h := h.2 c
        refine g1 (n := 1) rfl rfl rfl (li_of l4) ?_
        exact W_readStatement_105 hS r1 a0 l4 l3 h
      · replace h := h.1 (Classical.not_not.mp c)
        refine n_bi rfl (by decide) ?_
        refine g3 rfl rfl rfl ?_
        exact W_readStatement_105 hS r1 a0 l4 l3 h
    · replace h := h.1 (Classical.not_not.mp c)
      exact W_readStatement_76 hS hR a0 h
def w_readStatement_52 (v1 : Int) (M : rf_M) (K : rf_M → Prop) : Prop := w_readStatement_57 v1 1 M K
theorem W_readStatement_52 {fz : Bool} {S : gS} {B : rf_M} {M : rf_M} {ls : rf_L} {v1 : Int} {K : rf_M → Prop} (hS : rk fz S B.2.2) (hR : fq B M) (a0 : rf_ld ls 0 = some (.ref 353)) (a1 : rf_ld ls 1 = some (zv v1)) (h : w_readStatement_52 v1 M K) : gx (cx0 fz) (4, 94) 143 52 ls [] (M, S) (vq_v B S K) := by
  unfold w_readStatement_52 at h
  refine g1 (n := 1) rfl rfl rfl rfl ?_
  refine g3 rfl rfl rfl ?_
  exact W_readStatement_57 hS hR a0 a1 h
def w_readStatement (M : rf_M) (K : rf_M → Prop) : Prop := ((gi M 353 4) = 2 → (w_readStatement_52 ((gi M 353 4) - 10) M K)) ∧ (¬ ((gi M 353 4) = 2) → (inr ((gi M 353 4) - 10) ∧ ((((gi M 353 4) - 10) = 0 → (w_readStatement_52 ((gi M 353 4) - 10) M K)) ∧ (¬ (((gi M 353 4) - 10) = 0) → (inr ((gi M 353 4) - 10) ∧ ((((gi M 353 4) - 10) = 2 → (w_readStatement_52 ((gi M 353 4) - 10) M K)) ∧ (¬ (((gi M 353 4) - 10) = 2) → (inr ((gi M 353 4) - 10) ∧ ((((gi M 353 4) - 10) = 3 → (w_readStatement_52 ((gi M 353 4) - 10) M K)) ∧ (¬ (((gi M 353 4) - 10) = 3) → (inr ((gi M 353 4) - 10) ∧ ((((gi M 353 4) - 10) = 4 → (w_readStatement_52 ((gi M 353 4) - 10) M K)) ∧ (¬ (((gi M 353 4) - 10) = 4) → (inr ((gi M 353 4) - 10) ∧ ((((gi M 353 4) - 10) = 5 → (w_readStatement_52 ((gi M 353 4) - 10) M K)) ∧ (¬ (((gi M 353 4) - 10) = 5) → (inr ((gi M 353 4) - 10) ∧ ((((gi M 353 4) - 10) = 7 → (w_readStatement_52 ((gi M 353 4) - 10) M K)) ∧ (¬ (((gi M 353 4) - 10) = 7) → (inr ((gi M 353 4) - 10) ∧ ((((gi M 353 4) - 10) = 9 → (w_readStatement_52 ((gi M 353 4) - 10) M K)) ∧ (¬ ((gi M 353 4) - 10) = 9 → (w_readStatement_57 ((gi M 353 4) - 10) 0 M K)))))))))))))))))))))))
theorem W_readStatement {fz : Bool} {S : gS} {B : rf_M} {M : rf_M} {ls : rf_L} {K : rf_M → Prop} (hS : rk fz S B.2.2) (hR : fq B M) (a0 : rf_ld ls 0 = some (.ref 353)) (h : w_readStatement M K) : gx (cx0 fz) (4, 94) 143 0 ls [] (M, S) (vq_v B S K) := by
  unfold w_readStatement at h
  refine g1 (n := 1) rfl rfl rfl (la_of a0) ?_
  refine n_gi rfl hS.1 rfl (fun _ => rfl) ?_
  refine n_bi rfl (by decide) ?_
  refine n_sub rfl ?_
  refine n_s1 (n := 1) rfl rfl rfl rfl (fun ls l1 ho => ?_)
  replace a0 := ho 0 _ (by decide) (fun q => by cases q.2) a0
  refine g1 (n := 1) rfl rfl rfl (la_of a0) ?_
  refine n_gi rfl hS.1 rfl (fun _ => rfl) ?_
  refine g1 (n := 1) rfl rfl rfl rfl ?_
  refine n_ic rfl (inr_gi _ _ _) ⟨by decide, by decide⟩ (fun c => ?_) (fun c => ?_)
  · replace h := h.1 c
    exact W_readStatement_52 hS hR a0 l1 h
  · replace h := h.2 c
    refine g1 (n := 1) rfl rfl rfl (li_of l1) ?_
    obtain ⟨i1, h⟩ := h
    refine n_if rfl i1 (fun c => ?_) (fun c => ?_)
    · replace h := h.1 c
      exact W_readStatement_52 hS hR a0 l1 h
    · replace h := h.2 c
      refine g1 (n := 1) rfl rfl rfl (li_of l1) ?_
      refine g1 (n := 1) rfl rfl rfl rfl ?_
      obtain ⟨i2, h⟩ := h
      refine n_ic rfl i2 ⟨by decide, by decide⟩ (fun c => ?_) (fun c => ?_)
      · replace h := h.1 c
        exact W_readStatement_52 hS hR a0 l1 h
      · replace h := h.2 c
        refine g1 (n := 1) rfl rfl rfl (li_of l1) ?_
        refine g1 (n := 1) rfl rfl rfl rfl ?_
        obtain ⟨i3, h⟩ := h
        refine n_ic rfl i3 ⟨by decide, by decide⟩ (fun c => ?_) (fun c => ?_)
        · replace h := h.1 c
          exact W_readStatement_52 hS hR a0 l1 h
        · replace h := h.2 c
          refine g1 (n := 1) rfl rfl rfl (li_of l1) ?_
          refine g1 (n := 1) rfl rfl rfl rfl ?_
          obtain ⟨i4, h⟩ := h
          refine n_ic rfl i4 ⟨by decide, by decide⟩ (fun c => ?_) (fun c => ?_)
          · replace h := h.1 c
            exact W_readStatement_52 hS hR a0 l1 h
          · replace h := h.2 c
            refine g1 (n := 1) rfl rfl rfl (li_of l1) ?_
            refine g1 (n := 1) rfl rfl rfl rfl ?_
            obtain ⟨i5, h⟩ := h
            refine n_ic rfl i5 ⟨by decide, by decide⟩ (fun c => ?_) (fun c => ?_)
            · replace h := h.1 c
              exact W_readStatement_52 hS hR a0 l1 h
            · replace h := h.2 c
              refine g1 (n := 1) rfl rfl rfl (li_of l1) ?_
              refine n_bi rfl (by decide) ?_
              obtain ⟨i6, h⟩ := h
              refine n_ic rfl i6 ⟨by decide, by decide⟩ (fun c => ?_) (fun c => ?_)
              · replace h := h.1 c
                exact W_readStatement_52 hS hR a0 l1 h
              · replace h := h.2 c
                refine g1 (n := 1) rfl rfl rfl (li_of l1) ?_
                refine n_bi rfl (by decide) ?_
                obtain ⟨i7, h⟩ := h
                refine n_ic rfl i7 ⟨by decide, by decide⟩ (fun c => ?_) (fun c => ?_)
                · replace h := h.2 c
                  refine g1 (n := 1) rfl rfl rfl rfl ?_
                  exact W_readStatement_57 hS hR a0 l1 h
                · replace h := h.1 (Classical.not_not.mp c)
                  exact W_readStatement_52 hS hR a0 l1 h
def wm_readStatement (M : rf_M) (K : rf_M → Prop) : Prop := w_readStatement  M K
theorem W_readStatement_m {fz : Bool} {S : gS} {B : rf_M} {M : rf_M} {K : rf_M → Prop} (hS : rk fz S B.2.2) (hR : fq B M) (h : wm_readStatement  M K) : gx (cx0 fz) (4, 94) 143 0 (lv_args 0 [.ref 353]) [] (M, S) (vq_v B S K) :=
  W_readStatement hS hR rfl h
def w_readText_84 (M : rf_M) (b40 : rf_M → Prop) (K : rf_M → Prop) : Prop := wm_misplaced  M (fun (M1 : rf_M) => b40 M1)
theorem W_readText_84 {fz : Bool} {S : gS} {B : rf_M} {M : rf_M} {ls : rf_L} {b40 : rf_M → Prop} {K : rf_M → Prop} (hS : rk fz S B.2.2) (hR : fq B M) (a0 : rf_ld ls 0 = some (.ref 353)) (hb40 : ∀ (M : rf_M) (ls : rf_L), fq B M → rf_ld ls 0 = some (.ref 353) → b40  M → gx (cx0 fz) (5, 117) 131 40 ls [] (M, S) (vq_v B S K)) (h : w_readText_84 M b40 K) : gx (cx0 fz) (5, 117) 131 84 ls [] (M, S) (vq_v B S K) := by
  unfold w_readText_84 at h
  refine g1 (n := 1) rfl rfl rfl (la_of a0) ?_
  refine m_iv (a := 353) (as := []) (rest := []) rfl (by decide) hS.1 rfl rfl (Nat.le_of_ble_eq_true rfl) ⟨Nat.le_of_ble_eq_true rfl, Nat.le_of_ble_eq_true rfl, Nat.le_of_ble_eq_true rfl⟩ ?_
  refine gx_room (gx_mono (W_misplaced_m hS hR h) ?_) (Nat.le_of_ble_eq_true rfl) (Nat.le_of_ble_eq_true rfl)
  rintro _ _ ⟨M1, rfl, rfl, r1, h⟩
  refine g3 rfl rfl rfl ?_
  exact hb40 _ _ r1 a0 h
def w_readText_91 (M : rf_M) (b40 : rf_M → Prop) (K : rf_M → Prop) : Prop := wm_isSign 125 M (fun (z1 : Int) (M1 : rf_M) => inr z1 ∧ ((z1 = 0 → (wm_readStatement  M1 (fun (M2 : rf_M) => b40 M2))) ∧ (¬ (z1 = 0) → (wm_closeBody  M1 (fun (M3 : rf_M) => b40 M3)))))
theorem W_readText_91 {fz : Bool} {S : gS} {B : rf_M} {M : rf_M} {ls : rf_L} {b40 : rf_M → Prop} {K : rf_M → Prop} (hS : rk fz S B.2.2) (hR : fq B M) (a0 : rf_ld ls 0 = some (.ref 353)) (hb40 : ∀ (M : rf_M) (ls : rf_L), fq B M → rf_ld ls 0 = some (.ref 353) → b40  M → gx (cx0 fz) (5, 117) 131 40 ls [] (M, S) (vq_v B S K)) (h : w_readText_91 M b40 K) : gx (cx0 fz) (5, 117) 131 91 ls [] (M, S) (vq_v B S K) := by
  unfold w_readText_91 at h
  refine g1 (n := 1) rfl rfl rfl (la_of a0) ?_
  refine n_bi rfl (by decide) ?_
  refine m_iv (a := 353) (as := [zv 125]) (rest := []) rfl (by decide) hS.1 rfl rfl (Nat.le_of_ble_eq_true rfl) ⟨Nat.le_of_ble_eq_true rfl, Nat.le_of_ble_eq_true rfl, Nat.le_of_ble_eq_true rfl⟩ ?_
  refine gx_room (gx_mono (W_isSign_m hS hR h) ?_) (Nat.le_of_ble_eq_true rfl) (Nat.le_of_ble_eq_true rfl)
  rintro _ _ ⟨z1, M1, rfl, rfl, r1, h⟩
  obtain ⟨i1, h⟩ := h
  refine n_if rfl i1 (fun c => ?_) (fun c => ?_)
  · replace h := h.1 c
    refine g1 (n := 1) rfl rfl rfl (la_of a0) ?_
    refine m_iv (a := 353) (as := []) (rest := []) rfl (by decide) hS.1 rfl rfl (Nat.le_of_ble_eq_true rfl) ⟨Nat.le_of_ble_eq_true rfl, Nat.le_of_ble_eq_true rfl, Nat.le_of_ble_eq_true rfl⟩ ?_
    refine gx_room (gx_mono (W_readStatement_m hS r1 h) ?_) (Nat.le_of_ble_eq_true rfl) (Nat.le_of_ble_eq_true rfl)
    rintro _ _ ⟨M2, rfl, rfl, r2, h⟩
    refine g3 rfl rfl rfl ?_
    exact hb40 _ _ r2 a0 h
  · replace h := h.2 c
    refine g1 (n := 1) rfl rfl rfl (la_of a0) ?_
    refine m_iv (a := 353) (as := []) (rest := []) rfl (by decide) hS.1 rfl rfl (Nat.le_of_ble_eq_true rfl) ⟨Nat.le_of_ble_eq_true rfl, Nat.le_of_ble_eq_true rfl, Nat.le_of_ble_eq_true rfl⟩ ?_
    refine gx_room (gx_mono (W_closeBody_m hS r1 h) ?_) (Nat.le_of_ble_eq_true rfl) (Nat.le_of_ble_eq_true rfl)
    rintro _ _ ⟨M3, rfl, rfl, r3, h⟩
    refine g3 rfl rfl rfl ?_
    exact hb40 _ _ r3 a0 h
def w_readText_61 (M : rf_M) (b40 : rf_M → Prop) (K : rf_M → Prop) : Prop := ((gi M 353 4) = 0 → (w_readText_84 M b40 K)) ∧ (¬ ((gi M 353 4) = 0) → (wm_isSign 125 M (fun (z1 : Int) (M1 : rf_M) => inr z1 ∧ ((z1 = 0 → (w_readText_91 M1 b40 K)) ∧ (¬ (z1 = 0) → (((gi M1 353 37) = 0 → (w_readText_84 M1 b40 K)) ∧ (¬ (gi M1 353 37) = 0 → (w_readText_91 M1 b40 K))))))))
theorem W_readText_61 {fz : Bool} {S : gS} {B : rf_M} {M : rf_M} {ls : rf_L} {b40 : rf_M → Prop} {K : rf_M → Prop} (hS : rk fz S B.2.2) (hR : fq B M) (a0 : rf_ld ls 0 = some (.ref 353)) (hb40 : ∀ (M : rf_M) (ls : rf_L), fq B M → rf_ld ls 0 = some (.ref 353) → b40  M → gx (cx0 fz) (5, 117) 131 40 ls [] (M, S) (vq_v B S K)) (h : w_readText_61 M b40 K) : gx (cx0 fz) (5, 117) 131 61 ls [] (M, S) (vq_v B S K) := by
  unfold w_readText_61 at h
  refine g1 (n := 1) rfl rfl rfl (la_of a0) ?_
  refine n_gi rfl hS.1 rfl (fun _ => rfl) ?_
  refine n_if rfl (inr_gi _ _ _) (fun c => ?_) (fun c => ?_)
  · replace h := h.1 c
    exact W_readText_84 hS hR a0 hb40 h
  · replace h := h.2 c
    refine g1 (n := 1) rfl rfl rfl (la_of a0) ?_
    refine n_bi rfl (by decide) ?_
    refine m_iv (a := 353) (as := [zv 125]) (rest := []) rfl (by decide) hS.1 rfl rfl (Nat.le_of_ble_eq_true rfl) ⟨Nat.le_of_ble_eq_true rfl, Nat.le_of_ble_eq_true rfl, Nat.le_of_ble_eq_true rfl⟩ ?_
    refine gx_room (gx_mono (W_isSign_m hS hR h) ?_) (Nat.le_of_ble_eq_true rfl) (Nat.le_of_ble_eq_true rfl)
    rintro _ _ ⟨z1, M1, rfl, rfl, r1, h⟩
    obtain ⟨i1, h⟩ := h
    refine n_if rfl i1 (fun c => ?_) (fun c => ?_)
    · replace h := h.1 c
      exact W_readText_91 hS r1 a0 hb40 h
    · replace h := h.2 c
      refine g1 (n := 1) rfl rfl rfl (la_of a0) ?_
      refine n_gi rfl hS.1 rfl (fun _ => rfl) ?_
      refine n_if rfl (inr_gi _ _ _) (fun c => ?_) (fun c => ?_)
      · replace h := h.2 c
        exact W_readText_91 hS r1 a0 hb40 h
      · replace h := h.1 (Classical.not_not.mp c)
        exact W_readText_84 hS r1 a0 hb40 h
def w_readText_114 (M : rf_M) (K : rf_M → Prop) : Prop := K M
theorem W_readText_114 {fz : Bool} {S : gS} {B : rf_M} {M : rf_M} {ls : rf_L} {K : rf_M → Prop} (hS : rk fz S B.2.2) (hR : fq B M) (h : w_readText_114 M K) : gx (cx0 fz) (5, 117) 131 114 ls [] (M, S) (vq_v B S K) := by
  unfold w_readText_114 at h
  exact gx_ret rfl rfl ⟨M, rfl, rfl, hR, h⟩
def w_readText_40b (M : rf_M) (b40 : rf_M → Prop) (K : rf_M → Prop) : Prop := ((gi M 353 9) = 0 → (((gi M 353 4) = 0 → (((gi M 353 37) = 0 → (w_readText_114 M K)) ∧ (¬ ((gi M 353 37) = 0) → (w_readText_61 M b40 K)))) ∧ (¬ (gi M 353 4) = 0 → (w_readText_61 M b40 K)))) ∧ (¬ (gi M 353 9) = 0 → (w_readText_114 M K))
theorem W_readText_40b {fz : Bool} {S : gS} {B : rf_M} {M : rf_M} {ls : rf_L} {b40 : rf_M → Prop} {K : rf_M → Prop} (hS : rk fz S B.2.2) (hR : fq B M) (a0 : rf_ld ls 0 = some (.ref 353)) (hb40 : ∀ (M : rf_M) (ls : rf_L), fq B M → rf_ld ls 0 = some (.ref 353) → b40  M → gx (cx0 fz) (5, 117) 131 40 ls [] (M, S) (vq_v B S K)) (h : w_readText_40b M b40 K) : gx (cx0 fz) (5, 117) 131 40 ls [] (M, S) (vq_v B S K) := by
  unfold w_readText_40b at h
  refine g1 (n := 1) rfl rfl rfl (la_of a0) ?_
  refine n_gi rfl hS.1 rfl (fun _ => rfl) ?_
  refine n_if rfl (inr_gi _ _ _) (fun c => ?_) (fun c => ?_)
  · replace h := h.2 c
    exact W_readText_114 hS hR  h
  · replace h := h.1 (Classical.not_not.mp c)
    refine g1 (n := 1) rfl rfl rfl (la_of a0) ?_
    refine n_gi rfl hS.1 rfl (fun _ => rfl) ?_
    refine n_if rfl (inr_gi _ _ _) (fun c => ?_) (fun c => ?_)
    · replace h := h.2 c
      exact W_readText_61 hS hR a0 hb40 h
    · replace h := h.1 (Classical.not_not.mp c)
      refine g1 (n := 1) rfl rfl rfl (la_of a0) ?_
      refine n_gi rfl hS.1 rfl (fun _ => rfl) ?_
      refine n_if rfl (inr_gi _ _ _) (fun c => ?_) (fun c => ?_)
      · replace h := h.1 c
        exact W_readText_114 hS hR  h
      · replace h := h.2 c
        exact W_readText_61 hS hR a0 hb40 h
def w_readText_40 (M : rf_M) (K : rf_M → Prop) : Prop := ∃ Inv : Nat → rf_M → Prop, (∃ m, Inv m M) ∧ ∀ (m : Nat) (M : rf_M), Inv m M → w_readText_40b M (fun (M' : rf_M) => ∃ m', m' < m ∧ Inv m' M') K
theorem W_readText_40 {fz : Bool} {S : gS} {B : rf_M} {M : rf_M} {ls : rf_L} {K : rf_M → Prop} (hS : rk fz S B.2.2) (hR : fq B M) (a0 : rf_ld ls 0 = some (.ref 353)) (h : w_readText_40 M K) : gx (cx0 fz) (5, 117) 131 40 ls [] (M, S) (vq_v B S K) := by
  obtain ⟨Inv, ⟨m, hm⟩, hb⟩ := h
  induction m using Nat.strongRecOn generalizing ls M with
  | _ m ih =>
    refine W_readText_40b hS hR a0 (fun M' ls' hR' f0 ⟨m', q1, q2⟩ => ih m' q1 hR' f0 q2) (hb m M hm)
def w_readText (M : rf_M) (K : rf_M → Prop) : Prop := ∀ M1 : rf_M, M1 = wi M 353 37 0 → ((0 ≤ (0 : Int) ∧ (0 : Int) < 10) ∧ (∀ M2 : rf_M, M2 = wi M1 373 0 (-1) → ((0 ≤ (0 : Int) ∧ (0 : Int) < 10) ∧ (∀ M3 : rf_M, M3 = wi M2 374 0 0 → ((0 ≤ (0 : Int) ∧ (0 : Int) < 10) ∧ (∀ M4 : rf_M, M4 = wi M3 375 0 (-1) → ((0 ≤ (gi M4 353 28) ∧ (gi M4 353 28) < 12) ∧ (∀ M5 : rf_M, M5 = wi M4 358 (gi M4 353 28).toNat (-1) → (wm_next  M5 (fun (M6 : rf_M) => w_readText_40 M6 K))))))))))
theorem W_readText {fz : Bool} {S : gS} {B : rf_M} {M : rf_M} {ls : rf_L} {K : rf_M → Prop} (hS : rk fz S B.2.2) (hR : fq B M) (a0 : rf_ld ls 0 = some (.ref 353)) (h : w_readText M K) : gx (cx0 fz) (5, 117) 131 0 ls [] (M, S) (vq_v B S K) := by
  unfold w_readText at h
  refine g1 (n := 1) rfl rfl rfl (la_of a0) ?_
  refine g1 (n := 1) rfl rfl rfl rfl ?_
  refine n_pi (Nat.le_of_ble_eq_true rfl) rfl hS.1 rfl (fun _ _ => rfl) (fun M1 e r => ?_)
  replace h := h M1 e
  have r1 := hR.trans r
  refine g1 (n := 1) rfl rfl rfl (la_of a0) ?_
  refine n_gr rfl hS.1 rfl (fun _ => rfl) r1 (rk_373 hS).2 ?_
  refine g1 (n := 1) rfl rfl rfl rfl ?_
  refine g1 (n := 1) rfl rfl rfl rfl ?_
  obtain ⟨q, h⟩ := h
  refine n_is (Nat.le_of_ble_eq_true rfl) rfl (rk_373 hS).1 (Nat.le_of_ble_eq_true rfl) q (fun M2 e r => ?_)
  replace h := h M2 e
  have r2 := r1.trans r
  refine g1 (n := 1) rfl rfl rfl (la_of a0) ?_
  refine n_gr rfl hS.1 rfl (fun _ => rfl) r2 (rk_374 hS).2 ?_
  refine g1 (n := 1) rfl rfl rfl rfl ?_
  refine g1 (n := 1) rfl rfl rfl rfl ?_
  obtain ⟨q, h⟩ := h
  refine n_is (Nat.le_of_ble_eq_true rfl) rfl (rk_374 hS).1 (Nat.le_of_ble_eq_true rfl) q (fun M3 e r => ?_)
  replace h := h M3 e
  have r3 := r2.trans r
  refine g1 (n := 1) rfl rfl rfl (la_of a0) ?_
  refine n_gr rfl hS.1 rfl (fun _ => rfl) r3 (rk_375 hS).2 ?_
  refine g1 (n := 1) rfl rfl rfl rfl ?_
  refine g1 (n := 1) rfl rfl rfl rfl ?_
  obtain ⟨q, h⟩ := h
  refine n_is (Nat.le_of_ble_eq_true rfl) rfl (rk_375 hS).1 (Nat.le_of_ble_eq_true rfl) q (fun M4 e r => ?_)
  replace h := h M4 e
  have r4 := r3.trans r
  refine g1 (n := 1) rfl rfl rfl (la_of a0) ?_
  refine n_gr rfl hS.1 rfl (fun _ => rfl) r4 (rk_358 hS).2 ?_
  refine g1 (n := 1) rfl rfl rfl (la_of a0) ?_
  refine n_gi rfl hS.1 rfl (fun _ => rfl) ?_
  refine g1 (n := 1) rfl rfl rfl rfl ?_
  obtain ⟨q, h⟩ := h
  refine n_is (Nat.le_of_ble_eq_true rfl) rfl (rk_358 hS).1 (Nat.le_of_ble_eq_true rfl) q (fun M5 e r => ?_)
  replace h := h M5 e
  have r5 := r4.trans r
  refine g1 (n := 1) rfl rfl rfl (la_of a0) ?_
  refine m_iv (a := 353) (as := []) (rest := []) rfl (by decide) hS.1 rfl rfl (Nat.le_of_ble_eq_true rfl) ⟨Nat.le_of_ble_eq_true rfl, Nat.le_of_ble_eq_true rfl, Nat.le_of_ble_eq_true rfl⟩ ?_
  refine gx_room (gx_mono (W_next_m hS r5 h) ?_) (Nat.le_of_ble_eq_true rfl) (Nat.le_of_ble_eq_true rfl)
  rintro _ _ ⟨M6, rfl, rfl, r6, h⟩
  exact W_readText_40 hS r6 a0 h
def wm_readText (M : rf_M) (K : rf_M → Prop) : Prop := w_readText  M K
theorem W_readText_m {fz : Bool} {S : gS} {B : rf_M} {M : rf_M} {K : rf_M → Prop} (hS : rk fz S B.2.2) (hR : fq B M) (h : wm_readText  M K) : gx (cx0 fz) (5, 117) 131 0 (lv_args 0 [.ref 353]) [] (M, S) (vq_v B S K) :=
  W_readText hS hR rfl h
def w_text (M : rf_M) (K : Int → rf_M → Prop) : Prop := ∀ M1 : rf_M, M1 = wi M 353 0 0 → (((gi M1 353 11) = 12 → (K (-1) M1)) ∧ (¬ (gi M1 353 11) = 12 → (∀ M2 : rf_M, M2 = wi M1 353 10 (-1) → (∀ M3 : rf_M, M3 = wi M2 353 28 (gi M2 353 11) → ((0 ≤ (gi M3 353 28) ∧ (gi M3 353 28) < 12) ∧ (∀ M4 : rf_M, M4 = wi M3 355 (gi M3 353 28).toNat 0 → ((0 ≤ (gi M4 353 28) ∧ (gi M4 353 28) < 12) ∧ (∀ M5 : rf_M, M5 = wi M4 356 (gi M4 353 28).toNat 0 → ((0 ≤ (gi M5 353 28) ∧ (gi M5 353 28) < 12) ∧ (∀ M6 : rf_M, M6 = wi M5 357 (gi M5 353 28).toNat 0 → ((0 ≤ (gi M6 353 28) ∧ (gi M6 353 28) < 12) ∧ (∀ M7 : rf_M, M7 = wi M6 359 (gi M6 353 28).toNat 0 → (∀ M8 : rf_M, M8 = wi M7 353 3 0 → (∀ M9 : rf_M, M9 = wi M8 353 9 0 → (wm_readText  M9 (fun (M10 : rf_M) => ∀ M11 : rf_M, M11 = wi M10 353 2 0 → (((gi M11 353 9) = 0 → (∀ M12 : rf_M, M12 = wi M11 353 11 ((gi M11 353 11) + 1) → (K ((gi M12 353 11) - 1) M12))) ∧ (¬ ((gi M11 353 9) = 0) → (K (-2) M11)))))))))))))))))))
theorem W_text {fz : Bool} {S : gS} {B : rf_M} {M : rf_M} {ls : rf_L} {K : Int → rf_M → Prop} (hS : rk fz S B.2.2) (hR : fq B M) (a0 : rf_ld ls 0 = some (.ref 353)) (h : w_text M K) : gx (cx0 fz) (6, 137) 130 0 ls [] (M, S) (vq_i B S K) := by
  unfold w_text at h
  refine g1 (n := 1) rfl rfl rfl (la_of a0) ?_
  refine g1 (n := 1) rfl rfl rfl rfl ?_
  refine n_pi (Nat.le_of_ble_eq_true rfl) rfl hS.1 rfl (fun _ _ => rfl) (fun M1 e r => ?_)
  replace h := h M1 e
  have r1 := hR.trans r
  refine g1 (n := 1) rfl rfl rfl (la_of a0) ?_
  refine n_gi rfl hS.1 rfl (fun _ => rfl) ?_
  refine n_bi rfl (by decide) ?_
  refine n_ic rfl (inr_gi _ _ _) ⟨by decide, by decide⟩ (fun c => ?_) (fun c => ?_)
  · replace h := h.2 c
    refine g1 (n := 1) rfl rfl rfl (la_of a0) ?_
    refine g1 (n := 1) rfl rfl rfl rfl ?_
    refine n_pi (Nat.le_of_ble_eq_true rfl) rfl hS.1 rfl (fun _ _ => rfl) (fun M2 e r => ?_)
    replace h := h M2 e
    have r2 := r1.trans r
    refine g1 (n := 1) rfl rfl rfl (la_of a0) ?_
    refine g1 (n := 1) rfl rfl rfl (la_of a0) ?_
    refine n_gi rfl hS.1 rfl (fun _ => rfl) ?_
    refine n_pi (Nat.le_of_ble_eq_true rfl) rfl hS.1 rfl (fun _ _ => rfl) (fun M3 e r => ?_)
    replace h := h M3 e
    have r3 := r2.trans r
    refine g1 (n := 1) rfl rfl rfl (la_of a0) ?_
    refine n_gr rfl hS.1 rfl (fun _ => rfl) r3 (rk_355 hS).2 ?_
    refine g1 (n := 1) rfl rfl rfl (la_of a0) ?_
    refine n_gi rfl hS.1 rfl (fun _ => rfl) ?_
    refine g1 (n := 1) rfl rfl rfl rfl ?_
    obtain ⟨q, h⟩ := h
    refine n_is (Nat.le_of_ble_eq_true rfl) rfl (rk_355 hS).1 (Nat.le_of_ble_eq_true rfl) q (fun M4 e r => ?_)
    replace h := h M4 e
    have r4 := r3.trans r
    refine g1 (n := 1) rfl rfl rfl (la_of a0) ?_
    refine n_gr rfl hS.1 rfl (fun _ => rfl) r4 (rk_356 hS).2 ?_
    refine g1 (n := 1) rfl rfl rfl (la_of a0) ?_
    refine n_gi rfl hS.1 rfl (fun _ => rfl) ?_
    refine g1 (n := 1) rfl rfl rfl rfl ?_
    obtain ⟨q, h⟩ := h
    refine n_is (Nat.le_of_ble_eq_true rfl) rfl (rk_356 hS).1 (Nat.le_of_ble_eq_true rfl) q (fun M5 e r => ?_)
    replace h := h M5 e
    have r5 := r4.trans r
    refine g1 (n := 1) rfl rfl rfl (la_of a0) ?_
    refine n_gr rfl hS.1 rfl (fun _ => rfl) r5 (rk_357 hS).2 ?_
    refine g1 (n := 1) rfl rfl rfl (la_of a0) ?_
    refine n_gi rfl hS.1 rfl (fun _ => rfl) ?_
    refine g1 (n := 1) rfl rfl rfl rfl ?_
    obtain ⟨q, h⟩ := h
    refine n_is (Nat.le_of_ble_eq_true rfl) rfl (rk_357 hS).1 (Nat.le_of_ble_eq_true rfl) q (fun M6 e r => ?_)
    replace h := h M6 e
    have r6 := r5.trans r
    refine g1 (n := 1) rfl rfl rfl (la_of a0) ?_
    refine n_gr rfl hS.1 rfl (fun _ => rfl) r6 (rk_359 hS).2 ?_
    refine g1 (n := 1) rfl rfl rfl (la_of a0) ?_
    refine n_gi rfl hS.1 rfl (fun _ => rfl) ?_
    refine g1 (n := 1) rfl rfl rfl rfl ?_
    obtain ⟨q, h⟩ := h
    refine n_is (Nat.le_of_ble_eq_true rfl) rfl (rk_359 hS).1 (Nat.le_of_ble_eq_true rfl) q (fun M7 e r => ?_)
    replace h := h M7 e
    have r7 := r6.trans r
    refine g1 (n := 1) rfl rfl rfl (la_of a0) ?_
    refine g1 (n := 1) rfl rfl rfl rfl ?_
    refine n_pi (Nat.le_of_ble_eq_true rfl) rfl hS.1 rfl (fun _ _ => rfl) (fun M8 e r => ?_)
    replace h := h M8 e
    have r8 := r7.trans r
    refine g1 (n := 1) rfl rfl rfl (la_of a0) ?_
    refine g1 (n := 1) rfl rfl rfl rfl ?_
    refine n_pb (Nat.le_of_ble_eq_true rfl) rfl hS.1 rfl rfl (Or.inl rfl) (fun M9 e r => ?_)
    replace h := h M9 e
    have r9 := r8.trans r
    refine g1 (n := 1) rfl rfl rfl (la_of a0) ?_
    refine m_iv (a := 353) (as := []) (rest := []) rfl (by decide) hS.1 rfl rfl (Nat.le_of_ble_eq_true rfl) ⟨Nat.le_of_ble_eq_true rfl, Nat.le_of_ble_eq_true rfl, Nat.le_of_ble_eq_true rfl⟩ ?_
    refine gx_room (gx_mono (W_readText_m hS r9 h) ?_) (Nat.le_of_ble_eq_true rfl) (Nat.le_of_ble_eq_true rfl)
    rintro _ _ ⟨M10, rfl, rfl, r10, h⟩
    refine g1 (n := 1) rfl rfl rfl (la_of a0) ?_
    refine g1 (n := 1) rfl rfl rfl rfl ?_
    refine n_pi (Nat.le_of_ble_eq_true rfl) rfl hS.1 rfl (fun _ _ => rfl) (fun M11 e r => ?_)
    replace h := h M11 e
    have r11 := r10.trans r
    refine g1 (n := 1) rfl rfl rfl (la_of a0) ?_
    refine n_gi rfl hS.1 rfl (fun _ => rfl) ?_
    refine n_if rfl (inr_gi _ _ _) (fun c => ?_) (fun c => ?_)
    · replace h := h.1 c
      refine g1 (n := 1) rfl rfl rfl (la_of a0) ?_
      refine g0 rfl rfl rfl ?_
      refine n_gi rfl hS.1 rfl (fun _ => rfl) ?_
      refine g1 (n := 1) rfl rfl rfl rfl ?_
      refine n_add rfl ?_
      refine n_pi (Nat.le_of_ble_eq_true rfl) rfl hS.1 rfl (fun _ _ => rfl) (fun M12 e r => ?_)
      replace h := h M12 e
      have r12 := r11.trans r
      refine g1 (n := 1) rfl rfl rfl (la_of a0) ?_
      refine n_gi rfl hS.1 rfl (fun _ => rfl) ?_
      refine g1 (n := 1) rfl rfl rfl rfl ?_
      refine n_sub rfl ?_
      exact gx_ret rfl rfl ⟨((gi M12 353 11) - 1), M12, rfl, rfl, r12, h⟩
    · replace h := h.2 c
      refine n_bi rfl (by decide) ?_
      exact gx_ret rfl rfl ⟨(-2), M11, rfl, rfl, r11, h⟩
  · replace h := h.1 (Classical.not_not.mp c)
    refine g1 (n := 1) rfl rfl rfl rfl ?_
    exact gx_ret rfl rfl ⟨(-1), M1, rfl, rfl, r1, h⟩
def wm_text (M : rf_M) (K : Int → rf_M → Prop) : Prop := w_text  M K
theorem W_text_m {fz : Bool} {S : gS} {B : rf_M} {M : rf_M} {K : Int → rf_M → Prop} (hS : rk fz S B.2.2) (hR : fq B M) (h : wm_text  M K) : gx (cx0 fz) (6, 137) 130 0 (lv_args 0 [.ref 353]) [] (M, S) (vq_i B S K) :=
  W_text hS hR rfl h
def w_place (M : rf_M) (K : Int → rf_M → Prop) : Prop := ∀ M1 : rf_M, M1 = wi M 353 0 0 → (K (gi M1 353 10) M1)
theorem W_place {fz : Bool} {S : gS} {B : rf_M} {M : rf_M} {ls : rf_L} {K : Int → rf_M → Prop} (hS : rk fz S B.2.2) (hR : fq B M) (a0 : rf_ld ls 0 = some (.ref 353)) (h : w_place M K) : gx (cx0 fz) (0, 0) 152 0 ls [] (M, S) (vq_i B S K) := by
  unfold w_place at h
  refine g1 (n := 1) rfl rfl rfl (la_of a0) ?_
  refine g1 (n := 1) rfl rfl rfl rfl ?_
  refine n_pi (Nat.le_of_ble_eq_true rfl) rfl hS.1 rfl (fun _ _ => rfl) (fun M1 e r => ?_)
  replace h := h M1 e
  have r1 := hR.trans r
  refine g1 (n := 1) rfl rfl rfl (la_of a0) ?_
  refine n_gi rfl hS.1 rfl (fun _ => rfl) ?_
  exact gx_ret rfl rfl ⟨(gi M1 353 10), M1, rfl, rfl, r1, h⟩
def wm_place (M : rf_M) (K : Int → rf_M → Prop) : Prop := w_place  M K
theorem W_place_m {fz : Bool} {S : gS} {B : rf_M} {M : rf_M} {K : Int → rf_M → Prop} (hS : rk fz S B.2.2) (hR : fq B M) (h : wm_place  M K) : gx (cx0 fz) (0, 0) 152 0 (lv_args 0 [.ref 353]) [] (M, S) (vq_i B S K) :=
  W_place hS hR rfl h
def w_told_17 (M : rf_M) (K : Int → rf_M → Prop) : Prop := K (-1) M
theorem W_told_17 {fz : Bool} {S : gS} {B : rf_M} {M : rf_M} {ls : rf_L} {K : Int → rf_M → Prop} (hS : rk fz S B.2.2) (hR : fq B M) (h : w_told_17 M K) : gx (cx0 fz) (0, 0) 153 17 ls [] (M, S) (vq_i B S K) := by
  unfold w_told_17 at h
  refine g1 (n := 1) rfl rfl rfl rfl ?_
  exact gx_ret rfl rfl ⟨(-1), M, rfl, rfl, hR, h⟩
def w_told_61 (s0 : Int) (M : rf_M) (K : Int → rf_M → Prop) : Prop := K s0 M
theorem W_told_61 {fz : Bool} {S : gS} {B : rf_M} {M : rf_M} {ls : rf_L} {s0 : Int} {K : Int → rf_M → Prop} (hS : rk fz S B.2.2) (hR : fq B M) (h : w_told_61 s0 M K) : gx (cx0 fz) (0, 0) 153 61 ls [zv s0] (M, S) (vq_i B S K) := by
  unfold w_told_61 at h
  exact gx_ret rfl rfl ⟨s0, M, rfl, rfl, hR, h⟩
def w_told (v1 : Int) (v2 : Int) (M : rf_M) (K : Int → rf_M → Prop) : Prop := ∀ M1 : rf_M, M1 = wi M 353 0 0 → (inr v1 ∧ ((v1 < 0 → (w_told_17 M1 K)) ∧ (¬ (v1 < 0) → (inr v1 ∧ ((v1 < (gi M1 353 11) → (inr v2 ∧ ((v2 = 0 → ((0 ≤ v1 ∧ v1 < 12) ∧ (w_told_61 (gi M1 355 (v1).toNat) M1 K))) ∧ (¬ v2 = 0 → (inr v2 ∧ ((v2 = 1 → ((0 ≤ v1 ∧ v1 < 12) ∧ (w_told_61 (gi M1 356 (v1).toNat) M1 K))) ∧ (¬ v2 = 1 → (inr v2 ∧ ((v2 = 2 → ((0 ≤ v1 ∧ v1 < 12) ∧ (w_told_61 (gi M1 357 (v1).toNat) M1 K))) ∧ (¬ v2 = 2 → (w_told_61 (-1) M1 K))))))))))) ∧ (¬ (v1 < (gi M1 353 11)) → (w_told_17 M1 K)))))))
theorem W_told {fz : Bool} {S : gS} {B : rf_M} {M : rf_M} {ls : rf_L} {v1 : Int} {v2 : Int} {K : Int → rf_M → Prop} (hS : rk fz S B.2.2) (hR : fq B M) (a0 : rf_ld ls 0 = some (.ref 353)) (a1 : rf_ld ls 1 = some (zv v1)) (a2 : rf_ld ls 2 = some (zv v2)) (h : w_told v1 v2 M K) : gx (cx0 fz) (0, 0) 153 0 ls [] (M, S) (vq_i B S K) := by
  unfold w_told at h
  refine g1 (n := 1) rfl rfl rfl (la_of a0) ?_
  refine g1 (n := 1) rfl rfl rfl rfl ?_
  refine n_pi (Nat.le_of_ble_eq_true rfl) rfl hS.1 rfl (fun _ _ => rfl) (fun M1 e r => ?_)
  replace h := h M1 e
  have r1 := hR.trans r
  refine g1 (n := 1) rfl rfl rfl (li_of a1) ?_
  obtain ⟨i1, h⟩ := h
  refine n_if rfl i1 (fun c => ?_) (fun c => ?_)
  · replace h := h.1 c
    exact W_told_17 hS r1  h
  · replace h := h.2 c
    refine g1 (n := 1) rfl rfl rfl (li_of a1) ?_
    refine g1 (n := 1) rfl rfl rfl (la_of a0) ?_
    refine n_gi rfl hS.1 rfl (fun _ => rfl) ?_
    obtain ⟨i2, h⟩ := h
    refine n_ic rfl i2 (inr_gi _ _ _) (fun c => ?_) (fun c => ?_)
    · replace h := h.1 c
      refine g1 (n := 1) rfl rfl rfl (li_of a2) ?_
      obtain ⟨i3, h⟩ := h
      refine n_if rfl i3 (fun c => ?_) (fun c => ?_)
      · replace h := h.2 c
        refine g1 (n := 1) rfl rfl rfl (li_of a2) ?_
        refine g1 (n := 1) rfl rfl rfl rfl ?_
        obtain ⟨i4, h⟩ := h
        refine n_ic rfl i4 ⟨by decide, by decide⟩ (fun c => ?_) (fun c => ?_)
        · replace h := h.2 c
          refine g1 (n := 1) rfl rfl rfl (li_of a2) ?_
          refine g1 (n := 1) rfl rfl rfl rfl ?_
          obtain ⟨i5, h⟩ := h
          refine n_ic rfl i5 ⟨by decide, by decide⟩ (fun c => ?_) (fun c => ?_)
          · replace h := h.2 c
            refine g1 (n := 1) rfl rfl rfl rfl ?_
            exact W_told_61 hS r1  h
          · replace h := h.1 (Classical.not_not.mp c)
            refine g1 (n := 1) rfl rfl rfl (la_of a0) ?_
            refine n_gr rfl hS.1 rfl (fun _ => rfl) r1 (rk_357 hS).2 ?_
            refine g1 (n := 1) rfl rfl rfl (li_of a1) ?_
            obtain ⟨q, h⟩ := h
            refine n_ia rfl (rk_357 hS).1 (Nat.le_of_ble_eq_true rfl) q ?_
            refine g3 rfl rfl rfl ?_
            exact W_told_61 hS r1  h
        · replace h := h.1 (Classical.not_not.mp c)
          refine g1 (n := 1) rfl rfl rfl (la_of a0) ?_
          refine n_gr rfl hS.1 rfl (fun _ => rfl) r1 (rk_356 hS).2 ?_
          refine g1 (n := 1) rfl rfl rfl (li_of a1) ?_
          obtain ⟨q, h⟩ := h
          refine n_ia rfl (rk_356 hS).1 (Nat.le_of_ble_eq_true rfl) q ?_
          refine g3 rfl rfl rfl ?_
          exact W_told_61 hS r1  h
      · replace h := h.1 (Classical.not_not.mp c)
        refine g1 (n := 1) rfl rfl rfl (la_of a0) ?_
        refine n_gr rfl hS.1 rfl (fun _ => rfl) r1 (rk_355 hS).2 ?_
        refine g1 (n := 1) rfl rfl rfl (li_of a1) ?_
        obtain ⟨q, h⟩ := h
        refine n_ia rfl (rk_355 hS).1 (Nat.le_of_ble_eq_true rfl) q ?_
        refine g3 rfl rfl rfl ?_
        exact W_told_61 hS r1  h
    · replace h := h.2 c
      exact W_told_17 hS r1  h
def wm_told (x0 : Int) (x1 : Int) (M : rf_M) (K : Int → rf_M → Prop) : Prop := w_told x0 x1 M K
theorem W_told_m {fz : Bool} {S : gS} {B : rf_M} {M : rf_M} {x0 : Int} {x1 : Int} {K : Int → rf_M → Prop} (hS : rk fz S B.2.2) (hR : fq B M) (h : wm_told x0 x1 M K) : gx (cx0 fz) (0, 0) 153 0 (lv_args 0 [.ref 353, zv x0, zv x1]) [] (M, S) (vq_i B S K) :=
  W_told hS hR rfl rfl rfl h
