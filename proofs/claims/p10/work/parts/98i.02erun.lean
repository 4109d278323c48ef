def em_S_holdsAhead (x0 : Nat) (x1 : Nat) (x2 : Int) (M : rf_M) (K : Int → rf_M → Prop) : Prop := e_S_holdsAhead x0 x1 x2 M K
theorem E_S_holdsAhead_m {fz : Bool} {S : gS} {B : rf_M} {M : rf_M} {n0 : Nat} {x0 : Nat} {x1 : Nat} {x2 : Int} {K : Int → rf_M → Prop} (hS : rl S) (hR : fl 22 353 B M) (mx0 : x0 ∈ k4) (mx1 : x1 ∈ k1) (ix2 : inr x2) (h : em_S_holdsAhead x0 x1 x2 M K) : lx (cx0 fz) n0 63 0 (lv_args 0 [.ref x0, .ref x1, zv x2]) [] (M, S) (vl_i 22 353 B S K) :=
  E_S_holdsAhead hS hR mx0 mx1 ix2 rfl rfl rfl h
def e_S_holdAhead_2b (v0 : Nat) (v1 : Int) (M : rf_M) (b2 : Nat → Int → rf_M → Prop) (K : Int → rf_M → Prop) : Prop := ((gi M v0 2) ≤ v1 → (K 1 M)) ∧ (¬ ((gi M v0 2) ≤ v1) → ((0 ≤ v1 ∧ v1 < 32 → (isP M (v0 + 3) (v1).toNat ∧ ((0 ≤ v1 ∧ v1 < 32 → (em_S_holdsAhead v0 (gr M (v0 + 3) (v1).toNat) (gi M (v0 + 4) (v1).toNat) M (fun (z1 : Int) (M1 : rf_M) => (z1 = 0 → (K 0 M1)) ∧ (¬ z1 = 0 → (inr (v1 + 1) ∧ (b2 v0 (v1 + 1) M1)))))))))))
theorem E_S_holdAhead_2b {fz : Bool} {S : gS} {B : rf_M} {M : rf_M} {ls : rf_L} {n0 : Nat} {v0 : Nat} {v1 : Int} {b2 : Nat → Int → rf_M → Prop} {K : Int → rf_M → Prop} (hS : rl S) (hR : fl 22 353 B M) (mv0 : v0 ∈ k4) (iv1 : inr v1) (a0 : rf_ld ls 0 = some (.ref v0)) (a1 : rf_ld ls 1 = some (zv v1)) (hb2 : ∀ n', n' < n0 → ∀ (v0 : Nat) (v1 : Int) (M : rf_M) (ls : rf_L), fl 22 353 B M → v0 ∈ k4 → inr v1 → rf_ld ls 0 = some (.ref v0) → rf_ld ls 1 = some (zv v1) → b2 v0 v1 M → lx (cx0 fz) n' 62 2 ls [] (M, S) (vl_i 22 353 B S K)) (h : e_S_holdAhead_2b v0 v1 M b2 K) : lx (cx0 fz) n0 62 2 ls [] (M, S) (vl_i 22 353 B S K) := by
  unfold e_S_holdAhead_2b at h
  rcases Nat.eq_zero_or_pos n0 with e0 | hp
  · rw [e0]; exact lx_zero
  refine l1 (n := 1) rfl rfl rfl (li_of a1) ?_
  refine l1 (n := 1) rfl rfl rfl (la_of a0) ?_
  refine l_gi rfl (ko_4 hS mv0) rfl (fun _ => rfl) ?_
  refine l_ic rfl iv1 (inr_gi _ _ _) (fun c => ?_) (fun c => ?_)
  · replace h := h.1 c
    refine l1 (n := 1) rfl rfl rfl rfl ?_
    exact l_rb rfl rfl (Or.inr rfl) hR h
  · replace h := h.2 c
    refine l1 (n := 1) rfl rfl rfl (la_of a0) ?_
    refine l1 (n := 1) rfl rfl rfl (la_of a0) ?_
    refine l_gr rfl (ko_4 hS mv0) rfl (fun _ => rfl) (kf_4_3 hR.2 mv0) ?_
    refine l1 (n := 1) rfl rfl rfl (li_of a1) ?_
    refine b_aa rfl (kt_4_3 (fz := fz) hS mv0).1 (Nat.le_of_ble_eq_true rfl) iv1 (fun q1 => ⟨(h q1).1.1, ?_⟩)
    replace h := h q1
    obtain ⟨q2, h⟩ := h
    refine l1 (n := 1) rfl rfl rfl (la_of a0) ?_
    refine l_gr rfl (ko_4 hS mv0) rfl (fun _ => rfl) (kf_4_4 hR.2 mv0) ?_
    refine l1 (n := 1) rfl rfl rfl (li_of a1) ?_
    refine b_ia rfl (kt_4_4 (fz := fz) hS mv0).1 (Nat.le_of_ble_eq_true rfl) iv1 (fun q => ?_)
    replace h := h q
    refine b_iv (c := v0) (as := [.ref (gr M (v0 + 3) (v1).toNat), zv (gi M (v0 + 4) (v1).toNat)]) (rest := []) rfl (by decide) (ko_4 hS mv0) rfl rfl (Nat.le_of_ble_eq_true rfl) (fun hq => ?_)
    refine lx_mono (E_S_holdsAhead_m hS hR mv0 q2.2 (inr_gi _ _ _) h) ?_
    rintro _ _ ⟨z1, M1, rfl, rfl, r1, iz1, h⟩
    refine l_if rfl iz1 (fun c => ?_) (fun c => ?_)
    · replace h := h.2 c
      refine l_ii rfl a1 (Nat.le_of_ble_eq_true rfl) (fun ls y1 ho => ?_)
      have y2 := ho 0 _ (by decide) (fun q => by cases q.2) a0
      refine l3 rfl rfl rfl ?_
      obtain ⟨i1, h⟩ := h
      exact hb2 _ (by omega) _ _ _ _ r1 mv0 i1 y2 y1 h
    · replace h := h.1 (Classical.not_not.mp c)
      refine l1 (n := 1) rfl rfl rfl rfl ?_
      exact l_rb rfl rfl (Or.inl rfl) r1 h
def e_S_holdAhead_2 (v0 : Nat) (v1 : Int) (M : rf_M) (K : Int → rf_M → Prop) : Prop := ∃ Inv : Nat → Int → rf_M → Prop, Inv v0 v1 M ∧ ∀ (v0 : Nat) (v1 : Int) (M : rf_M), inr v1 → Inv v0 v1 M → e_S_holdAhead_2b v0 v1 M Inv K
theorem E_S_holdAhead_2 {fz : Bool} {S : gS} {B : rf_M} {M : rf_M} {ls : rf_L} {n0 : Nat} {v0 : Nat} {v1 : Int} {K : Int → rf_M → Prop} (hS : rl S) (hR : fl 22 353 B M) (mv0 : v0 ∈ k4) (iv1 : inr v1) (a0 : rf_ld ls 0 = some (.ref v0)) (a1 : rf_ld ls 1 = some (zv v1)) (h : e_S_holdAhead_2 v0 v1 M K) : lx (cx0 fz) n0 62 2 ls [] (M, S) (vl_i 22 353 B S K) := by
  obtain ⟨Inv, hm, hb⟩ := h
  induction n0 using Nat.strongRecOn generalizing ls M v0 v1 with
  | _ n0 ih =>
    refine E_S_holdAhead_2b hS hR mv0 iv1 a0 a1 (fun n' hn' v0' v1' M' ls' hR' f0 f1 f2 f3 q2 => ih n' hn' hR' f0 f1 f2 f3 q2) (hb v0 v1 M iv1 hm)
def e_S_holdAhead (v0 : Nat) (M : rf_M) (K : Int → rf_M → Prop) : Prop := e_S_holdAhead_2 v0 0 M K
theorem E_S_holdAhead {fz : Bool} {S : gS} {B : rf_M} {M : rf_M} {ls : rf_L} {n0 : Nat} {v0 : Nat} {K : Int → rf_M → Prop} (hS : rl S) (hR : fl 22 353 B M) (mv0 : v0 ∈ k4) (a0 : rf_ld ls 0 = some (.ref v0)) (h : e_S_holdAhead v0 M K) : lx (cx0 fz) n0 62 0 ls [] (M, S) (vl_i 22 353 B S K) := by
  unfold e_S_holdAhead at h
  refine l1 (n := 1) rfl rfl rfl rfl ?_
  refine l_s1 (n := 1) rfl rfl rfl rfl (fun ls y1 ho => ?_)
  have y2 := ho 0 _ (by decide) (fun q => by cases q.2) a0
  exact E_S_holdAhead_2 hS hR mv0 ⟨by decide, by decide⟩ y2 y1 h
def em_S_holdAhead (x0 : Nat) (M : rf_M) (K : Int → rf_M → Prop) : Prop := e_S_holdAhead x0 M K
theorem E_S_holdAhead_m {fz : Bool} {S : gS} {B : rf_M} {M : rf_M} {n0 : Nat} {x0 : Nat} {K : Int → rf_M → Prop} (hS : rl S) (hR : fl 22 353 B M) (mx0 : x0 ∈ k4) (h : em_S_holdAhead x0 M K) : lx (cx0 fz) n0 62 0 (lv_args 0 [.ref x0]) [] (M, S) (vl_i 22 353 B S K) :=
  E_S_holdAhead hS hR mx0 rfl h
def e_S_allows_29 (v0 : Nat) (M : rf_M) (K : Int → rf_M → Prop) : Prop := em_S_holdAhead v0 M (fun (z1 : Int) (M1 : rf_M) => (z1 = 0 ∨ z1 = 1) ∧ K z1 M1)
theorem E_S_allows_29 {fz : Bool} {S : gS} {B : rf_M} {M : rf_M} {ls : rf_L} {n0 : Nat} {v0 : Nat} {K : Int → rf_M → Prop} (hS : rl S) (hR : fl 22 353 B M) (mv0 : v0 ∈ k4) (a0 : rf_ld ls 0 = some (.ref v0)) (h : e_S_allows_29 v0 M K) : lx (cx0 fz) n0 61 29 ls [] (M, S) (vl_i 22 353 B S K) := by
  unfold e_S_allows_29 at h
  refine l1 (n := 1) rfl rfl rfl (la_of a0) ?_
  refine b_iv (c := v0) (as := []) (rest := []) rfl (by decide) (ko_4 hS mv0) rfl rfl (Nat.le_of_ble_eq_true rfl) (fun hq => ?_)
  refine lx_mono (E_S_holdAhead_m hS hR mv0 h) ?_
  rintro _ _ ⟨z1, M1, rfl, rfl, r1, iz1, h⟩
  exact l_rb rfl rfl h.1 r1 h.2
def e_S_allows (v0 : Nat) (v1 : Int) (v2 : Int64) (M : rf_M) (K : Int → rf_M → Prop) : Prop := ((0 ≤ (0 : Int) ∧ 0 ≤ (0 : Int) ∧ 0 ≤ (16 : Int)) ∧ (0 : Int) + (16 : Int) ≤ 16 ∧ (0 : Int) + (16 : Int) ≤ 16 → (∀ M1 : rf_M, M1 = cpl M (v0 + 1) 0 (v0 + 5) 0 16 → (em_M_isCell v1 M1 (fun (z2 : Int) (M2 : rf_M) => (z2 = 0 → (e_S_allows_29 v0 M2 K)) ∧ (¬ (z2 = 0) → ((0 ≤ v1 ∧ v1 < 16 → (∀ M3 : rf_M, M3 = wl M2 (v0 + 5) (v1).toNat v2 → (e_S_allows_29 v0 M3 K)))))))))
theorem E_S_allows {fz : Bool} {S : gS} {B : rf_M} {M : rf_M} {ls : rf_L} {n0 : Nat} {v0 : Nat} {v1 : Int} {v2 : Int64} {K : Int → rf_M → Prop} (hS : rl S) (hR : fl 22 353 B M) (mv0 : v0 ∈ k4) (iv1 : inr v1) (a0 : rf_ld ls 0 = some (.ref v0)) (a1 : rf_ld ls 1 = some (zv v1)) (a2 : rf_ld ls 2 = some (.long v2)) (h : e_S_allows v0 v1 v2 M K) : lx (cx0 fz) n0 61 0 ls [] (M, S) (vl_i 22 353 B S K) := by
  unfold e_S_allows at h
  refine l1 (n := 1) rfl rfl rfl (la_of a0) ?_
  refine l_gr rfl (ko_4 hS mv0) rfl (fun _ => rfl) (kf_4_0 hR.2 mv0) ?_
  refine l1 (n := 1) rfl rfl rfl rfl ?_
  refine l1 (n := 1) rfl rfl rfl (la_of a0) ?_
  refine l_gr rfl (ko_4 hS mv0) rfl (fun _ => rfl) (kf_4_5 hR.2 mv0) ?_
  refine l1 (n := 1) rfl rfl rfl rfl ?_
  refine l_bi rfl (by decide) ?_
  refine b_cpl rfl rfl (kt_4_0 (fz := fz) hS mv0).1 (kt_4_5 (fz := fz) hS mv0).1 ⟨by decide, by decide⟩ ⟨by decide, by decide⟩ ⟨by decide, by decide⟩ (fun q M1 e => ?_)
  replace h := h q M1 e
  have r1 := hR.cpl (kt_4_5 (fz := fz) hS mv0).1.1 (kt_4_5 (fz := fz) hS mv0).2 e
  refine l1 (n := 1) rfl rfl rfl (li_of a1) ?_
  refine b_st (as := [zv v1]) (rest := []) rfl (by decide) rfl (Nat.le_of_ble_eq_true rfl) (fun hq => ?_)
  refine lx_mono (E_M_isCell_m hS r1 iv1 h) ?_
  rintro _ _ ⟨z2, M2, rfl, rfl, r2, iz2, h⟩
  refine l_if rfl iz2 (fun c => ?_) (fun c => ?_)
  · replace h := h.1 c
    exact E_S_allows_29 hS r2 mv0 a0 h
  · replace h := h.2 c
    refine l1 (n := 1) rfl rfl rfl (la_of a0) ?_
    refine l_gr rfl (ko_4 hS mv0) rfl (fun _ => rfl) (kf_4_5 r2.2 mv0) ?_
    refine l1 (n := 1) rfl rfl rfl (li_of a1) ?_
    refine l1 (n := 1) rfl rfl rfl (ll_of a2) ?_
    refine b_ls rfl (kt_4_5 (fz := fz) hS mv0).1 (Nat.le_of_ble_eq_true rfl) iv1 (fun q M3 e => ?_)
    replace h := h q M3 e
    have r3 := r2.wl (kt_4_5 (fz := fz) hS mv0).1.1 (kt_4_5 (fz := fz) hS mv0).2 e
    exact E_S_allows_29 hS r3 mv0 a0 h
def em_S_allows (x0 : Nat) (x1 : Int) (x2 : Int64) (M : rf_M) (K : Int → rf_M → Prop) : Prop := e_S_allows x0 x1 x2 M K
theorem E_S_allows_m {fz : Bool} {S : gS} {B : rf_M} {M : rf_M} {n0 : Nat} {x0 : Nat} {x1 : Int} {x2 : Int64} {K : Int → rf_M → Prop} (hS : rl S) (hR : fl 22 353 B M) (mx0 : x0 ∈ k4) (ix1 : inr x1) (h : em_S_allows x0 x1 x2 M K) : lx (cx0 fz) n0 61 0 (lv_args 0 [.ref x0, zv x1, .long x2]) [] (M, S) (vl_i 22 353 B S K) :=
  E_S_allows hS hR mx0 ix1 rfl rfl rfl h
def e_S_write_24 (M : rf_M) (K : rf_M → Prop) : Prop := K M
theorem E_S_write_24 {fz : Bool} {S : gS} {B : rf_M} {M : rf_M} {ls : rf_L} {n0 : Nat} {K : rf_M → Prop} (hS : rl S) (hR : fl 22 353 B M) (h : e_S_write_24 M K) : lx (cx0 fz) n0 77 24 ls [] (M, S) (vl_v 22 353 B S K) := by
  unfold e_S_write_24 at h
  exact l_rv rfl rfl hR h
def e_S_write (v0 : Nat) (v1 : Int) (v2 : Int64) (M : rf_M) (K : rf_M → Prop) : Prop := em_M_isCell v1 M (fun (z1 : Int) (M1 : rf_M) => (z1 = 0 → (e_S_write_24 M1 K)) ∧ (¬ (z1 = 0) → ((0 ≤ v1 ∧ v1 < 16 → (∀ M2 : rf_M, M2 = wl M1 (v0 + 1) (v1).toNat v2 → ((0 ≤ v1 ∧ v1 < 16 → ((0 ≤ v1 ∧ v1 < 16 → (∀ M3 : rf_M, M3 = wi M2 (v0 + 2) (v1).toNat ((gi M2 (v0 + 2) (v1).toNat) + 1) → (e_S_write_24 M3 K)))))))))))
theorem E_S_write {fz : Bool} {S : gS} {B : rf_M} {M : rf_M} {ls : rf_L} {n0 : Nat} {v0 : Nat} {v1 : Int} {v2 : Int64} {K : rf_M → Prop} (hS : rl S) (hR : fl 22 353 B M) (mv0 : v0 ∈ k4) (iv1 : inr v1) (a0 : rf_ld ls 0 = some (.ref v0)) (a1 : rf_ld ls 1 = some (zv v1)) (a2 : rf_ld ls 2 = some (.long v2)) (h : e_S_write v0 v1 v2 M K) : lx (cx0 fz) n0 77 0 ls [] (M, S) (vl_v 22 353 B S K) := by
  unfold e_S_write at h
  refine l1 (n := 1) rfl rfl rfl (li_of a1) ?_
  refine b_st (as := [zv v1]) (rest := []) rfl (by decide) rfl (Nat.le_of_ble_eq_true rfl) (fun hq => ?_)
  refine lx_mono (E_M_isCell_m hS hR iv1 h) ?_
  rintro _ _ ⟨z1, M1, rfl, rfl, r1, iz1, h⟩
  refine l_if rfl iz1 (fun c => ?_) (fun c => ?_)
  · replace h := h.1 c
    exact E_S_write_24 hS r1  h
  · replace h := h.2 c
    refine l1 (n := 1) rfl rfl rfl (la_of a0) ?_
    refine l_gr rfl (ko_4 hS mv0) rfl (fun _ => rfl) (kf_4_0 r1.2 mv0) ?_
    refine l1 (n := 1) rfl rfl rfl (li_of a1) ?_
    refine l1 (n := 1) rfl rfl rfl (ll_of a2) ?_
    refine b_ls rfl (kt_4_0 (fz := fz) hS mv0).1 (Nat.le_of_ble_eq_true rfl) iv1 (fun q M2 e => ?_)
    replace h := h q M2 e
    have r2 := r1.wl (kt_4_0 (fz := fz) hS mv0).1.1 (kt_4_0 (fz := fz) hS mv0).2 e
    refine l1 (n := 1) rfl rfl rfl (la_of a0) ?_
    refine l_gr rfl (ko_4 hS mv0) rfl (fun _ => rfl) (kf_4_1 r2.2 mv0) ?_
    refine l1 (n := 1) rfl rfl rfl (li_of a1) ?_
    refine l0 rfl rfl rfl ?_
    refine b_ia rfl (kt_4_1 (fz := fz) hS mv0).1 (Nat.le_of_ble_eq_true rfl) iv1 (fun q => ?_)
    replace h := h q
    refine l1 (n := 1) rfl rfl rfl rfl ?_
    refine l_add rfl ?_
    refine b_is rfl (kt_4_1 (fz := fz) hS mv0).1 (Nat.le_of_ble_eq_true rfl) iv1 (fun q M3 e => ?_)
    replace h := h q M3 e
    have r3 := r2.wi (kt_4_1 (fz := fz) hS mv0).1.1 (kt_4_1 (fz := fz) hS mv0).2 e
    exact E_S_write_24 hS r3  h
def em_S_write (x0 : Nat) (x1 : Int) (x2 : Int64) (M : rf_M) (K : rf_M → Prop) : Prop := e_S_write x0 x1 x2 M K
theorem E_S_write_m {fz : Bool} {S : gS} {B : rf_M} {M : rf_M} {n0 : Nat} {x0 : Nat} {x1 : Int} {x2 : Int64} {K : rf_M → Prop} (hS : rl S) (hR : fl 22 353 B M) (mx0 : x0 ∈ k4) (ix1 : inr x1) (h : em_S_write x0 x1 x2 M K) : lx (cx0 fz) n0 77 0 (lv_args 0 [.ref x0, zv x1, .long x2]) [] (M, S) (vl_v 22 353 B S K) :=
  E_S_write hS hR mx0 ix1 rfl rfl rfl h
def e_J_note (v1 : Int) (v2 : Int) (v3 : Int) (v4 : Int) (v5 : Int) (v6 : Int64) (M : rf_M) (K : rf_M → Prop) : Prop := em_J_isFull  M (fun (z1 : Int) (M1 : rf_M) => (z1 = 0 → ((0 ≤ (gi M1 324 0) ∧ (gi M1 324 0) < 300 → (∀ M2 : rf_M, M2 = wi M1 325 (gi M1 324 0).toNat v1 → ((0 ≤ (gi M2 324 0) ∧ (gi M2 324 0) < 300 → (∀ M3 : rf_M, M3 = wi M2 326 (gi M2 324 0).toNat v2 → ((0 ≤ (gi M3 324 0) ∧ (gi M3 324 0) < 300 → (∀ M4 : rf_M, M4 = wi M3 327 (gi M3 324 0).toNat v3 → ((0 ≤ (gi M4 324 0) ∧ (gi M4 324 0) < 300 → (∀ M5 : rf_M, M5 = wi M4 328 (gi M4 324 0).toNat v4 → ((0 ≤ (gi M5 324 0) ∧ (gi M5 324 0) < 300 → (∀ M6 : rf_M, M6 = wi M5 329 (gi M5 324 0).toNat v5 → ((0 ≤ (gi M6 324 0) ∧ (gi M6 324 0) < 300 → (∀ M7 : rf_M, M7 = wl M6 330 (gi M6 324 0).toNat v6 → (∀ M8 : rf_M, M8 = wi M7 324 0 ((gi M7 324 0) + 1) → (K M8))))))))))))))))))))) ∧ (¬ (z1 = 0) → (K M1)))
def em_J_note (x1 : Int) (x2 : Int) (x3 : Int) (x4 : Int) (x5 : Int) (x6 : Int64) (M : rf_M) (K : rf_M → Prop) : Prop := e_J_note x1 x2 x3 x4 x5 x6 M K
def e_M_put_17 (M : rf_M) (K : Int → rf_M → Prop) : Prop := K (-1) M
def e_M_put (v1 : Int) (v2 : Int64) (M : rf_M) (K : Int → rf_M → Prop) : Prop := em_M_isCell v1 M (fun (z1 : Int) (M1 : rf_M) => (z1 = 0 → (e_M_put_17 M1 K)) ∧ (¬ (z1 = 0) → (em_J_isFull  M1 (fun (z2 : Int) (M2 : rf_M) => (z2 = 0 → (em_S_allows 187 v1 v2 M2 (fun (z3 : Int) (M3 : rf_M) => (z3 = 0 → (K (-2) M3)) ∧ (¬ z3 = 0 → (em_S_write 187 v1 v2 M3 (fun (M4 : rf_M) => em_J_note 0 (-1) v1 0 0 v2 M4 (fun (M5 : rf_M) => (0 ≤ v1 ∧ v1 < 16 → (K (gi M5 189 (v1).toNat) M5))))))))) ∧ (¬ (z2 = 0) → (e_M_put_17 M2 K))))))
def em_M_put (x1 : Int) (x2 : Int64) (M : rf_M) (K : Int → rf_M → Prop) : Prop := e_M_put x1 x2 M K
def e_M_cell_20 (s0 : Int64) (M : rf_M) (K : Int64 → rf_M → Prop) : Prop := K s0 M
def e_M_cell (v1 : Int) (M : rf_M) (K : Int64 → rf_M → Prop) : Prop := em_M_isCell v1 M (fun (z1 : Int) (M1 : rf_M) => (z1 = 0 → (e_M_cell_20 (Int64.ofNat 0) M1 K)) ∧ (¬ (z1 = 0) → ((0 ≤ v1 ∧ v1 < 16 → (e_M_cell_20 (gl M1 188 (v1).toNat) M1 K)))))
def em_M_cell (x1 : Int) (M : rf_M) (K : Int64 → rf_M → Prop) : Prop := e_M_cell x1 M K
def e_M_version_20 (s0 : Int) (M : rf_M) (K : Int → rf_M → Prop) : Prop := K s0 M
def e_M_version (v1 : Int) (M : rf_M) (K : Int → rf_M → Prop) : Prop := em_M_isCell v1 M (fun (z1 : Int) (M1 : rf_M) => (z1 = 0 → (e_M_version_20 (-1) M1 K)) ∧ (¬ (z1 = 0) → ((0 ≤ v1 ∧ v1 < 16 → (e_M_version_20 (gi M1 189 (v1).toNat) M1 K)))))
def em_M_version (x1 : Int) (M : rf_M) (K : Int → rf_M → Prop) : Prop := e_M_version x1 M K
def e_M_isClient_15 (s0 : Int) (M : rf_M) (K : Int → rf_M → Prop) : Prop := (s0 = 0 ∨ s0 = 1) ∧ K s0 M
def e_M_isClient_14 (M : rf_M) (K : Int → rf_M → Prop) : Prop := e_M_isClient_15 0 M K
def e_M_isClient (v1 : Int) (M : rf_M) (K : Int → rf_M → Prop) : Prop := (v1 < 0 → (e_M_isClient_14 M K)) ∧ (¬ (v1 < 0) → ((8 ≤ v1 → (e_M_isClient_14 M K)) ∧ (¬ (8 ≤ v1) → (e_M_isClient_15 1 M K))))
def em_M_isClient (x1 : Int) (M : rf_M) (K : Int → rf_M → Prop) : Prop := e_M_isClient x1 M K
def e_M_isTransaction_17 (s0 : Int) (M : rf_M) (K : Int → rf_M → Prop) : Prop := (s0 = 0 ∨ s0 = 1) ∧ K s0 M
def e_M_isTransaction_16 (M : rf_M) (K : Int → rf_M → Prop) : Prop := e_M_isTransaction_17 0 M K
def e_M_isTransaction (v1 : Int) (M : rf_M) (K : Int → rf_M → Prop) : Prop := (v1 < 0 → (e_M_isTransaction_16 M K)) ∧ (¬ (v1 < 0) → (((gi M 22 3) ≤ v1 → (e_M_isTransaction_16 M K)) ∧ (¬ ((gi M 22 3) ≤ v1) → (e_M_isTransaction_17 1 M K))))
def em_M_isTransaction (x1 : Int) (M : rf_M) (K : Int → rf_M → Prop) : Prop := e_M_isTransaction x1 M K
def e_C_enlist_43 (v0 : Nat) (M : rf_M) (K : Int → rf_M → Prop) : Prop := K (gi M v0 5) M
def e_C_enlist (v0 : Nat) (v1 : Int) (M : rf_M) (K : Int → rf_M → Prop) : Prop := ((gi M v0 5) < 16 → ((0 ≤ (gi M v0 5) ∧ (gi M v0 5) < 16 → (∀ M1 : rf_M, M1 = wi M (v0 + 1) (gi M v0 5).toNat v1 → (∀ M2 : rf_M, M2 = wi M1 v0 5 ((gi M1 v0 5) + 1) → (((gi M2 v0 0) = 0 → (∀ M3 : rf_M, M3 = wi M2 v0 0 1 → (e_C_enlist_43 v0 M3 K))) ∧ (¬ (gi M2 v0 0) = 0 → (e_C_enlist_43 v0 M2 K)))))))) ∧ (¬ ((gi M v0 5) < 16) → (K (-1) M))
def em_C_enlist (x0 : Nat) (x1 : Int) (M : rf_M) (K : Int → rf_M → Prop) : Prop := e_C_enlist x0 x1 M K
def e_M_add_16 (M : rf_M) (K : Int → rf_M → Prop) : Prop := K (-1) M
def e_M_add (v1 : Int) (v2 : Int) (M : rf_M) (K : Int → rf_M → Prop) : Prop := em_M_isClient v1 M (fun (z1 : Int) (M1 : rf_M) => (z1 = 0 → (e_M_add_16 M1 K)) ∧ (¬ (z1 = 0) → (em_M_isTransaction v2 M1 (fun (z2 : Int) (M2 : rf_M) => (z2 = 0 → (e_M_add_16 M2 K)) ∧ (¬ z2 = 0 → ((0 ≤ v1 ∧ v1 < 8 → (em_C_enlist (clA v1) v2 M2 (fun (z3 : Int) (M3 : rf_M) => K z3 M3)))))))))
def em_M_add (x1 : Int) (x2 : Int) (M : rf_M) (K : Int → rf_M → Prop) : Prop := e_M_add x1 x2 M K
def e_S_differs_36 (v0 : Nat) (v1 : Int) (v2 : Nat) (v3 : Int) (M : rf_M) (b2 : Nat → Int → Nat → Int → rf_M → Prop) (K : Int → rf_M → Prop) : Prop := inr (v3 + 1) ∧ (b2 v0 v1 v2 (v3 + 1) M)
theorem E_S_differs_36 {fz : Bool} {S : gS} {B : rf_M} {M : rf_M} {ls : rf_L} {n0 : Nat} {v0 : Nat} {v1 : Int} {v2 : Nat} {v3 : Int} {b2 : Nat → Int → Nat → Int → rf_M → Prop} {K : Int → rf_M → Prop} (hS : rl S) (hR : fl 22 353 B M) (mv0 : v0 ∈ k4) (iv1 : inr v1) (mv2 : pa fz S v2 .int 16) (iv3 : inr v3) (a0 : rf_ld ls 0 = some (.ref v0)) (a1 : rf_ld ls 1 = some (zv v1)) (a2 : rf_ld ls 2 = some (.ref v2)) (a3 : rf_ld ls 3 = some (zv v3)) (hb2 : ∀ n', n' < n0 → ∀ (v0 : Nat) (v1 : Int) (v2 : Nat) (v3 : Int) (M : rf_M) (ls : rf_L), fl 22 353 B M → v0 ∈ k4 → inr v1 → pa fz S v2 .int 16 → inr v3 → rf_ld ls 0 = some (.ref v0) → rf_ld ls 1 = some (zv v1) → rf_ld ls 2 = some (.ref v2) → rf_ld ls 3 = some (zv v3) → b2 v0 v1 v2 v3 M → lx (cx0 fz) n' 72 2 ls [] (M, S) (vl_i 22 353 B S K)) (h : e_S_differs_36 v0 v1 v2 v3 M b2 K) : lx (cx0 fz) n0 72 36 ls [] (M, S) (vl_i 22 353 B S K) := by
  unfold e_S_differs_36 at h
  rcases Nat.eq_zero_or_pos n0 with e0 | hp
  · rw [e0]; exact lx_zero
  refine l_ii rfl a3 (Nat.le_of_ble_eq_true rfl) (fun ls y1 ho => ?_)
  have y2 := ho 0 _ (by decide) (fun q => by cases q.2) a0
  have y3 := ho 1 _ (by decide) (fun q => by cases q.2) a1
  have y4 := ho 2 _ (by decide) (fun q => by cases q.2) a2
  refine l3 rfl rfl rfl ?_
  obtain ⟨i1, h⟩ := h
  exact hb2 _ (by omega) _ _ _ _ _ _ hR mv0 iv1 mv2 i1 y2 y3 y4 y1 h
def e_S_differs_42 (M : rf_M) (K : Int → rf_M → Prop) : Prop := K 0 M
theorem E_S_differs_42 {fz : Bool} {S : gS} {B : rf_M} {M : rf_M} {ls : rf_L} {n0 : Nat} {K : Int → rf_M → Prop} (hS : rl S) (hR : fl 22 353 B M) (h : e_S_differs_42 M K) : lx (cx0 fz) n0 72 42 ls [] (M, S) (vl_i 22 353 B S K) := by
  unfold e_S_differs_42 at h
  refine l1 (n := 1) rfl rfl rfl rfl ?_
  exact l_rb rfl rfl (Or.inl rfl) hR h
def e_S_differs_2b (v0 : Nat) (v1 : Int) (v2 : Nat) (v3 : Int) (M : rf_M) (b2 : Nat → Int → Nat → Int → rf_M → Prop) (K : Int → rf_M → Prop) : Prop := (16 ≤ v3 → (e_S_differs_42 M K)) ∧ (¬ (16 ≤ v3) → ((16 ≤ v3 → (e_S_differs_42 M K)) ∧ (¬ (16 ≤ v3) → (((Int32.ofInt ((Int32.ofInt v1).toUInt32 >>> ((Int32.ofInt v3).toUInt32 &&& Int32.toUInt32 31)).toInt32.toInt &&& Int32.ofInt 1).toInt = 0 → (e_S_differs_36 v0 v1 v2 v3 M b2 K)) ∧ (¬ ((Int32.ofInt ((Int32.ofInt v1).toUInt32 >>> ((Int32.ofInt v3).toUInt32 &&& Int32.toUInt32 31)).toInt32.toInt &&& Int32.ofInt 1).toInt = 0) → ((0 ≤ v3 ∧ v3 < 16 → ((0 ≤ v3 ∧ v3 < 16 → (((gi M (v0 + 2) (v3).toNat) = (gi M v2 (v3).toNat) → (e_S_differs_36 v0 v1 v2 v3 M b2 K)) ∧ (¬ ((gi M (v0 + 2) (v3).toNat) = (gi M v2 (v3).toNat)) → (K 1 M))))))))))))
theorem E_S_differs_2b {fz : Bool} {S : gS} {B : rf_M} {M : rf_M} {ls : rf_L} {n0 : Nat} {v0 : Nat} {v1 : Int} {v2 : Nat} {v3 : Int} {b2 : Nat → Int → Nat → Int → rf_M → Prop} {K : Int → rf_M → Prop} (hS : rl S) (hR : fl 22 353 B M) (mv0 : v0 ∈ k4) (iv1 : inr v1) (mv2 : pa fz S v2 .int 16) (iv3 : inr v3) (a0 : rf_ld ls 0 = some (.ref v0)) (a1 : rf_ld ls 1 = some (zv v1)) (a2 : rf_ld ls 2 = some (.ref v2)) (a3 : rf_ld ls 3 = some (zv v3)) (hb2 : ∀ n', n' < n0 → ∀ (v0 : Nat) (v1 : Int) (v2 : Nat) (v3 : Int) (M : rf_M) (ls : rf_L), fl 22 353 B M → v0 ∈ k4 → inr v1 → pa fz S v2 .int 16 → inr v3 → rf_ld ls 0 = some (.ref v0) → rf_ld ls 1 = some (zv v1) → rf_ld ls 2 = some (.ref v2) → rf_ld ls 3 = some (zv v3) → b2 v0 v1 v2 v3 M → lx (cx0 fz) n' 72 2 ls [] (M, S) (vl_i 22 353 B S K)) (h : e_S_differs_2b v0 v1 v2 v3 M b2 K) : lx (cx0 fz) n0 72 2 ls [] (M, S) (vl_i 22 353 B S K) := by
  unfold e_S_differs_2b at h
  rcases Nat.eq_zero_or_pos n0 with e0 | hp
  · rw [e0]; exact lx_zero
  refine l1 (n := 1) rfl rfl rfl (li_of a3) ?_
  refine l_bi rfl (by decide) ?_
  refine l_ic rfl iv3 ⟨by decide, by decide⟩ (fun c => ?_) (fun c => ?_)
  · replace h := h.1 c
    exact E_S_differs_42 hS hR  h
  · replace h := h.2 c
    refine l1 (n := 1) rfl rfl rfl (li_of a3) ?_
    refine l1 (n := 1) rfl rfl rfl (la_of a2) ?_
    refine l_al (z := 16) rfl mv2.1 rfl ?_
    refine l_ic rfl iv3 ⟨by decide, by decide⟩ (fun c => ?_) (fun c => ?_)
    · replace h := h.1 c
      exact E_S_differs_42 hS hR  h
    · replace h := h.2 c
      refine l1 (n := 1) rfl rfl rfl (li_of a1) ?_
      refine l1 (n := 1) rfl rfl rfl (li_of a3) ?_
      refine l_op (T := ((Int32.ofInt v1).toUInt32 >>> ((Int32.ofInt v3).toUInt32 &&& Int32.toUInt32 31)).toInt32) rfl rfl rfl ?_
      refine l1 (n := 1) rfl rfl rfl rfl ?_
      refine l_op (T := (Int32.ofInt ((Int32.ofInt v1).toUInt32 >>> ((Int32.ofInt v3).toUInt32 &&& Int32.toUInt32 31)).toInt32.toInt &&& Int32.ofInt 1)) rfl rfl rfl ?_
      refine l_if rfl (inr_ti _) (fun c => ?_) (fun c => ?_)
      · replace h := h.1 c
        exact E_S_differs_36 hS hR mv0 iv1 mv2 iv3 a0 a1 a2 a3 (fun n' hn' => hb2 n' (by omega)) h
      · replace h := h.2 c
        refine l1 (n := 1) rfl rfl rfl (la_of a0) ?_
        refine l_gr rfl (ko_4 hS mv0) rfl (fun _ => rfl) (kf_4_1 hR.2 mv0) ?_
        refine l1 (n := 1) rfl rfl rfl (li_of a3) ?_
        refine b_ia rfl (kt_4_1 (fz := fz) hS mv0).1 (Nat.le_of_ble_eq_true rfl) iv3 (fun q => ?_)
        replace h := h q
        refine l1 (n := 1) rfl rfl rfl (la_of a2) ?_
        refine l1 (n := 1) rfl rfl rfl (li_of a3) ?_
        refine b_ia rfl mv2.1 (Nat.le_of_ble_eq_true rfl) iv3 (fun q => ?_)
        replace h := h q
        refine l_ic rfl (inr_gi _ _ _) (inr_gi _ _ _) (fun c => ?_) (fun c => ?_)
        · replace h := h.1 c
          exact E_S_differs_36 hS hR mv0 iv1 mv2 iv3 a0 a1 a2 a3 (fun n' hn' => hb2 n' (by omega)) h
        · replace h := h.2 c
          refine l1 (n := 1) rfl rfl rfl rfl ?_
          exact l_rb rfl rfl (Or.inr rfl) hR h
def e_S_differs_2 (v0 : Nat) (v1 : Int) (v2 : Nat) (v3 : Int) (M : rf_M) (K : Int → rf_M → Prop) : Prop := ∃ Inv : Nat → Int → Nat → Int → rf_M → Prop, Inv v0 v1 v2 v3 M ∧ ∀ (v0 : Nat) (v1 : Int) (v2 : Nat) (v3 : Int) (M : rf_M), inr v1 → inr v3 → Inv v0 v1 v2 v3 M → e_S_differs_2b v0 v1 v2 v3 M Inv K
theorem E_S_differs_2 {fz : Bool} {S : gS} {B : rf_M} {M : rf_M} {ls : rf_L} {n0 : Nat} {v0 : Nat} {v1 : Int} {v2 : Nat} {v3 : Int} {K : Int → rf_M → Prop} (hS : rl S) (hR : fl 22 353 B M) (mv0 : v0 ∈ k4) (iv1 : inr v1) (mv2 : pa fz S v2 .int 16) (iv3 : inr v3) (a0 : rf_ld ls 0 = some (.ref v0)) (a1 : rf_ld ls 1 = some (zv v1)) (a2 : rf_ld ls 2 = some (.ref v2)) (a3 : rf_ld ls 3 = some (zv v3)) (h : e_S_differs_2 v0 v1 v2 v3 M K) : lx (cx0 fz) n0 72 2 ls [] (M, S) (vl_i 22 353 B S K) := by
  obtain ⟨Inv, hm, hb⟩ := h
  induction n0 using Nat.strongRecOn generalizing ls M v0 v1 v2 v3 with
  | _ n0 ih =>
    refine E_S_differs_2b hS hR mv0 iv1 mv2 iv3 a0 a1 a2 a3 (fun n' hn' v0' v1' v2' v3' M' ls' hR' f0 f1 f2 f3 f4 f5 f6 f7 q2 => ih n' hn' hR' f0 f1 f2 f3 f4 f5 f6 f7 q2) (hb v0 v1 v2 v3 M iv1 iv3 hm)
def e_S_differs (v0 : Nat) (v1 : Int) (v2 : Nat) (M : rf_M) (K : Int → rf_M → Prop) : Prop := e_S_differs_2 v0 v1 v2 0 M K
theorem E_S_differs {fz : Bool} {S : gS} {B : rf_M} {M : rf_M} {ls : rf_L} {n0 : Nat} {v0 : Nat} {v1 : Int} {v2 : Nat} {K : Int → rf_M → Prop} (hS : rl S) (hR : fl 22 353 B M) (mv0 : v0 ∈ k4) (iv1 : inr v1) (mv2 : pa fz S v2 .int 16) (a0 : rf_ld ls 0 = some (.ref v0)) (a1 : rf_ld ls 1 = some (zv v1)) (a2 : rf_ld ls 2 = some (.ref v2)) (h : e_S_differs v0 v1 v2 M K) : lx (cx0 fz) n0 72 0 ls [] (M, S) (vl_i 22 353 B S K) := by
  unfold e_S_differs at h
  refine l1 (n := 1) rfl rfl rfl rfl ?_
  refine l_s1 (n := 1) rfl rfl rfl rfl (fun ls y1 ho => ?_)
  have y2 := ho 0 _ (by decide) (fun q => by cases q.2) a0
  have y3 := ho 1 _ (by decide) (fun q => by cases q.2) a1
  have y4 := ho 2 _ (by decide) (fun q => by cases q.2) a2
  exact E_S_differs_2 hS hR mv0 iv1 mv2 ⟨by decide, by decide⟩ y2 y3 y4 y1 h
def em_S_differs (x0 : Nat) (x1 : Int) (x2 : Nat) (M : rf_M) (K : Int → rf_M → Prop) : Prop := e_S_differs x0 x1 x2 M K
theorem E_S_differs_m {fz : Bool} {S : gS} {B : rf_M} {M : rf_M} {n0 : Nat} {x0 : Nat} {x1 : Int} {x2 : Nat} {K : Int → rf_M → Prop} (hS : rl S) (hR : fl 22 353 B M) (mx0 : x0 ∈ k4) (ix1 : inr x1) (mx2 : pa fz S x2 .int 16) (h : em_S_differs x0 x1 x2 M K) : lx (cx0 fz) n0 72 0 (lv_args 0 [.ref x0, zv x1, .ref x2]) [] (M, S) (vl_i 22 353 B S K) :=
  E_S_differs hS hR mx0 ix1 mx2 rfl rfl rfl h
