def e_C_isWoken (v0 : Nat) (v1 : Nat) (M : rf_M) (K : Int → rf_M → Prop) : Prop := em_S_differs v1 (gi M v0 6) (v0 + 2) M (fun (z1 : Int) (M1 : rf_M) => (z1 = 0 ∨ z1 = 1) ∧ K z1 M1)
def em_C_isWoken (x0 : Nat) (x1 : Nat) (M : rf_M) (K : Int → rf_M → Prop) : Prop := e_C_isWoken x0 x1 M K
def e_F_fillJ10_6b (v0 : Nat) (v1 : Int64) (v3 : Int) (v4 : Int) (M : rf_M) (b6 : Nat → Int64 → Int → Int → rf_M → Prop) (K : rf_M → Prop) : Prop := (v4 ≤ v3 → (K M)) ∧ (¬ (v4 ≤ v3) → ((0 ≤ v3 ∧ v3 < 10 → (∀ M1 : rf_M, M1 = wl M v0 (v3).toNat v1 → (inr (v3 + 1) ∧ (b6 v0 v1 (v3 + 1) v4 M1))))))
theorem E_F_fillJ10_6b {fz : Bool} {S : gS} {B : rf_M} {M : rf_M} {ls : rf_L} {n0 : Nat} {v0 : Nat} {v1 : Int64} {v3 : Int} {v4 : Int} {b6 : Nat → Int64 → Int → Int → rf_M → Prop} {K : rf_M → Prop} (hS : rl S) (hR : fl 22 353 B M) (mv0 : pa fz S v0 .long 10) (iv3 : inr v3) (iv4 : inr v4) (a0 : rf_ld ls 0 = some (.ref v0)) (a1 : rf_ld ls 1 = some (.long v1)) (a3 : rf_ld ls 3 = some (zv v3)) (a4 : rf_ld ls 4 = some (zv v4)) (hb6 : ∀ n', n' < n0 → ∀ (v0 : Nat) (v1 : Int64) (v3 : Int) (v4 : Int) (M : rf_M) (ls : rf_L), fl 22 353 B M → pa fz S v0 .long 10 → inr v3 → inr v4 → rf_ld ls 0 = some (.ref v0) → rf_ld ls 1 = some (.long v1) → rf_ld ls 3 = some (zv v3) → rf_ld ls 4 = some (zv v4) → b6 v0 v1 v3 v4 M → lx (cx0 fz) n' 89 6 ls [] (M, S) (vl_v 22 353 B S K)) (h : e_F_fillJ10_6b v0 v1 v3 v4 M b6 K) : lx (cx0 fz) n0 89 6 ls [] (M, S) (vl_v 22 353 B S K) := by
  unfold e_F_fillJ10_6b at h
  rcases Nat.eq_zero_or_pos n0 with e0 | hp
  · rw [e0]; exact lx_zero
  refine l1 (n := 1) rfl rfl rfl (li_of a3) ?_
  refine l1 (n := 2) rfl rfl rfl (li_of a4) ?_
  refine l_ic rfl iv3 iv4 (fun c => ?_) (fun c => ?_)
  · replace h := h.1 c
    exact l_rv rfl rfl hR h
  · replace h := h.2 c
    refine l1 (n := 1) rfl rfl rfl (la_of a0) ?_
    refine l1 (n := 1) rfl rfl rfl (li_of a3) ?_
    refine l1 (n := 1) rfl rfl rfl (ll_of a1) ?_
    refine b_ls rfl mv0.1 (Nat.le_of_ble_eq_true rfl) iv3 (fun q M1 e => ?_)
    replace h := h q M1 e
    have r1 := hR.wl mv0.1.1 mv0.2 e
    refine l_ii rfl a3 (Nat.le_of_ble_eq_true rfl) (fun ls y1 ho => ?_)
    have y2 := ho 0 _ (by decide) (fun q => by cases q.2) a0
    have y3 := ho 1 _ (by decide) (fun q => absurd q.1 (by decide)) a1
    have y4 := ho 4 _ (by decide) (fun q => by cases q.2) a4
    refine l3 rfl rfl rfl ?_
    obtain ⟨i1, h⟩ := h
    exact hb6 _ (by omega) _ _ _ _ _ _ r1 mv0 i1 iv4 y2 y3 y1 y4 h
def e_F_fillJ10_6 (v0 : Nat) (v1 : Int64) (v3 : Int) (v4 : Int) (M : rf_M) (K : rf_M → Prop) : Prop := ∃ Inv : Nat → Int64 → Int → Int → rf_M → Prop, Inv v0 v1 v3 v4 M ∧ ∀ (v0 : Nat) (v1 : Int64) (v3 : Int) (v4 : Int) (M : rf_M), inr v3 → inr v4 → Inv v0 v1 v3 v4 M → e_F_fillJ10_6b v0 v1 v3 v4 M Inv K
theorem E_F_fillJ10_6 {fz : Bool} {S : gS} {B : rf_M} {M : rf_M} {ls : rf_L} {n0 : Nat} {v0 : Nat} {v1 : Int64} {v3 : Int} {v4 : Int} {K : rf_M → Prop} (hS : rl S) (hR : fl 22 353 B M) (mv0 : pa fz S v0 .long 10) (iv3 : inr v3) (iv4 : inr v4) (a0 : rf_ld ls 0 = some (.ref v0)) (a1 : rf_ld ls 1 = some (.long v1)) (a3 : rf_ld ls 3 = some (zv v3)) (a4 : rf_ld ls 4 = some (zv v4)) (h : e_F_fillJ10_6 v0 v1 v3 v4 M K) : lx (cx0 fz) n0 89 6 ls [] (M, S) (vl_v 22 353 B S K) := by
  obtain ⟨Inv, hm, hb⟩ := h
  induction n0 using Nat.strongRecOn generalizing ls M v0 v1 v3 v4 with
  | _ n0 ih =>
    refine E_F_fillJ10_6b hS hR mv0 iv3 iv4 a0 a1 a3 a4 (fun n' hn' v0' v1' v3' v4' M' ls' hR' f0 f1 f2 f3 f4 f5 f6 q2 => ih n' hn' hR' f0 f1 f2 f3 f4 f5 f6 q2) (hb v0 v1 v3 v4 M iv3 iv4 hm)
def e_F_fillJ10 (v0 : Nat) (v1 : Int64) (M : rf_M) (K : rf_M → Prop) : Prop := e_F_fillJ10_6 v0 v1 0 10 M K
theorem E_F_fillJ10 {fz : Bool} {S : gS} {B : rf_M} {M : rf_M} {ls : rf_L} {n0 : Nat} {v0 : Nat} {v1 : Int64} {K : rf_M → Prop} (hS : rl S) (hR : fl 22 353 B M) (mv0 : pa fz S v0 .long 10) (a0 : rf_ld ls 0 = some (.ref v0)) (a1 : rf_ld ls 1 = some (.long v1)) (h : e_F_fillJ10 v0 v1 M K) : lx (cx0 fz) n0 89 0 ls [] (M, S) (vl_v 22 353 B S K) := by
  unfold e_F_fillJ10 at h
  refine l1 (n := 1) rfl rfl rfl rfl ?_
  refine l_s1 (n := 1) rfl rfl rfl rfl (fun ls y1 ho => ?_)
  have y2 := ho 0 _ (by decide) (fun q => by cases q.2) a0
  have y3 := ho 1 _ (by decide) (fun q => absurd q.1 (by decide)) a1
  refine l1 (n := 1) rfl rfl rfl (la_of y2) ?_
  refine l_al (z := 10) rfl mv0.1 rfl ?_
  refine l_s1 (n := 2) rfl rfl rfl rfl (fun ls y4 ho => ?_)
  have y5 := ho 0 _ (by decide) (fun q => by cases q.2) y2
  have y6 := ho 1 _ (by decide) (fun q => absurd q.1 (by decide)) y3
  have y7 := ho 3 _ (by decide) (fun q => by cases q.2) y1
  exact E_F_fillJ10_6 hS hR mv0 ⟨by decide, by decide⟩ ⟨by decide, by decide⟩ y5 y6 y7 y4 h
def em_F_fillJ10 (x0 : Nat) (x1 : Int64) (M : rf_M) (K : rf_M → Prop) : Prop := e_F_fillJ10 x0 x1 M K
theorem E_F_fillJ10_m {fz : Bool} {S : gS} {B : rf_M} {M : rf_M} {n0 : Nat} {x0 : Nat} {x1 : Int64} {K : rf_M → Prop} (hS : rl S) (hR : fl 22 353 B M) (mx0 : pa fz S x0 .long 10) (h : em_F_fillJ10 x0 x1 M K) : lx (cx0 fz) n0 89 0 (lv_args 0 [.ref x0, .long x1]) [] (M, S) (vl_v 22 353 B S K) :=
  E_F_fillJ10 hS hR mx0 rfl rfl h
def e_D_reset (v0 : Nat) (M : rf_M) (K : rf_M → Prop) : Prop := ∀ M1 : rf_M, M1 = wi M v0 0 0 → (∀ M2 : rf_M, M2 = wi M1 v0 3 0 → (em_F_fillJ10 (v0 + 2) (Int64.ofNat 0) M2 (fun (M3 : rf_M) => K M3)))
theorem E_D_reset {fz : Bool} {S : gS} {B : rf_M} {M : rf_M} {ls : rf_L} {n0 : Nat} {v0 : Nat} {K : rf_M → Prop} (hS : rl S) (hR : fl 22 353 B M) (mv0 : v0 ∈ k8) (a0 : rf_ld ls 0 = some (.ref v0)) (h : e_D_reset v0 M K) : lx (cx0 fz) n0 88 0 ls [] (M, S) (vl_v 22 353 B S K) := by
  unfold e_D_reset at h
  refine l1 (n := 1) rfl rfl rfl (la_of a0) ?_
  refine l1 (n := 1) rfl rfl rfl rfl ?_
  refine l_pi rfl (ko_8 (fz := fz) hS mv0) rfl (fun _ _ => rfl) (fun M1 e => ?_)
  replace h := h M1 e
  have r1 := hR.wi (ko_8 (fz := fz) hS mv0).1 (kl_8 mv0) e
  refine l1 (n := 1) rfl rfl rfl (la_of a0) ?_
  refine l1 (n := 1) rfl rfl rfl rfl ?_
  refine l_pi rfl (ko_8 (fz := fz) hS mv0) rfl (fun _ _ => rfl) (fun M2 e => ?_)
  replace h := h M2 e
  have r2 := r1.wi (ko_8 (fz := fz) hS mv0).1 (kl_8 mv0) e
  refine l1 (n := 1) rfl rfl rfl (la_of a0) ?_
  refine l_gr rfl (ko_8 hS mv0) rfl (fun _ => rfl) (kf_8_2 r2.2 mv0) ?_
  refine l1 (n := 1) rfl rfl rfl rfl ?_
  refine b_st (as := [.ref (v0 + 2), .long (Int64.ofNat 0)]) (rest := []) rfl (by decide) rfl (Nat.le_of_ble_eq_true rfl) (fun hq => ?_)
  refine lx_mono (E_F_fillJ10_m hS r2 (kt_8_2 (fz := fz) hS mv0) h) ?_
  rintro _ _ ⟨M3, rfl, rfl, r3, h⟩
  exact l_rv rfl rfl r3 h
def em_D_reset (x0 : Nat) (M : rf_M) (K : rf_M → Prop) : Prop := e_D_reset x0 M K
theorem E_D_reset_m {fz : Bool} {S : gS} {B : rf_M} {M : rf_M} {n0 : Nat} {x0 : Nat} {K : rf_M → Prop} (hS : rl S) (hR : fl 22 353 B M) (mx0 : x0 ∈ k8) (h : em_D_reset x0 M K) : lx (cx0 fz) n0 88 0 (lv_args 0 [.ref x0]) [] (M, S) (vl_v 22 353 B S K) :=
  E_D_reset hS hR mx0 rfl h
def e_R_begin (v0 : Nat) (v1 : Nat) (M : rf_M) (K : rf_M → Prop) : Prop := ∀ M1 : rf_M, M1 = wq M v0 0 v1 → (∀ M2 : rf_M, M2 = wi M1 v0 6 (gi M1 v1 4) → (∀ M3 : rf_M, M3 = wi M2 v0 1 0 → (∀ M4 : rf_M, M4 = wi M3 v0 2 0 → (∀ M5 : rf_M, M5 = wl M4 v0 3 (Int64.ofNat 0) → (em_D_reset (v0 + 2) M5 (fun (M6 : rf_M) => K M6))))))
theorem E_R_begin {fz : Bool} {S : gS} {B : rf_M} {M : rf_M} {ls : rf_L} {n0 : Nat} {v0 : Nat} {v1 : Nat} {K : rf_M → Prop} (hS : rl S) (hR : fl 22 353 B M) (mv0 : v0 ∈ k7) (mv1 : v1 ∈ k1) (a0 : rf_ld ls 0 = some (.ref v0)) (a1 : rf_ld ls 1 = some (.ref v1)) (h : e_R_begin v0 v1 M K) : lx (cx0 fz) n0 87 0 ls [] (M, S) (vl_v 22 353 B S K) := by
  unfold e_R_begin at h
  refine l1 (n := 1) rfl rfl rfl (la_of a0) ?_
  refine l1 (n := 1) rfl rfl rfl (la_of a1) ?_
  refine l_pq rfl (ko_7 (fz := fz) hS mv0) rfl (fun _ _ => rfl) (fun M1 e => ?_)
  replace h := h M1 e
  have r1 := hR.wqR mv0 e
  refine l1 (n := 1) rfl rfl rfl (la_of a0) ?_
  refine l1 (n := 1) rfl rfl rfl (la_of a1) ?_
  refine l_gi rfl (ko_1 hS mv1) rfl (fun _ => rfl) ?_
  refine l_pi rfl (ko_7 (fz := fz) hS mv0) rfl (fun _ _ => rfl) (fun M2 e => ?_)
  replace h := h M2 e
  have r2 := r1.wi (ko_7 (fz := fz) hS mv0).1 (kl_7 mv0) e
  refine l1 (n := 1) rfl rfl rfl (la_of a0) ?_
  refine l1 (n := 1) rfl rfl rfl rfl ?_
  refine l_pi rfl (ko_7 (fz := fz) hS mv0) rfl (fun _ _ => rfl) (fun M3 e => ?_)
  replace h := h M3 e
  have r3 := r2.wi (ko_7 (fz := fz) hS mv0).1 (kl_7 mv0) e
  refine l1 (n := 1) rfl rfl rfl (la_of a0) ?_
  refine l1 (n := 1) rfl rfl rfl rfl ?_
  refine l_pi rfl (ko_7 (fz := fz) hS mv0) rfl (fun _ _ => rfl) (fun M4 e => ?_)
  replace h := h M4 e
  have r4 := r3.wi (ko_7 (fz := fz) hS mv0).1 (kl_7 mv0) e
  refine l1 (n := 1) rfl rfl rfl (la_of a0) ?_
  refine l1 (n := 1) rfl rfl rfl rfl ?_
  refine l_pl rfl (ko_7 (fz := fz) hS mv0) rfl (fun _ _ => rfl) (fun M5 e => ?_)
  replace h := h M5 e
  have r5 := r4.wl (ko_7 (fz := fz) hS mv0).1 (kl_7 mv0) e
  refine l1 (n := 1) rfl rfl rfl (la_of a0) ?_
  refine l_gr rfl (ko_7 hS mv0) rfl (fun _ => rfl) (kf_7_5 r5.2 mv0) ?_
  refine b_iv (c := (v0 + 2)) (as := []) (rest := []) rfl (by decide) (ko_8 hS (kt_7_5 mv0)) rfl rfl (Nat.le_of_ble_eq_true rfl) (fun hq => ?_)
  refine lx_mono (E_D_reset_m hS r5 (kt_7_5 mv0) h) ?_
  rintro _ _ ⟨M6, rfl, rfl, r6, h⟩
  exact l_rv rfl rfl r6 h
def em_R_begin (x0 : Nat) (x1 : Nat) (M : rf_M) (K : rf_M → Prop) : Prop := e_R_begin x0 x1 M K
theorem E_R_begin_m {fz : Bool} {S : gS} {B : rf_M} {M : rf_M} {n0 : Nat} {x0 : Nat} {x1 : Nat} {K : rf_M → Prop} (hS : rl S) (hR : fl 22 353 B M) (mx0 : x0 ∈ k7) (mx1 : x1 ∈ k1) (h : em_R_begin x0 x1 M K) : lx (cx0 fz) n0 87 0 (lv_args 0 [.ref x0, .ref x1]) [] (M, S) (vl_v 22 353 B S K) :=
  E_R_begin hS hR mx0 mx1 rfl rfl h
def e_D_mark_10 (M : rf_M) (K : rf_M → Prop) : Prop := K M
theorem E_D_mark_10 {fz : Bool} {S : gS} {B : rf_M} {M : rf_M} {ls : rf_L} {n0 : Nat} {K : rf_M → Prop} (hS : rl S) (hR : fl 22 353 B M) (h : e_D_mark_10 M K) : lx (cx0 fz) n0 91 10 ls [] (M, S) (vl_v 22 353 B S K) := by
  unfold e_D_mark_10 at h
  exact l_rv rfl rfl hR h
def e_D_mark (v0 : Nat) (v1 : Int) (M : rf_M) (K : rf_M → Prop) : Prop := (v1 < 0 → (e_D_mark_10 M K)) ∧ (¬ (v1 < 0) → ((v1 < 8 → ((0 ≤ v1 ∧ v1 < 8 → (∀ M1 : rf_M, M1 = wi M (v0 + 4) (v1).toNat (gi M v0 0) → ((0 ≤ v1 ∧ v1 < 8 → (∀ M2 : rf_M, M2 = wi M1 (v0 + 7) (v1).toNat (gi M1 v0 3) → (inr (v1 * 16) ∧ (((0 ≤ (0 : Int) ∧ 0 ≤ (v1 * 16) ∧ 0 ≤ (16 : Int)) ∧ (0 : Int) + (16 : Int) ≤ 16 ∧ (v1 * 16) + (16 : Int) ≤ 128 → (∀ M3 : rf_M, M3 = cpl M2 (v0 + 1) 0 (v0 + 5) (v1 * 16).toNat 16 → (inr (v1 * 10) ∧ (((0 ≤ (0 : Int) ∧ 0 ≤ (v1 * 10) ∧ 0 ≤ (10 : Int)) ∧ (0 : Int) + (10 : Int) ≤ 10 ∧ (v1 * 10) + (10 : Int) ≤ 80 → (∀ M4 : rf_M, M4 = cpl M3 (v0 + 2) 0 (v0 + 6) (v1 * 10).toNat 10 → (K M4)))))))))))))))) ∧ (¬ (v1 < 8) → (e_D_mark_10 M K))))
theorem E_D_mark {fz : Bool} {S : gS} {B : rf_M} {M : rf_M} {ls : rf_L} {n0 : Nat} {v0 : Nat} {v1 : Int} {K : rf_M → Prop} (hS : rl S) (hR : fl 22 353 B M) (mv0 : v0 ∈ k8) (iv1 : inr v1) (a0 : rf_ld ls 0 = some (.ref v0)) (a1 : rf_ld ls 1 = some (zv v1)) (h : e_D_mark v0 v1 M K) : lx (cx0 fz) n0 91 0 ls [] (M, S) (vl_v 22 353 B S K) := by
  unfold e_D_mark at h
  refine l1 (n := 1) rfl rfl rfl (li_of a1) ?_
  refine l_if rfl iv1 (fun c => ?_) (fun c => ?_)
  · replace h := h.1 c
    exact E_D_mark_10 hS hR  h
  · replace h := h.2 c
    refine l1 (n := 1) rfl rfl rfl (li_of a1) ?_
    refine l_bi rfl (by decide) ?_
    refine l_ic rfl iv1 ⟨by decide, by decide⟩ (fun c => ?_) (fun c => ?_)
    · replace h := h.1 c
      refine l1 (n := 1) rfl rfl rfl (la_of a0) ?_
      refine l_gr rfl (ko_8 hS mv0) rfl (fun _ => rfl) (kf_8_5 hR.2 mv0) ?_
      refine l1 (n := 1) rfl rfl rfl (li_of a1) ?_
      refine l1 (n := 1) rfl rfl rfl (la_of a0) ?_
      refine l_gi rfl (ko_8 hS mv0) rfl (fun _ => rfl) ?_
      refine b_is rfl (kt_8_5 (fz := fz) hS mv0).1 (Nat.le_of_ble_eq_true rfl) iv1 (fun q M1 e => ?_)
      replace h := h q M1 e
      have r1 := hR.wi (kt_8_5 (fz := fz) hS mv0).1.1 (kt_8_5 (fz := fz) hS mv0).2 e
      refine l1 (n := 1) rfl rfl rfl (la_of a0) ?_
      refine l_gr rfl (ko_8 hS mv0) rfl (fun _ => rfl) (kf_8_8 r1.2 mv0) ?_
      refine l1 (n := 1) rfl rfl rfl (li_of a1) ?_
      refine l1 (n := 1) rfl rfl rfl (la_of a0) ?_
      refine l_gi rfl (ko_8 hS mv0) rfl (fun _ => rfl) ?_
      refine b_is rfl (kt_8_8 (fz := fz) hS mv0).1 (Nat.le_of_ble_eq_true rfl) iv1 (fun q M2 e => ?_)
      replace h := h q M2 e
      have r2 := r1.wi (kt_8_8 (fz := fz) hS mv0).1.1 (kt_8_8 (fz := fz) hS mv0).2 e
      refine l1 (n := 1) rfl rfl rfl (la_of a0) ?_
      refine l_gr rfl (ko_8 hS mv0) rfl (fun _ => rfl) (kf_8_1 r2.2 mv0) ?_
      refine l1 (n := 1) rfl rfl rfl rfl ?_
      refine l1 (n := 1) rfl rfl rfl (la_of a0) ?_
      refine l_gr rfl (ko_8 hS mv0) rfl (fun _ => rfl) (kf_8_6 r2.2 mv0) ?_
      refine l1 (n := 1) rfl rfl rfl (li_of a1) ?_
      refine l_bi rfl (by decide) ?_
      refine l_mul rfl ?_
      refine l_bi rfl (by decide) ?_
      obtain ⟨i1, h⟩ := h
      refine b_cpl rfl rfl (kt_8_1 (fz := fz) hS mv0).1 (kt_8_6 (fz := fz) hS mv0).1 ⟨by decide, by decide⟩ i1 ⟨by decide, by decide⟩ (fun q M3 e => ?_)
      replace h := h q M3 e
      have r3 := r2.cpl (kt_8_6 (fz := fz) hS mv0).1.1 (kt_8_6 (fz := fz) hS mv0).2 e
      refine l1 (n := 1) rfl rfl rfl (la_of a0) ?_
      refine l_gr rfl (ko_8 hS mv0) rfl (fun _ => rfl) (kf_8_2 r3.2 mv0) ?_
      refine l1 (n := 1) rfl rfl rfl rfl ?_
      refine l1 (n := 1) rfl rfl rfl (la_of a0) ?_
      refine l_gr rfl (ko_8 hS mv0) rfl (fun _ => rfl) (kf_8_7 r3.2 mv0) ?_
      refine l1 (n := 1) rfl rfl rfl (li_of a1) ?_
      refine l_bi rfl (by decide) ?_
      refine l_mul rfl ?_
      refine l_bi rfl (by decide) ?_
      obtain ⟨i2, h⟩ := h
      refine b_cpl rfl rfl (kt_8_2 (fz := fz) hS mv0).1 (kt_8_7 (fz := fz) hS mv0).1 ⟨by decide, by decide⟩ i2 ⟨by decide, by decide⟩ (fun q M4 e => ?_)
      replace h := h q M4 e
      have r4 := r3.cpl (kt_8_7 (fz := fz) hS mv0).1.1 (kt_8_7 (fz := fz) hS mv0).2 e
      exact l_rv rfl rfl r4 h
    · replace h := h.2 c
      exact E_D_mark_10 hS hR  h
def em_D_mark (x0 : Nat) (x1 : Int) (M : rf_M) (K : rf_M → Prop) : Prop := e_D_mark x0 x1 M K
theorem E_D_mark_m {fz : Bool} {S : gS} {B : rf_M} {M : rf_M} {n0 : Nat} {x0 : Nat} {x1 : Int} {K : rf_M → Prop} (hS : rl S) (hR : fl 22 353 B M) (mx0 : x0 ∈ k8) (ix1 : inr x1) (h : em_D_mark x0 x1 M K) : lx (cx0 fz) n0 91 0 (lv_args 0 [.ref x0, zv x1]) [] (M, S) (vl_v 22 353 B S K) :=
  E_D_mark hS hR mx0 ix1 rfl rfl h
def e_P_behind_63 (v0 : Nat) (v2 : Int) (v3 : Int) (M : rf_M) (b4 : Nat → Int → Int → rf_M → Prop) (K : Int → rf_M → Prop) : Prop := inr (v3 + 1) ∧ (b4 v0 v2 (v3 + 1) M)
theorem E_P_behind_63 {fz : Bool} {S : gS} {B : rf_M} {M : rf_M} {ls : rf_L} {n0 : Nat} {v0 : Nat} {v2 : Int} {v3 : Int} {b4 : Nat → Int → Int → rf_M → Prop} {K : Int → rf_M → Prop} (hS : rl S) (hR : fl 22 353 B M) (mv0 : v0 ∈ k1) (iv2 : inr v2) (iv3 : inr v3) (a0 : rf_ld ls 0 = some (.ref v0)) (a2 : rf_ld ls 2 = some (zv v2)) (a3 : rf_ld ls 3 = some (zv v3)) (hb4 : ∀ n', n' < n0 → ∀ (v0 : Nat) (v2 : Int) (v3 : Int) (M : rf_M) (ls : rf_L), fl 22 353 B M → v0 ∈ k1 → inr v2 → inr v3 → rf_ld ls 0 = some (.ref v0) → rf_ld ls 2 = some (zv v2) → rf_ld ls 3 = some (zv v3) → b4 v0 v2 v3 M → lx (cx0 fz) n' 93 4 ls [] (M, S) (vl_i 22 353 B S K)) (h : e_P_behind_63 v0 v2 v3 M b4 K) : lx (cx0 fz) n0 93 63 ls [] (M, S) (vl_i 22 353 B S K) := by
  unfold e_P_behind_63 at h
  rcases Nat.eq_zero_or_pos n0 with e0 | hp
  · rw [e0]; exact lx_zero
  refine l_ii rfl a3 (Nat.le_of_ble_eq_true rfl) (fun ls y1 ho => ?_)
  have y2 := ho 0 _ (by decide) (fun q => by cases q.2) a0
  have y3 := ho 2 _ (by decide) (fun q => by cases q.2) a2
  refine l3 rfl rfl rfl ?_
  obtain ⟨i1, h⟩ := h
  exact hb4 _ (by omega) _ _ _ _ _ hR mv0 iv2 i1 y2 y3 y1 h
def e_P_behind_69 (M : rf_M) (K : Int → rf_M → Prop) : Prop := K (-1) M
theorem E_P_behind_69 {fz : Bool} {S : gS} {B : rf_M} {M : rf_M} {ls : rf_L} {n0 : Nat} {K : Int → rf_M → Prop} (hS : rl S) (hR : fl 22 353 B M) (h : e_P_behind_69 M K) : lx (cx0 fz) n0 93 69 ls [] (M, S) (vl_i 22 353 B S K) := by
  unfold e_P_behind_69 at h
  refine l1 (n := 1) rfl rfl rfl rfl ?_
  exact l_ri rfl rfl ⟨by decide, by decide⟩ hR h
def e_P_behind_4b (v0 : Nat) (v2 : Int) (v3 : Int) (M : rf_M) (b4 : Nat → Int → Int → rf_M → Prop) (K : Int → rf_M → Prop) : Prop := (8 < v3 → (e_P_behind_69 M K)) ∧ (¬ (8 < v3) → (em_P_has v0 v2 M (fun (z1 : Int) (M1 : rf_M) => (z1 = 0 → (e_P_behind_69 M1 K)) ∧ (¬ (z1 = 0) → ((0 ≤ v2 ∧ v2 < 40 → (((gi M1 (v0 + 7) (v2).toNat) = (-1) → ((0 ≤ v2 ∧ v2 < 40 → (em_P_has v0 (gi M1 (v0 + 4) (v2).toNat) M1 (fun (z2 : Int) (M2 : rf_M) => (z2 = 0 → (e_P_behind_63 v0 (gi M1 (v0 + 4) (v2).toNat) v3 M2 b4 K)) ∧ (¬ (z2 = 0) → ((0 ≤ (gi M1 (v0 + 4) (v2).toNat) ∧ (gi M1 (v0 + 4) (v2).toNat) < 40 → (((gi M2 (v0 + 1) (gi M1 (v0 + 4) (v2).toNat).toNat) = 12 → (K (gi M1 (v0 + 4) (v2).toNat) M2)) ∧ (¬ (gi M2 (v0 + 1) (gi M1 (v0 + 4) (v2).toNat).toNat) = 12 → (e_P_behind_63 v0 (gi M1 (v0 + 4) (v2).toNat) v3 M2 b4 K))))))))))) ∧ (¬ ((gi M1 (v0 + 7) (v2).toNat) = (-1)) → ((0 ≤ v2 ∧ v2 < 40 → (K (gi M1 (v0 + 7) (v2).toNat) M1)))))))))))
theorem E_P_behind_4b {fz : Bool} {S : gS} {B : rf_M} {M : rf_M} {ls : rf_L} {n0 : Nat} {v0 : Nat} {v2 : Int} {v3 : Int} {b4 : Nat → Int → Int → rf_M → Prop} {K : Int → rf_M → Prop} (hS : rl S) (hR : fl 22 353 B M) (mv0 : v0 ∈ k1) (iv2 : inr v2) (iv3 : inr v3) (a0 : rf_ld ls 0 = some (.ref v0)) (a2 : rf_ld ls 2 = some (zv v2)) (a3 : rf_ld ls 3 = some (zv v3)) (hb4 : ∀ n', n' < n0 → ∀ (v0 : Nat) (v2 : Int) (v3 : Int) (M : rf_M) (ls : rf_L), fl 22 353 B M → v0 ∈ k1 → inr v2 → inr v3 → rf_ld ls 0 = some (.ref v0) → rf_ld ls 2 = some (zv v2) → rf_ld ls 3 = some (zv v3) → b4 v0 v2 v3 M → lx (cx0 fz) n' 93 4 ls [] (M, S) (vl_i 22 353 B S K)) (h : e_P_behind_4b v0 v2 v3 M b4 K) : lx (cx0 fz) n0 93 4 ls [] (M, S) (vl_i 22 353 B S K) := by
  unfold e_P_behind_4b at h
  rcases Nat.eq_zero_or_pos n0 with e0 | hp
  · rw [e0]; exact lx_zero
  refine l1 (n := 1) rfl rfl rfl (li_of a3) ?_
  refine l_bi rfl (by decide) ?_
  refine l_ic rfl iv3 ⟨by decide, by decide⟩ (fun c => ?_) (fun c => ?_)
  · replace h := h.1 c
    exact E_P_behind_69 hS hR  h
  · replace h := h.2 c
    refine l1 (n := 1) rfl rfl rfl (la_of a0) ?_
    refine l1 (n := 1) rfl rfl rfl (li_of a2) ?_
    refine b_iv (c := v0) (as := [zv v2]) (rest := []) rfl (by decide) (ko_1 hS mv0) rfl rfl (Nat.le_of_ble_eq_true rfl) (fun hq => ?_)
    refine lx_mono (E_P_has_m hS hR mv0 iv2 h) ?_
    rintro _ _ ⟨z1, M1, rfl, rfl, r1, iz1, h⟩
    refine l_if rfl iz1 (fun c => ?_) (fun c => ?_)
    · replace h := h.1 c
      exact E_P_behind_69 hS r1  h
    · replace h := h.2 c
      refine l1 (n := 1) rfl rfl rfl (la_of a0) ?_
      refine l_gr rfl (ko_1 hS mv0) rfl (fun _ => rfl) (kf_1_11 r1.2 mv0) ?_
      refine l1 (n := 1) rfl rfl rfl (li_of a2) ?_
      refine b_ia rfl (kt_1_11 (fz := fz) hS mv0).1 (Nat.le_of_ble_eq_true rfl) iv2 (fun q => ?_)
      replace h := h q
      refine l1 (n := 1) rfl rfl rfl rfl ?_
      refine l_ic rfl (inr_gi _ _ _) ⟨by decide, by decide⟩ (fun c => ?_) (fun c => ?_)
      · replace h := h.1 c
        refine l1 (n := 1) rfl rfl rfl (la_of a0) ?_
        refine l_gr rfl (ko_1 hS mv0) rfl (fun _ => rfl) (kf_1_8 r1.2 mv0) ?_
        refine l1 (n := 1) rfl rfl rfl (li_of a2) ?_
        refine b_ia rfl (kt_1_8 (fz := fz) hS mv0).1 (Nat.le_of_ble_eq_true rfl) iv2 (fun q => ?_)
        replace h := h q
        refine l_s1 (n := 1) rfl rfl rfl rfl (fun ls y1 ho => ?_)
        have y2 := ho 0 _ (by decide) (fun q => by cases q.2) a0
        have y3 := ho 3 _ (by decide) (fun q => by cases q.2) a3
        refine l1 (n := 1) rfl rfl rfl (la_of y2) ?_
        refine l1 (n := 1) rfl rfl rfl (li_of y1) ?_
        refine b_iv (c := v0) (as := [zv (gi M1 (v0 + 4) (v2).toNat)]) (rest := []) rfl (by decide) (ko_1 hS mv0) rfl rfl (Nat.le_of_ble_eq_true rfl) (fun hq => ?_)
        refine lx_mono (E_P_has_m hS r1 mv0 (inr_gi _ _ _) h) ?_
        rintro _ _ ⟨z2, M2, rfl, rfl, r2, iz2, h⟩
        refine l_if rfl iz2 (fun c => ?_) (fun c => ?_)
        · replace h := h.1 c
          exact E_P_behind_63 hS r2 mv0 (inr_gi _ _ _) iv3 y2 y1 y3 (fun n' hn' => hb4 n' (by omega)) h
        · replace h := h.2 c
          refine l1 (n := 1) rfl rfl rfl (la_of y2) ?_
          refine l_gr rfl (ko_1 hS mv0) rfl (fun _ => rfl) (kf_1_5 r2.2 mv0) ?_
          refine l1 (n := 1) rfl rfl rfl (li_of y1) ?_
          refine b_ia rfl (kt_1_5 (fz := fz) hS mv0).1 (Nat.le_of_ble_eq_true rfl) (inr_gi _ _ _) (fun q => ?_)
          replace h := h q
          refine l_bi rfl (by decide) ?_
          refine l_ic rfl (inr_gi _ _ _) ⟨by decide, by decide⟩ (fun c => ?_) (fun c => ?_)
          · replace h := h.2 c
            exact E_P_behind_63 hS r2 mv0 (inr_gi _ _ _) iv3 y2 y1 y3 (fun n' hn' => hb4 n' (by omega)) h
          · replace h := h.1 (Classical.not_not.mp c)
            refine l1 (n := 1) rfl rfl rfl (li_of y1) ?_
            exact l_ri rfl rfl (inr_gi _ _ _) r2 h
      · replace h := h.2 c
        refine l1 (n := 1) rfl rfl rfl (la_of a0) ?_
        refine l_gr rfl (ko_1 hS mv0) rfl (fun _ => rfl) (kf_1_11 r1.2 mv0) ?_
        refine l1 (n := 1) rfl rfl rfl (li_of a2) ?_
        refine b_ia rfl (kt_1_11 (fz := fz) hS mv0).1 (Nat.le_of_ble_eq_true rfl) iv2 (fun q => ?_)
        replace h := h q
        exact l_ri rfl rfl (inr_gi _ _ _) r1 h
def e_P_behind_4 (v0 : Nat) (v2 : Int) (v3 : Int) (M : rf_M) (K : Int → rf_M → Prop) : Prop := ∃ Inv : Nat → Int → Int → rf_M → Prop, Inv v0 v2 v3 M ∧ ∀ (v0 : Nat) (v2 : Int) (v3 : Int) (M : rf_M), inr v2 → inr v3 → Inv v0 v2 v3 M → e_P_behind_4b v0 v2 v3 M Inv K
theorem E_P_behind_4 {fz : Bool} {S : gS} {B : rf_M} {M : rf_M} {ls : rf_L} {n0 : Nat} {v0 : Nat} {v2 : Int} {v3 : Int} {K : Int → rf_M → Prop} (hS : rl S) (hR : fl 22 353 B M) (mv0 : v0 ∈ k1) (iv2 : inr v2) (iv3 : inr v3) (a0 : rf_ld ls 0 = some (.ref v0)) (a2 : rf_ld ls 2 = some (zv v2)) (a3 : rf_ld ls 3 = some (zv v3)) (h : e_P_behind_4 v0 v2 v3 M K) : lx (cx0 fz) n0 93 4 ls [] (M, S) (vl_i 22 353 B S K) := by
  obtain ⟨Inv, hm, hb⟩ := h
  induction n0 using Nat.strongRecOn generalizing ls M v0 v2 v3 with
  | _ n0 ih =>
    refine E_P_behind_4b hS hR mv0 iv2 iv3 a0 a2 a3 (fun n' hn' v0' v2' v3' M' ls' hR' f0 f1 f2 f3 f4 f5 q2 => ih n' hn' hR' f0 f1 f2 f3 f4 f5 q2) (hb v0 v2 v3 M iv2 iv3 hm)
def e_P_behind (v0 : Nat) (v1 : Int) (M : rf_M) (K : Int → rf_M → Prop) : Prop := e_P_behind_4 v0 v1 0 M K
theorem E_P_behind {fz : Bool} {S : gS} {B : rf_M} {M : rf_M} {ls : rf_L} {n0 : Nat} {v0 : Nat} {v1 : Int} {K : Int → rf_M → Prop} (hS : rl S) (hR : fl 22 353 B M) (mv0 : v0 ∈ k1) (iv1 : inr v1) (a0 : rf_ld ls 0 = some (.ref v0)) (a1 : rf_ld ls 1 = some (zv v1)) (h : e_P_behind v0 v1 M K) : lx (cx0 fz) n0 93 0 ls [] (M, S) (vl_i 22 353 B S K) := by
  unfold e_P_behind at h
  refine l1 (n := 1) rfl rfl rfl (li_of a1) ?_
  refine l_s1 (n := 1) rfl rfl rfl rfl (fun ls y1 ho => ?_)
  have y2 := ho 0 _ (by decide) (fun q => by cases q.2) a0
  refine l1 (n := 1) rfl rfl rfl rfl ?_
  refine l_s1 (n := 1) rfl rfl rfl rfl (fun ls y3 ho => ?_)
  have y4 := ho 0 _ (by decide) (fun q => by cases q.2) y2
  have y5 := ho 2 _ (by decide) (fun q => by cases q.2) y1
  exact E_P_behind_4 hS hR mv0 iv1 ⟨by decide, by decide⟩ y4 y5 y3 h
def em_P_behind (x0 : Nat) (x1 : Int) (M : rf_M) (K : Int → rf_M → Prop) : Prop := e_P_behind x0 x1 M K
theorem E_P_behind_m {fz : Bool} {S : gS} {B : rf_M} {M : rf_M} {n0 : Nat} {x0 : Nat} {x1 : Int} {K : Int → rf_M → Prop} (hS : rl S) (hR : fl 22 353 B M) (mx0 : x0 ∈ k1) (ix1 : inr x1) (h : em_P_behind x0 x1 M K) : lx (cx0 fz) n0 93 0 (lv_args 0 [.ref x0, zv x1]) [] (M, S) (vl_i 22 353 B S K) :=
  E_P_behind hS hR mx0 ix1 rfl rfl h
def e_P_into_28 (v0 : Nat) (v1 : Int) (M : rf_M) (K : Int → rf_M → Prop) : Prop := em_P_behind v0 v1 M (fun (z1 : Int) (M1 : rf_M) => K z1 M1)
theorem E_P_into_28 {fz : Bool} {S : gS} {B : rf_M} {M : rf_M} {ls : rf_L} {n0 : Nat} {v0 : Nat} {v1 : Int} {K : Int → rf_M → Prop} (hS : rl S) (hR : fl 22 353 B M) (mv0 : v0 ∈ k1) (iv1 : inr v1) (a0 : rf_ld ls 0 = some (.ref v0)) (a1 : rf_ld ls 1 = some (zv v1)) (h : e_P_into_28 v0 v1 M K) : lx (cx0 fz) n0 92 28 ls [] (M, S) (vl_i 22 353 B S K) := by
  unfold e_P_into_28 at h
  refine l1 (n := 1) rfl rfl rfl (la_of a0) ?_
  refine l1 (n := 1) rfl rfl rfl (li_of a1) ?_
  refine b_iv (c := v0) (as := [zv v1]) (rest := []) rfl (by decide) (ko_1 hS mv0) rfl rfl (Nat.le_of_ble_eq_true rfl) (fun hq => ?_)
  refine lx_mono (E_P_behind_m hS hR mv0 iv1 h) ?_
  rintro _ _ ⟨z1, M1, rfl, rfl, r1, iz1, h⟩
  exact l_ri rfl rfl iz1 r1 h
def e_P_into (v0 : Nat) (v1 : Int) (v2 : Int) (M : rf_M) (K : Int → rf_M → Prop) : Prop := (v2 = (-1) → (em_P_has v0 v1 M (fun (z1 : Int) (M1 : rf_M) => (z1 = 0 → (e_P_into_28 v0 v1 M1 K)) ∧ (¬ (z1 = 0) → ((0 ≤ v1 ∧ v1 < 40 → (((gi M1 (v0 + 1) (v1).toNat) = 12 → (K v1 M1)) ∧ (¬ (gi M1 (v0 + 1) (v1).toNat) = 12 → (e_P_into_28 v0 v1 M1 K))))))))) ∧ (¬ (v2 = (-1)) → (K v2 M))
theorem E_P_into {fz : Bool} {S : gS} {B : rf_M} {M : rf_M} {ls : rf_L} {n0 : Nat} {v0 : Nat} {v1 : Int} {v2 : Int} {K : Int → rf_M → Prop} (hS : rl S) (hR : fl 22 353 B M) (mv0 : v0 ∈ k1) (iv1 : inr v1) (iv2 : inr v2) (a0 : rf_ld ls 0 = some (.ref v0)) (a1 : rf_ld ls 1 = some (zv v1)) (a2 : rf_ld ls 2 = some (zv v2)) (h : e_P_into v0 v1 v2 M K) : lx (cx0 fz) n0 92 0 ls [] (M, S) (vl_i 22 353 B S K) := by
  unfold e_P_into at h
  refine l1 (n := 1) rfl rfl rfl (li_of a2) ?_
  refine l1 (n := 1) rfl rfl rfl rfl ?_
  refine l_ic rfl iv2 ⟨by decide, by decide⟩ (fun c => ?_) (fun c => ?_)
  · replace h := h.1 c
    refine l1 (n := 1) rfl rfl rfl (la_of a0) ?_
    refine l1 (n := 1) rfl rfl rfl (li_of a1) ?_
    refine b_iv (c := v0) (as := [zv v1]) (rest := []) rfl (by decide) (ko_1 hS mv0) rfl rfl (Nat.le_of_ble_eq_true rfl) (fun hq => ?_)
    refine lx_mono (E_P_has_m hS hR mv0 iv1 h) ?_
    rintro _ _ ⟨z1, M1, rfl, rfl, r1, iz1, h⟩
    refine l_if rfl iz1 (fun c => ?_) (fun c => ?_)
    · replace h := h.1 c
      exact E_P_into_28 hS r1 mv0 iv1 a0 a1 h
    · replace h := h.2 c
      refine l1 (n := 1) rfl rfl rfl (la_of a0) ?_
      refine l_gr rfl (ko_1 hS mv0) rfl (fun _ => rfl) (kf_1_5 r1.2 mv0) ?_
      refine l1 (n := 1) rfl rfl rfl (li_of a1) ?_
      refine b_ia rfl (kt_1_5 (fz := fz) hS mv0).1 (Nat.le_of_ble_eq_true rfl) iv1 (fun q => ?_)
      replace h := h q
      refine l_bi rfl (by decide) ?_
      refine l_ic rfl (inr_gi _ _ _) ⟨by decide, by decide⟩ (fun c => ?_) (fun c => ?_)
      · replace h := h.2 c
        exact E_P_into_28 hS r1 mv0 iv1 a0 a1 h
      · replace h := h.1 (Classical.not_not.mp c)
        refine l1 (n := 1) rfl rfl rfl (li_of a1) ?_
        exact l_ri rfl rfl iv1 r1 h
  · replace h := h.2 c
    refine l1 (n := 1) rfl rfl rfl (li_of a2) ?_
    exact l_ri rfl rfl iv2 hR h
