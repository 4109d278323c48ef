def e_M_replays_8 (v1 : Int) (M : rf_M) (K : Int → rf_M → Prop) : Prop := ∃ Inv : Int → rf_M → Prop, Inv v1 M ∧ ∀ (v1 : Int) (M : rf_M), inr v1 → Inv v1 M → e_M_replays_8b v1 M Inv K
theorem E_M_replays_8 {fz : Bool} {S : gS} {B : rf_M} {M : rf_M} {ls : rf_L} {n0 : Nat} {v1 : Int} {K : Int → rf_M → Prop} (hS : rl S) (hR : fl 22 353 B M) (iv1 : inr v1) (a0 : rf_ld ls 0 = some (.ref 22)) (a1 : rf_ld ls 1 = some (zv v1)) (h : e_M_replays_8 v1 M K) : lx (cx0 fz) n0 118 8 ls [] (M, S) (vl_i 22 353 B S K) := by
  obtain ⟨Inv, hm, hb⟩ := h
  induction n0 using Nat.strongRecOn generalizing ls M v1 with
  | _ n0 ih =>
    refine E_M_replays_8b hS hR iv1 a0 a1 (fun n' hn' v1' M' ls' hR' f0 f1 f2 q2 => ih n' hn' hR' f0 f1 f2 q2) (hb v1 M iv1 hm)
def e_M_replays (M : rf_M) (K : Int → rf_M → Prop) : Prop := e_M_replays_8 (gi M 331 1) M K
theorem E_M_replays {fz : Bool} {S : gS} {B : rf_M} {M : rf_M} {ls : rf_L} {n0 : Nat} {K : Int → rf_M → Prop} (hS : rl S) (hR : fl 22 353 B M) (a0 : rf_ld ls 0 = some (.ref 22)) (h : e_M_replays M K) : lx (cx0 fz) n0 118 0 ls [] (M, S) (vl_i 22 353 B S K) := by
  unfold e_M_replays at h
  refine l1 (n := 1) rfl rfl rfl (la_of a0) ?_
  refine l_gr rfl (ko_0 hS (List.Mem.head _)) rfl (fun _ => rfl) (kf_0_9 hR.2 (List.Mem.head _)) ?_
  refine l_gi rfl (ko_10 hS (List.Mem.head _)) rfl (fun _ => rfl) ?_
  refine l_s1 (n := 1) rfl rfl rfl rfl (fun ls y1 ho => ?_)
  have y2 := ho 0 _ (by decide) (fun q => by cases q.2) a0
  exact E_M_replays_8 hS hR (inr_gi _ _ _) y2 y1 h
def em_M_replays (M : rf_M) (K : Int → rf_M → Prop) : Prop := e_M_replays  M K
theorem E_M_replays_m {fz : Bool} {S : gS} {B : rf_M} {M : rf_M} {n0 : Nat} {K : Int → rf_M → Prop} (hS : rl S) (hR : fl 22 353 B M) (h : em_M_replays  M K) : lx (cx0 fz) n0 118 0 (lv_args 0 [.ref 22]) [] (M, S) (vl_i 22 353 B S K) :=
  E_M_replays hS hR rfl h
def e_F_fillJ16_6b (v0 : Nat) (v1 : Int64) (v3 : Int) (v4 : Int) (M : rf_M) (b6 : Nat → Int64 → Int → Int → rf_M → Prop) (K : rf_M → Prop) : Prop := (v4 ≤ v3 → (K M)) ∧ (¬ (v4 ≤ v3) → ((0 ≤ v3 ∧ v3 < 16 → (∀ M1 : rf_M, M1 = wl M v0 (v3).toNat v1 → (inr (v3 + 1) ∧ (b6 v0 v1 (v3 + 1) v4 M1))))))
theorem E_F_fillJ16_6b {fz : Bool} {S : gS} {B : rf_M} {M : rf_M} {ls : rf_L} {n0 : Nat} {v0 : Nat} {v1 : Int64} {v3 : Int} {v4 : Int} {b6 : Nat → Int64 → Int → Int → rf_M → Prop} {K : rf_M → Prop} (hS : rl S) (hR : fl 22 353 B M) (mv0 : pa fz S v0 .long 16) (iv3 : inr v3) (iv4 : inr v4) (a0 : rf_ld ls 0 = some (.ref v0)) (a1 : rf_ld ls 1 = some (.long v1)) (a3 : rf_ld ls 3 = some (zv v3)) (a4 : rf_ld ls 4 = some (zv v4)) (hb6 : ∀ n', n' < n0 → ∀ (v0 : Nat) (v1 : Int64) (v3 : Int) (v4 : Int) (M : rf_M) (ls : rf_L), fl 22 353 B M → pa fz S v0 .long 16 → inr v3 → inr v4 → rf_ld ls 0 = some (.ref v0) → rf_ld ls 1 = some (.long v1) → rf_ld ls 3 = some (zv v3) → rf_ld ls 4 = some (zv v4) → b6 v0 v1 v3 v4 M → lx (cx0 fz) n' 89 6 ls [] (M, S) (vl_v 22 353 B S K)) (h : e_F_fillJ16_6b v0 v1 v3 v4 M b6 K) : lx (cx0 fz) n0 89 6 ls [] (M, S) (vl_v 22 353 B S K) := by
  unfold e_F_fillJ16_6b at h
  rcases Nat.eq_zero_or_pos n0 with e0 | hp
  · rw [e0]; exact lx_zero
  refine l1 (n := 1) rfl rfl rfl (li_of a3) ?_
  refine l1 (n := 2) rfl rfl rfl (li_of a4) ?_
  refine l_ic rfl iv3 iv4 (fun c => ?_) (fun c => ?_)
  · replace h := h.1 c
    exact l_rv rfl rfl hR h
  · replace h := h.2 c
    refine l1 (n := 1) rfl rfl rfl (la_of a0) ?_
    refine l1 (n := 1) rfl rfl rfl (li_of a3) ?_
    refine l1 (n := 1) rfl rfl rfl (ll_of a1) ?_
    refine b_ls rfl mv0.1 (Nat.le_of_ble_eq_true rfl) iv3 (fun q M1 e => ?_)
    replace h := h q M1 e
    have r1 := hR.wl mv0.1.1 mv0.2 e
    refine l_ii rfl a3 (Nat.le_of_ble_eq_true rfl) (fun ls y1 ho => ?_)
    have y2 := ho 0 _ (by decide) (fun q => by cases q.2) a0
    have y3 := ho 1 _ (by decide) (fun q => absurd q.1 (by decide)) a1
    have y4 := ho 4 _ (by decide) (fun q => by cases q.2) a4
    refine l3 rfl rfl rfl ?_
    obtain ⟨i1, h⟩ := h
    exact hb6 _ (by omega) _ _ _ _ _ _ r1 mv0 i1 iv4 y2 y3 y1 y4 h
def e_F_fillJ16_6 (v0 : Nat) (v1 : Int64) (v3 : Int) (v4 : Int) (M : rf_M) (K : rf_M → Prop) : Prop := ∃ Inv : Nat → Int64 → Int → Int → rf_M → Prop, Inv v0 v1 v3 v4 M ∧ ∀ (v0 : Nat) (v1 : Int64) (v3 : Int) (v4 : Int) (M : rf_M), inr v3 → inr v4 → Inv v0 v1 v3 v4 M → e_F_fillJ16_6b v0 v1 v3 v4 M Inv K
theorem E_F_fillJ16_6 {fz : Bool} {S : gS} {B : rf_M} {M : rf_M} {ls : rf_L} {n0 : Nat} {v0 : Nat} {v1 : Int64} {v3 : Int} {v4 : Int} {K : rf_M → Prop} (hS : rl S) (hR : fl 22 353 B M) (mv0 : pa fz S v0 .long 16) (iv3 : inr v3) (iv4 : inr v4) (a0 : rf_ld ls 0 = some (.ref v0)) (a1 : rf_ld ls 1 = some (.long v1)) (a3 : rf_ld ls 3 = some (zv v3)) (a4 : rf_ld ls 4 = some (zv v4)) (h : e_F_fillJ16_6 v0 v1 v3 v4 M K) : lx (cx0 fz) n0 89 6 ls [] (M, S) (vl_v 22 353 B S K) := by
  obtain ⟨Inv, hm, hb⟩ := h
  induction n0 using Nat.strongRecOn generalizing ls M v0 v1 v3 v4 with
  | _ n0 ih =>
    refine E_F_fillJ16_6b hS hR mv0 iv3 iv4 a0 a1 a3 a4 (fun n' hn' v0' v1' v3' v4' M' ls' hR' f0 f1 f2 f3 f4 f5 f6 q2 => ih n' hn' hR' f0 f1 f2 f3 f4 f5 f6 q2) (hb v0 v1 v3 v4 M iv3 iv4 hm)
def e_F_fillJ16 (v0 : Nat) (v1 : Int64) (M : rf_M) (K : rf_M → Prop) : Prop := e_F_fillJ16_6 v0 v1 0 16 M K
theorem E_F_fillJ16 {fz : Bool} {S : gS} {B : rf_M} {M : rf_M} {ls : rf_L} {n0 : Nat} {v0 : Nat} {v1 : Int64} {K : rf_M → Prop} (hS : rl S) (hR : fl 22 353 B M) (mv0 : pa fz S v0 .long 16) (a0 : rf_ld ls 0 = some (.ref v0)) (a1 : rf_ld ls 1 = some (.long v1)) (h : e_F_fillJ16 v0 v1 M K) : lx (cx0 fz) n0 89 0 ls [] (M, S) (vl_v 22 353 B S K) := by
  unfold e_F_fillJ16 at h
  refine l1 (n := 1) rfl rfl rfl rfl ?_
  refine l_s1 (n := 1) rfl rfl rfl rfl (fun ls y1 ho => ?_)
  have y2 := ho 0 _ (by decide) (fun q => by cases q.2) a0
  have y3 := ho 1 _ (by decide) (fun q => absurd q.1 (by decide)) a1
  refine l1 (n := 1) rfl rfl rfl (la_of y2) ?_
  refine l_al (z := 16) rfl mv0.1 rfl ?_
  refine l_s1 (n := 2) rfl rfl rfl rfl (fun ls y4 ho => ?_)
  have y5 := ho 0 _ (by decide) (fun q => by cases q.2) y2
  have y6 := ho 1 _ (by decide) (fun q => absurd q.1 (by decide)) y3
  have y7 := ho 3 _ (by decide) (fun q => by cases q.2) y1
  exact E_F_fillJ16_6 hS hR mv0 ⟨by decide, by decide⟩ ⟨by decide, by decide⟩ y5 y6 y7 y4 h
def em_F_fillJ16 (x0 : Nat) (x1 : Int64) (M : rf_M) (K : rf_M → Prop) : Prop := e_F_fillJ16 x0 x1 M K
theorem E_F_fillJ16_m {fz : Bool} {S : gS} {B : rf_M} {M : rf_M} {n0 : Nat} {x0 : Nat} {x1 : Int64} {K : rf_M → Prop} (hS : rl S) (hR : fl 22 353 B M) (mx0 : pa fz S x0 .long 16) (h : em_F_fillJ16 x0 x1 M K) : lx (cx0 fz) n0 89 0 (lv_args 0 [.ref x0, .long x1]) [] (M, S) (vl_v 22 353 B S K) :=
  E_F_fillJ16 hS hR mx0 rfl rfl h
def e_F_fillI16_5b (v0 : Nat) (v1 : Int) (v2 : Int) (v3 : Int) (M : rf_M) (b5 : Nat → Int → Int → Int → rf_M → Prop) (K : rf_M → Prop) : Prop := (v3 ≤ v2 → (K M)) ∧ (¬ (v3 ≤ v2) → ((0 ≤ v2 ∧ v2 < 16 → (∀ M1 : rf_M, M1 = wi M v0 (v2).toNat v1 → (inr (v2 + 1) ∧ (b5 v0 v1 (v2 + 1) v3 M1))))))
theorem E_F_fillI16_5b {fz : Bool} {S : gS} {B : rf_M} {M : rf_M} {ls : rf_L} {n0 : Nat} {v0 : Nat} {v1 : Int} {v2 : Int} {v3 : Int} {b5 : Nat → Int → Int → Int → rf_M → Prop} {K : rf_M → Prop} (hS : rl S) (hR : fl 22 353 B M) (mv0 : pa fz S v0 .int 16) (iv1 : inr v1) (iv2 : inr v2) (iv3 : inr v3) (a0 : rf_ld ls 0 = some (.ref v0)) (a1 : rf_ld ls 1 = some (zv v1)) (a2 : rf_ld ls 2 = some (zv v2)) (a3 : rf_ld ls 3 = some (zv v3)) (hb5 : ∀ n', n' < n0 → ∀ (v0 : Nat) (v1 : Int) (v2 : Int) (v3 : Int) (M : rf_M) (ls : rf_L), fl 22 353 B M → pa fz S v0 .int 16 → inr v1 → inr v2 → inr v3 → rf_ld ls 0 = some (.ref v0) → rf_ld ls 1 = some (zv v1) → rf_ld ls 2 = some (zv v2) → rf_ld ls 3 = some (zv v3) → b5 v0 v1 v2 v3 M → lx (cx0 fz) n' 124 5 ls [] (M, S) (vl_v 22 353 B S K)) (h : e_F_fillI16_5b v0 v1 v2 v3 M b5 K) : lx (cx0 fz) n0 124 5 ls [] (M, S) (vl_v 22 353 B S K) := by
  unfold e_F_fillI16_5b at h
  rcases Nat.eq_zero_or_pos n0 with e0 | hp
  · rw [e0]; exact lx_zero
  refine l1 (n := 1) rfl rfl rfl (li_of a2) ?_
  refine l1 (n := 1) rfl rfl rfl (li_of a3) ?_
  refine l_ic rfl iv2 iv3 (fun c => ?_) (fun c => ?_)
  · replace h := h.1 c
    exact l_rv rfl rfl hR h
  · replace h := h.2 c
    refine l1 (n := 1) rfl rfl rfl (la_of a0) ?_
    refine l1 (n := 1) rfl rfl rfl (li_of a2) ?_
    refine l1 (n := 1) rfl rfl rfl (li_of a1) ?_
    refine b_is rfl mv0.1 (Nat.le_of_ble_eq_true rfl) iv2 (fun q M1 e => ?_)
    replace h := h q M1 e
    have r1 := hR.wi mv0.1.1 mv0.2 e
    refine l_ii rfl a2 (Nat.le_of_ble_eq_true rfl) (fun ls y1 ho => ?_)
    have y2 := ho 0 _ (by decide) (fun q => by cases q.2) a0
    have y3 := ho 1 _ (by decide) (fun q => by cases q.2) a1
    have y4 := ho 3 _ (by decide) (fun q => by cases q.2) a3
    refine l3 rfl rfl rfl ?_
    obtain ⟨i1, h⟩ := h
    exact hb5 _ (by omega) _ _ _ _ _ _ r1 mv0 iv1 i1 iv3 y2 y3 y1 y4 h
def e_F_fillI16_5 (v0 : Nat) (v1 : Int) (v2 : Int) (v3 : Int) (M : rf_M) (K : rf_M → Prop) : Prop := ∃ Inv : Nat → Int → Int → Int → rf_M → Prop, Inv v0 v1 v2 v3 M ∧ ∀ (v0 : Nat) (v1 : Int) (v2 : Int) (v3 : Int) (M : rf_M), inr v1 → inr v2 → inr v3 → Inv v0 v1 v2 v3 M → e_F_fillI16_5b v0 v1 v2 v3 M Inv K
theorem E_F_fillI16_5 {fz : Bool} {S : gS} {B : rf_M} {M : rf_M} {ls : rf_L} {n0 : Nat} {v0 : Nat} {v1 : Int} {v2 : Int} {v3 : Int} {K : rf_M → Prop} (hS : rl S) (hR : fl 22 353 B M) (mv0 : pa fz S v0 .int 16) (iv1 : inr v1) (iv2 : inr v2) (iv3 : inr v3) (a0 : rf_ld ls 0 = some (.ref v0)) (a1 : rf_ld ls 1 = some (zv v1)) (a2 : rf_ld ls 2 = some (zv v2)) (a3 : rf_ld ls 3 = some (zv v3)) (h : e_F_fillI16_5 v0 v1 v2 v3 M K) : lx (cx0 fz) n0 124 5 ls [] (M, S) (vl_v 22 353 B S K) := by
  obtain ⟨Inv, hm, hb⟩ := h
  induction n0 using Nat.strongRecOn generalizing ls M v0 v1 v2 v3 with
  | _ n0 ih =>
    refine E_F_fillI16_5b hS hR mv0 iv1 iv2 iv3 a0 a1 a2 a3 (fun n' hn' v0' v1' v2' v3' M' ls' hR' f0 f1 f2 f3 f4 f5 f6 f7 q2 => ih n' hn' hR' f0 f1 f2 f3 f4 f5 f6 f7 q2) (hb v0 v1 v2 v3 M iv1 iv2 iv3 hm)
def e_F_fillI16 (v0 : Nat) (v1 : Int) (M : rf_M) (K : rf_M → Prop) : Prop := e_F_fillI16_5 v0 v1 0 16 M K
theorem E_F_fillI16 {fz : Bool} {S : gS} {B : rf_M} {M : rf_M} {ls : rf_L} {n0 : Nat} {v0 : Nat} {v1 : Int} {K : rf_M → Prop} (hS : rl S) (hR : fl 22 353 B M) (mv0 : pa fz S v0 .int 16) (iv1 : inr v1) (a0 : rf_ld ls 0 = some (.ref v0)) (a1 : rf_ld ls 1 = some (zv v1)) (h : e_F_fillI16 v0 v1 M K) : lx (cx0 fz) n0 124 0 ls [] (M, S) (vl_v 22 353 B S K) := by
  unfold e_F_fillI16 at h
  refine l1 (n := 1) rfl rfl rfl rfl ?_
  refine l_s1 (n := 1) rfl rfl rfl rfl (fun ls y1 ho => ?_)
  have y2 := ho 0 _ (by decide) (fun q => by cases q.2) a0
  have y3 := ho 1 _ (by decide) (fun q => by cases q.2) a1
  refine l1 (n := 1) rfl rfl rfl (la_of y2) ?_
  refine l_al (z := 16) rfl mv0.1 rfl ?_
  refine l_s1 (n := 1) rfl rfl rfl rfl (fun ls y4 ho => ?_)
  have y5 := ho 0 _ (by decide) (fun q => by cases q.2) y2
  have y6 := ho 1 _ (by decide) (fun q => by cases q.2) y3
  have y7 := ho 2 _ (by decide) (fun q => by cases q.2) y1
  exact E_F_fillI16_5 hS hR mv0 iv1 ⟨by decide, by decide⟩ ⟨by decide, by decide⟩ y5 y6 y7 y4 h
def em_F_fillI16 (x0 : Nat) (x1 : Int) (M : rf_M) (K : rf_M → Prop) : Prop := e_F_fillI16 x0 x1 M K
theorem E_F_fillI16_m {fz : Bool} {S : gS} {B : rf_M} {M : rf_M} {n0 : Nat} {x0 : Nat} {x1 : Int} {K : rf_M → Prop} (hS : rl S) (hR : fl 22 353 B M) (mx0 : pa fz S x0 .int 16) (ix1 : inr x1) (h : em_F_fillI16 x0 x1 M K) : lx (cx0 fz) n0 124 0 (lv_args 0 [.ref x0, zv x1]) [] (M, S) (vl_v 22 353 B S K) :=
  E_F_fillI16 hS hR mx0 ix1 rfl rfl h
def e_S_reset (v0 : Nat) (M : rf_M) (K : rf_M → Prop) : Prop := em_F_fillJ16 (v0 + 1) (Int64.ofNat 0) M (fun (M1 : rf_M) => em_F_fillI16 (v0 + 2) 0 M1 (fun (M2 : rf_M) => ∀ M3 : rf_M, M3 = wi M2 v0 2 0 → (K M3)))
theorem E_S_reset {fz : Bool} {S : gS} {B : rf_M} {M : rf_M} {ls : rf_L} {n0 : Nat} {v0 : Nat} {K : rf_M → Prop} (hS : rl S) (hR : fl 22 353 B M) (mv0 : v0 ∈ k4) (a0 : rf_ld ls 0 = some (.ref v0)) (h : e_S_reset v0 M K) : lx (cx0 fz) n0 123 0 ls [] (M, S) (vl_v 22 353 B S K) := by
  unfold e_S_reset at h
  refine l1 (n := 1) rfl rfl rfl (la_of a0) ?_
  refine l_gr rfl (ko_4 hS mv0) rfl (fun _ => rfl) (kf_4_0 hR.2 mv0) ?_
  refine l1 (n := 1) rfl rfl rfl rfl ?_
  refine b_st (as := [.ref (v0 + 1), .long (Int64.ofNat 0)]) (rest := []) rfl (by decide) rfl (Nat.le_of_ble_eq_true rfl) (fun hq => ?_)
  refine lx_mono (E_F_fillJ16_m hS hR (kt_4_0 (fz := fz) hS mv0) h) ?_
  rintro _ _ ⟨M1, rfl, rfl, r1, h⟩
  refine l1 (n := 1) rfl rfl rfl (la_of a0) ?_
  refine l_gr rfl (ko_4 hS mv0) rfl (fun _ => rfl) (kf_4_1 r1.2 mv0) ?_
  refine l1 (n := 1) rfl rfl rfl rfl ?_
  refine b_st (as := [.ref (v0 + 2), zv 0]) (rest := []) rfl (by decide) rfl (Nat.le_of_ble_eq_true rfl) (fun hq => ?_)
  refine lx_mono (E_F_fillI16_m hS r1 (kt_4_1 (fz := fz) hS mv0) ⟨by decide, by decide⟩ h) ?_
  rintro _ _ ⟨M2, rfl, rfl, r2, h⟩
  refine l1 (n := 1) rfl rfl rfl (la_of a0) ?_
  refine l1 (n := 1) rfl rfl rfl rfl ?_
  refine l_pi rfl (ko_4 (fz := fz) hS mv0) rfl (fun _ _ => rfl) (fun M3 e => ?_)
  replace h := h M3 e
  have r3 := r2.wi (ko_4 (fz := fz) hS mv0).1 (kl_4 mv0) e
  exact l_rv rfl rfl r3 h
def em_S_reset (x0 : Nat) (M : rf_M) (K : rf_M → Prop) : Prop := e_S_reset x0 M K
theorem E_S_reset_m {fz : Bool} {S : gS} {B : rf_M} {M : rf_M} {n0 : Nat} {x0 : Nat} {K : rf_M → Prop} (hS : rl S) (hR : fl 22 353 B M) (mx0 : x0 ∈ k4) (h : em_S_reset x0 M K) : lx (cx0 fz) n0 123 0 (lv_args 0 [.ref x0]) [] (M, S) (vl_v 22 353 B S K) :=
  E_S_reset hS hR mx0 rfl h
def e_Y_reset (M : rf_M) (K : rf_M → Prop) : Prop := em_S_reset 332 M (fun (M1 : rf_M) => ∀ M2 : rf_M, M2 = wi M1 331 1 0 → (∀ M3 : rf_M, M3 = wi M2 331 2 1 → (K M3)))
theorem E_Y_reset {fz : Bool} {S : gS} {B : rf_M} {M : rf_M} {ls : rf_L} {n0 : Nat} {K : rf_M → Prop} (hS : rl S) (hR : fl 22 353 B M) (a0 : rf_ld ls 0 = some (.ref 331)) (h : e_Y_reset M K) : lx (cx0 fz) n0 125 0 ls [] (M, S) (vl_v 22 353 B S K) := by
  unfold e_Y_reset at h
  refine l1 (n := 1) rfl rfl rfl (la_of a0) ?_
  refine l_gr rfl (ko_10 hS (List.Mem.head _)) rfl (fun _ => rfl) (kf_10_0 hR.2 (List.Mem.head _)) ?_
  refine b_iv (c := 332) (as := []) (rest := []) rfl (by decide) (ko_4 hS (by decide)) rfl rfl (Nat.le_of_ble_eq_true rfl) (fun hq => ?_)
  refine lx_mono (E_S_reset_m hS hR (by decide) h) ?_
  rintro _ _ ⟨M1, rfl, rfl, r1, h⟩
  refine l1 (n := 1) rfl rfl rfl (la_of a0) ?_
  refine l1 (n := 1) rfl rfl rfl rfl ?_
  refine l_pi rfl (ko_10 (fz := fz) hS (List.Mem.head _)) rfl (fun _ _ => rfl) (fun M2 e => ?_)
  replace h := h M2 e
  have r2 := r1.wi (ko_10 (fz := fz) hS (List.Mem.head _)).1 (kl_10 (List.Mem.head _)) e
  refine l1 (n := 1) rfl rfl rfl (la_of a0) ?_
  refine l1 (n := 1) rfl rfl rfl rfl ?_
  refine l_pb rfl (ko_10 (fz := fz) hS (List.Mem.head _)) rfl rfl (Or.inr rfl) (fun M3 e => ?_)
  replace h := h M3 e
  have r3 := r2.wi (ko_10 (fz := fz) hS (List.Mem.head _)).1 (kl_10 (List.Mem.head _)) e
  exact l_rv rfl rfl r3 h
def em_Y_reset (M : rf_M) (K : rf_M → Prop) : Prop := e_Y_reset  M K
theorem E_Y_reset_m {fz : Bool} {S : gS} {B : rf_M} {M : rf_M} {n0 : Nat} {K : rf_M → Prop} (hS : rl S) (hR : fl 22 353 B M) (h : em_Y_reset  M K) : lx (cx0 fz) n0 125 0 (lv_args 0 [.ref 331]) [] (M, S) (vl_v 22 353 B S K) :=
  E_Y_reset hS hR rfl h
def e_C_reset (v0 : Nat) (M : rf_M) (K : rf_M → Prop) : Prop := ∀ M1 : rf_M, M1 = wi M v0 0 0 → (∀ M2 : rf_M, M2 = wi M1 v0 5 0 → (em_C_forgetCuts v0 M2 (fun (M3 : rf_M) => K M3)))
theorem E_C_reset {fz : Bool} {S : gS} {B : rf_M} {M : rf_M} {ls : rf_L} {n0 : Nat} {v0 : Nat} {K : rf_M → Prop} (hS : rl S) (hR : fl 22 353 B M) (mv0 : v0 ∈ k6) (a0 : rf_ld ls 0 = some (.ref v0)) (h : e_C_reset v0 M K) : lx (cx0 fz) n0 126 0 ls [] (M, S) (vl_v 22 353 B S K) := by
  unfold e_C_reset at h
  refine l1 (n := 1) rfl rfl rfl (la_of a0) ?_
  refine l1 (n := 1) rfl rfl rfl rfl ?_
  refine l_pi rfl (ko_6 (fz := fz) hS mv0) rfl (fun _ _ => rfl) (fun M1 e => ?_)
  replace h := h M1 e
  have r1 := hR.wi (ko_6 (fz := fz) hS mv0).1 (kl_6 mv0) e
  refine l1 (n := 1) rfl rfl rfl (la_of a0) ?_
  refine l1 (n := 1) rfl rfl rfl rfl ?_
  refine l_pi rfl (ko_6 (fz := fz) hS mv0) rfl (fun _ _ => rfl) (fun M2 e => ?_)
  replace h := h M2 e
  have r2 := r1.wi (ko_6 (fz := fz) hS mv0).1 (kl_6 mv0) e
  refine l1 (n := 1) rfl rfl rfl (la_of a0) ?_
  refine b_iv (c := v0) (as := []) (rest := []) rfl (by decide) (ko_6 hS mv0) rfl rfl (Nat.le_of_ble_eq_true rfl) (fun hq => ?_)
  refine lx_mono (E_C_forgetCuts_m hS r2 mv0 h) ?_
  rintro _ _ ⟨M3, rfl, rfl, r3, h⟩
  exact l_rv rfl rfl r3 h
def em_C_reset (x0 : Nat) (M : rf_M) (K : rf_M → Prop) : Prop := e_C_reset x0 M K
theorem E_C_reset_m {fz : Bool} {S : gS} {B : rf_M} {M : rf_M} {n0 : Nat} {x0 : Nat} {K : rf_M → Prop} (hS : rl S) (hR : fl 22 353 B M) (mx0 : x0 ∈ k6) (h : em_C_reset x0 M K) : lx (cx0 fz) n0 126 0 (lv_args 0 [.ref x0]) [] (M, S) (vl_v 22 353 B S K) :=
  E_C_reset hS hR mx0 rfl h
def e_M_clear_32b (v1 : Int) (v2 : Int) (M : rf_M) (b32 : Int → Int → rf_M → Prop) (K : Int → rf_M → Prop) : Prop := (8 ≤ v2 → (∀ M1 : rf_M, M1 = wi M 22 4 (-1) → (K v1 M1))) ∧ (¬ (8 ≤ v2) → ((0 ≤ v2 ∧ v2 < 8 → (em_C_reset (clA v2) M (fun (M2 : rf_M) => inr (v2 + 1) ∧ (b32 v1 (v2 + 1) M2))))))
theorem E_M_clear_32b {fz : Bool} {S : gS} {B : rf_M} {M : rf_M} {ls : rf_L} {n0 : Nat} {v1 : Int} {v2 : Int} {b32 : Int → Int → rf_M → Prop} {K : Int → rf_M → Prop} (hS : rl S) (hR : fl 22 353 B M) (iv1 : inr v1) (iv2 : inr v2) (a0 : rf_ld ls 0 = some (.ref 22)) (a1 : rf_ld ls 1 = some (zv v1)) (a2 : rf_ld ls 2 = some (zv v2)) (hb32 : ∀ n', n' < n0 → ∀ (v1 : Int) (v2 : Int) (M : rf_M) (ls : rf_L), fl 22 353 B M → inr v1 → inr v2 → rf_ld ls 0 = some (.ref 22) → rf_ld ls 1 = some (zv v1) → rf_ld ls 2 = some (zv v2) → b32 v1 v2 M → lx (cx0 fz) n' 122 32 ls [] (M, S) (vl_i 22 353 B S K)) (h : e_M_clear_32b v1 v2 M b32 K) : lx (cx0 fz) n0 122 32 ls [] (M, S) (vl_i 22 353 B S K) := by
  unfold e_M_clear_32b at h
  rcases Nat.eq_zero_or_pos n0 with e0 | hp
  · rw [e0]; exact lx_zero
  refine l1 (n := 1) rfl rfl rfl (li_of a2) ?_
  refine l_bi rfl (by decide) ?_
  refine l_ic rfl iv2 ⟨by decide, by decide⟩ (fun c => ?_) (fun c => ?_)
  · replace h := h.1 c
    refine l1 (n := 1) rfl rfl rfl (la_of a0) ?_
    refine l1 (n := 1) rfl rfl rfl rfl ?_
    refine l_pi rfl (ko_0 (fz := fz) hS (List.Mem.head _)) rfl (fun _ _ => rfl) (fun M1 e => ?_)
    replace h := h M1 e
    have r1 := hR.wi (ko_0 (fz := fz) hS (List.Mem.head _)).1 (kl_0 (List.Mem.head _)) e
    refine l1 (n := 1) rfl rfl rfl (li_of a1) ?_
    exact l_ri rfl rfl iv1 r1 h
  · replace h := h.2 c
    refine l1 (n := 1) rfl rfl rfl (la_of a0) ?_
    refine l_gr rfl (ko_0 hS (List.Mem.head _)) rfl (fun _ => rfl) (kf_0_7 hR.2 (List.Mem.head _)) ?_
    refine l1 (n := 1) rfl rfl rfl (li_of a2) ?_
    refine b_aa rfl (kc_195 (fz := fz) hS).1 (Nat.le_of_ble_eq_true rfl) iv2 (fun q1 => ⟨clA_ref hR.2 q1, ?_⟩)
    replace h := h q1
    refine b_iv (c := (clA v2)) (as := []) (rest := []) rfl (by decide) (ko_6 hS (clA_mem q1)) rfl rfl (Nat.le_of_ble_eq_true rfl) (fun hq => ?_)
    refine lx_mono (E_C_reset_m hS hR (clA_mem q1) h) ?_
    rintro _ _ ⟨M2, rfl, rfl, r2, h⟩
    refine l_ii rfl a2 (Nat.le_of_ble_eq_true rfl) (fun ls y1 ho => ?_)
    have y2 := ho 0 _ (by decide) (fun q => by cases q.2) a0
    have y3 := ho 1 _ (by decide) (fun q => by cases q.2) a1
    refine l3 rfl rfl rfl ?_
    obtain ⟨i1, h⟩ := h
    exact hb32 _ (by omega) _ _ _ _ r2 iv1 i1 y2 y3 y1 h
def e_M_clear_32 (v1 : Int) (v2 : Int) (M : rf_M) (K : Int → rf_M → Prop) : Prop := ∃ Inv : Int → Int → rf_M → Prop, Inv v1 v2 M ∧ ∀ (v1 : Int) (v2 : Int) (M : rf_M), inr v1 → inr v2 → Inv v1 v2 M → e_M_clear_32b v1 v2 M Inv K
theorem E_M_clear_32 {fz : Bool} {S : gS} {B : rf_M} {M : rf_M} {ls : rf_L} {n0 : Nat} {v1 : Int} {v2 : Int} {K : Int → rf_M → Prop} (hS : rl S) (hR : fl 22 353 B M) (iv1 : inr v1) (iv2 : inr v2) (a0 : rf_ld ls 0 = some (.ref 22)) (a1 : rf_ld ls 1 = some (zv v1)) (a2 : rf_ld ls 2 = some (zv v2)) (h : e_M_clear_32 v1 v2 M K) : lx (cx0 fz) n0 122 32 ls [] (M, S) (vl_i 22 353 B S K) := by
  obtain ⟨Inv, hm, hb⟩ := h
  induction n0 using Nat.strongRecOn generalizing ls M v1 v2 with
  | _ n0 ih =>
    refine E_M_clear_32b hS hR iv1 iv2 a0 a1 a2 (fun n' hn' v1' v2' M' ls' hR' f0 f1 f2 f3 f4 q2 => ih n' hn' hR' f0 f1 f2 f3 f4 q2) (hb v1 v2 M iv1 iv2 hm)
def e_M_clear (M : rf_M) (K : Int → rf_M → Prop) : Prop := ∀ M1 : rf_M, M1 = wi M 324 0 0 → (em_S_reset 187 M1 (fun (M2 : rf_M) => em_Y_reset  M2 (fun (M3 : rf_M) => e_M_clear_32 (gi M 324 0) 0 M3 K)))
theorem E_M_clear {fz : Bool} {S : gS} {B : rf_M} {M : rf_M} {ls : rf_L} {n0 : Nat} {K : Int → rf_M → Prop} (hS : rl S) (hR : fl 22 353 B M) (a0 : rf_ld ls 0 = some (.ref 22)) (h : e_M_clear M K) : lx (cx0 fz) n0 122 0 ls [] (M, S) (vl_i 22 353 B S K) := by
  unfold e_M_clear at h
  refine l1 (n := 1) rfl rfl rfl (la_of a0) ?_
  refine l_gr rfl (ko_0 hS (List.Mem.head _)) rfl (fun _ => rfl) (kf_0_8 hR.2 (List.Mem.head _)) ?_
  refine l_gi rfl (ko_9 hS (List.Mem.head _)) rfl (fun _ => rfl) ?_
  refine l_s1 (n := 1) rfl rfl rfl rfl (fun ls y1 ho => ?_)
  have y2 := ho 0 _ (by decide) (fun q => by cases q.2) a0
  refine l1 (n := 1) rfl rfl rfl (la_of y2) ?_
  refine l_gr rfl (ko_0 hS (List.Mem.head _)) rfl (fun _ => rfl) (kf_0_8 hR.2 (List.Mem.head _)) ?_
  refine l1 (n := 1) rfl rfl rfl rfl ?_
  refine l_pi rfl (ko_9 (fz := fz) hS (List.Mem.head _)) rfl (fun _ _ => rfl) (fun M1 e => ?_)
  replace h := h M1 e
  have r1 := hR.wi (ko_9 (fz := fz) hS (List.Mem.head _)).1 (kl_9 (List.Mem.head _)) e
  refine l1 (n := 1) rfl rfl rfl (la_of y2) ?_
  refine l_gr rfl (ko_0 hS (List.Mem.head _)) rfl (fun _ => rfl) (kf_0_6 r1.2 (List.Mem.head _)) ?_
  refine b_iv (c := 187) (as := []) (rest := []) rfl (by decide) (ko_4 hS (List.Mem.head _)) rfl rfl (Nat.le_of_ble_eq_true rfl) (fun hq => ?_)
  refine lx_mono (E_S_reset_m hS r1 (List.Mem.head _) h) ?_
  rintro _ _ ⟨M2, rfl, rfl, r2, h⟩
  refine l1 (n := 1) rfl rfl rfl (la_of y2) ?_
  refine l_gr rfl (ko_0 hS (List.Mem.head _)) rfl (fun _ => rfl) (kf_0_9 r2.2 (List.Mem.head _)) ?_
  refine b_iv (c := 331) (as := []) (rest := []) rfl (by decide) (ko_10 hS (List.Mem.head _)) rfl rfl (Nat.le_of_ble_eq_true rfl) (fun hq => ?_)
  refine lx_mono (E_Y_reset_m hS r2 h) ?_
  rintro _ _ ⟨M3, rfl, rfl, r3, h⟩
  refine l1 (n := 1) rfl rfl rfl rfl ?_
  refine l_s1 (n := 1) rfl rfl rfl rfl (fun ls y3 ho => ?_)
  have y4 := ho 0 _ (by decide) (fun q => by cases q.2) y2
  have y5 := ho 1 _ (by decide) (fun q => by cases q.2) y1
  exact E_M_clear_32 hS r3 (inr_gi _ _ _) ⟨by decide, by decide⟩ y4 y5 y3 h
def em_M_clear (M : rf_M) (K : Int → rf_M → Prop) : Prop := e_M_clear  M K
theorem E_M_clear_m {fz : Bool} {S : gS} {B : rf_M} {M : rf_M} {n0 : Nat} {K : Int → rf_M → Prop} (hS : rl S) (hR : fl 22 353 B M) (h : em_M_clear  M K) : lx (cx0 fz) n0 122 0 (lv_args 0 [.ref 22]) [] (M, S) (vl_i 22 353 B S K) :=
  E_M_clear hS hR rfl h
