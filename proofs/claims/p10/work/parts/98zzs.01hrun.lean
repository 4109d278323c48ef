theorem H_A_join_m {fz : Bool} {S : gS} {B : rf_M} {M : rf_M} {n0 : Nat} {x0 : Int} {x1 : Int64} {x2 : Int64} {K : Int64 → rf_M → Prop} (hS : rl S) (hR : fl 22 331 B M) (ix0 : inr x0) (h : em_A_join x0 x1 x2 M K) : lx (cx0 fz) n0 75 0 (lv_args 0 [zv x0, .long x1, .long x2]) [] (M, S) (vl_l 22 331 B S K) :=
  H_A_join hS hR ix0 rfl rfl rfl h
theorem H_A_workS_158 {fz : Bool} {S : gS} {B : rf_M} {M : rf_M} {ls : rf_L} {n0 : Nat} {v0 : Nat} {v1 : Nat} {v3 : Nat} {v4 : Int} {b8 : Nat → Nat → Nat → Int → rf_M → Prop} {K : Int → rf_M → Prop} (hS : rl S) (hR : fl 22 331 B M) (mv0 : v0 ∈ j5) (mv1 : v1 ∈ k1) (mv3 : v3 ∈ j4) (iv4 : inr v4) (a0 : rf_ld ls 0 = some (.ref v0)) (a1 : rf_ld ls 1 = some (.ref v1)) (a3 : rf_ld ls 3 = some (.ref v3)) (a4 : rf_ld ls 4 = some (zv v4)) (hb8 : ∀ n', n' < n0 → ∀ (v0 : Nat) (v1 : Nat) (v3 : Nat) (v4 : Int) (M : rf_M) (ls : rf_L), fl 22 331 B M → v0 ∈ j5 → v1 ∈ k1 → v3 ∈ j4 → inr v4 → rf_ld ls 0 = some (.ref v0) → rf_ld ls 1 = some (.ref v1) → rf_ld ls 3 = some (.ref v3) → rf_ld ls 4 = some (zv v4) → b8 v0 v1 v3 v4 M → lx (cx0 fz) n' 65 8 ls [] (M, S) (vl_i 22 331 B S K)) (h : e_A_workS_158 v0 v1 v3 v4 M b8 K) : lx (cx0 fz) n0 65 158 ls [] (M, S) (vl_i 22 331 B S K) := by
  unfold e_A_workS_158 at h
  rcases Nat.eq_zero_or_pos n0 with e0 | hp
  · rw [e0]; exact lx_zero
  refine l_ii rfl a4 (Nat.le_of_ble_eq_true rfl) (fun ls y1 ho => ?_)
  have y2 := ho 0 _ (by decide) (fun q => by cases q.2) a0
  have y3 := ho 1 _ (by decide) (fun q => by cases q.2) a1
  have y4 := ho 3 _ (by decide) (fun q => by cases q.2) a3
  refine l3 rfl rfl rfl ?_
  obtain ⟨i1, h⟩ := h
  exact hb8 _ (by omega) _ _ _ _ _ _ hR mv0 mv1 mv3 i1 y2 y3 y4 y1 h
theorem H_A_workS_143 {fz : Bool} {S : gS} {B : rf_M} {M : rf_M} {ls : rf_L} {n0 : Nat} {K : Int → rf_M → Prop} (hS : rl S) (hR : fl 22 331 B M) (h : e_A_workS_143 M K) : lx (cx0 fz) n0 65 143 ls [] (M, S) (vl_i 22 331 B S K) := by
  unfold e_A_workS_143 at h
  refine l1 (n := 1) rfl rfl rfl rfl ?_
  exact l_ri rfl rfl ⟨by decide, by decide⟩ hR h
theorem H_A_workS_145 {fz : Bool} {S : gS} {B : rf_M} {M : rf_M} {ls : rf_L} {n0 : Nat} {v0 : Nat} {v1 : Nat} {v3 : Nat} {v4 : Int} {v5 : Int} {v6 : Int64} {v8 : Int64} {b8 : Nat → Nat → Nat → Int → rf_M → Prop} {K : Int → rf_M → Prop} (hS : rl S) (hR : fl 22 331 B M) (mv0 : v0 ∈ j5) (mv1 : v1 ∈ k1) (mv3 : v3 ∈ j4) (iv4 : inr v4) (iv5 : inr v5) (a0 : rf_ld ls 0 = some (.ref v0)) (a1 : rf_ld ls 1 = some (.ref v1)) (a3 : rf_ld ls 3 = some (.ref v3)) (a4 : rf_ld ls 4 = some (zv v4)) (a5 : rf_ld ls 5 = some (zv v5)) (a6 : rf_ld ls 6 = some (.long v6)) (a8 : rf_ld ls 8 = some (.long v8)) (hb8 : ∀ n', n' < n0 → ∀ (v0 : Nat) (v1 : Nat) (v3 : Nat) (v4 : Int) (M : rf_M) (ls : rf_L), fl 22 331 B M → v0 ∈ j5 → v1 ∈ k1 → v3 ∈ j4 → inr v4 → rf_ld ls 0 = some (.ref v0) → rf_ld ls 1 = some (.ref v1) → rf_ld ls 3 = some (.ref v3) → rf_ld ls 4 = some (zv v4) → b8 v0 v1 v3 v4 M → lx (cx0 fz) n' 65 8 ls [] (M, S) (vl_i 22 331 B S K)) (h : e_A_workS_145 v0 v1 v3 v4 v5 v6 v8 M b8 K) : lx (cx0 fz) n0 65 145 ls [] (M, S) (vl_i 22 331 B S K) := by
  unfold e_A_workS_145 at h
  rcases Nat.eq_zero_or_pos n0 with e0 | hp
  · rw [e0]; exact lx_zero
  refine l1 (n := 1) rfl rfl rfl (la_of a0) ?_
  refine l1 (n := 2) rfl rfl rfl (li_of a5) ?_
  refine l1 (n := 2) rfl rfl rfl (ll_of a8) ?_
  refine l1 (n := 2) rfl rfl rfl (ll_of a6) ?_
  refine b_st (as := [zv v5, .long v8, .long v6]) (rest := [.ref v0]) rfl (by decide) rfl (Nat.le_of_ble_eq_true rfl) (fun hq => ?_)
  refine lx_mono (H_A_join_m hS hR iv5 h) ?_
  rintro _ _ ⟨z1, M1, rfl, rfl, r1, h⟩
  refine b_iv (c := v0) (as := [.long z1]) (rest := []) rfl (by decide) (jo_5 hS mv0) rfl rfl (Nat.le_of_ble_eq_true rfl) (fun hq => ?_)
  refine lx_mono (H_A_push_m hS r1 mv0 h) ?_
  rintro _ _ ⟨M2, rfl, rfl, r2, h⟩
  exact H_A_workS_158 hS r2 mv0 mv1 mv3 iv4 a0 a1 a3 a4 (fun n' hn' => hb8 n' (by omega)) h
theorem H_A_workS_164 {fz : Bool} {S : gS} {B : rf_M} {M : rf_M} {ls : rf_L} {n0 : Nat} {K : Int → rf_M → Prop} (hS : rl S) (hR : fl 22 331 B M) (h : e_A_workS_164 M K) : lx (cx0 fz) n0 65 164 ls [] (M, S) (vl_i 22 331 B S K) := by
  unfold e_A_workS_164 at h
  refine l1 (n := 1) rfl rfl rfl rfl ?_
  exact l_ri rfl rfl ⟨by decide, by decide⟩ hR h
theorem H_A_workS_8b {fz : Bool} {S : gS} {B : rf_M} {M : rf_M} {ls : rf_L} {n0 : Nat} {v0 : Nat} {v1 : Nat} {v3 : Nat} {v4 : Int} {b8 : Nat → Nat → Nat → Int → rf_M → Prop} {K : Int → rf_M → Prop} (hS : rl S) (hR : fl 22 331 B M) (mv0 : v0 ∈ j5) (mv1 : v1 ∈ k1) (mv3 : v3 ∈ j4) (iv4 : inr v4) (a0 : rf_ld ls 0 = some (.ref v0)) (a1 : rf_ld ls 1 = some (.ref v1)) (a3 : rf_ld ls 3 = some (.ref v3)) (a4 : rf_ld ls 4 = some (zv v4)) (hb8 : ∀ n', n' < n0 → ∀ (v0 : Nat) (v1 : Nat) (v3 : Nat) (v4 : Int) (M : rf_M) (ls : rf_L), fl 22 331 B M → v0 ∈ j5 → v1 ∈ k1 → v3 ∈ j4 → inr v4 → rf_ld ls 0 = some (.ref v0) → rf_ld ls 1 = some (.ref v1) → rf_ld ls 3 = some (.ref v3) → rf_ld ls 4 = some (zv v4) → b8 v0 v1 v3 v4 M → lx (cx0 fz) n' 65 8 ls [] (M, S) (vl_i 22 331 B S K)) (h : e_A_workS_8b v0 v1 v3 v4 M b8 K) : lx (cx0 fz) n0 65 8 ls [] (M, S) (vl_i 22 331 B S K) := by
  unfold e_A_workS_8b at h
  rcases Nat.eq_zero_or_pos n0 with e0 | hp
  · rw [e0]; exact lx_zero
  refine l1 (n := 2) rfl rfl rfl (li_of a4) ?_
  refine l_if rfl iv4 (fun c => ?_) (fun c => ?_)
  · replace h := h.1 c
    exact H_A_workS_164 hS hR  h
  · replace h := h.2 c
    refine l1 (n := 2) rfl rfl rfl (li_of a4) ?_
    refine l1 (n := 1) rfl rfl rfl (la_of a1) ?_
    refine l_gi rfl (ko_1 hS mv1) rfl (fun _ => rfl) ?_
    refine l_ic rfl iv4 (inr_gi _ _ _) (fun c => ?_) (fun c => ?_)
    · replace h := h.1 c
      exact H_A_workS_164 hS hR  h
    · replace h := h.2 c
      refine l1 (n := 1) rfl rfl rfl (la_of a1) ?_
      refine l_gr rfl (ko_1 hS mv1) rfl (fun _ => rfl) (kf_1_14 hR.2 mv1) ?_
      refine l1 (n := 2) rfl rfl rfl (li_of a4) ?_
      refine b_ia rfl (jt_1_14 (fz := fz) hS mv1).1 (Nat.le_of_ble_eq_true rfl) iv4 (fun q => ?_)
      replace h := h q
      refine l_s1 (n := 2) rfl rfl rfl rfl (fun ls y1 ho => ?_)
      have y2 := ho 0 _ (by decide) (fun q => by cases q.2) a0
      have y3 := ho 1 _ (by decide) (fun q => by cases q.2) a1
      have y4 := ho 3 _ (by decide) (fun q => by cases q.2) a3
      have y5 := ho 4 _ (by decide) (fun q => by cases q.2) a4
      refine l1 (n := 2) rfl rfl rfl (li_of y1) ?_
      refine l_if rfl (inr_gi _ _ _) (fun c => ?_) (fun c => ?_)
      · replace h := h.2 c
        refine l1 (n := 2) rfl rfl rfl (li_of y1) ?_
        refine l1 (n := 1) rfl rfl rfl rfl ?_
        refine l_ic rfl (inr_gi _ _ _) ⟨by decide, by decide⟩ (fun c => ?_) (fun c => ?_)
        · replace h := h.2 c
          refine l1 (n := 2) rfl rfl rfl (li_of y1) ?_
          refine l1 (n := 1) rfl rfl rfl rfl ?_
          refine l_ic rfl (inr_gi _ _ _) ⟨by decide, by decide⟩ (fun c => ?_) (fun c => ?_)
          · replace h := h.2 c
            refine l1 (n := 2) rfl rfl rfl (li_of y1) ?_
            refine l1 (n := 1) rfl rfl rfl rfl ?_
            refine l_ic rfl (inr_gi _ _ _) ⟨by decide, by decide⟩ (fun c => ?_) (fun c => ?_)
            · replace h := h.2 c
              refine l1 (n := 1) rfl rfl rfl (la_of y2) ?_
              refine b_iv (c := v0) (as := []) (rest := []) rfl (by decide) (jo_5 hS mv0) rfl rfl (Nat.le_of_ble_eq_true rfl) (fun hq => ?_)
              refine lx_mono (H_A_pop_m hS hR mv0 h) ?_
              rintro _ _ ⟨z1, M1, rfl, rfl, r1, h⟩
              refine l_s2 (n := 2) rfl rfl rfl rfl (fun ls y6 ho => ?_)
              have y7 := ho 0 _ (by decide) (by decide) (fun q => by cases q.2) y2
              have y8 := ho 1 _ (by decide) (by decide) (fun q => by cases q.2) y3
              have y9 := ho 3 _ (by decide) (by decide) (fun q => by cases q.2) y4
              have y10 := ho 4 _ (by decide) (by decide) (fun q => by cases q.2) y5
              have y11 := ho 5 _ (by decide) (by decide) (fun q => by cases q.2) y1
              refine l1 (n := 1) rfl rfl rfl (la_of y7) ?_
              refine b_iv (c := v0) (as := []) (rest := []) rfl (by decide) (jo_5 hS mv0) rfl rfl (Nat.le_of_ble_eq_true rfl) (fun hq => ?_)
              refine lx_mono (H_A_pop_m hS r1 mv0 h) ?_
              rintro _ _ ⟨z2, M2, rfl, rfl, r2, h⟩
              refine l_s2 (n := 2) rfl rfl rfl rfl (fun ls y12 ho => ?_)
              have y13 := ho 0 _ (by decide) (by decide) (fun q => by cases q.2) y7
              have y14 := ho 1 _ (by decide) (by decide) (fun q => by cases q.2) y8
              have y15 := ho 3 _ (by decide) (by decide) (fun q => by cases q.2) y9
              have y16 := ho 4 _ (by decide) (by decide) (fun q => by cases q.2) y10
              have y17 := ho 5 _ (by decide) (by decide) (fun q => by cases q.2) y11
              have y18 := ho 6 _ (by decide) (by decide) (fun q => absurd q.1 (by decide)) y6
              refine l1 (n := 2) rfl rfl rfl (ll_of y18) ?_
              refine l1 (n := 1) rfl rfl rfl rfl ?_
              refine l_op (T := (lg_cmp z1 (Int64.ofNat 0))) rfl rfl rfl ?_
              refine l_if rfl (inr_ti _) (fun c => ?_) (fun c => ?_)
              · replace h := h.2 c
                exact H_A_workS_145 hS r2 mv0 mv1 mv3 iv4 (inr_gi _ _ _) y13 y14 y15 y16 y17 y18 y12 (fun n' hn' => hb8 n' (by omega)) h
              · replace h := h.1 (Classical.not_not.mp c)
                refine l1 (n := 2) rfl rfl rfl (li_of y17) ?_
                refine l_bi rfl (by decide) ?_
                refine l_ic rfl (inr_gi _ _ _) ⟨by decide, by decide⟩ (fun c => ?_) (fun c => ?_)
                · replace h := h.1 c
                  exact H_A_workS_143 hS r2  h
                · replace h := h.2 c
                  refine l1 (n := 2) rfl rfl rfl (li_of y17) ?_
                  refine l_bi rfl (by decide) ?_
                  refine l_ic rfl (inr_gi _ _ _) ⟨by decide, by decide⟩ (fun c => ?_) (fun c => ?_)
                  · replace h := h.2 c
                    exact H_A_workS_145 hS r2 mv0 mv1 mv3 iv4 (inr_gi _ _ _) y13 y14 y15 y16 y17 y18 y12 (fun n' hn' => hb8 n' (by omega)) h
                  · replace h := h.1 (Classical.not_not.mp c)
                    exact H_A_workS_143 hS r2  h
            · replace h := h.1 (Classical.not_not.mp c)
              refine l1 (n := 1) rfl rfl rfl (la_of y2) ?_
              refine l1 (n := 1) rfl rfl rfl (la_of y2) ?_
              refine b_iv (c := v0) (as := []) (rest := [.ref v0]) rfl (by decide) (jo_5 hS mv0) rfl rfl (Nat.le_of_ble_eq_true rfl) (fun hq => ?_)
              refine lx_mono (H_A_pop_m hS hR mv0 h) ?_
              rintro _ _ ⟨z3, M3, rfl, rfl, r3, h⟩
              refine l0 rfl rfl rfl ?_
              refine b_iv (c := v0) (as := [.long (-z3)]) (rest := []) rfl (by decide) (jo_5 hS mv0) rfl rfl (Nat.le_of_ble_eq_true rfl) (fun hq => ?_)
              refine lx_mono (H_A_push_m hS r3 mv0 h) ?_
              rintro _ _ ⟨M4, rfl, rfl, r4, h⟩
              refine l3 rfl rfl rfl ?_
              exact H_A_workS_158 hS r4 mv0 mv1 mv3 iv4 y2 y3 y4 y5 (fun n' hn' => hb8 n' (by omega)) h
          · replace h := h.1 (Classical.not_not.mp c)
            refine l1 (n := 1) rfl rfl rfl (la_of y4) ?_
            refine l1 (n := 1) rfl rfl rfl (la_of y3) ?_
            refine l_gr rfl (ko_1 hS mv1) rfl (fun _ => rfl) (kf_1_15 hR.2 mv1) ?_
            refine l1 (n := 2) rfl rfl rfl (li_of y5) ?_
            refine b_ia rfl (jt_1_15 (fz := fz) hS mv1).1 (Nat.le_of_ble_eq_true rfl) iv4 (fun q => ?_)
            replace h := h q
            refine b_iv (c := v3) (as := [zv (gi M (v1 + 11) (v4).toNat)]) (rest := []) rfl (by decide) (jo_4 hS mv3) rfl rfl (Nat.le_of_ble_eq_true rfl) (fun hq => ?_)
            refine lx_mono (H_S_find_m hS hR mv3 (inr_gi _ _ _) h) ?_
            rintro _ _ ⟨z5, M5, rfl, rfl, r5, iz5, h⟩
            refine l_if rfl iz5 (fun c => ?_) (fun c => ?_)
            · replace h := h.2 c
              refine l1 (n := 1) rfl rfl rfl (la_of y2) ?_
              refine l1 (n := 1) rfl rfl rfl (la_of y4) ?_
              refine l_gl rfl (jo_4 hS mv3) rfl (fun _ => rfl) ?_
              refine b_iv (c := v0) (as := [.long (gl M5 v3 7)]) (rest := []) rfl (by decide) (jo_5 hS mv0) rfl rfl (Nat.le_of_ble_eq_true rfl) (fun hq => ?_)
              refine lx_mono (H_A_push_m hS r5 mv0 h) ?_
              rintro _ _ ⟨M6, rfl, rfl, r6, h⟩
              refine l3 rfl rfl rfl ?_
              exact H_A_workS_158 hS r6 mv0 mv1 mv3 iv4 y2 y3 y4 y5 (fun n' hn' => hb8 n' (by omega)) h
            · replace h := h.1 (Classical.not_not.mp c)
              refine l1 (n := 1) rfl rfl rfl rfl ?_
              exact l_ri rfl rfl ⟨by decide, by decide⟩ r5 h
        · replace h := h.1 (Classical.not_not.mp c)
          refine l1 (n := 1) rfl rfl rfl (la_of y2) ?_
          refine l1 (n := 1) rfl rfl rfl (la_of y3) ?_
          refine l_gr rfl (ko_1 hS mv1) rfl (fun _ => rfl) (kf_1_15 hR.2 mv1) ?_
          refine l1 (n := 2) rfl rfl rfl (li_of y5) ?_
          refine b_ia rfl (jt_1_15 (fz := fz) hS mv1).1 (Nat.le_of_ble_eq_true rfl) iv4 (fun q => ?_)
          replace h := h q
          refine l0 rfl rfl rfl ?_
          refine b_iv (c := v0) (as := [.long (Int32.ofInt (gi M (v1 + 11) (v4).toNat)).toInt64]) (rest := []) rfl (by decide) (jo_5 hS mv0) rfl rfl (Nat.le_of_ble_eq_true rfl) (fun hq => ?_)
          refine lx_mono (H_A_push_m hS hR mv0 h) ?_
          rintro _ _ ⟨M7, rfl, rfl, r7, h⟩
          refine l3 rfl rfl rfl ?_
          exact H_A_workS_158 hS r7 mv0 mv1 mv3 iv4 y2 y3 y4 y5 (fun n' hn' => hb8 n' (by omega)) h
      · replace h := h.1 (Classical.not_not.mp c)
        refine l1 (n := 1) rfl rfl rfl rfl ?_
        exact l_ri rfl rfl ⟨by decide, by decide⟩ hR h
theorem H_A_workS_8 {fz : Bool} {S : gS} {B : rf_M} {M : rf_M} {ls : rf_L} {n0 : Nat} {v0 : Nat} {v1 : Nat} {v3 : Nat} {v4 : Int} {K : Int → rf_M → Prop} (hS : rl S) (hR : fl 22 331 B M) (mv0 : v0 ∈ j5) (mv1 : v1 ∈ k1) (mv3 : v3 ∈ j4) (iv4 : inr v4) (a0 : rf_ld ls 0 = some (.ref v0)) (a1 : rf_ld ls 1 = some (.ref v1)) (a3 : rf_ld ls 3 = some (.ref v3)) (a4 : rf_ld ls 4 = some (zv v4)) (h : e_A_workS_8 v0 v1 v3 v4 M K) : lx (cx0 fz) n0 65 8 ls [] (M, S) (vl_i 22 331 B S K) := by
  obtain ⟨Inv, hm, hb⟩ := h
  induction n0 using Nat.strongRecOn generalizing ls M v0 v1 v3 v4 with
  | _ n0 ih =>
    refine H_A_workS_8b hS hR mv0 mv1 mv3 iv4 a0 a1 a3 a4 (fun n' hn' v0' v1' v3' v4' M' ls' hR' f0 f1 f2 f3 f4 f5 f6 f7 q2 => ih n' hn' hR' f0 f1 f2 f3 f4 f5 f6 f7 q2) (hb v0 v1 v3 v4 M iv4 hm)
theorem H_A_workS {fz : Bool} {S : gS} {B : rf_M} {M : rf_M} {ls : rf_L} {n0 : Nat} {v0 : Nat} {v1 : Nat} {v2 : Int} {v3 : Nat} {K : Int → rf_M → Prop} (hS : rl S) (hR : fl 22 331 B M) (mv0 : v0 ∈ j5) (mv1 : v1 ∈ k1) (iv2 : inr v2) (mv3 : v3 ∈ j4) (a0 : rf_ld ls 0 = some (.ref v0)) (a1 : rf_ld ls 1 = some (.ref v1)) (a2 : rf_ld ls 2 = some (zv v2)) (a3 : rf_ld ls 3 = some (.ref v3)) (h : e_A_workS v0 v1 v2 v3 M K) : lx (cx0 fz) n0 65 0 ls [] (M, S) (vl_i 22 331 B S K) := by
  unfold e_A_workS at h
  refine l1 (n := 1) rfl rfl rfl (la_of a0) ?_
  refine l1 (n := 1) rfl rfl rfl rfl ?_
  refine l_pi rfl (jo_5 (fz := fz) hS mv0) rfl (fun _ _ => rfl) (fun M1 e => ?_)
  replace h := h M1 e
  have r1 := hR.wi (jo_5 (fz := fz) hS mv0).1 (jl_5 mv0) e
  refine l1 (n := 1) rfl rfl rfl (li_of a2) ?_
  refine l_s1 (n := 2) rfl rfl rfl rfl (fun ls y1 ho => ?_)
  have y2 := ho 0 _ (by decide) (fun q => by cases q.2) a0
  have y3 := ho 1 _ (by decide) (fun q => by cases q.2) a1
  have y4 := ho 3 _ (by decide) (fun q => by cases q.2) a3
  exact H_A_workS_8 hS r1 mv0 mv1 mv3 iv2 y2 y3 y4 y1 h
theorem H_A_workS_m {fz : Bool} {S : gS} {B : rf_M} {M : rf_M} {n0 : Nat} {x0 : Nat} {x1 : Nat} {x2 : Int} {x3 : Nat} {K : Int → rf_M → Prop} (hS : rl S) (hR : fl 22 331 B M) (mx0 : x0 ∈ j5) (mx1 : x1 ∈ k1) (ix2 : inr x2) (mx3 : x3 ∈ j4) (h : em_A_workS x0 x1 x2 x3 M K) : lx (cx0 fz) n0 65 0 (lv_args 0 [.ref x0, .ref x1, zv x2, .ref x3]) [] (M, S) (vl_i 22 331 B S K) :=
  H_A_workS hS hR mx0 mx1 ix2 mx3 rfl rfl rfl rfl h
theorem H_A_result_17 {fz : Bool} {S : gS} {B : rf_M} {M : rf_M} {ls : rf_L} {n0 : Nat} {s0 : Int64} {K : Int64 → rf_M → Prop} (hS : rl S) (hR : fl 22 331 B M) (h : e_A_result_17 s0 M K) : lx (cx0 fz) n0 76 17 ls [.long s0] (M, S) (vl_l 22 331 B S K) := by
  unfold e_A_result_17 at h
  exact l_rl rfl rfl hR h
theorem H_A_result {fz : Bool} {S : gS} {B : rf_M} {M : rf_M} {ls : rf_L} {n0 : Nat} {v0 : Nat} {K : Int64 → rf_M → Prop} (hS : rl S) (hR : fl 22 331 B M) (mv0 : v0 ∈ j5) (a0 : rf_ld ls 0 = some (.ref v0)) (h : e_A_result v0 M K) : lx (cx0 fz) n0 76 0 ls [] (M, S) (vl_l 22 331 B S K) := by
  unfold e_A_result at h
  refine l1 (n := 1) rfl rfl rfl (la_of a0) ?_
  refine l_gi rfl (jo_5 hS mv0) rfl (fun _ => rfl) ?_
  refine l_if rfl (inr_gi _ _ _) (fun c => ?_) (fun c => ?_)
  · replace h := h.1 c
    refine l1 (n := 1) rfl rfl rfl rfl ?_
    exact H_A_result_17 hS hR  h
  · replace h := h.2 c
    refine l1 (n := 1) rfl rfl rfl (la_of a0) ?_
    refine l_gr rfl (jo_5 hS mv0) rfl (fun _ => rfl) (jf_5_0 hR.2 mv0) ?_
    refine l1 (n := 1) rfl rfl rfl rfl ?_
    refine b_la rfl (jt_5_0 (fz := fz) hS mv0).1 (Nat.le_of_ble_eq_true rfl) ⟨by decide, by decide⟩ (fun q => ?_)
    replace h := h q
    refine l3 rfl rfl rfl ?_
    exact H_A_result_17 hS hR  h
theorem H_A_result_m {fz : Bool} {S : gS} {B : rf_M} {M : rf_M} {n0 : Nat} {x0 : Nat} {K : Int64 → rf_M → Prop} (hS : rl S) (hR : fl 22 331 B M) (mx0 : x0 ∈ j5) (h : em_A_result x0 M K) : lx (cx0 fz) n0 76 0 (lv_args 0 [.ref x0]) [] (M, S) (vl_l 22 331 B S K) :=
  H_A_result hS hR mx0 rfl h
theorem H_S_holdsAhead_49 {fz : Bool} {S : gS} {B : rf_M} {M : rf_M} {ls : rf_L} {n0 : Nat} {s0 : Int} {K : Int → rf_M → Prop} (hS : rl S) (hR : fl 22 331 B M) (is0 : inr s0) (h : e_S_holdsAhead_49 s0 M K) : lx (cx0 fz) n0 63 49 ls [zv s0] (M, S) (vl_i 22 331 B S K) := by
  unfold e_S_holdsAhead_49 at h
  exact l_rb rfl rfl h.1 hR h.2
theorem H_S_holdsAhead_48 {fz : Bool} {S : gS} {B : rf_M} {M : rf_M} {ls : rf_L} {n0 : Nat} {K : Int → rf_M → Prop} (hS : rl S) (hR : fl 22 331 B M) (h : e_S_holdsAhead_48 M K) : lx (cx0 fz) n0 63 48 ls [] (M, S) (vl_i 22 331 B S K) := by
  unfold e_S_holdsAhead_48 at h
  refine l1 (n := 1) rfl rfl rfl rfl ?_
  exact H_S_holdsAhead_49 hS hR ⟨by decide, by decide⟩ h
theorem H_S_holdsAhead {fz : Bool} {S : gS} {B : rf_M} {M : rf_M} {ls : rf_L} {n0 : Nat} {v0 : Nat} {v1 : Nat} {v2 : Int} {K : Int → rf_M → Prop} (hS : rl S) (hR : fl 22 331 B M) (mv0 : v0 ∈ j4) (mv1 : v1 ∈ k1) (iv2 : inr v2) (a0 : rf_ld ls 0 = some (.ref v0)) (a1 : rf_ld ls 1 = some (.ref v1)) (a2 : rf_ld ls 2 = some (zv v2)) (h : e_S_holdsAhead v0 v1 v2 M K) : lx (cx0 fz) n0 63 0 ls [] (M, S) (vl_i 22 331 B S K) := by
  unfold e_S_holdsAhead at h
  refine l1 (n := 1) rfl rfl rfl (la_of a1) ?_
  refine l3 rfl rfl rfl ?_
  refine l1 (n := 1) rfl rfl rfl (la_of a1) ?_
  refine l1 (n := 1) rfl rfl rfl (li_of a2) ?_
  refine b_iv (c := v1) (as := [zv v2]) (rest := []) rfl (by decide) (ko_1 hS mv1) rfl rfl (Nat.le_of_ble_eq_true rfl) (fun hq => ?_)
  refine lx_mono (H_P_has_m hS hR mv1 iv2 h) ?_
  rintro _ _ ⟨z1, M1, rfl, rfl, r1, iz1, h⟩
  refine l_if rfl iz1 (fun c => ?_) (fun c => ?_)
  · replace h := h.2 c
    refine l1 (n := 1) rfl rfl rfl (la_of a0) ?_
    refine l_gr rfl (jo_4 hS mv0) rfl (fun _ => rfl) (jf_4_6 r1.2 mv0) ?_
    refine l1 (n := 1) rfl rfl rfl (la_of a1) ?_
    refine l1 (n := 1) rfl rfl rfl (la_of a1) ?_
    refine l_gr rfl (ko_1 hS mv1) rfl (fun _ => rfl) (kf_1_7 r1.2 mv1) ?_
    refine l1 (n := 1) rfl rfl rfl (li_of a2) ?_
    refine b_ia rfl (jt_1_7 (fz := fz) hS mv1).1 (Nat.le_of_ble_eq_true rfl) iv2 (fun q => ?_)
    replace h := h q
    refine l1 (n := 1) rfl rfl rfl (la_of a0) ?_
    refine b_iv (c := (v0 + 6)) (as := [.ref v1, zv (gi M1 (v1 + 3) (v2).toNat), .ref v0]) (rest := []) rfl (by decide) (jo_5 hS (jt_4_6 mv0)) rfl rfl (Nat.le_of_ble_eq_true rfl) (fun hq => ?_)
    refine lx_mono (H_A_workS_m hS r1 (jt_4_6 mv0) mv1 (inr_gi _ _ _) mv0 h) ?_
    rintro _ _ ⟨z2, M2, rfl, rfl, r2, iz2, h⟩
    refine l_if rfl iz2 (fun c => ?_) (fun c => ?_)
    · replace h := h.2 c
      exact H_S_holdsAhead_48 hS r2  h
    · replace h := h.1 (Classical.not_not.mp c)
      refine l1 (n := 1) rfl rfl rfl (la_of a0) ?_
      refine l_gr rfl (jo_4 hS mv0) rfl (fun _ => rfl) (jf_4_6 r2.2 mv0) ?_
      refine b_iv (c := (v0 + 6)) (as := []) (rest := []) rfl (by decide) (jo_5 hS (jt_4_6 mv0)) rfl rfl (Nat.le_of_ble_eq_true rfl) (fun hq => ?_)
      refine lx_mono (H_A_result_m hS r2 (jt_4_6 mv0) h) ?_
      rintro _ _ ⟨z3, M3, rfl, rfl, r3, h⟩
      refine l1 (n := 1) rfl rfl rfl rfl ?_
      refine l_op (T := (lg_cmp z3 (Int64.ofNat 0))) rfl rfl rfl ?_
      refine l_if rfl (inr_ti _) (fun c => ?_) (fun c => ?_)
      · replace h := h.1 c
        exact H_S_holdsAhead_48 hS r3  h
      · replace h := h.2 c
        refine l1 (n := 1) rfl rfl rfl rfl ?_
        refine l3 rfl rfl rfl ?_
        exact H_S_holdsAhead_49 hS r3 ⟨by decide, by decide⟩ h
  · replace h := h.1 (Classical.not_not.mp c)
    refine l1 (n := 1) rfl rfl rfl rfl ?_
    exact l_rb rfl rfl (Or.inl rfl) r1 h
theorem H_S_holdsAhead_m {fz : Bool} {S : gS} {B : rf_M} {M : rf_M} {n0 : Nat} {x0 : Nat} {x1 : Nat} {x2 : Int} {K : Int → rf_M → Prop} (hS : rl S) (hR : fl 22 331 B M) (mx0 : x0 ∈ j4) (mx1 : x1 ∈ k1) (ix2 : inr x2) (h : em_S_holdsAhead x0 x1 x2 M K) : lx (cx0 fz) n0 63 0 (lv_args 0 [.ref x0, .ref x1, zv x2]) [] (M, S) (vl_i 22 331 B S K) :=
  H_S_holdsAhead hS hR mx0 mx1 ix2 rfl rfl rfl h
theorem H_S_holdAhead_2b {fz : Bool} {S : gS} {B : rf_M} {M : rf_M} {ls : rf_L} {n0 : Nat} {v0 : Nat} {v1 : Int} {b2 : Nat → Int → rf_M → Prop} {K : Int → rf_M → Prop} (hS : rl S) (hR : fl 22 331 B M) (mv0 : v0 ∈ j4) (iv1 : inr v1) (a0 : rf_ld ls 0 = some (.ref v0)) (a1 : rf_ld ls 1 = some (zv v1)) (hb2 : ∀ n', n' < n0 → ∀ (v0 : Nat) (v1 : Int) (M : rf_M) (ls : rf_L), fl 22 331 B M → v0 ∈ j4 → inr v1 → rf_ld ls 0 = some (.ref v0) → rf_ld ls 1 = some (zv v1) → b2 v0 v1 M → lx (cx0 fz) n' 62 2 ls [] (M, S) (vl_i 22 331 B S K)) (h : e_S_holdAhead_2b v0 v1 M b2 K) : lx (cx0 fz) n0 62 2 ls [] (M, S) (vl_i 22 331 B S K) := by
  unfold e_S_holdAhead_2b at h
  rcases Nat.eq_zero_or_pos n0 with e0 | hp
  · rw [e0]; exact lx_zero
  refine l1 (n := 1) rfl rfl rfl (li_of a1) ?_
  refine l1 (n := 1) rfl rfl rfl (la_of a0) ?_
  refine l_gi rfl (jo_4 hS mv0) rfl (fun _ => rfl) ?_
  refine l_ic rfl iv1 (inr_gi _ _ _) (fun c => ?_) (fun c => ?_)
  · replace h := h.1 c
    refine l1 (n := 1) rfl rfl rfl rfl ?_
    exact l_rb rfl rfl (Or.inr rfl) hR h
  · replace h := h.2 c
    refine l1 (n := 1) rfl rfl rfl (la_of a0) ?_
    refine l1 (n := 1) rfl rfl rfl (la_of a0) ?_
    refine l_gr rfl (jo_4 hS mv0) rfl (fun _ => rfl) (jf_4_3 hR.2 mv0) ?_
    refine l1 (n := 1) rfl rfl rfl (li_of a1) ?_
    refine b_aa rfl (jt_4_3 (fz := fz) hS mv0).1 (Nat.le_of_ble_eq_true rfl) iv1 (fun q1 => ⟨(h q1).1.1, ?_⟩)
    replace h := h q1
    obtain ⟨q2, h⟩ := h
    refine l1 (n := 1) rfl rfl rfl (la_of a0) ?_
    refine l_gr rfl (jo_4 hS mv0) rfl (fun _ => rfl) (jf_4_4 hR.2 mv0) ?_
    refine l1 (n := 1) rfl rfl rfl (li_of a1) ?_
    refine b_ia rfl (jt_4_4 (fz := fz) hS mv0).1 (Nat.le_of_ble_eq_true rfl) iv1 (fun q => ?_)
    replace h := h q
    refine b_iv (c := v0) (as := [.ref (gr M (v0 + 3) (v1).toNat), zv (gi M (v0 + 4) (v1).toNat)]) (rest := []) rfl (by decide) (jo_4 hS mv0) rfl rfl (Nat.le_of_ble_eq_true rfl) (fun hq => ?_)
    refine lx_mono (H_S_holdsAhead_m hS hR mv0 q2.2 (inr_gi _ _ _) h) ?_
    rintro _ _ ⟨z1, M1, rfl, rfl, r1, iz1, h⟩
    refine l_if rfl iz1 (fun c => ?_) (fun c => ?_)
    · replace h := h.2 c
      refine l_ii rfl a1 (Nat.le_of_ble_eq_true rfl) (fun ls y1 ho => ?_)
      have y2 := ho 0 _ (by decide) (fun q => by cases q.2) a0
      refine l3 rfl rfl rfl ?_
      obtain ⟨i1, h⟩ := h
      exact hb2 _ (by omega) _ _ _ _ r1 mv0 i1 y2 y1 h
    · replace h := h.1 (Classical.not_not.mp c)
      refine l1 (n := 1) rfl rfl rfl rfl ?_
      exact l_rb rfl rfl (Or.inl rfl) r1 h
theorem H_S_holdAhead_2 {fz : Bool} {S : gS} {B : rf_M} {M : rf_M} {ls : rf_L} {n0 : Nat} {v0 : Nat} {v1 : Int} {K : Int → rf_M → Prop} (hS : rl S) (hR : fl 22 331 B M) (mv0 : v0 ∈ j4) (iv1 : inr v1) (a0 : rf_ld ls 0 = some (.ref v0)) (a1 : rf_ld ls 1 = some (zv v1)) (h : e_S_holdAhead_2 v0 v1 M K) : lx (cx0 fz) n0 62 2 ls [] (M, S) (vl_i 22 331 B S K) := by
  obtain ⟨Inv, hm, hb⟩ := h
  induction n0 using Nat.strongRecOn generalizing ls M v0 v1 with
  | _ n0 ih =>
    refine H_S_holdAhead_2b hS hR mv0 iv1 a0 a1 (fun n' hn' v0' v1' M' ls' hR' f0 f1 f2 f3 q2 => ih n' hn' hR' f0 f1 f2 f3 q2) (hb v0 v1 M iv1 hm)
theorem H_S_holdAhead {fz : Bool} {S : gS} {B : rf_M} {M : rf_M} {ls : rf_L} {n0 : Nat} {v0 : Nat} {K : Int → rf_M → Prop} (hS : rl S) (hR : fl 22 331 B M) (mv0 : v0 ∈ j4) (a0 : rf_ld ls 0 = some (.ref v0)) (h : e_S_holdAhead v0 M K) : lx (cx0 fz) n0 62 0 ls [] (M, S) (vl_i 22 331 B S K) := by
  unfold e_S_holdAhead at h
  refine l1 (n := 1) rfl rfl rfl rfl ?_
  refine l_s1 (n := 1) rfl rfl rfl rfl (fun ls y1 ho => ?_)
  have y2 := ho 0 _ (by decide) (fun q => by cases q.2) a0
  exact H_S_holdAhead_2 hS hR mv0 ⟨by decide, by decide⟩ y2 y1 h
