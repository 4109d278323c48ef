def em_A_join (x0 : Int) (x1 : Int64) (x2 : Int64) (M : rf_M) (K : Int64 → rf_M → Prop) : Prop := e_A_join x0 x1 x2 M K
theorem E_A_join_m {fz : Bool} {S : gS} {B : rf_M} {M : rf_M} {n0 : Nat} {x0 : Int} {x1 : Int64} {x2 : Int64} {K : Int64 → rf_M → Prop} (hS : rl S) (hR : fl 22 353 B M) (ix0 : inr x0) (h : em_A_join x0 x1 x2 M K) : lx (cx0 fz) n0 75 0 (lv_args 0 [zv x0, .long x1, .long x2]) [] (M, S) (vl_l 22 353 B S K) :=
  E_A_join hS hR ix0 rfl rfl rfl h
def e_A_workS_158 (v0 : Nat) (v1 : Nat) (v3 : Nat) (v4 : Int) (M : rf_M) (b8 : Nat → Nat → Nat → Int → rf_M → Prop) (K : Int → rf_M → Prop) : Prop := inr (v4 + 1) ∧ (b8 v0 v1 v3 (v4 + 1) M)
theorem E_A_workS_158 {fz : Bool} {S : gS} {B : rf_M} {M : rf_M} {ls : rf_L} {n0 : Nat} {v0 : Nat} {v1 : Nat} {v3 : Nat} {v4 : Int} {b8 : Nat → Nat → Nat → Int → rf_M → Prop} {K : Int → rf_M → Prop} (hS : rl S) (hR : fl 22 353 B M) (mv0 : v0 ∈ k5) (mv1 : v1 ∈ k1) (mv3 : v3 ∈ k4) (iv4 : inr v4) (a0 : rf_ld ls 0 = some (.ref v0)) (a1 : rf_ld ls 1 = some (.ref v1)) (a3 : rf_ld ls 3 = some (.ref v3)) (a4 : rf_ld ls 4 = some (zv v4)) (hb8 : ∀ n', n' < n0 → ∀ (v0 : Nat) (v1 : Nat) (v3 : Nat) (v4 : Int) (M : rf_M) (ls : rf_L), fl 22 353 B M → v0 ∈ k5 → v1 ∈ k1 → v3 ∈ k4 → inr v4 → rf_ld ls 0 = some (.ref v0) → rf_ld ls 1 = some (.ref v1) → rf_ld ls 3 = some (.ref v3) → rf_ld ls 4 = some (zv v4) → b8 v0 v1 v3 v4 M → lx (cx0 fz) n' 65 8 ls [] (M, S) (vl_i 22 353 B S K)) (h : e_A_workS_158 v0 v1 v3 v4 M b8 K) : lx (cx0 fz) n0 65 158 ls [] (M, S) (vl_i 22 353 B S K) := by
  unfold e_A_workS_158 at h
  rcases Nat.eq_zero_or_pos n0 with e0 | hp
  · rw [e0]; exact lx_zero
  refine l_ii rfl a4 (Nat.le_of_ble_eq_true rfl) (fun ls y1 ho => ?_)
  have y2 := ho 0 _ (by decide) (fun q => by cases q.2) a0
  have y3 := ho 1 _ (by decide) (fun q => by cases q.2) a1
  have y4 := ho 3 _ (by decide) (fun q => by cases q.2) a3
  refine l3 rfl rfl rfl ?_
  obtain ⟨i1, h⟩ := h
  exact hb8 _ (by omega) _ _ _ _ _ _ hR mv0 mv1 mv3 i1 y2 y3 y4 y1 h
def e_A_workS_143 (M : rf_M) (K : Int → rf_M → Prop) : Prop := K 2 M
theorem E_A_workS_143 {fz : Bool} {S : gS} {B : rf_M} {M : rf_M} {ls : rf_L} {n0 : Nat} {K : Int → rf_M → Prop} (hS : rl S) (hR : fl 22 353 B M) (h : e_A_workS_143 M K) : lx (cx0 fz) n0 65 143 ls [] (M, S) (vl_i 22 353 B S K) := by
  unfold e_A_workS_143 at h
  refine l1 (n := 1) rfl rfl rfl rfl ?_
  exact l_ri rfl rfl ⟨by decide, by decide⟩ hR h
def e_A_workS_145 (v0 : Nat) (v1 : Nat) (v3 : Nat) (v4 : Int) (v5 : Int) (v6 : Int64) (v8 : Int64) (M : rf_M) (b8 : Nat → Nat → Nat → Int → rf_M → Prop) (K : Int → rf_M → Prop) : Prop := em_A_join v5 v8 v6 M (fun (z1 : Int64) (M1 : rf_M) => em_A_push v0 z1 M1 (fun (M2 : rf_M) => e_A_workS_158 v0 v1 v3 v4 M2 b8 K))
theorem E_A_workS_145 {fz : Bool} {S : gS} {B : rf_M} {M : rf_M} {ls : rf_L} {n0 : Nat} {v0 : Nat} {v1 : Nat} {v3 : Nat} {v4 : Int} {v5 : Int} {v6 : Int64} {v8 : Int64} {b8 : Nat → Nat → Nat → Int → rf_M → Prop} {K : Int → rf_M → Prop} (hS : rl S) (hR : fl 22 353 B M) (mv0 : v0 ∈ k5) (mv1 : v1 ∈ k1) (mv3 : v3 ∈ k4) (iv4 : inr v4) (iv5 : inr v5) (a0 : rf_ld ls 0 = some (.ref v0)) (a1 : rf_ld ls 1 = some (.ref v1)) (a3 : rf_ld ls 3 = some (.ref v3)) (a4 : rf_ld ls 4 = some (zv v4)) (a5 : rf_ld ls 5 = some (zv v5)) (a6 : rf_ld ls 6 = some (.long v6)) (a8 : rf_ld ls 8 = some (.long v8)) (hb8 : ∀ n', n' < n0 → ∀ (v0 : Nat) (v1 : Nat) (v3 : Nat) (v4 : Int) (M : rf_M) (ls : rf_L), fl 22 353 B M → v0 ∈ k5 → v1 ∈ k1 → v3 ∈ k4 → inr v4 → rf_ld ls 0 = some (.ref v0) → rf_ld ls 1 = some (.ref v1) → rf_ld ls 3 = some (.ref v3) → rf_ld ls 4 = some (zv v4) → b8 v0 v1 v3 v4 M → lx (cx0 fz) n' 65 8 ls [] (M, S) (vl_i 22 353 B S K)) (h : e_A_workS_145 v0 v1 v3 v4 v5 v6 v8 M b8 K) : lx (cx0 fz) n0 65 145 ls [] (M, S) (vl_i 22 353 B S K) := by
  unfold e_A_workS_145 at h
  rcases Nat.eq_zero_or_pos n0 with e0 | hp
  · rw [e0]; exact lx_zero
  refine l1 (n := 1) rfl rfl rfl (la_of a0) ?_
  refine l1 (n := 2) rfl rfl rfl (li_of a5) ?_
  refine l1 (n := 2) rfl rfl rfl (ll_of a8) ?_
  refine l1 (n := 2) rfl rfl rfl (ll_of a6) ?_
  refine b_st (as := [zv v5, .long v8, .long v6]) (rest := [.ref v0]) rfl (by decide) rfl (Nat.le_of_ble_eq_true rfl) (fun hq => ?_)
  refine lx_mono (E_A_join_m hS hR iv5 h) ?_
  rintro _ _ ⟨z1, M1, rfl, rfl, r1, h⟩
  refine b_iv (c := v0) (as := [.long z1]) (rest := []) rfl (by decide) (ko_5 hS mv0) rfl rfl (Nat.le_of_ble_eq_true rfl) (fun hq => ?_)
  refine lx_mono (E_A_push_m hS r1 mv0 h) ?_
  rintro _ _ ⟨M2, rfl, rfl, r2, h⟩
  exact E_A_workS_158 hS r2 mv0 mv1 mv3 iv4 a0 a1 a3 a4 (fun n' hn' => hb8 n' (by omega)) h
def e_A_workS_164 (M : rf_M) (K : Int → rf_M → Prop) : Prop := K 0 M
theorem E_A_workS_164 {fz : Bool} {S : gS} {B : rf_M} {M : rf_M} {ls : rf_L} {n0 : Nat} {K : Int → rf_M → Prop} (hS : rl S) (hR : fl 22 353 B M) (h : e_A_workS_164 M K) : lx (cx0 fz) n0 65 164 ls [] (M, S) (vl_i 22 353 B S K) := by
  unfold e_A_workS_164 at h
  refine l1 (n := 1) rfl rfl rfl rfl ?_
  exact l_ri rfl rfl ⟨by decide, by decide⟩ hR h
def e_A_workS_8b (v0 : Nat) (v1 : Nat) (v3 : Nat) (v4 : Int) (M : rf_M) (b8 : Nat → Nat → Nat → Int → rf_M → Prop) (K : Int → rf_M → Prop) : Prop := (v4 < 0 → (e_A_workS_164 M K)) ∧ (¬ (v4 < 0) → (((gi M v1 3) ≤ v4 → (e_A_workS_164 M K)) ∧ (¬ ((gi M v1 3) ≤ v4) → ((0 ≤ v4 ∧ v4 < 160 → (((gi M (v1 + 10) (v4).toNat) = 0 → (K 0 M)) ∧ (¬ (gi M (v1 + 10) (v4).toNat) = 0 → (((gi M (v1 + 10) (v4).toNat) = 1 → ((0 ≤ v4 ∧ v4 < 160 → (em_A_push v0 (Int32.ofInt (gi M (v1 + 11) (v4).toNat)).toInt64 M (fun (M7 : rf_M) => e_A_workS_158 v0 v1 v3 v4 M7 b8 K))))) ∧ (¬ (gi M (v1 + 10) (v4).toNat) = 1 → (((gi M (v1 + 10) (v4).toNat) = 2 → ((0 ≤ v4 ∧ v4 < 160 → (em_S_find v3 (gi M (v1 + 11) (v4).toNat) M (fun (z5 : Int) (M5 : rf_M) => (z5 = 0 → (K 1 M5)) ∧ (¬ z5 = 0 → (em_A_push v0 (gl M5 v3 7) M5 (fun (M6 : rf_M) => e_A_workS_158 v0 v1 v3 v4 M6 b8 K)))))))) ∧ (¬ (gi M (v1 + 10) (v4).toNat) = 2 → (((gi M (v1 + 10) (v4).toNat) = 3 → (em_A_pop v0 M (fun (z3 : Int64) (M3 : rf_M) => em_A_push v0 (-z3) M3 (fun (M4 : rf_M) => e_A_workS_158 v0 v1 v3 v4 M4 b8 K)))) ∧ (¬ (gi M (v1 + 10) (v4).toNat) = 3 → (em_A_pop v0 M (fun (z1 : Int64) (M1 : rf_M) => em_A_pop v0 M1 (fun (z2 : Int64) (M2 : rf_M) => ((lg_cmp z1 (Int64.ofNat 0)).toInt = 0 → (((gi M (v1 + 10) (v4).toNat) = 47 → (e_A_workS_143 M2 K)) ∧ (¬ ((gi M (v1 + 10) (v4).toNat) = 47) → (((gi M (v1 + 10) (v4).toNat) = 37 → (e_A_workS_143 M2 K)) ∧ (¬ (gi M (v1 + 10) (v4).toNat) = 37 → (e_A_workS_145 v0 v1 v3 v4 (gi M (v1 + 10) (v4).toNat) z1 z2 M2 b8 K)))))) ∧ (¬ (lg_cmp z1 (Int64.ofNat 0)).toInt = 0 → (e_A_workS_145 v0 v1 v3 v4 (gi M (v1 + 10) (v4).toNat) z1 z2 M2 b8 K))))))))))))))))))
theorem E_A_workS_8b {fz : Bool} {S : gS} {B : rf_M} {M : rf_M} {ls : rf_L} {n0 : Nat} {v0 : Nat} {v1 : Nat} {v3 : Nat} {v4 : Int} {b8 : Nat → Nat → Nat → Int → rf_M → Prop} {K : Int → rf_M → Prop} (hS : rl S) (hR : fl 22 353 B M) (mv0 : v0 ∈ k5) (mv1 : v1 ∈ k1) (mv3 : v3 ∈ k4) (iv4 : inr v4) (a0 : rf_ld ls 0 = some (.ref v0)) (a1 : rf_ld ls 1 = some (.ref v1)) (a3 : rf_ld ls 3 = some (.ref v3)) (a4 : rf_ld ls 4 = some (zv v4)) (hb8 : ∀ n', n' < n0 → ∀ (v0 : Nat) (v1 : Nat) (v3 : Nat) (v4 : Int) (M : rf_M) (ls : rf_L), fl 22 353 B M → v0 ∈ k5 → v1 ∈ k1 → v3 ∈ k4 → inr v4 → rf_ld ls 0 = some (.ref v0) → rf_ld ls 1 = some (.ref v1) → rf_ld ls 3 = some (.ref v3) → rf_ld ls 4 = some (zv v4) → b8 v0 v1 v3 v4 M → lx (cx0 fz) n' 65 8 ls [] (M, S) (vl_i 22 353 B S K)) (h : e_A_workS_8b v0 v1 v3 v4 M b8 K) : lx (cx0 fz) n0 65 8 ls [] (M, S) (vl_i 22 353 B S K) := by
  unfold e_A_workS_8b at h
  rcases Nat.eq_zero_or_pos n0 with e0 | hp
  · rw [e0]; exact lx_zero
  refine l1 (n := 2) rfl rfl rfl (li_of a4) ?_
  refine l_if rfl iv4 (fun c => ?_) (fun c => ?_)
  · replace h := h.1 c
    exact E_A_workS_164 hS hR  h
  · replace h := h.2 c
    refine l1 (n := 2) rfl rfl rfl (li_of a4) ?_
    refine l1 (n := 1) rfl rfl rfl (la_of a1) ?_
    refine l_gi rfl (ko_1 hS mv1) rfl (fun _ => rfl) ?_
    refine l_ic rfl iv4 (inr_gi _ _ _) (fun c => ?_) (fun c => ?_)
    · replace h := h.1 c
      exact E_A_workS_164 hS hR  h
    · replace h := h.2 c
      refine l1 (n := 1) rfl rfl rfl (la_of a1) ?_
      refine l_gr rfl (ko_1 hS mv1) rfl (fun _ => rfl) (kf_1_14 hR.2 mv1) ?_
      refine l1 (n := 2) rfl rfl rfl (li_of a4) ?_
      refine b_ia rfl (kt_1_14 (fz := fz) hS mv1).1 (Nat.le_of_ble_eq_true rfl) iv4 (fun q => ?_)
      replace h := h q
      refine l_s1 (n := 2) rfl rfl rfl rfl (fun ls y1 ho => ?_)
      have y2 := ho 0 _ (by decide) (fun q => by cases q.2) a0
      have y3 := ho 1 _ (by decide) (fun q => by cases q.2) a1
      have y4 := ho 3 _ (by decide) (fun q => by cases q.2) a3
      have y5 := ho 4 _ (by decide) (fun q => by cases q.2) a4
      refine l1 (n := 2) rfl rfl rfl (li_of y1) ?_
      refine l_if rfl (inr_gi _ _ _) (fun c => ?_) (fun c => ?_)
      · replace h := h.2 c
        refine l1 (n := 2) rfl rfl rfl (li_of y1) ?_
        refine l1 (n := 1) rfl rfl rfl rfl ?_
        refine l_ic rfl (inr_gi _ _ _) ⟨by decide, by decide⟩ (fun c => ?_) (fun c => ?_)
        · replace h := h.2 c
          refine l1 (n := 2) rfl rfl rfl (li_of y1) ?_
          refine l1 (n := 1) rfl rfl rfl rfl ?_
          refine l_ic rfl (inr_gi _ _ _) ⟨by decide, by decide⟩ (fun c => ?_) (fun c => ?_)
          · replace h := h.2 c
            refine l1 (n := 2) rfl rfl rfl (li_of y1) ?_
            refine l1 (n := 1) rfl rfl rfl rfl ?_
            refine l_ic rfl (inr_gi _ _ _) ⟨by decide, by decide⟩ (fun c => ?_) (fun c => ?_)
            · replace h := h.2 c
              refine l1 (n := 1) rfl rfl rfl (la_of y2) ?_
              refine b_iv (c := v0) (as := []) (rest := []) rfl (by decide) (ko_5 hS mv0) rfl rfl (Nat.le_of_ble_eq_true rfl) (fun hq => ?_)
              refine lx_mono (E_A_pop_m hS hR mv0 h) ?_
              rintro _ _ ⟨z1, M1, rfl, rfl, r1, h⟩
              refine l_s2 (n := 2) rfl rfl rfl rfl (fun ls y6 ho => ?_)
              have y7 := ho 0 _ (by decide) (by decide) (fun q => by cases q.2) y2
              have y8 := ho 1 _ (by decide) (by decide) (fun q => by cases q.2) y3
              have y9 := ho 3 _ (by decide) (by decide) (fun q => by cases q.2) y4
              have y10 := ho 4 _ (by decide) (by decide) (fun q => by cases q.2) y5
              have y11 := ho 5 _ (by decide) (by decide) (fun q => by cases q.2) y1
              refine l1 (n := 1) rfl rfl rfl (la_of y7) ?_
              refine b_iv (c := v0) (as := []) (rest := []) rfl (by decide) (ko_5 hS mv0) rfl rfl (Nat.le_of_ble_eq_true rfl) (fun hq => ?_)
              refine lx_mono (E_A_pop_m hS r1 mv0 h) ?_
              rintro _ _ ⟨z2, M2, rfl, rfl, r2, h⟩
              refine l_s2 (n := 2) rfl rfl rfl rfl (fun ls y12 ho => ?_)
              have y13 := ho 0 _ (by decide) (by decide) (fun q => by cases q.2) y7
              have y14 := ho 1 _ (by decide) (by decide) (fun q => by cases q.2) y8
              have y15 := ho 3 _ (by decide) (by decide) (fun q => by cases q.2) y9
              have y16 := ho 4 _ (by decide) (by decide) (fun q => by cases q.2) y10
              have y17 := ho 5 _ (by decide) (by decide) (fun q => by cases q.2) y11
              have y18 := ho 6 _ (by decide) (by decide) (fun q => absurd q.1 (by decide)) y6
              refine l1 (n := 2) rfl rfl rfl (ll_of y18) ?_
              refine l1 (n := 1) rfl rfl rfl rfl ?_
              refine l_op (T := (lg_cmp z1 (Int64.ofNat 0))) rfl rfl rfl ?_
              refine l_if rfl (inr_ti _) (fun c => ?_) (fun c => ?_)
              · replace h := h.2 c
                exact E_A_workS_145 hS r2 mv0 mv1 mv3 iv4 (inr_gi _ _ _) y13 y14 y15 y16 y17 y18 y12 (fun n' hn' => hb8 n' (by omega)) h
              · replace h := h.1 (Classical.not_not.mp c)
                refine l1 (n := 2) rfl rfl rfl (li_of y17) ?_
                refine l_bi rfl (by decide) ?_
                refine l_ic rfl (inr_gi _ _ _) ⟨by decide, by decide⟩ (fun c => ?_) (fun c => ?_)
                · replace h := h.1 c
                  exact E_A_workS_143 hS r2  h
                · replace h := h.2 c
                  refine l1 (n := 2) rfl rfl rfl (li_of y17) ?_
                  refine l_bi rfl (by decide) ?_
                  refine l_ic rfl (inr_gi _ _ _) ⟨by decide, by decide⟩ (fun c => ?_) (fun c => ?_)
                  · replace h := h.2 c
                    exact E_A_workS_145 hS r2 mv0 mv1 mv3 iv4 (inr_gi _ _ _) y13 y14 y15 y16 y17 y18 y12 (fun n' hn' => hb8 n' (by omega)) h
                  · replace h := h.1 (Classical.not_not.mp c)
                    exact E_A_workS_143 hS r2  h
            · replace h := h.1 (Classical.not_not.mp c)
              refine l1 (n := 1) rfl rfl rfl (la_of y2) ?_
              refine l1 (n := 1) rfl rfl rfl (la_of y2) ?_
              refine b_iv (c := v0) (as := []) (rest := [.ref v0]) rfl (by decide) (ko_5 hS mv0) rfl rfl (Nat.le_of_ble_eq_true rfl) (fun hq => ?_)
              refine lx_mono (E_A_pop_m hS hR mv0 h) ?_
              rintro _ _ ⟨z3, M3, rfl, rfl, r3, h⟩
              refine l0 rfl rfl rfl ?_
              refine b_iv (c := v0) (as := [.long (-z3)]) (rest := []) rfl (by decide) (ko_5 hS mv0) rfl rfl (Nat.le_of_ble_eq_true rfl) (fun hq => ?_)
              refine lx_mono (E_A_push_m hS r3 mv0 h) ?_
              rintro _ _ ⟨M4, rfl, rfl, r4, h⟩
              refine l3 rfl rfl rfl ?_
              exact E_A_workS_158 hS r4 mv0 mv1 mv3 iv4 y2 y3 y4 y5 (fun n' hn' => hb8 n' (by omega)) h
          · replace h := h.1 (Classical.not_not.mp c)
            refine l1 (n := 1) rfl rfl rfl (la_of y4) ?_
            refine l1 (n := 1) rfl rfl rfl (la_of y3) ?_
            refine l_gr rfl (ko_1 hS mv1) rfl (fun _ => rfl) (kf_1_15 hR.2 mv1) ?_
            refine l1 (n := 2) rfl rfl rfl (li_of y5) ?_
            refine b_ia rfl (kt_1_15 (fz := fz) hS mv1).1 (Nat.le_of_ble_eq_true rfl) iv4 (fun q => ?_)
            replace h := h q
            refine b_iv (c := v3) (as := [zv (gi M (v1 + 11) (v4).toNat)]) (rest := []) rfl (by decide) (ko_4 hS mv3) rfl rfl (Nat.le_of_ble_eq_true rfl) (fun hq => ?_)
            refine lx_mono (E_S_find_m hS hR mv3 (inr_gi _ _ _) h) ?_
            rintro _ _ ⟨z5, M5, rfl, rfl, r5, iz5, h⟩
            refine l_if rfl iz5 (fun c => ?_) (fun c => ?_)
            · replace h := h.2 c
              refine l1 (n := 1) rfl rfl rfl (la_of y2) ?_
              refine l1 (n := 1) rfl rfl rfl (la_of y4) ?_
              refine l_gl rfl (ko_4 hS mv3) rfl (fun _ => rfl) ?_
              refine b_iv (c := v0) (as := [.long (gl M5 v3 7)]) (rest := []) rfl (by decide) (ko_5 hS mv0) rfl rfl (Nat.le_of_ble_eq_true rfl) (fun hq => ?_)
              refine lx_mono (E_A_push_m hS r5 mv0 h) ?_
              rintro _ _ ⟨M6, rfl, rfl, r6, h⟩
              refine l3 rfl rfl rfl ?_
              exact E_A_workS_158 hS r6 mv0 mv1 mv3 iv4 y2 y3 y4 y5 (fun n' hn' => hb8 n' (by omega)) h
            · replace h := h.1 (Classical.not_not.mp c)
              refine l1 (n := 1) rfl rfl rfl rfl ?_
              exact l_ri rfl rfl ⟨by decide, by decide⟩ r5 h
        · replace h := h.1 (Classical.not_not.mp c)
          refine l1 (n := 1) rfl rfl rfl (la_of y2) ?_
          refine l1 (n := 1) rfl rfl rfl (la_of y3) ?_
          refine l_gr rfl (ko_1 hS mv1) rfl (fun _ => rfl) (kf_1_15 hR.2 mv1) ?_
          refine l1 (n := 2) rfl rfl rfl (li_of y5) ?_
          refine b_ia rfl (kt_1_15 (fz := fz) hS mv1).1 (Nat.le_of_ble_eq_true rfl) iv4 (fun q => ?_)
          replace h := h q
          refine l0 rfl rfl rfl ?_
          refine b_iv (c := v0) (as := [.long (Int32.ofInt (gi M (v1 + 11) (v4).toNat)).toInt64]) (rest := []) rfl (by decide) (ko_5 hS mv0) rfl rfl (Nat.le_of_ble_eq_true rfl) (fun hq => ?_)
          refine lx_mono (E_A_push_m hS hR mv0 h) ?_
          rintro _ _ ⟨M7, rfl, rfl, r7, h⟩
          refine l3 rfl rfl rfl ?_
          exact E_A_workS_158 hS r7 mv0 mv1 mv3 iv4 y2 y3 y4 y5 (fun n' hn' => hb8 n' (by omega)) h
      · replace h := h.1 (Classical.not_not.mp c)
        refine l1 (n := 1) rfl rfl rfl rfl ?_
        exact l_ri rfl rfl ⟨by decide, by decide⟩ hR h
def e_A_workS_8 (v0 : Nat) (v1 : Nat) (v3 : Nat) (v4 : Int) (M : rf_M) (K : Int → rf_M → Prop) : Prop := ∃ Inv : Nat → Nat → Nat → Int → rf_M → Prop, Inv v0 v1 v3 v4 M ∧ ∀ (v0 : Nat) (v1 : Nat) (v3 : Nat) (v4 : Int) (M : rf_M), inr v4 → Inv v0 v1 v3 v4 M → e_A_workS_8b v0 v1 v3 v4 M Inv K
theorem E_A_workS_8 {fz : Bool} {S : gS} {B : rf_M} {M : rf_M} {ls : rf_L} {n0 : Nat} {v0 : Nat} {v1 : Nat} {v3 : Nat} {v4 : Int} {K : Int → rf_M → Prop} (hS : rl S) (hR : fl 22 353 B M) (mv0 : v0 ∈ k5) (mv1 : v1 ∈ k1) (mv3 : v3 ∈ k4) (iv4 : inr v4) (a0 : rf_ld ls 0 = some (.ref v0)) (a1 : rf_ld ls 1 = some (.ref v1)) (a3 : rf_ld ls 3 = some (.ref v3)) (a4 : rf_ld ls 4 = some (zv v4)) (h : e_A_workS_8 v0 v1 v3 v4 M K) : lx (cx0 fz) n0 65 8 ls [] (M, S) (vl_i 22 353 B S K) := by
  obtain ⟨Inv, hm, hb⟩ := h
  induction n0 using Nat.strongRecOn generalizing ls M v0 v1 v3 v4 with
  | _ n0 ih =>
    refine E_A_workS_8b hS hR mv0 mv1 mv3 iv4 a0 a1 a3 a4 (fun n' hn' v0' v1' v3' v4' M' ls' hR' f0 f1 f2 f3 f4 f5 f6 f7 q2 => ih n' hn' hR' f0 f1 f2 f3 f4 f5 f6 f7 q2) (hb v0 v1 v3 v4 M iv4 hm)
def e_A_workS (v0 : Nat) (v1 : Nat) (v2 : Int) (v3 : Nat) (M : rf_M) (K : Int → rf_M → Prop) : Prop := ∀ M1 : rf_M, M1 = wi M v0 1 0 → (e_A_workS_8 v0 v1 v3 v2 M1 K)
theorem E_A_workS {fz : Bool} {S : gS} {B : rf_M} {M : rf_M} {ls : rf_L} {n0 : Nat} {v0 : Nat} {v1 : Nat} {v2 : Int} {v3 : Nat} {K : Int → rf_M → Prop} (hS : rl S) (hR : fl 22 353 B M) (mv0 : v0 ∈ k5) (mv1 : v1 ∈ k1) (iv2 : inr v2) (mv3 : v3 ∈ k4) (a0 : rf_ld ls 0 = some (.ref v0)) (a1 : rf_ld ls 1 = some (.ref v1)) (a2 : rf_ld ls 2 = some (zv v2)) (a3 : rf_ld ls 3 = some (.ref v3)) (h : e_A_workS v0 v1 v2 v3 M K) : lx (cx0 fz) n0 65 0 ls [] (M, S) (vl_i 22 353 B S K) := by
  unfold e_A_workS at h
  refine l1 (n := 1) rfl rfl rfl (la_of a0) ?_
  refine l1 (n := 1) rfl rfl rfl rfl ?_
  refine l_pi rfl (ko_5 (fz := fz) hS mv0) rfl (fun _ _ => rfl) (fun M1 e => ?_)
  replace h := h M1 e
  have r1 := hR.wi (ko_5 (fz := fz) hS mv0).1 (kl_5 mv0) e
  refine l1 (n := 1) rfl rfl rfl (li_of a2) ?_
  refine l_s1 (n := 2) rfl rfl rfl rfl (fun ls y1 ho => ?_)
  have y2 := ho 0 _ (by decide) (fun q => by cases q.2) a0
  have y3 := ho 1 _ (by decide) (fun q => by cases q.2) a1
  have y4 := ho 3 _ (by decide) (fun q => by cases q.2) a3
  exact E_A_workS_8 hS r1 mv0 mv1 mv3 iv2 y2 y3 y4 y1 h
def em_A_workS (x0 : Nat) (x1 : Nat) (x2 : Int) (x3 : Nat) (M : rf_M) (K : Int → rf_M → Prop) : Prop := e_A_workS x0 x1 x2 x3 M K
theorem E_A_workS_m {fz : Bool} {S : gS} {B : rf_M} {M : rf_M} {n0 : Nat} {x0 : Nat} {x1 : Nat} {x2 : Int} {x3 : Nat} {K : Int → rf_M → Prop} (hS : rl S) (hR : fl 22 353 B M) (mx0 : x0 ∈ k5) (mx1 : x1 ∈ k1) (ix2 : inr x2) (mx3 : x3 ∈ k4) (h : em_A_workS x0 x1 x2 x3 M K) : lx (cx0 fz) n0 65 0 (lv_args 0 [.ref x0, .ref x1, zv x2, .ref x3]) [] (M, S) (vl_i 22 353 B S K) :=
  E_A_workS hS hR mx0 mx1 ix2 mx3 rfl rfl rfl rfl h
def e_A_result_17 (s0 : Int64) (M : rf_M) (K : Int64 → rf_M → Prop) : Prop := K s0 M
theorem E_A_result_17 {fz : Bool} {S : gS} {B : rf_M} {M : rf_M} {ls : rf_L} {n0 : Nat} {s0 : Int64} {K : Int64 → rf_M → Prop} (hS : rl S) (hR : fl 22 353 B M) (h : e_A_result_17 s0 M K) : lx (cx0 fz) n0 76 17 ls [.long s0] (M, S) (vl_l 22 353 B S K) := by
  unfold e_A_result_17 at h
  exact l_rl rfl rfl hR h
def e_A_result (v0 : Nat) (M : rf_M) (K : Int64 → rf_M → Prop) : Prop := ((gi M v0 1) ≤ 0 → (e_A_result_17 (Int64.ofNat 0) M K)) ∧ (¬ ((gi M v0 1) ≤ 0) → ((0 ≤ (0 : Int) ∧ (0 : Int) < 60 → (e_A_result_17 (gl M (v0 + 1) 0) M K))))
theorem E_A_result {fz : Bool} {S : gS} {B : rf_M} {M : rf_M} {ls : rf_L} {n0 : Nat} {v0 : Nat} {K : Int64 → rf_M → Prop} (hS : rl S) (hR : fl 22 353 B M) (mv0 : v0 ∈ k5) (a0 : rf_ld ls 0 = some (.ref v0)) (h : e_A_result v0 M K) : lx (cx0 fz) n0 76 0 ls [] (M, S) (vl_l 22 353 B S K) := by
  unfold e_A_result at h
  refine l1 (n := 1) rfl rfl rfl (la_of a0) ?_
  refine l_gi rfl (ko_5 hS mv0) rfl (fun _ => rfl) ?_
  refine l_if rfl (inr_gi _ _ _) (fun c => ?_) (fun c => ?_)
  · replace h := h.1 c
    refine l1 (n := 1) rfl rfl rfl rfl ?_
    exact E_A_result_17 hS hR  h
  · replace h := h.2 c
    refine l1 (n := 1) rfl rfl rfl (la_of a0) ?_
    refine l_gr rfl (ko_5 hS mv0) rfl (fun _ => rfl) (kf_5_0 hR.2 mv0) ?_
    refine l1 (n := 1) rfl rfl rfl rfl ?_
    refine b_la rfl (kt_5_0 (fz := fz) hS mv0).1 (Nat.le_of_ble_eq_true rfl) ⟨by decide, by decide⟩ (fun q => ?_)
    replace h := h q
    refine l3 rfl rfl rfl ?_
    exact E_A_result_17 hS hR  h
def em_A_result (x0 : Nat) (M : rf_M) (K : Int64 → rf_M → Prop) : Prop := e_A_result x0 M K
theorem E_A_result_m {fz : Bool} {S : gS} {B : rf_M} {M : rf_M} {n0 : Nat} {x0 : Nat} {K : Int64 → rf_M → Prop} (hS : rl S) (hR : fl 22 353 B M) (mx0 : x0 ∈ k5) (h : em_A_result x0 M K) : lx (cx0 fz) n0 76 0 (lv_args 0 [.ref x0]) [] (M, S) (vl_l 22 353 B S K) :=
  E_A_result hS hR mx0 rfl h
def e_S_holdsAhead_49 (s0 : Int) (M : rf_M) (K : Int → rf_M → Prop) : Prop := (s0 = 0 ∨ s0 = 1) ∧ K s0 M
theorem E_S_holdsAhead_49 {fz : Bool} {S : gS} {B : rf_M} {M : rf_M} {ls : rf_L} {n0 : Nat} {s0 : Int} {K : Int → rf_M → Prop} (hS : rl S) (hR : fl 22 353 B M) (is0 : inr s0) (h : e_S_holdsAhead_49 s0 M K) : lx (cx0 fz) n0 63 49 ls [zv s0] (M, S) (vl_i 22 353 B S K) := by
  unfold e_S_holdsAhead_49 at h
  exact l_rb rfl rfl h.1 hR h.2
def e_S_holdsAhead_48 (M : rf_M) (K : Int → rf_M → Prop) : Prop := e_S_holdsAhead_49 0 M K
theorem E_S_holdsAhead_48 {fz : Bool} {S : gS} {B : rf_M} {M : rf_M} {ls : rf_L} {n0 : Nat} {K : Int → rf_M → Prop} (hS : rl S) (hR : fl 22 353 B M) (h : e_S_holdsAhead_48 M K) : lx (cx0 fz) n0 63 48 ls [] (M, S) (vl_i 22 353 B S K) := by
  unfold e_S_holdsAhead_48 at h
  refine l1 (n := 1) rfl rfl rfl rfl ?_
  exact E_S_holdsAhead_49 hS hR ⟨by decide, by decide⟩ h
def e_S_holdsAhead (v0 : Nat) (v1 : Nat) (v2 : Int) (M : rf_M) (K : Int → rf_M → Prop) : Prop := em_P_has v1 v2 M (fun (z1 : Int) (M1 : rf_M) => (z1 = 0 → (K 0 M1)) ∧ (¬ z1 = 0 → ((0 ≤ v2 ∧ v2 < 40 → (em_A_workS (v0 + 6) v1 (gi M1 (v1 + 3) (v2).toNat) v0 M1 (fun (z2 : Int) (M2 : rf_M) => (z2 = 0 → (em_A_result (v0 + 6) M2 (fun (z3 : Int64) (M3 : rf_M) => ((lg_cmp z3 (Int64.ofNat 0)).toInt = 0 → (e_S_holdsAhead_48 M3 K)) ∧ (¬ ((lg_cmp z3 (Int64.ofNat 0)).toInt = 0) → (e_S_holdsAhead_49 1 M3 K))))) ∧ (¬ z2 = 0 → (e_S_holdsAhead_48 M2 K))))))))
theorem E_S_holdsAhead {fz : Bool} {S : gS} {B : rf_M} {M : rf_M} {ls : rf_L} {n0 : Nat} {v0 : Nat} {v1 : Nat} {v2 : Int} {K : Int → rf_M → Prop} (hS : rl S) (hR : fl 22 353 B M) (mv0 : v0 ∈ k4) (mv1 : v1 ∈ k1) (iv2 : inr v2) (a0 : rf_ld ls 0 = some (.ref v0)) (a1 : rf_ld ls 1 = some (.ref v1)) (a2 : rf_ld ls 2 = some (zv v2)) (h : e_S_holdsAhead v0 v1 v2 M K) : lx (cx0 fz) n0 63 0 ls [] (M, S) (vl_i 22 353 B S K) := by
  unfold e_S_holdsAhead at h
  refine l1 (n := 1) rfl rfl rfl (la_of a1) ?_
  refine l3 rfl rfl rfl ?_
  refine l1 (n := 1) rfl rfl rfl (la_of a1) ?_
  refine l1 (n := 1) rfl rfl rfl (li_of a2) ?_
  refine b_iv (c := v1) (as := [zv v2]) (rest := []) rfl (by decide) (ko_1 hS mv1) rfl rfl (Nat.le_of_ble_eq_true rfl) (fun hq => ?_)
  refine lx_mono (E_P_has_m hS hR mv1 iv2 h) ?_
  rintro _ _ ⟨z1, M1, rfl, rfl, r1, iz1, h⟩
  refine l_if rfl iz1 (fun c => ?_) (fun c => ?_)
  · replace h := h.2 c
    refine l1 (n := 1) rfl rfl rfl (la_of a0) ?_
    refine l_gr rfl (ko_4 hS mv0) rfl (fun _ => rfl) (kf_4_6 r1.2 mv0) ?_
    refine l1 (n := 1) rfl rfl rfl (la_of a1) ?_
    refine l1 (n := 1) rfl rfl rfl (la_of a1) ?_
    refine l_gr rfl (ko_1 hS mv1) rfl (fun _ => rfl) (kf_1_7 r1.2 mv1) ?_
    refine l1 (n := 1) rfl rfl rfl (li_of a2) ?_
    refine b_ia rfl (kt_1_7 (fz := fz) hS mv1).1 (Nat.le_of_ble_eq_true rfl) iv2 (fun q => ?_)
    replace h := h q
    refine l1 (n := 1) rfl rfl rfl (la_of a0) ?_
    refine b_iv (c := (v0 + 6)) (as := [.ref v1, zv (gi M1 (v1 + 3) (v2).toNat), .ref v0]) (rest := []) rfl (by decide) (ko_5 hS (kt_4_6 mv0)) rfl rfl (Nat.le_of_ble_eq_true rfl) (fun hq => ?_)
    refine lx_mono (E_A_workS_m hS r1 (kt_4_6 mv0) mv1 (inr_gi _ _ _) mv0 h) ?_
    rintro _ _ ⟨z2, M2, rfl, rfl, r2, iz2, h⟩
    refine l_if rfl iz2 (fun c => ?_) (fun c => ?_)
    · replace h := h.2 c
      exact E_S_holdsAhead_48 hS r2  h
    · replace h := h.1 (Classical.not_not.mp c)
      refine l1 (n := 1) rfl rfl rfl (la_of a0) ?_
      refine l_gr rfl (ko_4 hS mv0) rfl (fun _ => rfl) (kf_4_6 r2.2 mv0) ?_
      refine b_iv (c := (v0 + 6)) (as := []) (rest := []) rfl (by decide) (ko_5 hS (kt_4_6 mv0)) rfl rfl (Nat.le_of_ble_eq_true rfl) (fun hq => ?_)
      refine lx_mono (E_A_result_m hS r2 (kt_4_6 mv0) h) ?_
      rintro _ _ ⟨z3, M3, rfl, rfl, r3, h⟩
      refine l1 (n := 1) rfl rfl rfl rfl ?_
      refine l_op (T := (lg_cmp z3 (Int64.ofNat 0))) rfl rfl rfl ?_
      refine l_if rfl (inr_ti _) (fun c => ?_) (fun c => ?_)
      · replace h := h.1 c
        exact E_S_holdsAhead_48 hS r3  h
      · replace h := h.2 c
        refine l1 (n := 1) rfl rfl rfl rfl ?_
        refine l3 rfl rfl rfl ?_
        exact E_S_holdsAhead_49 hS r3 ⟨by decide, by decide⟩ h
  · replace h := h.1 (Classical.not_not.mp c)
    refine l1 (n := 1) rfl rfl rfl rfl ?_
    exact l_rb rfl rfl (Or.inl rfl) r1 h
