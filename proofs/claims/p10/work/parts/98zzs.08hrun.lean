theorem H_S_takes_197 {fz : Bool} {S : gS} {B : rf_M} {M : rf_M} {ls : rf_L} {n0 : Nat} {K : Int → rf_M → Prop} (hS : rl S) (hR : fl 22 331 B M) (h : e_S_takes_197 M K) : lx (cx0 fz) n0 105 197 ls [] (M, S) (vl_i 22 331 B S K) := by
  unfold e_S_takes_197 at h
  refine l1 (n := 1) rfl rfl rfl rfl ?_
  exact l_rb rfl rfl (Or.inr rfl) hR h
theorem H_S_takes_139b {fz : Bool} {S : gS} {B : rf_M} {M : rf_M} {ls : rf_L} {n0 : Nat} {v0 : Nat} {v1 : Nat} {v2 : Nat} {v3 : Int} {b139 : Nat → Nat → Nat → Int → rf_M → Prop} {K : Int → rf_M → Prop} (hS : rl S) (hR : fl 22 331 B M) (mv0 : v0 ∈ j4) (mv1 : v1 ∈ k1) (mv2 : v2 ∈ j8) (iv3 : inr v3) (a0 : rf_ld ls 0 = some (.ref v0)) (a1 : rf_ld ls 1 = some (.ref v1)) (a2 : rf_ld ls 2 = some (.ref v2)) (a3 : rf_ld ls 3 = some (zv v3)) (hb139 : ∀ n', n' < n0 → ∀ (v0 : Nat) (v1 : Nat) (v2 : Nat) (v3 : Int) (M : rf_M) (ls : rf_L), fl 22 331 B M → v0 ∈ j4 → v1 ∈ k1 → v2 ∈ j8 → inr v3 → rf_ld ls 0 = some (.ref v0) → rf_ld ls 1 = some (.ref v1) → rf_ld ls 2 = some (.ref v2) → rf_ld ls 3 = some (zv v3) → b139 v0 v1 v2 v3 M → lx (cx0 fz) n' 105 139 ls [] (M, S) (vl_i 22 331 B S K)) (h : e_S_takes_139b v0 v1 v2 v3 M b139 K) : lx (cx0 fz) n0 105 139 ls [] (M, S) (vl_i 22 331 B S K) := by
  unfold e_S_takes_139b at h
  rcases Nat.eq_zero_or_pos n0 with e0 | hp
  · rw [e0]; exact lx_zero
  refine l1 (n := 1) rfl rfl rfl (li_of a3) ?_
  refine l1 (n := 1) rfl rfl rfl (la_of a2) ?_
  refine l_gi rfl (jo_8 hS mv2) rfl (fun _ => rfl) ?_
  refine l_ic rfl iv3 (inr_gi _ _ _) (fun c => ?_) (fun c => ?_)
  · replace h := h.1 c
    exact H_S_takes_197 hS hR  h
  · replace h := h.2 c
    refine l1 (n := 1) rfl rfl rfl (la_of a0) ?_
    refine l_gi rfl (jo_4 hS mv0) rfl (fun _ => rfl) ?_
    refine l_bi rfl (by decide) ?_
    refine l_ic rfl (inr_gi _ _ _) ⟨by decide, by decide⟩ (fun c => ?_) (fun c => ?_)
    · replace h := h.1 c
      exact H_S_takes_197 hS hR  h
    · replace h := h.2 c
      refine l1 (n := 1) rfl rfl rfl (la_of a0) ?_
      refine l_gr rfl (jo_4 hS mv0) rfl (fun _ => rfl) (jf_4_3 hR.2 mv0) ?_
      refine l1 (n := 1) rfl rfl rfl (la_of a0) ?_
      refine l_gi rfl (jo_4 hS mv0) rfl (fun _ => rfl) ?_
      refine l1 (n := 1) rfl rfl rfl (la_of a1) ?_
      refine b_as rfl (jt_4_3 (fz := fz) hS mv0).1 (ko_1 hS mv1) rfl (Nat.le_of_ble_eq_true rfl) (inr_gi _ _ _) (fun q M1 e => ?_)
      replace h := h q M1 e
      have r1 := hR.wqS3 mv0 e
      refine l1 (n := 1) rfl rfl rfl (la_of a0) ?_
      refine l_gr rfl (jo_4 hS mv0) rfl (fun _ => rfl) (jf_4_4 r1.2 mv0) ?_
      refine l1 (n := 1) rfl rfl rfl (la_of a0) ?_
      refine l_gi rfl (jo_4 hS mv0) rfl (fun _ => rfl) ?_
      refine l1 (n := 1) rfl rfl rfl (la_of a2) ?_
      refine l_gr rfl (jo_8 hS mv2) rfl (fun _ => rfl) (jf_8_4 r1.2 mv2) ?_
      refine l1 (n := 1) rfl rfl rfl (li_of a3) ?_
      refine b_ia rfl (jt_8_4 (fz := fz) hS mv2).1 (Nat.le_of_ble_eq_true rfl) iv3 (fun q => ?_)
      replace h := h q
      refine b_is rfl (jt_4_4 (fz := fz) hS mv0).1 (Nat.le_of_ble_eq_true rfl) (inr_gi _ _ _) (fun q M2 e => ?_)
      replace h := h q M2 e
      have r2 := r1.wi (jt_4_4 (fz := fz) hS mv0).1.1 (jt_4_4 (fz := fz) hS mv0).2 e
      refine l1 (n := 1) rfl rfl rfl (la_of a0) ?_
      refine l0 rfl rfl rfl ?_
      refine l_gi rfl (jo_4 hS mv0) rfl (fun _ => rfl) ?_
      refine l1 (n := 1) rfl rfl rfl rfl ?_
      refine l_add rfl ?_
      refine l_pi rfl (jo_4 (fz := fz) hS mv0) rfl (fun _ _ => rfl) (fun M3 e => ?_)
      replace h := h M3 e
      have r3 := r2.wi (jo_4 (fz := fz) hS mv0).1 (jl_4 mv0) e
      refine l_ii rfl a3 (Nat.le_of_ble_eq_true rfl) (fun ls y1 ho => ?_)
      have y2 := ho 0 _ (by decide) (fun q => by cases q.2) a0
      have y3 := ho 1 _ (by decide) (fun q => by cases q.2) a1
      have y4 := ho 2 _ (by decide) (fun q => by cases q.2) a2
      refine l3 rfl rfl rfl ?_
      obtain ⟨i1, h⟩ := h
      exact hb139 _ (by omega) _ _ _ _ _ _ r3 mv0 mv1 mv2 i1 y2 y3 y4 y1 h
theorem H_S_takes_139 {fz : Bool} {S : gS} {B : rf_M} {M : rf_M} {ls : rf_L} {n0 : Nat} {v0 : Nat} {v1 : Nat} {v2 : Nat} {v3 : Int} {K : Int → rf_M → Prop} (hS : rl S) (hR : fl 22 331 B M) (mv0 : v0 ∈ j4) (mv1 : v1 ∈ k1) (mv2 : v2 ∈ j8) (iv3 : inr v3) (a0 : rf_ld ls 0 = some (.ref v0)) (a1 : rf_ld ls 1 = some (.ref v1)) (a2 : rf_ld ls 2 = some (.ref v2)) (a3 : rf_ld ls 3 = some (zv v3)) (h : e_S_takes_139 v0 v1 v2 v3 M K) : lx (cx0 fz) n0 105 139 ls [] (M, S) (vl_i 22 331 B S K) := by
  obtain ⟨Inv, hm, hb⟩ := h
  induction n0 using Nat.strongRecOn generalizing ls M v0 v1 v2 v3 with
  | _ n0 ih =>
    refine H_S_takes_139b hS hR mv0 mv1 mv2 iv3 a0 a1 a2 a3 (fun n' hn' v0' v1' v2' v3' M' ls' hR' f0 f1 f2 f3 f4 f5 f6 f7 q2 => ih n' hn' hR' f0 f1 f2 f3 f4 f5 f6 f7 q2) (hb v0 v1 v2 v3 M iv3 hm)
theorem H_S_takes_106b {fz : Bool} {S : gS} {B : rf_M} {M : rf_M} {ls : rf_L} {n0 : Nat} {v0 : Nat} {v1 : Nat} {v2 : Nat} {v3 : Int} {b106 : Nat → Nat → Nat → Int → rf_M → Prop} {K : Int → rf_M → Prop} (hS : rl S) (hR : fl 22 331 B M) (mv0 : v0 ∈ j4) (mv1 : v1 ∈ k1) (mv2 : v2 ∈ j8) (iv3 : inr v3) (a0 : rf_ld ls 0 = some (.ref v0)) (a1 : rf_ld ls 1 = some (.ref v1)) (a2 : rf_ld ls 2 = some (.ref v2)) (a3 : rf_ld ls 3 = some (zv v3)) (hb106 : ∀ n', n' < n0 → ∀ (v0 : Nat) (v1 : Nat) (v2 : Nat) (v3 : Int) (M : rf_M) (ls : rf_L), fl 22 331 B M → v0 ∈ j4 → v1 ∈ k1 → v2 ∈ j8 → inr v3 → rf_ld ls 0 = some (.ref v0) → rf_ld ls 1 = some (.ref v1) → rf_ld ls 2 = some (.ref v2) → rf_ld ls 3 = some (zv v3) → b106 v0 v1 v2 v3 M → lx (cx0 fz) n' 105 106 ls [] (M, S) (vl_i 22 331 B S K)) (h : e_S_takes_106b v0 v1 v2 v3 M b106 K) : lx (cx0 fz) n0 105 106 ls [] (M, S) (vl_i 22 331 B S K) := by
  unfold e_S_takes_106b at h
  rcases Nat.eq_zero_or_pos n0 with e0 | hp
  · rw [e0]; exact lx_zero
  refine l1 (n := 1) rfl rfl rfl (li_of a3) ?_
  refine l_bi rfl (by decide) ?_
  refine l_ic rfl iv3 ⟨by decide, by decide⟩ (fun c => ?_) (fun c => ?_)
  · replace h := h.1 c
    refine l1 (n := 1) rfl rfl rfl rfl ?_
    refine l_s1 (n := 1) rfl rfl rfl rfl (fun ls y1 ho => ?_)
    have y2 := ho 0 _ (by decide) (fun q => by cases q.2) a0
    have y3 := ho 1 _ (by decide) (fun q => by cases q.2) a1
    have y4 := ho 2 _ (by decide) (fun q => by cases q.2) a2
    exact H_S_takes_139 hS hR mv0 mv1 mv2 ⟨by decide, by decide⟩ y2 y3 y4 y1 h
  · replace h := h.2 c
    refine l1 (n := 1) rfl rfl rfl (la_of a2) ?_
    refine l1 (n := 1) rfl rfl rfl (li_of a3) ?_
    refine b_iv (c := v2) (as := [zv v3]) (rest := []) rfl (by decide) (jo_8 hS mv2) rfl rfl (Nat.le_of_ble_eq_true rfl) (fun hq => ?_)
    refine lx_mono (H_D_hasWritten_m hS hR mv2 iv3 h) ?_
    rintro _ _ ⟨z1, M1, rfl, rfl, r1, iz1, h⟩
    refine l_if rfl iz1 (fun c => ?_) (fun c => ?_)
    · replace h := h.1 c
      exact H_S_takes_131 hS r1 mv0 mv1 mv2 iv3 a0 a1 a2 a3 (fun n' hn' => hb106 n' (by omega)) h
    · replace h := h.2 c
      refine l1 (n := 1) rfl rfl rfl (la_of a0) ?_
      refine l1 (n := 1) rfl rfl rfl (li_of a3) ?_
      refine l1 (n := 1) rfl rfl rfl (la_of a2) ?_
      refine l_gr rfl (jo_8 hS mv2) rfl (fun _ => rfl) (jf_8_1 r1.2 mv2) ?_
      refine l1 (n := 1) rfl rfl rfl (li_of a3) ?_
      refine b_la rfl (jt_8_1 (fz := fz) hS mv2).1 (Nat.le_of_ble_eq_true rfl) iv3 (fun q => ?_)
      replace h := h q
      refine b_iv (c := v0) (as := [zv v3, .long (gl M1 (v2 + 1) (v3).toNat)]) (rest := []) rfl (by decide) (jo_4 hS mv0) rfl rfl (Nat.le_of_ble_eq_true rfl) (fun hq => ?_)
      refine lx_mono (H_S_write_m hS r1 mv0 iv3 h) ?_
      rintro _ _ ⟨M2, rfl, rfl, r2, h⟩
      exact H_S_takes_131 hS r2 mv0 mv1 mv2 iv3 a0 a1 a2 a3 (fun n' hn' => hb106 n' (by omega)) h
theorem H_S_takes_106 {fz : Bool} {S : gS} {B : rf_M} {M : rf_M} {ls : rf_L} {n0 : Nat} {v0 : Nat} {v1 : Nat} {v2 : Nat} {v3 : Int} {K : Int → rf_M → Prop} (hS : rl S) (hR : fl 22 331 B M) (mv0 : v0 ∈ j4) (mv1 : v1 ∈ k1) (mv2 : v2 ∈ j8) (iv3 : inr v3) (a0 : rf_ld ls 0 = some (.ref v0)) (a1 : rf_ld ls 1 = some (.ref v1)) (a2 : rf_ld ls 2 = some (.ref v2)) (a3 : rf_ld ls 3 = some (zv v3)) (h : e_S_takes_106 v0 v1 v2 v3 M K) : lx (cx0 fz) n0 105 106 ls [] (M, S) (vl_i 22 331 B S K) := by
  obtain ⟨Inv, hm, hb⟩ := h
  induction n0 using Nat.strongRecOn generalizing ls M v0 v1 v2 v3 with
  | _ n0 ih =>
    refine H_S_takes_106b hS hR mv0 mv1 mv2 iv3 a0 a1 a2 a3 (fun n' hn' v0' v1' v2' v3' M' ls' hR' f0 f1 f2 f3 f4 f5 f6 f7 q2 => ih n' hn' hR' f0 f1 f2 f3 f4 f5 f6 f7 q2) (hb v0 v1 v2 v3 M iv3 hm)
theorem H_S_takes_74b {fz : Bool} {S : gS} {B : rf_M} {M : rf_M} {ls : rf_L} {n0 : Nat} {v0 : Nat} {v1 : Nat} {v2 : Nat} {v3 : Int} {b74 : Nat → Nat → Nat → Int → rf_M → Prop} {K : Int → rf_M → Prop} (hS : rl S) (hR : fl 22 331 B M) (mv0 : v0 ∈ j4) (mv1 : v1 ∈ k1) (mv2 : v2 ∈ j8) (iv3 : inr v3) (a0 : rf_ld ls 0 = some (.ref v0)) (a1 : rf_ld ls 1 = some (.ref v1)) (a2 : rf_ld ls 2 = some (.ref v2)) (a3 : rf_ld ls 3 = some (zv v3)) (hb74 : ∀ n', n' < n0 → ∀ (v0 : Nat) (v1 : Nat) (v2 : Nat) (v3 : Int) (M : rf_M) (ls : rf_L), fl 22 331 B M → v0 ∈ j4 → v1 ∈ k1 → v2 ∈ j8 → inr v3 → rf_ld ls 0 = some (.ref v0) → rf_ld ls 1 = some (.ref v1) → rf_ld ls 2 = some (.ref v2) → rf_ld ls 3 = some (zv v3) → b74 v0 v1 v2 v3 M → lx (cx0 fz) n' 105 74 ls [] (M, S) (vl_i 22 331 B S K)) (h : e_S_takes_74b v0 v1 v2 v3 M b74 K) : lx (cx0 fz) n0 105 74 ls [] (M, S) (vl_i 22 331 B S K) := by
  unfold e_S_takes_74b at h
  rcases Nat.eq_zero_or_pos n0 with e0 | hp
  · rw [e0]; exact lx_zero
  refine l1 (n := 1) rfl rfl rfl (li_of a3) ?_
  refine l1 (n := 1) rfl rfl rfl (la_of a2) ?_
  refine l_gi rfl (jo_8 hS mv2) rfl (fun _ => rfl) ?_
  refine l_ic rfl iv3 (inr_gi _ _ _) (fun c => ?_) (fun c => ?_)
  · replace h := h.1 c
    refine l1 (n := 1) rfl rfl rfl rfl ?_
    refine l_s1 (n := 1) rfl rfl rfl rfl (fun ls y1 ho => ?_)
    have y2 := ho 0 _ (by decide) (fun q => by cases q.2) a0
    have y3 := ho 1 _ (by decide) (fun q => by cases q.2) a1
    have y4 := ho 2 _ (by decide) (fun q => by cases q.2) a2
    exact H_S_takes_106 hS hR mv0 mv1 mv2 ⟨by decide, by decide⟩ y2 y3 y4 y1 h
  · replace h := h.2 c
    refine l1 (n := 1) rfl rfl rfl (la_of a0) ?_
    refine l1 (n := 1) rfl rfl rfl (la_of a1) ?_
    refine l1 (n := 1) rfl rfl rfl (la_of a2) ?_
    refine l_gr rfl (jo_8 hS mv2) rfl (fun _ => rfl) (jf_8_4 hR.2 mv2) ?_
    refine l1 (n := 1) rfl rfl rfl (li_of a3) ?_
    refine b_ia rfl (jt_8_4 (fz := fz) hS mv2).1 (Nat.le_of_ble_eq_true rfl) iv3 (fun q => ?_)
    replace h := h q
    refine b_iv (c := v0) (as := [.ref v1, zv (gi M (v2 + 3) (v3).toNat)]) (rest := []) rfl (by decide) (jo_4 hS mv0) rfl rfl (Nat.le_of_ble_eq_true rfl) (fun hq => ?_)
    refine lx_mono (H_S_holdsAhead_m hS hR mv0 mv1 (inr_gi _ _ _) h) ?_
    rintro _ _ ⟨z1, M1, rfl, rfl, r1, iz1, h⟩
    refine l_if rfl iz1 (fun c => ?_) (fun c => ?_)
    · replace h := h.2 c
      refine l_ii rfl a3 (Nat.le_of_ble_eq_true rfl) (fun ls y5 ho => ?_)
      have y6 := ho 0 _ (by decide) (fun q => by cases q.2) a0
      have y7 := ho 1 _ (by decide) (fun q => by cases q.2) a1
      have y8 := ho 2 _ (by decide) (fun q => by cases q.2) a2
      refine l3 rfl rfl rfl ?_
      obtain ⟨i1, h⟩ := h
      exact hb74 _ (by omega) _ _ _ _ _ _ r1 mv0 mv1 mv2 i1 y6 y7 y8 y5 h
    · replace h := h.1 (Classical.not_not.mp c)
      refine l1 (n := 1) rfl rfl rfl rfl ?_
      exact l_rb rfl rfl (Or.inl rfl) r1 h
theorem H_S_takes_74 {fz : Bool} {S : gS} {B : rf_M} {M : rf_M} {ls : rf_L} {n0 : Nat} {v0 : Nat} {v1 : Nat} {v2 : Nat} {v3 : Int} {K : Int → rf_M → Prop} (hS : rl S) (hR : fl 22 331 B M) (mv0 : v0 ∈ j4) (mv1 : v1 ∈ k1) (mv2 : v2 ∈ j8) (iv3 : inr v3) (a0 : rf_ld ls 0 = some (.ref v0)) (a1 : rf_ld ls 1 = some (.ref v1)) (a2 : rf_ld ls 2 = some (.ref v2)) (a3 : rf_ld ls 3 = some (zv v3)) (h : e_S_takes_74 v0 v1 v2 v3 M K) : lx (cx0 fz) n0 105 74 ls [] (M, S) (vl_i 22 331 B S K) := by
  obtain ⟨Inv, hm, hb⟩ := h
  induction n0 using Nat.strongRecOn generalizing ls M v0 v1 v2 v3 with
  | _ n0 ih =>
    refine H_S_takes_74b hS hR mv0 mv1 mv2 iv3 a0 a1 a2 a3 (fun n' hn' v0' v1' v2' v3' M' ls' hR' f0 f1 f2 f3 f4 f5 f6 f7 q2 => ih n' hn' hR' f0 f1 f2 f3 f4 f5 f6 f7 q2) (hb v0 v1 v2 v3 M iv3 hm)
theorem H_S_takes_17b {fz : Bool} {S : gS} {B : rf_M} {M : rf_M} {ls : rf_L} {n0 : Nat} {v0 : Nat} {v1 : Nat} {v2 : Nat} {v3 : Int} {b17 : Nat → Nat → Nat → Int → rf_M → Prop} {K : Int → rf_M → Prop} (hS : rl S) (hR : fl 22 331 B M) (mv0 : v0 ∈ j4) (mv1 : v1 ∈ k1) (mv2 : v2 ∈ j8) (iv3 : inr v3) (a0 : rf_ld ls 0 = some (.ref v0)) (a1 : rf_ld ls 1 = some (.ref v1)) (a2 : rf_ld ls 2 = some (.ref v2)) (a3 : rf_ld ls 3 = some (zv v3)) (hb17 : ∀ n', n' < n0 → ∀ (v0 : Nat) (v1 : Nat) (v2 : Nat) (v3 : Int) (M : rf_M) (ls : rf_L), fl 22 331 B M → v0 ∈ j4 → v1 ∈ k1 → v2 ∈ j8 → inr v3 → rf_ld ls 0 = some (.ref v0) → rf_ld ls 1 = some (.ref v1) → rf_ld ls 2 = some (.ref v2) → rf_ld ls 3 = some (zv v3) → b17 v0 v1 v2 v3 M → lx (cx0 fz) n' 105 17 ls [] (M, S) (vl_i 22 331 B S K)) (h : e_S_takes_17b v0 v1 v2 v3 M b17 K) : lx (cx0 fz) n0 105 17 ls [] (M, S) (vl_i 22 331 B S K) := by
  unfold e_S_takes_17b at h
  rcases Nat.eq_zero_or_pos n0 with e0 | hp
  · rw [e0]; exact lx_zero
  refine l1 (n := 1) rfl rfl rfl (li_of a3) ?_
  refine l_bi rfl (by decide) ?_
  refine l_ic rfl iv3 ⟨by decide, by decide⟩ (fun c => ?_) (fun c => ?_)
  · replace h := h.1 c
    refine l1 (n := 1) rfl rfl rfl (la_of a0) ?_
    refine l_gi rfl (jo_4 hS mv0) rfl (fun _ => rfl) ?_
    refine l1 (n := 1) rfl rfl rfl (la_of a2) ?_
    refine l_gi rfl (jo_8 hS mv2) rfl (fun _ => rfl) ?_
    refine l_add rfl ?_
    refine l_bi rfl (by decide) ?_
    obtain ⟨i1, h⟩ := h
    refine l_ic rfl i1 ⟨by decide, by decide⟩ (fun c => ?_) (fun c => ?_)
    · replace h := h.1 c
      exact H_S_takes_70 hS hR  h
    · replace h := h.2 c
      refine l1 (n := 1) rfl rfl rfl (la_of a0) ?_
      refine b_iv (c := v0) (as := []) (rest := []) rfl (by decide) (jo_4 hS mv0) rfl rfl (Nat.le_of_ble_eq_true rfl) (fun hq => ?_)
      refine lx_mono (H_S_holdAhead_m hS hR mv0 h) ?_
      rintro _ _ ⟨z1, M1, rfl, rfl, r1, iz1, h⟩
      refine l_if rfl iz1 (fun c => ?_) (fun c => ?_)
      · replace h := h.2 c
        refine l1 (n := 1) rfl rfl rfl rfl ?_
        refine l_s1 (n := 1) rfl rfl rfl rfl (fun ls y1 ho => ?_)
        have y2 := ho 0 _ (by decide) (fun q => by cases q.2) a0
        have y3 := ho 1 _ (by decide) (fun q => by cases q.2) a1
        have y4 := ho 2 _ (by decide) (fun q => by cases q.2) a2
        exact H_S_takes_74 hS r1 mv0 mv1 mv2 ⟨by decide, by decide⟩ y2 y3 y4 y1 h
      · replace h := h.1 (Classical.not_not.mp c)
        exact H_S_takes_70 hS r1  h
  · replace h := h.2 c
    refine l1 (n := 1) rfl rfl rfl (la_of a2) ?_
    refine l1 (n := 1) rfl rfl rfl (li_of a3) ?_
    refine b_iv (c := v2) (as := [zv v3]) (rest := []) rfl (by decide) (jo_8 hS mv2) rfl rfl (Nat.le_of_ble_eq_true rfl) (fun hq => ?_)
    refine lx_mono (H_D_hasWritten_m hS hR mv2 iv3 h) ?_
    rintro _ _ ⟨z2, M2, rfl, rfl, r2, iz2, h⟩
    refine l_if rfl iz2 (fun c => ?_) (fun c => ?_)
    · replace h := h.1 c
      exact H_S_takes_43 hS r2 mv0 mv1 mv2 iv3 a0 a1 a2 a3 (fun n' hn' => hb17 n' (by omega)) h
    · replace h := h.2 c
      refine l1 (n := 1) rfl rfl rfl (la_of a0) ?_
      refine l_gr rfl (jo_4 hS mv0) rfl (fun _ => rfl) (jf_4_5 r2.2 mv0) ?_
      refine l1 (n := 1) rfl rfl rfl (li_of a3) ?_
      refine l1 (n := 1) rfl rfl rfl (la_of a2) ?_
      refine l_gr rfl (jo_8 hS mv2) rfl (fun _ => rfl) (jf_8_1 r2.2 mv2) ?_
      refine l1 (n := 1) rfl rfl rfl (li_of a3) ?_
      refine b_la rfl (jt_8_1 (fz := fz) hS mv2).1 (Nat.le_of_ble_eq_true rfl) iv3 (fun q => ?_)
      replace h := h q
      refine b_ls rfl (jt_4_5 (fz := fz) hS mv0).1 (Nat.le_of_ble_eq_true rfl) iv3 (fun q M3 e => ?_)
      replace h := h q M3 e
      have r3 := r2.wl (jt_4_5 (fz := fz) hS mv0).1.1 (jt_4_5 (fz := fz) hS mv0).2 e
      exact H_S_takes_43 hS r3 mv0 mv1 mv2 iv3 a0 a1 a2 a3 (fun n' hn' => hb17 n' (by omega)) h
theorem H_S_takes_17 {fz : Bool} {S : gS} {B : rf_M} {M : rf_M} {ls : rf_L} {n0 : Nat} {v0 : Nat} {v1 : Nat} {v2 : Nat} {v3 : Int} {K : Int → rf_M → Prop} (hS : rl S) (hR : fl 22 331 B M) (mv0 : v0 ∈ j4) (mv1 : v1 ∈ k1) (mv2 : v2 ∈ j8) (iv3 : inr v3) (a0 : rf_ld ls 0 = some (.ref v0)) (a1 : rf_ld ls 1 = some (.ref v1)) (a2 : rf_ld ls 2 = some (.ref v2)) (a3 : rf_ld ls 3 = some (zv v3)) (h : e_S_takes_17 v0 v1 v2 v3 M K) : lx (cx0 fz) n0 105 17 ls [] (M, S) (vl_i 22 331 B S K) := by
  obtain ⟨Inv, hm, hb⟩ := h
  induction n0 using Nat.strongRecOn generalizing ls M v0 v1 v2 v3 with
  | _ n0 ih =>
    refine H_S_takes_17b hS hR mv0 mv1 mv2 iv3 a0 a1 a2 a3 (fun n' hn' v0' v1' v2' v3' M' ls' hR' f0 f1 f2 f3 f4 f5 f6 f7 q2 => ih n' hn' hR' f0 f1 f2 f3 f4 f5 f6 f7 q2) (hb v0 v1 v2 v3 M iv3 hm)
theorem H_S_takes {fz : Bool} {S : gS} {B : rf_M} {M : rf_M} {ls : rf_L} {n0 : Nat} {v0 : Nat} {v1 : Nat} {v2 : Nat} {K : Int → rf_M → Prop} (hS : rl S) (hR : fl 22 331 B M) (mv0 : v0 ∈ j4) (mv1 : v1 ∈ k1) (mv2 : v2 ∈ j8) (a0 : rf_ld ls 0 = some (.ref v0)) (a1 : rf_ld ls 1 = some (.ref v1)) (a2 : rf_ld ls 2 = some (.ref v2)) (h : e_S_takes v0 v1 v2 M K) : lx (cx0 fz) n0 105 0 ls [] (M, S) (vl_i 22 331 B S K) := by
  unfold e_S_takes at h
  refine l1 (n := 1) rfl rfl rfl (la_of a0) ?_
  refine l_gr rfl (jo_4 hS mv0) rfl (fun _ => rfl) (jf_4_0 hR.2 mv0) ?_
  refine l1 (n := 1) rfl rfl rfl rfl ?_
  refine l1 (n := 1) rfl rfl rfl (la_of a0) ?_
  refine l_gr rfl (jo_4 hS mv0) rfl (fun _ => rfl) (jf_4_5 hR.2 mv0) ?_
  refine l1 (n := 1) rfl rfl rfl rfl ?_
  refine l_bi rfl (by decide) ?_
  refine b_cpl rfl rfl (jt_4_0 (fz := fz) hS mv0).1 (jt_4_5 (fz := fz) hS mv0).1 ⟨by decide, by decide⟩ ⟨by decide, by decide⟩ ⟨by decide, by decide⟩ (fun q M1 e => ?_)
  replace h := h q M1 e
  have r1 := hR.cpl (jt_4_5 (fz := fz) hS mv0).1.1 (jt_4_5 (fz := fz) hS mv0).2 e
  refine l1 (n := 1) rfl rfl rfl rfl ?_
  refine l_s1 (n := 1) rfl rfl rfl rfl (fun ls y1 ho => ?_)
  have y2 := ho 0 _ (by decide) (fun q => by cases q.2) a0
  have y3 := ho 1 _ (by decide) (fun q => by cases q.2) a1
  have y4 := ho 2 _ (by decide) (fun q => by cases q.2) a2
  exact H_S_takes_17 hS r1 mv0 mv1 mv2 ⟨by decide, by decide⟩ y2 y3 y4 y1 h
theorem H_S_takes_m {fz : Bool} {S : gS} {B : rf_M} {M : rf_M} {n0 : Nat} {x0 : Nat} {x1 : Nat} {x2 : Nat} {K : Int → rf_M → Prop} (hS : rl S) (hR : fl 22 331 B M) (mx0 : x0 ∈ j4) (mx1 : x1 ∈ k1) (mx2 : x2 ∈ j8) (h : em_S_takes x0 x1 x2 M K) : lx (cx0 fz) n0 105 0 (lv_args 0 [.ref x0, .ref x1, .ref x2]) [] (M, S) (vl_i 22 331 B S K) :=
  H_S_takes hS hR mx0 mx1 mx2 rfl rfl rfl h
theorem H_C_forgetCuts {fz : Bool} {S : gS} {B : rf_M} {M : rf_M} {ls : rf_L} {n0 : Nat} {v0 : Nat} {K : rf_M → Prop} (hS : rl S) (hR : fl 22 331 B M) (mv0 : v0 ∈ j6) (a0 : rf_ld ls 0 = some (.ref v0)) (h : e_C_forgetCuts v0 M K) : lx (cx0 fz) n0 107 0 ls [] (M, S) (vl_v 22 331 B S K) := by
  unfold e_C_forgetCuts at h
  refine l1 (n := 1) rfl rfl rfl (la_of a0) ?_
  refine l1 (n := 1) rfl rfl rfl rfl ?_
  refine l_pi rfl (jo_6 (fz := fz) hS mv0) rfl (fun _ _ => rfl) (fun M1 e => ?_)
  replace h := h M1 e
  have r1 := hR.wi (jo_6 (fz := fz) hS mv0).1 (jl_6 mv0) e
  refine l1 (n := 1) rfl rfl rfl (la_of a0) ?_
  refine l1 (n := 1) rfl rfl rfl rfl ?_
  refine l_pb rfl (jo_6 (fz := fz) hS mv0) rfl rfl (Or.inl rfl) (fun M2 e => ?_)
  replace h := h M2 e
  have r2 := r1.wi (jo_6 (fz := fz) hS mv0).1 (jl_6 mv0) e
  exact l_rv rfl rfl r2 h
theorem H_C_forgetCuts_m {fz : Bool} {S : gS} {B : rf_M} {M : rf_M} {n0 : Nat} {x0 : Nat} {K : rf_M → Prop} (hS : rl S) (hR : fl 22 331 B M) (mx0 : x0 ∈ j6) (h : em_C_forgetCuts x0 M K) : lx (cx0 fz) n0 107 0 (lv_args 0 [.ref x0]) [] (M, S) (vl_v 22 331 B S K) :=
  H_C_forgetCuts hS hR mx0 rfl h
theorem H_C_finish_47 {fz : Bool} {S : gS} {B : rf_M} {M : rf_M} {ls : rf_L} {n0 : Nat} {v0 : Nat} {s0 : Nat} {s1 : Int} {K : rf_M → Prop} (hS : rl S) (hR : fl 22 331 B M) (mv0 : v0 ∈ j6) (ms0 : s0 ∈ j6) (is1 : inr s1) (a0 : rf_ld ls 0 = some (.ref v0)) (h : e_C_finish_47 v0 s0 s1 M K) : lx (cx0 fz) n0 106 47 ls [zv s1, .ref s0] (M, S) (vl_v 22 331 B S K) := by
  unfold e_C_finish_47 at h
  refine l_pi rfl (jo_6 (fz := fz) hS ms0) rfl (fun _ _ => rfl) (fun M1 e => ?_)
  replace h := h M1 e
  have r1 := hR.wi (jo_6 (fz := fz) hS ms0).1 (jl_6 ms0) e
  refine l1 (n := 1) rfl rfl rfl (la_of a0) ?_
  refine b_iv (c := v0) (as := []) (rest := []) rfl (by decide) (jo_6 hS mv0) rfl rfl (Nat.le_of_ble_eq_true rfl) (fun hq => ?_)
  refine lx_mono (H_C_forgetCuts_m hS r1 mv0 h) ?_
  rintro _ _ ⟨M2, rfl, rfl, r2, h⟩
  exact l_rv rfl rfl r2 h
theorem H_C_finish_34 {fz : Bool} {S : gS} {B : rf_M} {M : rf_M} {ls : rf_L} {n0 : Nat} {v0 : Nat} {K : rf_M → Prop} (hS : rl S) (hR : fl 22 331 B M) (mv0 : v0 ∈ j6) (a0 : rf_ld ls 0 = some (.ref v0)) (h : e_C_finish_34 v0 M K) : lx (cx0 fz) n0 106 34 ls [] (M, S) (vl_v 22 331 B S K) := by
  unfold e_C_finish_34 at h
  refine l1 (n := 1) rfl rfl rfl (la_of a0) ?_
  refine l1 (n := 1) rfl rfl rfl (la_of a0) ?_
  refine l_gi rfl (jo_6 hS mv0) rfl (fun _ => rfl) ?_
  refine l_if rfl (inr_gi _ _ _) (fun c => ?_) (fun c => ?_)
  · replace h := h.1 c
    refine l1 (n := 1) rfl rfl rfl rfl ?_
    exact H_C_finish_47 hS hR mv0 mv0 ⟨by decide, by decide⟩ a0 h
  · replace h := h.2 c
    refine l1 (n := 1) rfl rfl rfl rfl ?_
    refine l3 rfl rfl rfl ?_
    exact H_C_finish_47 hS hR mv0 mv0 ⟨by decide, by decide⟩ a0 h
theorem H_C_finish {fz : Bool} {S : gS} {B : rf_M} {M : rf_M} {ls : rf_L} {n0 : Nat} {v0 : Nat} {K : rf_M → Prop} (hS : rl S) (hR : fl 22 331 B M) (mv0 : v0 ∈ j6) (a0 : rf_ld ls 0 = some (.ref v0)) (h : e_C_finish v0 M K) : lx (cx0 fz) n0 106 0 ls [] (M, S) (vl_v 22 331 B S K) := by
  unfold e_C_finish at h
  refine l1 (n := 1) rfl rfl rfl (la_of a0) ?_
  refine l_gi rfl (jo_6 hS mv0) rfl (fun _ => rfl) ?_
  refine l_if rfl (inr_gi _ _ _) (fun c => ?_) (fun c => ?_)
  · replace h := h.1 c
    exact H_C_finish_34 hS hR mv0 a0 h
  · replace h := h.2 c
    refine l1 (n := 1) rfl rfl rfl (la_of a0) ?_
    refine l0 rfl rfl rfl ?_
    refine l_gi rfl (jo_6 hS mv0) rfl (fun _ => rfl) ?_
    refine l1 (n := 1) rfl rfl rfl rfl ?_
    refine l_sub rfl ?_
    refine l_pi rfl (jo_6 (fz := fz) hS mv0) rfl (fun _ _ => rfl) (fun M1 e => ?_)
    replace h := h M1 e
    have r1 := hR.wi (jo_6 (fz := fz) hS mv0).1 (jl_6 mv0) e
    refine l1 (n := 1) rfl rfl rfl (la_of a0) ?_
    refine l_gr rfl (jo_6 hS mv0) rfl (fun _ => rfl) (jf_6_3 r1.2 mv0) ?_
    refine l1 (n := 1) rfl rfl rfl rfl ?_
    refine l1 (n := 1) rfl rfl rfl (la_of a0) ?_
    refine l_gr rfl (jo_6 hS mv0) rfl (fun _ => rfl) (jf_6_3 r1.2 mv0) ?_
    refine l1 (n := 1) rfl rfl rfl rfl ?_
    refine l1 (n := 1) rfl rfl rfl (la_of a0) ?_
    refine l_gi rfl (jo_6 hS mv0) rfl (fun _ => rfl) ?_
    refine b_cpi rfl rfl (jt_6_3 (fz := fz) hS mv0).1 (jt_6_3 (fz := fz) hS mv0).1 ⟨by decide, by decide⟩ ⟨by decide, by decide⟩ (inr_gi _ _ _) (fun q M2 e => ?_)
    replace h := h q M2 e
    have r2 := r1.cpi (jt_6_3 (fz := fz) hS mv0).1.1 (jt_6_3 (fz := fz) hS mv0).2 e
    exact H_C_finish_34 hS r2 mv0 a0 h
theorem H_C_finish_m {fz : Bool} {S : gS} {B : rf_M} {M : rf_M} {n0 : Nat} {x0 : Nat} {K : rf_M → Prop} (hS : rl S) (hR : fl 22 331 B M) (mx0 : x0 ∈ j6) (h : em_C_finish x0 M K) : lx (cx0 fz) n0 106 0 (lv_args 0 [.ref x0]) [] (M, S) (vl_v 22 331 B S K) :=
  H_C_finish hS hR mx0 rfl h
theorem H_M_closeRun_125 {fz : Bool} {S : gS} {B : rf_M} {M : rf_M} {ls : rf_L} {n0 : Nat} {s0 : Int} {K : Int → rf_M → Prop} (hS : rl S) (hR : fl 22 331 B M) (is0 : inr s0) (h : e_M_closeRun_125 s0 M K) : lx (cx0 fz) n0 104 125 ls [zv s0] (M, S) (vl_i 22 331 B S K) := by
  unfold e_M_closeRun_125 at h
  exact l_ri rfl rfl is0 hR h
theorem H_M_closeRun_77 {fz : Bool} {S : gS} {B : rf_M} {M : rf_M} {ls : rf_L} {n0 : Nat} {v1 : Int} {v3 : Nat} {v4 : Nat} {v5 : Int} {s0 : Int} {K : Int → rf_M → Prop} (hS : rl S) (hR : fl 22 331 B M) (iv1 : inr v1) (mv3 : v3 ∈ j6) (mv4 : v4 ∈ j7) (iv5 : inr v5) (is0 : inr s0) (a0 : rf_ld ls 0 = some (.ref 22)) (a1 : rf_ld ls 1 = some (zv v1)) (a3 : rf_ld ls 3 = some (.ref v3)) (a4 : rf_ld ls 4 = some (.ref v4)) (a5 : rf_ld ls 5 = some (zv v5)) (h : e_M_closeRun_77 v1 v3 v4 v5 s0 M K) : lx (cx0 fz) n0 104 77 ls [zv s0] (M, S) (vl_i 22 331 B S K) := by
  unfold e_M_closeRun_77 at h
  refine l_s1 (n := 2) rfl rfl rfl rfl (fun ls y1 ho => ?_)
  have y2 := ho 0 _ (by decide) (fun q => by cases q.2) a0
  have y3 := ho 1 _ (by decide) (fun q => by cases q.2) a1
  have y4 := ho 3 _ (by decide) (fun q => by cases q.2) a3
  have y5 := ho 4 _ (by decide) (fun q => by cases q.2) a4
  have y6 := ho 5 _ (by decide) (fun q => by cases q.2) a5
  refine l1 (n := 1) rfl rfl rfl (la_of y2) ?_
  refine l_gr rfl (ko_0 hS (List.Mem.head _)) rfl (fun _ => rfl) (kf_0_8 hR.2 (List.Mem.head _)) ?_
  refine l1 (n := 2) rfl rfl rfl (li_of y1) ?_
  refine l1 (n := 1) rfl rfl rfl (li_of y3) ?_
  refine l1 (n := 1) rfl rfl rfl (la_of y4) ?_
  refine l_gr rfl (jo_6 hS mv3) rfl (fun _ => rfl) (jf_6_3 hR.2 mv3) ?_
  refine l1 (n := 1) rfl rfl rfl rfl ?_
  refine b_ia rfl (jt_6_3 (fz := fz) hS mv3).1 (Nat.le_of_ble_eq_true rfl) ⟨by decide, by decide⟩ (fun q => ?_)
  replace h := h q
  refine l1 (n := 2) rfl rfl rfl (la_of y5) ?_
  refine l_gi rfl (jo_7 hS mv4) rfl (fun _ => rfl) ?_
  refine l1 (n := 1) rfl rfl rfl rfl ?_
  refine l_add rfl ?_
  refine l1 (n := 1) rfl rfl rfl (la_of y4) ?_
  refine l_gi rfl (jo_6 hS mv3) rfl (fun _ => rfl) ?_
  refine l1 (n := 2) rfl rfl rfl (la_of y5) ?_
  refine l_gl rfl (jo_7 hS mv4) rfl (fun _ => rfl) ?_
  obtain ⟨i1, h⟩ := h
  refine b_iv (c := 324) (as := [zv s0, zv v1, zv (gi M (v3 + 1) 0), zv ((gi M v4 1) + 1), zv (gi M v3 1), .long (gl M v4 3)]) (rest := []) rfl (by decide) (ko_9 hS (List.Mem.head _)) rfl rfl (Nat.le_of_ble_eq_true rfl) (fun hq => ?_)
  refine lx_mono (H_J_note_m hS hR is0 iv1 (inr_gi _ _ _) i1 (inr_gi _ _ _) h) ?_
  rintro _ _ ⟨M1, rfl, rfl, r1, h⟩
  refine l1 (n := 1) rfl rfl rfl (la_of y4) ?_
  refine b_iv (c := v3) (as := []) (rest := []) rfl (by decide) (jo_6 hS mv3) rfl rfl (Nat.le_of_ble_eq_true rfl) (fun hq => ?_)
  refine lx_mono (H_C_finish_m hS r1 mv3 h) ?_
  rintro _ _ ⟨M2, rfl, rfl, r2, h⟩
  refine l1 (n := 2) rfl rfl rfl (li_of y6) ?_
  refine l_if rfl iv5 (fun c => ?_) (fun c => ?_)
  · replace h := h.1 c
    refine l1 (n := 1) rfl rfl rfl rfl ?_
    exact H_M_closeRun_125 hS r2 ⟨by decide, by decide⟩ h
  · replace h := h.2 c
    refine l1 (n := 1) rfl rfl rfl rfl ?_
    refine l3 rfl rfl rfl ?_
    exact H_M_closeRun_125 hS r2 ⟨by decide, by decide⟩ h
