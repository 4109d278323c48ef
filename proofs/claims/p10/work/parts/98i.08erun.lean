def e_S_takes_139 (v0 : Nat) (v1 : Nat) (v2 : Nat) (v3 : Int) (M : rf_M) (K : Int → rf_M → Prop) : Prop := ∃ Inv : Nat → Nat → Nat → Int → rf_M → Prop, Inv v0 v1 v2 v3 M ∧ ∀ (v0 : Nat) (v1 : Nat) (v2 : Nat) (v3 : Int) (M : rf_M), inr v3 → Inv v0 v1 v2 v3 M → e_S_takes_139b v0 v1 v2 v3 M Inv K
theorem E_S_takes_139 {fz : Bool} {S : gS} {B : rf_M} {M : rf_M} {ls : rf_L} {n0 : Nat} {v0 : Nat} {v1 : Nat} {v2 : Nat} {v3 : Int} {K : Int → rf_M → Prop} (hS : rl S) (hR : fl 22 353 B M) (mv0 : v0 ∈ k4) (mv1 : v1 ∈ k1) (mv2 : v2 ∈ k8) (iv3 : inr v3) (a0 : rf_ld ls 0 = some (.ref v0)) (a1 : rf_ld ls 1 = some (.ref v1)) (a2 : rf_ld ls 2 = some (.ref v2)) (a3 : rf_ld ls 3 = some (zv v3)) (h : e_S_takes_139 v0 v1 v2 v3 M K) : lx (cx0 fz) n0 105 139 ls [] (M, S) (vl_i 22 353 B S K) := by
  obtain ⟨Inv, hm, hb⟩ := h
  induction n0 using Nat.strongRecOn generalizing ls M v0 v1 v2 v3 with
  | _ n0 ih =>
    refine E_S_takes_139b hS hR mv0 mv1 mv2 iv3 a0 a1 a2 a3 (fun n' hn' v0' v1' v2' v3' M' ls' hR' f0 f1 f2 f3 f4 f5 f6 f7 q2 => ih n' hn' hR' f0 f1 f2 f3 f4 f5 f6 f7 q2) (hb v0 v1 v2 v3 M iv3 hm)
def e_S_takes_106b (v0 : Nat) (v1 : Nat) (v2 : Nat) (v3 : Int) (M : rf_M) (b106 : Nat → Nat → Nat → Int → rf_M → Prop) (K : Int → rf_M → Prop) : Prop := (16 ≤ v3 → (e_S_takes_139 v0 v1 v2 0 M K)) ∧ (¬ (16 ≤ v3) → (em_D_hasWritten v2 v3 M (fun (z1 : Int) (M1 : rf_M) => (z1 = 0 → (e_S_takes_131 v0 v1 v2 v3 M1 b106 K)) ∧ (¬ (z1 = 0) → ((0 ≤ v3 ∧ v3 < 16 → (em_S_write v0 v3 (gl M1 (v2 + 1) (v3).toNat) M1 (fun (M2 : rf_M) => e_S_takes_131 v0 v1 v2 v3 M2 b106 K))))))))
theorem E_S_takes_106b {fz : Bool} {S : gS} {B : rf_M} {M : rf_M} {ls : rf_L} {n0 : Nat} {v0 : Nat} {v1 : Nat} {v2 : Nat} {v3 : Int} {b106 : Nat → Nat → Nat → Int → rf_M → Prop} {K : Int → rf_M → Prop} (hS : rl S) (hR : fl 22 353 B M) (mv0 : v0 ∈ k4) (mv1 : v1 ∈ k1) (mv2 : v2 ∈ k8) (iv3 : inr v3) (a0 : rf_ld ls 0 = some (.ref v0)) (a1 : rf_ld ls 1 = some (.ref v1)) (a2 : rf_ld ls 2 = some (.ref v2)) (a3 : rf_ld ls 3 = some (zv v3)) (hb106 : ∀ n', n' < n0 → ∀ (v0 : Nat) (v1 : Nat) (v2 : Nat) (v3 : Int) (M : rf_M) (ls : rf_L), fl 22 353 B M → v0 ∈ k4 → v1 ∈ k1 → v2 ∈ k8 → inr v3 → rf_ld ls 0 = some (.ref v0) → rf_ld ls 1 = some (.ref v1) → rf_ld ls 2 = some (.ref v2) → rf_ld ls 3 = some (zv v3) → b106 v0 v1 v2 v3 M → lx (cx0 fz) n' 105 106 ls [] (M, S) (vl_i 22 353 B S K)) (h : e_S_takes_106b v0 v1 v2 v3 M b106 K) : lx (cx0 fz) n0 105 106 ls [] (M, S) (vl_i 22 353 B S K) := by
  unfold e_S_takes_106b at h
  rcases Nat.eq_zero_or_pos n0 with e0 | hp
  · rw [e0]; exact lx_zero
  refine l1 (n := 1) rfl rfl rfl (li_of a3) ?_
  refine l_bi rfl (by decide) ?_
  refine l_ic rfl iv3 ⟨by decide, by decide⟩ (fun c => ?_) (fun c => ?_)
  · replace h := h.1 c
    refine l1 (n := 1) rfl rfl rfl rfl ?_
    refine l_s1 (n := 1) rfl rfl rfl rfl (fun ls y1 ho => ?_)
    have y2 := ho 0 _ (by decide) (fun q => by cases q.2) a0
    have y3 := ho 1 _ (by decide) (fun q => by cases q.2) a1
    have y4 := ho 2 _ (by decide) (fun q => by cases q.2) a2
    exact E_S_takes_139 hS hR mv0 mv1 mv2 ⟨by decide, by decide⟩ y2 y3 y4 y1 h
  · replace h := h.2 c
    refine l1 (n := 1) rfl rfl rfl (la_of a2) ?_
    refine l1 (n := 1) rfl rfl rfl (li_of a3) ?_
    refine b_iv (c := v2) (as := [zv v3]) (rest := []) rfl (by decide) (ko_8 hS mv2) rfl rfl (Nat.le_of_ble_eq_true rfl) (fun hq => ?_)
    refine lx_mono (E_D_hasWritten_m hS hR mv2 iv3 h) ?_
    rintro _ _ ⟨z1, M1, rfl, rfl, r1, iz1, h⟩
    refine l_if rfl iz1 (fun c => ?_) (fun c => ?_)
    · replace h := h.1 c
      exact E_S_takes_131 hS r1 mv0 mv1 mv2 iv3 a0 a1 a2 a3 (fun n' hn' => hb106 n' (by omega)) h
    · replace h := h.2 c
      refine l1 (n := 1) rfl rfl rfl (la_of a0) ?_
      refine l1 (n := 1) rfl rfl rfl (li_of a3) ?_
      refine l1 (n := 1) rfl rfl rfl (la_of a2) ?_
      refine l_gr rfl (ko_8 hS mv2) rfl (fun _ => rfl) (kf_8_1 r1.2 mv2) ?_
      refine l1 (n := 1) rfl rfl rfl (li_of a3) ?_
      refine b_la rfl (kt_8_1 (fz := fz) hS mv2).1 (Nat.le_of_ble_eq_true rfl) iv3 (fun q => ?_)
      replace h := h q
      refine b_iv (c := v0) (as := [zv v3, .long (gl M1 (v2 + 1) (v3).toNat)]) (rest := []) rfl (by decide) (ko_4 hS mv0) rfl rfl (Nat.le_of_ble_eq_true rfl) (fun hq => ?_)
      refine lx_mono (E_S_write_m hS r1 mv0 iv3 h) ?_
      rintro _ _ ⟨M2, rfl, rfl, r2, h⟩
      exact E_S_takes_131 hS r2 mv0 mv1 mv2 iv3 a0 a1 a2 a3 (fun n' hn' => hb106 n' (by omega)) h
def e_S_takes_106 (v0 : Nat) (v1 : Nat) (v2 : Nat) (v3 : Int) (M : rf_M) (K : Int → rf_M → Prop) : Prop := ∃ Inv : Nat → Nat → Nat → Int → rf_M → Prop, Inv v0 v1 v2 v3 M ∧ ∀ (v0 : Nat) (v1 : Nat) (v2 : Nat) (v3 : Int) (M : rf_M), inr v3 → Inv v0 v1 v2 v3 M → e_S_takes_106b v0 v1 v2 v3 M Inv K
theorem E_S_takes_106 {fz : Bool} {S : gS} {B : rf_M} {M : rf_M} {ls : rf_L} {n0 : Nat} {v0 : Nat} {v1 : Nat} {v2 : Nat} {v3 : Int} {K : Int → rf_M → Prop} (hS : rl S) (hR : fl 22 353 B M) (mv0 : v0 ∈ k4) (mv1 : v1 ∈ k1) (mv2 : v2 ∈ k8) (iv3 : inr v3) (a0 : rf_ld ls 0 = some (.ref v0)) (a1 : rf_ld ls 1 = some (.ref v1)) (a2 : rf_ld ls 2 = some (.ref v2)) (a3 : rf_ld ls 3 = some (zv v3)) (h : e_S_takes_106 v0 v1 v2 v3 M K) : lx (cx0 fz) n0 105 106 ls [] (M, S) (vl_i 22 353 B S K) := by
  obtain ⟨Inv, hm, hb⟩ := h
  induction n0 using Nat.strongRecOn generalizing ls M v0 v1 v2 v3 with
  | _ n0 ih =>
    refine E_S_takes_106b hS hR mv0 mv1 mv2 iv3 a0 a1 a2 a3 (fun n' hn' v0' v1' v2' v3' M' ls' hR' f0 f1 f2 f3 f4 f5 f6 f7 q2 => ih n' hn' hR' f0 f1 f2 f3 f4 f5 f6 f7 q2) (hb v0 v1 v2 v3 M iv3 hm)
def e_S_takes_74b (v0 : Nat) (v1 : Nat) (v2 : Nat) (v3 : Int) (M : rf_M) (b74 : Nat → Nat → Nat → Int → rf_M → Prop) (K : Int → rf_M → Prop) : Prop := ((gi M v2 3) ≤ v3 → (e_S_takes_106 v0 v1 v2 0 M K)) ∧ (¬ ((gi M v2 3) ≤ v3) → ((0 ≤ v3 ∧ v3 < 300 → (em_S_holdsAhead v0 v1 (gi M (v2 + 3) (v3).toNat) M (fun (z1 : Int) (M1 : rf_M) => (z1 = 0 → (K 0 M1)) ∧ (¬ z1 = 0 → (inr (v3 + 1) ∧ (b74 v0 v1 v2 (v3 + 1) M1))))))))
theorem E_S_takes_74b {fz : Bool} {S : gS} {B : rf_M} {M : rf_M} {ls : rf_L} {n0 : Nat} {v0 : Nat} {v1 : Nat} {v2 : Nat} {v3 : Int} {b74 : Nat → Nat → Nat → Int → rf_M → Prop} {K : Int → rf_M → Prop} (hS : rl S) (hR : fl 22 353 B M) (mv0 : v0 ∈ k4) (mv1 : v1 ∈ k1) (mv2 : v2 ∈ k8) (iv3 : inr v3) (a0 : rf_ld ls 0 = some (.ref v0)) (a1 : rf_ld ls 1 = some (.ref v1)) (a2 : rf_ld ls 2 = some (.ref v2)) (a3 : rf_ld ls 3 = some (zv v3)) (hb74 : ∀ n', n' < n0 → ∀ (v0 : Nat) (v1 : Nat) (v2 : Nat) (v3 : Int) (M : rf_M) (ls : rf_L), fl 22 353 B M → v0 ∈ k4 → v1 ∈ k1 → v2 ∈ k8 → inr v3 → rf_ld ls 0 = some (.ref v0) → rf_ld ls 1 = some (.ref v1) → rf_ld ls 2 = some (.ref v2) → rf_ld ls 3 = some (zv v3) → b74 v0 v1 v2 v3 M → lx (cx0 fz) n' 105 74 ls [] (M, S) (vl_i 22 353 B S K)) (h : e_S_takes_74b v0 v1 v2 v3 M b74 K) : lx (cx0 fz) n0 105 74 ls [] (M, S) (vl_i 22 353 B S K) := by
  unfold e_S_takes_74b at h
  rcases Nat.eq_zero_or_pos n0 with e0 | hp
  · rw [e0]; exact lx_zero
  refine l1 (n := 1) rfl rfl rfl (li_of a3) ?_
  refine l1 (n := 1) rfl rfl rfl (la_of a2) ?_
  refine l_gi rfl (ko_8 hS mv2) rfl (fun _ => rfl) ?_
  refine l_ic rfl iv3 (inr_gi _ _ _) (fun c => ?_) (fun c => ?_)
  · replace h := h.1 c
    refine l1 (n := 1) rfl rfl rfl rfl ?_
    refine l_s1 (n := 1) rfl rfl rfl rfl (fun ls y1 ho => ?_)
    have y2 := ho 0 _ (by decide) (fun q => by cases q.2) a0
    have y3 := ho 1 _ (by decide) (fun q => by cases q.2) a1
    have y4 := ho 2 _ (by decide) (fun q => by cases q.2) a2
    exact E_S_takes_106 hS hR mv0 mv1 mv2 ⟨by decide, by decide⟩ y2 y3 y4 y1 h
  · replace h := h.2 c
    refine l1 (n := 1) rfl rfl rfl (la_of a0) ?_
    refine l1 (n := 1) rfl rfl rfl (la_of a1) ?_
    refine l1 (n := 1) rfl rfl rfl (la_of a2) ?_
    refine l_gr rfl (ko_8 hS mv2) rfl (fun _ => rfl) (kf_8_4 hR.2 mv2) ?_
    refine l1 (n := 1) rfl rfl rfl (li_of a3) ?_
    refine b_ia rfl (kt_8_4 (fz := fz) hS mv2).1 (Nat.le_of_ble_eq_true rfl) iv3 (fun q => ?_)
    replace h := h q
    refine b_iv (c := v0) (as := [.ref v1, zv (gi M (v2 + 3) (v3).toNat)]) (rest := []) rfl (by decide) (ko_4 hS mv0) rfl rfl (Nat.le_of_ble_eq_true rfl) (fun hq => ?_)
    refine lx_mono (E_S_holdsAhead_m hS hR mv0 mv1 (inr_gi _ _ _) h) ?_
    rintro _ _ ⟨z1, M1, rfl, rfl, r1, iz1, h⟩
    refine l_if rfl iz1 (fun c => ?_) (fun c => ?_)
    · replace h := h.2 c
      refine l_ii rfl a3 (Nat.le_of_ble_eq_true rfl) (fun ls y5 ho => ?_)
      have y6 := ho 0 _ (by decide) (fun q => by cases q.2) a0
      have y7 := ho 1 _ (by decide) (fun q => by cases q.2) a1
      have y8 := ho 2 _ (by decide) (fun q => by cases q.2) a2
      refine l3 rfl rfl rfl ?_
      obtain ⟨i1, h⟩ := h
      exact hb74 _ (by omega) _ _ _ _ _ _ r1 mv0 mv1 mv2 i1 y6 y7 y8 y5 h
    · replace h := h.1 (Classical.not_not.mp c)
      refine l1 (n := 1) rfl rfl rfl rfl ?_
      exact l_rb rfl rfl (Or.inl rfl) r1 h
def e_S_takes_74 (v0 : Nat) (v1 : Nat) (v2 : Nat) (v3 : Int) (M : rf_M) (K : Int → rf_M → Prop) : Prop := ∃ Inv : Nat → Nat → Nat → Int → rf_M → Prop, Inv v0 v1 v2 v3 M ∧ ∀ (v0 : Nat) (v1 : Nat) (v2 : Nat) (v3 : Int) (M : rf_M), inr v3 → Inv v0 v1 v2 v3 M → e_S_takes_74b v0 v1 v2 v3 M Inv K
theorem E_S_takes_74 {fz : Bool} {S : gS} {B : rf_M} {M : rf_M} {ls : rf_L} {n0 : Nat} {v0 : Nat} {v1 : Nat} {v2 : Nat} {v3 : Int} {K : Int → rf_M → Prop} (hS : rl S) (hR : fl 22 353 B M) (mv0 : v0 ∈ k4) (mv1 : v1 ∈ k1) (mv2 : v2 ∈ k8) (iv3 : inr v3) (a0 : rf_ld ls 0 = some (.ref v0)) (a1 : rf_ld ls 1 = some (.ref v1)) (a2 : rf_ld ls 2 = some (.ref v2)) (a3 : rf_ld ls 3 = some (zv v3)) (h : e_S_takes_74 v0 v1 v2 v3 M K) : lx (cx0 fz) n0 105 74 ls [] (M, S) (vl_i 22 353 B S K) := by
  obtain ⟨Inv, hm, hb⟩ := h
  induction n0 using Nat.strongRecOn generalizing ls M v0 v1 v2 v3 with
  | _ n0 ih =>
    refine E_S_takes_74b hS hR mv0 mv1 mv2 iv3 a0 a1 a2 a3 (fun n' hn' v0' v1' v2' v3' M' ls' hR' f0 f1 f2 f3 f4 f5 f6 f7 q2 => ih n' hn' hR' f0 f1 f2 f3 f4 f5 f6 f7 q2) (hb v0 v1 v2 v3 M iv3 hm)
def e_S_takes_17b (v0 : Nat) (v1 : Nat) (v2 : Nat) (v3 : Int) (M : rf_M) (b17 : Nat → Nat → Nat → Int → rf_M → Prop) (K : Int → rf_M → Prop) : Prop := (16 ≤ v3 → (inr ((gi M v0 2) + (gi M v2 3)) ∧ ((32 < ((gi M v0 2) + (gi M v2 3)) → (e_S_takes_70 M K)) ∧ (¬ (32 < ((gi M v0 2) + (gi M v2 3))) → (em_S_holdAhead v0 M (fun (z1 : Int) (M1 : rf_M) => (z1 = 0 → (e_S_takes_70 M1 K)) ∧ (¬ z1 = 0 → (e_S_takes_74 v0 v1 v2 0 M1 K)))))))) ∧ (¬ (16 ≤ v3) → (em_D_hasWritten v2 v3 M (fun (z2 : Int) (M2 : rf_M) => (z2 = 0 → (e_S_takes_43 v0 v1 v2 v3 M2 b17 K)) ∧ (¬ (z2 = 0) → ((0 ≤ v3 ∧ v3 < 16 → ((0 ≤ v3 ∧ v3 < 16 → (∀ M3 : rf_M, M3 = wl M2 (v0 + 5) (v3).toNat (gl M2 (v2 + 1) (v3).toNat) → (e_S_takes_43 v0 v1 v2 v3 M3 b17 K))))))))))
theorem E_S_takes_17b {fz : Bool} {S : gS} {B : rf_M} {M : rf_M} {ls : rf_L} {n0 : Nat} {v0 : Nat} {v1 : Nat} {v2 : Nat} {v3 : Int} {b17 : Nat → Nat → Nat → Int → rf_M → Prop} {K : Int → rf_M → Prop} (hS : rl S) (hR : fl 22 353 B M) (mv0 : v0 ∈ k4) (mv1 : v1 ∈ k1) (mv2 : v2 ∈ k8) (iv3 : inr v3) (a0 : rf_ld ls 0 = some (.ref v0)) (a1 : rf_ld ls 1 = some (.ref v1)) (a2 : rf_ld ls 2 = some (.ref v2)) (a3 : rf_ld ls 3 = some (zv v3)) (hb17 : ∀ n', n' < n0 → ∀ (v0 : Nat) (v1 : Nat) (v2 : Nat) (v3 : Int) (M : rf_M) (ls : rf_L), fl 22 353 B M → v0 ∈ k4 → v1 ∈ k1 → v2 ∈ k8 → inr v3 → rf_ld ls 0 = some (.ref v0) → rf_ld ls 1 = some (.ref v1) → rf_ld ls 2 = some (.ref v2) → rf_ld ls 3 = some (zv v3) → b17 v0 v1 v2 v3 M → lx (cx0 fz) n' 105 17 ls [] (M, S) (vl_i 22 353 B S K)) (h : e_S_takes_17b v0 v1 v2 v3 M b17 K) : lx (cx0 fz) n0 105 17 ls [] (M, S) (vl_i 22 353 B S K) := by
  unfold e_S_takes_17b at h
  rcases Nat.eq_zero_or_pos n0 with e0 | hp
  · rw [e0]; exact lx_zero
  refine l1 (n := 1) rfl rfl rfl (li_of a3) ?_
  refine l_bi rfl (by decide) ?_
  refine l_ic rfl iv3 ⟨by decide, by decide⟩ (fun c => ?_) (fun c => ?_)
  · replace h := h.1 c
    refine l1 (n := 1) rfl rfl rfl (la_of a0) ?_
    refine l_gi rfl (ko_4 hS mv0) rfl (fun _ => rfl) ?_
    refine l1 (n := 1) rfl rfl rfl (la_of a2) ?_
    refine l_gi rfl (ko_8 hS mv2) rfl (fun _ => rfl) ?_
    refine l_add rfl ?_
    refine l_bi rfl (by decide) ?_
    obtain ⟨i1, h⟩ := h
    refine l_ic rfl i1 ⟨by decide, by decide⟩ (fun c => ?_) (fun c => ?_)
    · replace h := h.1 c
      exact E_S_takes_70 hS hR  h
    · replace h := h.2 c
      refine l1 (n := 1) rfl rfl rfl (la_of a0) ?_
      refine b_iv (c := v0) (as := []) (rest := []) rfl (by decide) (ko_4 hS mv0) rfl rfl (Nat.le_of_ble_eq_true rfl) (fun hq => ?_)
      refine lx_mono (E_S_holdAhead_m hS hR mv0 h) ?_
      rintro _ _ ⟨z1, M1, rfl, rfl, r1, iz1, h⟩
      refine l_if rfl iz1 (fun c => ?_) (fun c => ?_)
      · replace h := h.2 c
        refine l1 (n := 1) rfl rfl rfl rfl ?_
        refine l_s1 (n := 1) rfl rfl rfl rfl (fun ls y1 ho => ?_)
        have y2 := ho 0 _ (by decide) (fun q => by cases q.2) a0
        have y3 := ho 1 _ (by decide) (fun q => by cases q.2) a1
        have y4 := ho 2 _ (by decide) (fun q => by cases q.2) a2
        exact E_S_takes_74 hS r1 mv0 mv1 mv2 ⟨by decide, by decide⟩ y2 y3 y4 y1 h
      · replace h := h.1 (Classical.not_not.mp c)
        exact E_S_takes_70 hS r1  h
  · replace h := h.2 c
    refine l1 (n := 1) rfl rfl rfl (la_of a2) ?_
    refine l1 (n := 1) rfl rfl rfl (li_of a3) ?_
    refine b_iv (c := v2) (as := [zv v3]) (rest := []) rfl (by decide) (ko_8 hS mv2) rfl rfl (Nat.le_of_ble_eq_true rfl) (fun hq => ?_)
    refine lx_mono (E_D_hasWritten_m hS hR mv2 iv3 h) ?_
    rintro _ _ ⟨z2, M2, rfl, rfl, r2, iz2, h⟩
    refine l_if rfl iz2 (fun c => ?_) (fun c => ?_)
    · replace h := h.1 c
      exact E_S_takes_43 hS r2 mv0 mv1 mv2 iv3 a0 a1 a2 a3 (fun n' hn' => hb17 n' (by omega)) h
    · replace h := h.2 c
      refine l1 (n := 1) rfl rfl rfl (la_of a0) ?_
      refine l_gr rfl (ko_4 hS mv0) rfl (fun _ => rfl) (kf_4_5 r2.2 mv0) ?_
      refine l1 (n := 1) rfl rfl rfl (li_of a3) ?_
      refine l1 (n := 1) rfl rfl rfl (la_of a2) ?_
      refine l_gr rfl (ko_8 hS mv2) rfl (fun _ => rfl) (kf_8_1 r2.2 mv2) ?_
      refine l1 (n := 1) rfl rfl rfl (li_of a3) ?_
      refine b_la rfl (kt_8_1 (fz := fz) hS mv2).1 (Nat.le_of_ble_eq_true rfl) iv3 (fun q => ?_)
      replace h := h q
      refine b_ls rfl (kt_4_5 (fz := fz) hS mv0).1 (Nat.le_of_ble_eq_true rfl) iv3 (fun q M3 e => ?_)
      replace h := h q M3 e
      have r3 := r2.wl (kt_4_5 (fz := fz) hS mv0).1.1 (kt_4_5 (fz := fz) hS mv0).2 e
      exact E_S_takes_43 hS r3 mv0 mv1 mv2 iv3 a0 a1 a2 a3 (fun n' hn' => hb17 n' (by omega)) h
def e_S_takes_17 (v0 : Nat) (v1 : Nat) (v2 : Nat) (v3 : Int) (M : rf_M) (K : Int → rf_M → Prop) : Prop := ∃ Inv : Nat → Nat → Nat → Int → rf_M → Prop, Inv v0 v1 v2 v3 M ∧ ∀ (v0 : Nat) (v1 : Nat) (v2 : Nat) (v3 : Int) (M : rf_M), inr v3 → Inv v0 v1 v2 v3 M → e_S_takes_17b v0 v1 v2 v3 M Inv K
theorem E_S_takes_17 {fz : Bool} {S : gS} {B : rf_M} {M : rf_M} {ls : rf_L} {n0 : Nat} {v0 : Nat} {v1 : Nat} {v2 : Nat} {v3 : Int} {K : Int → rf_M → Prop} (hS : rl S) (hR : fl 22 353 B M) (mv0 : v0 ∈ k4) (mv1 : v1 ∈ k1) (mv2 : v2 ∈ k8) (iv3 : inr v3) (a0 : rf_ld ls 0 = some (.ref v0)) (a1 : rf_ld ls 1 = some (.ref v1)) (a2 : rf_ld ls 2 = some (.ref v2)) (a3 : rf_ld ls 3 = some (zv v3)) (h : e_S_takes_17 v0 v1 v2 v3 M K) : lx (cx0 fz) n0 105 17 ls [] (M, S) (vl_i 22 353 B S K) := by
  obtain ⟨Inv, hm, hb⟩ := h
  induction n0 using Nat.strongRecOn generalizing ls M v0 v1 v2 v3 with
  | _ n0 ih =>
    refine E_S_takes_17b hS hR mv0 mv1 mv2 iv3 a0 a1 a2 a3 (fun n' hn' v0' v1' v2' v3' M' ls' hR' f0 f1 f2 f3 f4 f5 f6 f7 q2 => ih n' hn' hR' f0 f1 f2 f3 f4 f5 f6 f7 q2) (hb v0 v1 v2 v3 M iv3 hm)
def e_S_takes (v0 : Nat) (v1 : Nat) (v2 : Nat) (M : rf_M) (K : Int → rf_M → Prop) : Prop := ((0 ≤ (0 : Int) ∧ 0 ≤ (0 : Int) ∧ 0 ≤ (16 : Int)) ∧ (0 : Int) + (16 : Int) ≤ 16 ∧ (0 : Int) + (16 : Int) ≤ 16 → (∀ M1 : rf_M, M1 = cpl M (v0 + 1) 0 (v0 + 5) 0 16 → (e_S_takes_17 v0 v1 v2 0 M1 K)))
theorem E_S_takes {fz : Bool} {S : gS} {B : rf_M} {M : rf_M} {ls : rf_L} {n0 : Nat} {v0 : Nat} {v1 : Nat} {v2 : Nat} {K : Int → rf_M → Prop} (hS : rl S) (hR : fl 22 353 B M) (mv0 : v0 ∈ k4) (mv1 : v1 ∈ k1) (mv2 : v2 ∈ k8) (a0 : rf_ld ls 0 = some (.ref v0)) (a1 : rf_ld ls 1 = some (.ref v1)) (a2 : rf_ld ls 2 = some (.ref v2)) (h : e_S_takes v0 v1 v2 M K) : lx (cx0 fz) n0 105 0 ls [] (M, S) (vl_i 22 353 B S K) := by
  unfold e_S_takes at h
  refine l1 (n := 1) rfl rfl rfl (la_of a0) ?_
  refine l_gr rfl (ko_4 hS mv0) rfl (fun _ => rfl) (kf_4_0 hR.2 mv0) ?_
  refine l1 (n := 1) rfl rfl rfl rfl ?_
  refine l1 (n := 1) rfl rfl rfl (la_of a0) ?_
  refine l_gr rfl (ko_4 hS mv0) rfl (fun _ => rfl) (kf_4_5 hR.2 mv0) ?_
  refine l1 (n := 1) rfl rfl rfl rfl ?_
  refine l_bi rfl (by decide) ?_
  refine b_cpl rfl rfl (kt_4_0 (fz := fz) hS mv0).1 (kt_4_5 (fz := fz) hS mv0).1 ⟨by decide, by decide⟩ ⟨by decide, by decide⟩ ⟨by decide, by decide⟩ (fun q M1 e => ?_)
  replace h := h q M1 e
  have r1 := hR.cpl (kt_4_5 (fz := fz) hS mv0).1.1 (kt_4_5 (fz := fz) hS mv0).2 e
  refine l1 (n := 1) rfl rfl rfl rfl ?_
  refine l_s1 (n := 1) rfl rfl rfl rfl (fun ls y1 ho => ?_)
  have y2 := ho 0 _ (by decide) (fun q => by cases q.2) a0
  have y3 := ho 1 _ (by decide) (fun q => by cases q.2) a1
  have y4 := ho 2 _ (by decide) (fun q => by cases q.2) a2
  exact E_S_takes_17 hS r1 mv0 mv1 mv2 ⟨by decide, by decide⟩ y2 y3 y4 y1 h
def em_S_takes (x0 : Nat) (x1 : Nat) (x2 : Nat) (M : rf_M) (K : Int → rf_M → Prop) : Prop := e_S_takes x0 x1 x2 M K
theorem E_S_takes_m {fz : Bool} {S : gS} {B : rf_M} {M : rf_M} {n0 : Nat} {x0 : Nat} {x1 : Nat} {x2 : Nat} {K : Int → rf_M → Prop} (hS : rl S) (hR : fl 22 353 B M) (mx0 : x0 ∈ k4) (mx1 : x1 ∈ k1) (mx2 : x2 ∈ k8) (h : em_S_takes x0 x1 x2 M K) : lx (cx0 fz) n0 105 0 (lv_args 0 [.ref x0, .ref x1, .ref x2]) [] (M, S) (vl_i 22 353 B S K) :=
  E_S_takes hS hR mx0 mx1 mx2 rfl rfl rfl h
def e_C_forgetCuts (v0 : Nat) (M : rf_M) (K : rf_M → Prop) : Prop := ∀ M1 : rf_M, M1 = wi M v0 1 0 → (∀ M2 : rf_M, M2 = wi M1 v0 2 0 → (K M2))
theorem E_C_forgetCuts {fz : Bool} {S : gS} {B : rf_M} {M : rf_M} {ls : rf_L} {n0 : Nat} {v0 : Nat} {K : rf_M → Prop} (hS : rl S) (hR : fl 22 353 B M) (mv0 : v0 ∈ k6) (a0 : rf_ld ls 0 = some (.ref v0)) (h : e_C_forgetCuts v0 M K) : lx (cx0 fz) n0 107 0 ls [] (M, S) (vl_v 22 353 B S K) := by
  unfold e_C_forgetCuts at h
  refine l1 (n := 1) rfl rfl rfl (la_of a0) ?_
  refine l1 (n := 1) rfl rfl rfl rfl ?_
  refine l_pi rfl (ko_6 (fz := fz) hS mv0) rfl (fun _ _ => rfl) (fun M1 e => ?_)
  replace h := h M1 e
  have r1 := hR.wi (ko_6 (fz := fz) hS mv0).1 (kl_6 mv0) e
  refine l1 (n := 1) rfl rfl rfl (la_of a0) ?_
  refine l1 (n := 1) rfl rfl rfl rfl ?_
  refine l_pb rfl (ko_6 (fz := fz) hS mv0) rfl rfl (Or.inl rfl) (fun M2 e => ?_)
  replace h := h M2 e
  have r2 := r1.wi (ko_6 (fz := fz) hS mv0).1 (kl_6 mv0) e
  exact l_rv rfl rfl r2 h
def em_C_forgetCuts (x0 : Nat) (M : rf_M) (K : rf_M → Prop) : Prop := e_C_forgetCuts x0 M K
theorem E_C_forgetCuts_m {fz : Bool} {S : gS} {B : rf_M} {M : rf_M} {n0 : Nat} {x0 : Nat} {K : rf_M → Prop} (hS : rl S) (hR : fl 22 353 B M) (mx0 : x0 ∈ k6) (h : em_C_forgetCuts x0 M K) : lx (cx0 fz) n0 107 0 (lv_args 0 [.ref x0]) [] (M, S) (vl_v 22 353 B S K) :=
  E_C_forgetCuts hS hR mx0 rfl h
def e_C_finish_47 (v0 : Nat) (s0 : Nat) (s1 : Int) (M : rf_M) (K : rf_M → Prop) : Prop := ∀ M1 : rf_M, M1 = wi M s0 0 s1 → (em_C_forgetCuts v0 M1 (fun (M2 : rf_M) => K M2))
def e_C_finish_34 (v0 : Nat) (M : rf_M) (K : rf_M → Prop) : Prop := ((gi M v0 5) ≤ 0 → (e_C_finish_47 v0 v0 0 M K)) ∧ (¬ ((gi M v0 5) ≤ 0) → (e_C_finish_47 v0 v0 1 M K))
def e_C_finish (v0 : Nat) (M : rf_M) (K : rf_M → Prop) : Prop := ((gi M v0 5) ≤ 0 → (e_C_finish_34 v0 M K)) ∧ (¬ ((gi M v0 5) ≤ 0) → (∀ M1 : rf_M, M1 = wi M v0 5 ((gi M v0 5) - 1) → (((0 ≤ (1 : Int) ∧ 0 ≤ (0 : Int) ∧ 0 ≤ (gi M1 v0 5)) ∧ (1 : Int) + (gi M1 v0 5) ≤ 16 ∧ (0 : Int) + (gi M1 v0 5) ≤ 16 → (∀ M2 : rf_M, M2 = cpi M1 (v0 + 1) 1 (v0 + 1) 0 (gi M1 v0 5).toNat → (e_C_finish_34 v0 M2 K))))))
def em_C_finish (x0 : Nat) (M : rf_M) (K : rf_M → Prop) : Prop := e_C_finish x0 M K
def e_M_closeRun_125 (s0 : Int) (M : rf_M) (K : Int → rf_M → Prop) : Prop := K s0 M
def e_M_closeRun_77 (v1 : Int) (v3 : Nat) (v4 : Nat) (v5 : Int) (s0 : Int) (M : rf_M) (K : Int → rf_M → Prop) : Prop := (0 ≤ (0 : Int) ∧ (0 : Int) < 16 → (inr ((gi M v4 1) + 1) ∧ (em_J_note s0 v1 (gi M (v3 + 1) 0) ((gi M v4 1) + 1) (gi M v3 1) (gl M v4 3) M (fun (M1 : rf_M) => em_C_finish v3 M1 (fun (M2 : rf_M) => (v5 = 0 → (e_M_closeRun_125 2 M2 K)) ∧ (¬ (v5 = 0) → (e_M_closeRun_125 1 M2 K)))))))
def e_M_closeRun_67 (v1 : Int) (v3 : Nat) (v4 : Nat) (v5 : Int) (M : rf_M) (K : Int → rf_M → Prop) : Prop := (v5 = 0 → (e_M_closeRun_77 v1 v3 v4 v5 2 M K)) ∧ (¬ (v5 = 0) → (e_M_closeRun_77 v1 v3 v4 v5 1 M K))
def e_M_closeRun_64 (v1 : Int) (v3 : Nat) (v4 : Nat) (v5 : Int) (s0 : Nat) (s1 : Int64) (M : rf_M) (K : Int → rf_M → Prop) : Prop := ∀ M1 : rf_M, M1 = wl M s0 3 s1 → (e_M_closeRun_67 v1 v3 v4 v5 M1 K)
def e_M_closeRun_43 (v1 : Int) (v2 : Int) (v3 : Nat) (v4 : Nat) (s0 : Int) (M : rf_M) (K : Int → rf_M → Prop) : Prop := (v2 = 1 → ((s0 = 0 → (e_M_closeRun_64 v1 v3 v4 s0 v4 (Int64.ofNat 18446744073709551614) M K)) ∧ (¬ (s0 = 0) → (e_M_closeRun_64 v1 v3 v4 s0 v4 (Int64.ofNat 0) M K)))) ∧ (¬ v2 = 1 → (e_M_closeRun_67 v1 v3 v4 s0 M K))
def e_M_closeRun_42 (v1 : Int) (v2 : Int) (v3 : Nat) (v4 : Nat) (M : rf_M) (K : Int → rf_M → Prop) : Prop := e_M_closeRun_43 v1 v2 v3 v4 0 M K
def e_M_closeRun (v1 : Int) (v2 : Int) (M : rf_M) (K : Int → rf_M → Prop) : Prop := (0 ≤ v1 ∧ v1 < 8 → ((v2 = 1 → (isP M ((clA v1) + 3) 0 ∧ (em_S_takes 187 (gr M ((clA v1) + 3) 0) ((clA v1) + 5) M (fun (z1 : Int) (M1 : rf_M) => (z1 = 0 → (e_M_closeRun_42 v1 v2 (clA v1) ((clA v1) + 3) M1 K)) ∧ (¬ (z1 = 0) → (e_M_closeRun_43 v1 v2 (clA v1) ((clA v1) + 3) 1 M1 K)))))) ∧ (¬ v2 = 1 → (e_M_closeRun_42 v1 v2 (clA v1) ((clA v1) + 3) M K))))
def em_M_closeRun (x1 : Int) (x2 : Int) (M : rf_M) (K : Int → rf_M → Prop) : Prop := e_M_closeRun x1 x2 M K
def e_M_takeTurn_111 (v2 : Nat) (M : rf_M) (K : Int → rf_M → Prop) : Prop := em_C_cut v2 M (fun (M1 : rf_M) => K 3 M1)
def e_M_takeTurn_176 (s0 : Int) (M : rf_M) (K : Int → rf_M → Prop) : Prop := K s0 M
def e_M_takeTurn_151 (v2 : Nat) (v3 : Int) (v4 : Int) (v6 : Int) (M : rf_M) (K : Int → rf_M → Prop) : Prop := ∀ M1 : rf_M, M1 = wi M (v2 + 3) 2 v4 → (∀ M2 : rf_M, M2 = wi M1 v2 0 v3 → ((v6 = 0 → (e_M_takeTurn_176 (-1) M2 K)) ∧ (¬ (v6 = 0) → (e_M_takeTurn_176 6 M2 K))))
def e_M_takeTurn_70 (v1 : Int) (v2 : Nat) (v3 : Int) (M : rf_M) (K : Int → rf_M → Prop) : Prop := em_R_step (v2 + 3) M (fun (z1 : Int) (M1 : rf_M) => (z1 = 0 → (K 0 M1)) ∧ (¬ z1 = 0 → ((z1 = 3 → (e_M_takeTurn_111 v2 M1 K)) ∧ (¬ (z1 = 3) → (em_R_isStale (v2 + 3) M1 (fun (z2 : Int) (M2 : rf_M) => (z2 = 0 → ((z1 = 4 → (em_C_rest v2 M2 (fun (M6 : rf_M) => K 4 M6))) ∧ (¬ z1 = 4 → (em_M_isHeld v1 M2 (fun (z3 : Int) (M3 : rf_M) => (z3 = 0 → (em_J_isFull  M3 (fun (z4 : Int) (M4 : rf_M) => (z4 = 0 → (em_M_closeRun v1 z1 M4 (fun (z5 : Int) (M5 : rf_M) => K z5 M5))) ∧ (¬ (z4 = 0) → (e_M_takeTurn_151 v2 v3 (gi M (v2 + 3) 2) z3 M4 K))))) ∧ (¬ z3 = 0 → (e_M_takeTurn_151 v2 v3 (gi M (v2 + 3) 2) z3 M3 K))))))) ∧ (¬ (z2 = 0) → (e_M_takeTurn_111 v2 M2 K))))))))
def e_M_takeTurn_37 (v1 : Int) (v2 : Nat) (M : rf_M) (K : Int → rf_M → Prop) : Prop := ((gi M v2 0) = 2 → (e_M_takeTurn_70 v1 v2 (gi M v2 0) M K)) ∧ (¬ ((gi M v2 0) = 2) → ((0 ≤ (0 : Int) ∧ (0 : Int) < 16 → ((0 ≤ (gi M (v2 + 1) 0) ∧ (gi M (v2 + 1) 0) < 12 → (em_R_begin (v2 + 3) (pgA (gi M (v2 + 1) 0)) M (fun (M1 : rf_M) => ∀ M2 : rf_M, M2 = wi M1 v2 0 2 → (e_M_takeTurn_70 v1 v2 (gi M v2 0) M2 K))))))))
def e_M_takeTurn (v1 : Int) (M : rf_M) (K : Int → rf_M → Prop) : Prop := (0 ≤ v1 ∧ v1 < 8 → (((gi M (clA v1) 0) = 0 → (K 5 M)) ∧ (¬ (gi M (clA v1) 0) = 0 → (((gi M (clA v1) 0) = 3 → (em_C_isWoken (clA v1) 187 M (fun (z1 : Int) (M1 : rf_M) => (z1 = 0 → (K 4 M1)) ∧ (¬ z1 = 0 → (e_M_takeTurn_37 v1 (clA v1) M1 K))))) ∧ (¬ (gi M (clA v1) 0) = 3 → (e_M_takeTurn_37 v1 (clA v1) M K))))))
def em_M_takeTurn (x1 : Int) (M : rf_M) (K : Int → rf_M → Prop) : Prop := e_M_takeTurn x1 M K
def e_M_turn_17 (s0 : Int) (M : rf_M) (K : Int → rf_M → Prop) : Prop := K s0 M
def e_M_turn (v1 : Int) (M : rf_M) (K : Int → rf_M → Prop) : Prop := em_M_isClient v1 M (fun (z1 : Int) (M1 : rf_M) => (z1 = 0 → (e_M_turn_17 (-1) M1 K)) ∧ (¬ (z1 = 0) → (em_M_takeTurn v1 M1 (fun (z2 : Int) (M2 : rf_M) => e_M_turn_17 z2 M2 K))))
def em_M_turn (x1 : Int) (M : rf_M) (K : Int → rf_M → Prop) : Prop := e_M_turn x1 M K
def e_M_play_11 (M : rf_M) (K : Int → rf_M → Prop) : Prop := K (-1) M
def e_M_play_57 (v3 : Int) (v4 : Int64) (v6 : Int) (v7 : Int) (M : rf_M) (b22 : Int → Int64 → Int → Int → rf_M → Prop) (K : Int → rf_M → Prop) : Prop := inr (v7 + 1) ∧ (b22 v3 v4 v6 (v7 + 1) M)
def e_M_play_22b (v3 : Int) (v4 : Int64) (v6 : Int) (v7 : Int) (M : rf_M) (b22 : Int → Int64 → Int → Int → rf_M → Prop) (K : Int → rf_M → Prop) : Prop := (v3 ≤ v7 → (K v6 M)) ∧ (¬ (v3 ≤ v7) → (em_M_takeTurn (((((Int64.ofNat 6364136223846793005) * v4) + (Int64.ofNat 1442695040888963407)).toUInt64 >>> ((Int32.ofInt 61).toInt64.toUInt64 &&& Int64.toUInt64 63)).toInt64).toInt32.toInt M (fun (z1 : Int) (M1 : rf_M) => (z1 = 1 → (inr (v6 + 1) ∧ (e_M_play_57 v3 (((Int64.ofNat 6364136223846793005) * v4) + (Int64.ofNat 1442695040888963407)) (v6 + 1) v7 M1 b22 K))) ∧ (¬ z1 = 1 → (e_M_play_57 v3 (((Int64.ofNat 6364136223846793005) * v4) + (Int64.ofNat 1442695040888963407)) v6 v7 M1 b22 K)))))
