def e_Y_redo_118 (v2 : Int) (v4 : Int) (v5 : Int) (M : rf_M) (K : rf_M → Prop) : Prop := ∃ Inv : Int → Int → Int → rf_M → Prop, Inv v2 v4 v5 M ∧ ∀ (v2 : Int) (v4 : Int) (v5 : Int) (M : rf_M), inr v2 → inr v4 → inr v5 → Inv v2 v4 v5 M → e_Y_redo_118b v2 v4 v5 M Inv K
theorem E_Y_redo_118 {fz : Bool} {S : gS} {B : rf_M} {M : rf_M} {ls : rf_L} {n0 : Nat} {v2 : Int} {v4 : Int} {v5 : Int} {K : rf_M → Prop} (hS : rl S) (hR : fl 22 353 B M) (iv2 : inr v2) (iv4 : inr v4) (iv5 : inr v5) (a0 : rf_ld ls 0 = some (.ref 331)) (a1 : rf_ld ls 1 = some (.ref 324)) (a2 : rf_ld ls 2 = some (zv v2)) (a4 : rf_ld ls 4 = some (zv v4)) (a5 : rf_ld ls 5 = some (zv v5)) (h : e_Y_redo_118 v2 v4 v5 M K) : lx (cx0 fz) n0 119 118 ls [] (M, S) (vl_v 22 353 B S K) := by
  obtain ⟨Inv, hm, hb⟩ := h
  induction n0 using Nat.strongRecOn generalizing ls M v2 v4 v5 with
  | _ n0 ih =>
    refine E_Y_redo_118b hS hR iv2 iv4 iv5 a0 a1 a2 a4 a5 (fun n' hn' v2' v4' v5' M' ls' hR' f0 f1 f2 f3 f4 f5 f6 f7 q2 => ih n' hn' hR' f0 f1 f2 f3 f4 f5 f6 f7 q2) (hb v2 v4 v5 M iv2 iv4 iv5 hm)
def e_Y_redo (v2 : Int) (M : rf_M) (K : rf_M → Prop) : Prop := ∀ M1 : rf_M, M1 = wi M 331 1 (v2 + 1) → (em_J_has v2 M1 (fun (z2 : Int) (M2 : rf_M) => (z2 = 0 → (K M2)) ∧ (¬ z2 = 0 → ((0 ≤ v2 ∧ v2 < 300 → ((0 ≤ v2 ∧ v2 < 300 → (((gi M2 325 (v2).toNat) = 0 → (((gi M2 331 2) = 0 → (e_Y_redo_61 v2 (gi M2 327 (v2).toNat) M2 K)) ∧ (¬ ((gi M2 331 2) = 0) → ((0 ≤ v2 ∧ v2 < 300 → (em_S_allows 332 (gi M2 327 (v2).toNat) (gl M2 330 (v2).toNat) M2 (fun (z4 : Int) (M4 : rf_M) => (z4 = 0 → (e_Y_redo_61 v2 (gi M2 327 (v2).toNat) M4 K)) ∧ (¬ (z4 = 0) → (e_Y_redo_62 v2 (gi M2 327 (v2).toNat) 1 M4 K))))))))) ∧ (¬ (gi M2 325 (v2).toNat) = 0 → (((gi M2 327 (v2).toNat) < 0 → (e_Y_redo_93 M2 K)) ∧ (¬ ((gi M2 327 (v2).toNat) < 0) → (((gi M2 327 (v2).toNat) < 12 → ((0 ≤ (gi M2 327 (v2).toNat) ∧ (gi M2 327 (v2).toNat) < 12 → (em_R_begin 340 (pgA (gi M2 327 (v2).toNat)) M2 (fun (M3 : rf_M) => e_Y_redo_118 v2 0 0 M3 K))))) ∧ (¬ ((gi M2 327 (v2).toNat) < 12) → (e_Y_redo_93 M2 K))))))))))))))
theorem E_Y_redo {fz : Bool} {S : gS} {B : rf_M} {M : rf_M} {ls : rf_L} {n0 : Nat} {v2 : Int} {K : rf_M → Prop} (hS : rl S) (hR : fl 22 353 B M) (iv2 : inr v2) (a0 : rf_ld ls 0 = some (.ref 331)) (a1 : rf_ld ls 1 = some (.ref 324)) (a2 : rf_ld ls 2 = some (zv v2)) (h : e_Y_redo v2 M K) : lx (cx0 fz) n0 119 0 ls [] (M, S) (vl_v 22 353 B S K) := by
  unfold e_Y_redo at h
  refine l1 (n := 1) rfl rfl rfl (la_of a0) ?_
  refine l1 (n := 1) rfl rfl rfl (li_of a2) ?_
  refine l1 (n := 1) rfl rfl rfl rfl ?_
  refine l_add rfl ?_
  refine l_pi rfl (ko_10 (fz := fz) hS (List.Mem.head _)) rfl (fun _ _ => rfl) (fun M1 e => ?_)
  replace h := h M1 e
  have r1 := hR.wi (ko_10 (fz := fz) hS (List.Mem.head _)).1 (kl_10 (List.Mem.head _)) e
  refine l1 (n := 1) rfl rfl rfl (la_of a1) ?_
  refine l1 (n := 1) rfl rfl rfl (li_of a2) ?_
  refine b_iv (c := 324) (as := [zv v2]) (rest := []) rfl (by decide) (ko_9 hS (List.Mem.head _)) rfl rfl (Nat.le_of_ble_eq_true rfl) (fun hq => ?_)
  refine lx_mono (E_J_has_m hS r1 iv2 h) ?_
  rintro _ _ ⟨z2, M2, rfl, rfl, r2, iz2, h⟩
  refine l_if rfl iz2 (fun c => ?_) (fun c => ?_)
  · replace h := h.2 c
    refine l1 (n := 1) rfl rfl rfl (la_of a1) ?_
    refine l_gr rfl (ko_9 hS (List.Mem.head _)) rfl (fun _ => rfl) (kf_9_3 r2.2 (List.Mem.head _)) ?_
    refine l1 (n := 1) rfl rfl rfl (li_of a2) ?_
    refine b_ia rfl (kc_327 (fz := fz) hS).1 (Nat.le_of_ble_eq_true rfl) iv2 (fun q => ?_)
    replace h := h q
    refine l_s1 (n := 1) rfl rfl rfl rfl (fun ls y1 ho => ?_)
    have y2 := ho 0 _ (by decide) (fun q => by cases q.2) a0
    have y3 := ho 1 _ (by decide) (fun q => by cases q.2) a1
    have y4 := ho 2 _ (by decide) (fun q => by cases q.2) a2
    refine l1 (n := 1) rfl rfl rfl (la_of y3) ?_
    refine l_gr rfl (ko_9 hS (List.Mem.head _)) rfl (fun _ => rfl) (kf_9_1 r2.2 (List.Mem.head _)) ?_
    refine l1 (n := 1) rfl rfl rfl (li_of y4) ?_
    refine b_ia rfl (kc_325 (fz := fz) hS).1 (Nat.le_of_ble_eq_true rfl) iv2 (fun q => ?_)
    replace h := h q
    refine l_if rfl (inr_gi _ _ _) (fun c => ?_) (fun c => ?_)
    · replace h := h.2 c
      refine l1 (n := 1) rfl rfl rfl (li_of y1) ?_
      refine l_if rfl (inr_gi _ _ _) (fun c => ?_) (fun c => ?_)
      · replace h := h.1 c
        exact E_Y_redo_93 hS r2 y2 h
      · replace h := h.2 c
        refine l1 (n := 1) rfl rfl rfl (li_of y1) ?_
        refine l1 (n := 1) rfl rfl rfl (la_of y2) ?_
        refine l_gr rfl (ko_10 hS (List.Mem.head _)) rfl (fun _ => rfl) (kf_10_3 r2.2 (List.Mem.head _)) ?_
        refine l_al (z := 12) rfl (kc_24 (fz := fz) hS).1 rfl ?_
        refine l_ic rfl (inr_gi _ _ _) ⟨by decide, by decide⟩ (fun c => ?_) (fun c => ?_)
        · replace h := h.1 c
          refine l1 (n := 1) rfl rfl rfl (la_of y2) ?_
          refine l_gr rfl (ko_10 hS (List.Mem.head _)) rfl (fun _ => rfl) (kf_10_4 r2.2 (List.Mem.head _)) ?_
          refine l1 (n := 1) rfl rfl rfl (la_of y2) ?_
          refine l_gr rfl (ko_10 hS (List.Mem.head _)) rfl (fun _ => rfl) (kf_10_3 r2.2 (List.Mem.head _)) ?_
          refine l1 (n := 1) rfl rfl rfl (li_of y1) ?_
          refine b_aa rfl (kc_24 (fz := fz) hS).1 (Nat.le_of_ble_eq_true rfl) (inr_gi _ _ _) (fun q1 => ⟨pgA_ref r2.2 q1, ?_⟩)
          replace h := h q1
          refine b_iv (c := 340) (as := [.ref (pgA (gi M2 327 (v2).toNat))]) (rest := []) rfl (by decide) (ko_7 hS (by decide)) rfl rfl (Nat.le_of_ble_eq_true rfl) (fun hq => ?_)
          refine lx_mono (E_R_begin_m hS r2 (by decide) (pgA_mem q1) h) ?_
          rintro _ _ ⟨M3, rfl, rfl, r3, h⟩
          refine l1 (n := 1) rfl rfl rfl rfl ?_
          refine l_s1 (n := 2) rfl rfl rfl rfl (fun ls y5 ho => ?_)
          have y6 := ho 0 _ (by decide) (fun q => by cases q.2) y2
          have y7 := ho 1 _ (by decide) (fun q => by cases q.2) y3
          have y8 := ho 2 _ (by decide) (fun q => by cases q.2) y4
          refine l1 (n := 1) rfl rfl rfl rfl ?_
          refine l_s1 (n := 2) rfl rfl rfl rfl (fun ls y9 ho => ?_)
          have y10 := ho 0 _ (by decide) (fun q => by cases q.2) y6
          have y11 := ho 1 _ (by decide) (fun q => by cases q.2) y7
          have y12 := ho 2 _ (by decide) (fun q => by cases q.2) y8
          have y13 := ho 4 _ (by decide) (fun q => by cases q.2) y5
          exact E_Y_redo_118 hS r3 iv2 ⟨by decide, by decide⟩ ⟨by decide, by decide⟩ y10 y11 y12 y13 y9 h
        · replace h := h.2 c
          exact E_Y_redo_93 hS r2 y2 h
    · replace h := h.1 (Classical.not_not.mp c)
      refine l1 (n := 1) rfl rfl rfl (la_of y2) ?_
      refine l1 (n := 1) rfl rfl rfl (la_of y2) ?_
      refine l_gi rfl (ko_10 hS (List.Mem.head _)) rfl (fun _ => rfl) ?_
      refine l_if rfl (inr_gi _ _ _) (fun c => ?_) (fun c => ?_)
      · replace h := h.1 c
        exact E_Y_redo_61 hS r2 iv2 (inr_gi _ _ _) y2 y3 y4 y1 h
      · replace h := h.2 c
        refine l1 (n := 1) rfl rfl rfl (la_of y2) ?_
        refine l_gr rfl (ko_10 hS (List.Mem.head _)) rfl (fun _ => rfl) (kf_10_0 r2.2 (List.Mem.head _)) ?_
        refine l1 (n := 1) rfl rfl rfl (li_of y1) ?_
        refine l1 (n := 1) rfl rfl rfl (la_of y3) ?_
        refine l_gr rfl (ko_9 hS (List.Mem.head _)) rfl (fun _ => rfl) (kf_9_6 r2.2 (List.Mem.head _)) ?_
        refine l1 (n := 1) rfl rfl rfl (li_of y4) ?_
        refine b_la rfl (kc_330 (fz := fz) hS).1 (Nat.le_of_ble_eq_true rfl) iv2 (fun q => ?_)
        replace h := h q
        refine b_iv (c := 332) (as := [zv (gi M2 327 (v2).toNat), .long (gl M2 330 (v2).toNat)]) (rest := [.ref 331]) rfl (by decide) (ko_4 hS (by decide)) rfl rfl (Nat.le_of_ble_eq_true rfl) (fun hq => ?_)
        refine lx_mono (E_S_allows_m hS r2 (by decide) (inr_gi _ _ _) h) ?_
        rintro _ _ ⟨z4, M4, rfl, rfl, r4, iz4, h⟩
        refine l_if rfl iz4 (fun c => ?_) (fun c => ?_)
        · replace h := h.1 c
          exact E_Y_redo_61 hS r4 iv2 (inr_gi _ _ _) y2 y3 y4 y1 h
        · replace h := h.2 c
          refine l1 (n := 1) rfl rfl rfl rfl ?_
          refine l3 rfl rfl rfl ?_
          exact E_Y_redo_62 hS r4 iv2 (inr_gi _ _ _) ⟨by decide, by decide⟩ y2 y3 y4 y1 h
  · replace h := h.1 (Classical.not_not.mp c)
    exact l_rv rfl rfl r2 h
def em_Y_redo (x2 : Int) (M : rf_M) (K : rf_M → Prop) : Prop := e_Y_redo x2 M K
theorem E_Y_redo_m {fz : Bool} {S : gS} {B : rf_M} {M : rf_M} {n0 : Nat} {x2 : Int} {K : rf_M → Prop} (hS : rl S) (hR : fl 22 353 B M) (ix2 : inr x2) (h : em_Y_redo x2 M K) : lx (cx0 fz) n0 119 0 (lv_args 0 [.ref 331, .ref 324, zv x2]) [] (M, S) (vl_v 22 353 B S K) :=
  E_Y_redo hS hR ix2 rfl rfl rfl h
def e_S_isLike_52 (M : rf_M) (K : Int → rf_M → Prop) : Prop := K 0 M
theorem E_S_isLike_52 {fz : Bool} {S : gS} {B : rf_M} {M : rf_M} {ls : rf_L} {n0 : Nat} {K : Int → rf_M → Prop} (hS : rl S) (hR : fl 22 353 B M) (h : e_S_isLike_52 M K) : lx (cx0 fz) n0 121 52 ls [] (M, S) (vl_i 22 353 B S K) := by
  unfold e_S_isLike_52 at h
  refine l1 (n := 1) rfl rfl rfl rfl ?_
  exact l_rb rfl rfl (Or.inl rfl) hR h
def e_S_isLike_100 (M : rf_M) (K : Int → rf_M → Prop) : Prop := K 0 M
theorem E_S_isLike_100 {fz : Bool} {S : gS} {B : rf_M} {M : rf_M} {ls : rf_L} {n0 : Nat} {K : Int → rf_M → Prop} (hS : rl S) (hR : fl 22 353 B M) (h : e_S_isLike_100 M K) : lx (cx0 fz) n0 121 100 ls [] (M, S) (vl_i 22 353 B S K) := by
  unfold e_S_isLike_100 at h
  refine l1 (n := 1) rfl rfl rfl rfl ?_
  exact l_rb rfl rfl (Or.inl rfl) hR h
def e_S_isLike_62b (v0 : Nat) (v1 : Nat) (v2 : Int) (M : rf_M) (b62 : Nat → Nat → Int → rf_M → Prop) (K : Int → rf_M → Prop) : Prop := ((gi M v0 2) ≤ v2 → (K 1 M)) ∧ (¬ ((gi M v0 2) ≤ v2) → ((0 ≤ v2 ∧ v2 < 32 → (isP M (v0 + 3) (v2).toNat ∧ ((0 ≤ v2 ∧ v2 < 32 → (isP M (v1 + 3) (v2).toNat ∧ (((gr M (v0 + 3) (v2).toNat) = (gr M (v1 + 3) (v2).toNat) → ((0 ≤ v2 ∧ v2 < 32 → ((0 ≤ v2 ∧ v2 < 32 → (((gi M (v0 + 4) (v2).toNat) = (gi M (v1 + 4) (v2).toNat) → (inr (v2 + 1) ∧ (b62 v0 v1 (v2 + 1) M))) ∧ (¬ ((gi M (v0 + 4) (v2).toNat) = (gi M (v1 + 4) (v2).toNat)) → (e_S_isLike_100 M K)))))))) ∧ (¬ (gr M (v0 + 3) (v2).toNat) = (gr M (v1 + 3) (v2).toNat) → (e_S_isLike_100 M K))))))))))
theorem E_S_isLike_62b {fz : Bool} {S : gS} {B : rf_M} {M : rf_M} {ls : rf_L} {n0 : Nat} {v0 : Nat} {v1 : Nat} {v2 : Int} {b62 : Nat → Nat → Int → rf_M → Prop} {K : Int → rf_M → Prop} (hS : rl S) (hR : fl 22 353 B M) (mv0 : v0 ∈ k4) (mv1 : v1 ∈ k4) (iv2 : inr v2) (a0 : rf_ld ls 0 = some (.ref v0)) (a1 : rf_ld ls 1 = some (.ref v1)) (a2 : rf_ld ls 2 = some (zv v2)) (hb62 : ∀ n', n' < n0 → ∀ (v0 : Nat) (v1 : Nat) (v2 : Int) (M : rf_M) (ls : rf_L), fl 22 353 B M → v0 ∈ k4 → v1 ∈ k4 → inr v2 → rf_ld ls 0 = some (.ref v0) → rf_ld ls 1 = some (.ref v1) → rf_ld ls 2 = some (zv v2) → b62 v0 v1 v2 M → lx (cx0 fz) n' 121 62 ls [] (M, S) (vl_i 22 353 B S K)) (h : e_S_isLike_62b v0 v1 v2 M b62 K) : lx (cx0 fz) n0 121 62 ls [] (M, S) (vl_i 22 353 B S K) := by
  unfold e_S_isLike_62b at h
  rcases Nat.eq_zero_or_pos n0 with e0 | hp
  · rw [e0]; exact lx_zero
  refine l1 (n := 1) rfl rfl rfl (li_of a2) ?_
  refine l1 (n := 1) rfl rfl rfl (la_of a0) ?_
  refine l_gi rfl (ko_4 hS mv0) rfl (fun _ => rfl) ?_
  refine l_ic rfl iv2 (inr_gi _ _ _) (fun c => ?_) (fun c => ?_)
  · replace h := h.1 c
    refine l1 (n := 1) rfl rfl rfl rfl ?_
    exact l_rb rfl rfl (Or.inr rfl) hR h
  · replace h := h.2 c
    refine l1 (n := 1) rfl rfl rfl (la_of a0) ?_
    refine l_gr rfl (ko_4 hS mv0) rfl (fun _ => rfl) (kf_4_3 hR.2 mv0) ?_
    refine l1 (n := 1) rfl rfl rfl (li_of a2) ?_
    refine b_aa rfl (kt_4_3 (fz := fz) hS mv0).1 (Nat.le_of_ble_eq_true rfl) iv2 (fun q1 => ⟨(h q1).1.1, ?_⟩)
    replace h := h q1
    obtain ⟨q2, h⟩ := h
    refine l1 (n := 1) rfl rfl rfl (la_of a1) ?_
    refine l_gr rfl (ko_4 hS mv1) rfl (fun _ => rfl) (kf_4_3 hR.2 mv1) ?_
    refine l1 (n := 1) rfl rfl rfl (li_of a2) ?_
    refine b_aa rfl (kt_4_3 (fz := fz) hS mv1).1 (Nat.le_of_ble_eq_true rfl) iv2 (fun q3 => ⟨(h q3).1.1, ?_⟩)
    replace h := h q3
    obtain ⟨q4, h⟩ := h
    refine l_acn rfl (ko_1 (fz := fz) hS q2.2).1 (ko_1 (fz := fz) hS q4.2).1 (fun c => ?_) (fun c => ?_)
    · replace h := h.2 c
      exact E_S_isLike_100 hS hR  h
    · replace h := h.1 c
      refine l1 (n := 1) rfl rfl rfl (la_of a0) ?_
      refine l_gr rfl (ko_4 hS mv0) rfl (fun _ => rfl) (kf_4_4 hR.2 mv0) ?_
      refine l1 (n := 1) rfl rfl rfl (li_of a2) ?_
      refine b_ia rfl (kt_4_4 (fz := fz) hS mv0).1 (Nat.le_of_ble_eq_true rfl) iv2 (fun q => ?_)
      replace h := h q
      refine l1 (n := 1) rfl rfl rfl (la_of a1) ?_
      refine l_gr rfl (ko_4 hS mv1) rfl (fun _ => rfl) (kf_4_4 hR.2 mv1) ?_
      refine l1 (n := 1) rfl rfl rfl (li_of a2) ?_
      refine b_ia rfl (kt_4_4 (fz := fz) hS mv1).1 (Nat.le_of_ble_eq_true rfl) iv2 (fun q => ?_)
      replace h := h q
      refine l_ic rfl (inr_gi _ _ _) (inr_gi _ _ _) (fun c => ?_) (fun c => ?_)
      · replace h := h.1 c
        refine l_ii rfl a2 (Nat.le_of_ble_eq_true rfl) (fun ls y1 ho => ?_)
        have y2 := ho 0 _ (by decide) (fun q => by cases q.2) a0
        have y3 := ho 1 _ (by decide) (fun q => by cases q.2) a1
        refine l3 rfl rfl rfl ?_
        obtain ⟨i1, h⟩ := h
        exact hb62 _ (by omega) _ _ _ _ _ hR mv0 mv1 i1 y2 y3 y1 h
      · replace h := h.2 c
        exact E_S_isLike_100 hS hR  h
def e_S_isLike_62 (v0 : Nat) (v1 : Nat) (v2 : Int) (M : rf_M) (K : Int → rf_M → Prop) : Prop := ∃ Inv : Nat → Nat → Int → rf_M → Prop, Inv v0 v1 v2 M ∧ ∀ (v0 : Nat) (v1 : Nat) (v2 : Int) (M : rf_M), inr v2 → Inv v0 v1 v2 M → e_S_isLike_62b v0 v1 v2 M Inv K
theorem E_S_isLike_62 {fz : Bool} {S : gS} {B : rf_M} {M : rf_M} {ls : rf_L} {n0 : Nat} {v0 : Nat} {v1 : Nat} {v2 : Int} {K : Int → rf_M → Prop} (hS : rl S) (hR : fl 22 353 B M) (mv0 : v0 ∈ k4) (mv1 : v1 ∈ k4) (iv2 : inr v2) (a0 : rf_ld ls 0 = some (.ref v0)) (a1 : rf_ld ls 1 = some (.ref v1)) (a2 : rf_ld ls 2 = some (zv v2)) (h : e_S_isLike_62 v0 v1 v2 M K) : lx (cx0 fz) n0 121 62 ls [] (M, S) (vl_i 22 353 B S K) := by
  obtain ⟨Inv, hm, hb⟩ := h
  induction n0 using Nat.strongRecOn generalizing ls M v0 v1 v2 with
  | _ n0 ih =>
    refine E_S_isLike_62b hS hR mv0 mv1 iv2 a0 a1 a2 (fun n' hn' v0' v1' v2' M' ls' hR' f0 f1 f2 f3 f4 f5 q2 => ih n' hn' hR' f0 f1 f2 f3 f4 f5 q2) (hb v0 v1 v2 M iv2 hm)
def e_S_isLike_15b (v0 : Nat) (v1 : Nat) (v2 : Int) (M : rf_M) (b15 : Nat → Nat → Int → rf_M → Prop) (K : Int → rf_M → Prop) : Prop := (16 ≤ v2 → (e_S_isLike_62 v0 v1 0 M K)) ∧ (¬ (16 ≤ v2) → ((0 ≤ v2 ∧ v2 < 16 → ((0 ≤ v2 ∧ v2 < 16 → (((lg_cmp (gl M (v0 + 1) (v2).toNat) (gl M (v1 + 1) (v2).toNat)).toInt = 0 → ((0 ≤ v2 ∧ v2 < 16 → ((0 ≤ v2 ∧ v2 < 16 → (((gi M (v0 + 2) (v2).toNat) = (gi M (v1 + 2) (v2).toNat) → (inr (v2 + 1) ∧ (b15 v0 v1 (v2 + 1) M))) ∧ (¬ ((gi M (v0 + 2) (v2).toNat) = (gi M (v1 + 2) (v2).toNat)) → (e_S_isLike_52 M K)))))))) ∧ (¬ (lg_cmp (gl M (v0 + 1) (v2).toNat) (gl M (v1 + 1) (v2).toNat)).toInt = 0 → (e_S_isLike_52 M K))))))))
theorem E_S_isLike_15b {fz : Bool} {S : gS} {B : rf_M} {M : rf_M} {ls : rf_L} {n0 : Nat} {v0 : Nat} {v1 : Nat} {v2 : Int} {b15 : Nat → Nat → Int → rf_M → Prop} {K : Int → rf_M → Prop} (hS : rl S) (hR : fl 22 353 B M) (mv0 : v0 ∈ k4) (mv1 : v1 ∈ k4) (iv2 : inr v2) (a0 : rf_ld ls 0 = some (.ref v0)) (a1 : rf_ld ls 1 = some (.ref v1)) (a2 : rf_ld ls 2 = some (zv v2)) (hb15 : ∀ n', n' < n0 → ∀ (v0 : Nat) (v1 : Nat) (v2 : Int) (M : rf_M) (ls : rf_L), fl 22 353 B M → v0 ∈ k4 → v1 ∈ k4 → inr v2 → rf_ld ls 0 = some (.ref v0) → rf_ld ls 1 = some (.ref v1) → rf_ld ls 2 = some (zv v2) → b15 v0 v1 v2 M → lx (cx0 fz) n' 121 15 ls [] (M, S) (vl_i 22 353 B S K)) (h : e_S_isLike_15b v0 v1 v2 M b15 K) : lx (cx0 fz) n0 121 15 ls [] (M, S) (vl_i 22 353 B S K) := by
  unfold e_S_isLike_15b at h
  rcases Nat.eq_zero_or_pos n0 with e0 | hp
  · rw [e0]; exact lx_zero
  refine l1 (n := 1) rfl rfl rfl (li_of a2) ?_
  refine l_bi rfl (by decide) ?_
  refine l_ic rfl iv2 ⟨by decide, by decide⟩ (fun c => ?_) (fun c => ?_)
  · replace h := h.1 c
    refine l1 (n := 1) rfl rfl rfl rfl ?_
    refine l_s1 (n := 1) rfl rfl rfl rfl (fun ls y1 ho => ?_)
    have y2 := ho 0 _ (by decide) (fun q => by cases q.2) a0
    have y3 := ho 1 _ (by decide) (fun q => by cases q.2) a1
    exact E_S_isLike_62 hS hR mv0 mv1 ⟨by decide, by decide⟩ y2 y3 y1 h
  · replace h := h.2 c
    refine l1 (n := 1) rfl rfl rfl (la_of a0) ?_
    refine l_gr rfl (ko_4 hS mv0) rfl (fun _ => rfl) (kf_4_0 hR.2 mv0) ?_
    refine l1 (n := 1) rfl rfl rfl (li_of a2) ?_
    refine b_la rfl (kt_4_0 (fz := fz) hS mv0).1 (Nat.le_of_ble_eq_true rfl) iv2 (fun q => ?_)
    replace h := h q
    refine l1 (n := 1) rfl rfl rfl (la_of a1) ?_
    refine l_gr rfl (ko_4 hS mv1) rfl (fun _ => rfl) (kf_4_0 hR.2 mv1) ?_
    refine l1 (n := 1) rfl rfl rfl (li_of a2) ?_
    refine b_la rfl (kt_4_0 (fz := fz) hS mv1).1 (Nat.le_of_ble_eq_true rfl) iv2 (fun q => ?_)
    replace h := h q
    refine l_op (T := (lg_cmp (gl M (v0 + 1) (v2).toNat) (gl M (v1 + 1) (v2).toNat))) rfl rfl rfl ?_
    refine l_if rfl (inr_ti _) (fun c => ?_) (fun c => ?_)
    · replace h := h.2 c
      exact E_S_isLike_52 hS hR  h
    · replace h := h.1 (Classical.not_not.mp c)
      refine l1 (n := 1) rfl rfl rfl (la_of a0) ?_
      refine l_gr rfl (ko_4 hS mv0) rfl (fun _ => rfl) (kf_4_1 hR.2 mv0) ?_
      refine l1 (n := 1) rfl rfl rfl (li_of a2) ?_
      refine b_ia rfl (kt_4_1 (fz := fz) hS mv0).1 (Nat.le_of_ble_eq_true rfl) iv2 (fun q => ?_)
      replace h := h q
      refine l1 (n := 1) rfl rfl rfl (la_of a1) ?_
      refine l_gr rfl (ko_4 hS mv1) rfl (fun _ => rfl) (kf_4_1 hR.2 mv1) ?_
      refine l1 (n := 1) rfl rfl rfl (li_of a2) ?_
      refine b_ia rfl (kt_4_1 (fz := fz) hS mv1).1 (Nat.le_of_ble_eq_true rfl) iv2 (fun q => ?_)
      replace h := h q
      refine l_ic rfl (inr_gi _ _ _) (inr_gi _ _ _) (fun c => ?_) (fun c => ?_)
      · replace h := h.1 c
        refine l_ii rfl a2 (Nat.le_of_ble_eq_true rfl) (fun ls y4 ho => ?_)
        have y5 := ho 0 _ (by decide) (fun q => by cases q.2) a0
        have y6 := ho 1 _ (by decide) (fun q => by cases q.2) a1
        refine l3 rfl rfl rfl ?_
        obtain ⟨i1, h⟩ := h
        exact hb15 _ (by omega) _ _ _ _ _ hR mv0 mv1 i1 y5 y6 y4 h
      · replace h := h.2 c
        exact E_S_isLike_52 hS hR  h
def e_S_isLike_15 (v0 : Nat) (v1 : Nat) (v2 : Int) (M : rf_M) (K : Int → rf_M → Prop) : Prop := ∃ Inv : Nat → Nat → Int → rf_M → Prop, Inv v0 v1 v2 M ∧ ∀ (v0 : Nat) (v1 : Nat) (v2 : Int) (M : rf_M), inr v2 → Inv v0 v1 v2 M → e_S_isLike_15b v0 v1 v2 M Inv K
theorem E_S_isLike_15 {fz : Bool} {S : gS} {B : rf_M} {M : rf_M} {ls : rf_L} {n0 : Nat} {v0 : Nat} {v1 : Nat} {v2 : Int} {K : Int → rf_M → Prop} (hS : rl S) (hR : fl 22 353 B M) (mv0 : v0 ∈ k4) (mv1 : v1 ∈ k4) (iv2 : inr v2) (a0 : rf_ld ls 0 = some (.ref v0)) (a1 : rf_ld ls 1 = some (.ref v1)) (a2 : rf_ld ls 2 = some (zv v2)) (h : e_S_isLike_15 v0 v1 v2 M K) : lx (cx0 fz) n0 121 15 ls [] (M, S) (vl_i 22 353 B S K) := by
  obtain ⟨Inv, hm, hb⟩ := h
  induction n0 using Nat.strongRecOn generalizing ls M v0 v1 v2 with
  | _ n0 ih =>
    refine E_S_isLike_15b hS hR mv0 mv1 iv2 a0 a1 a2 (fun n' hn' v0' v1' v2' M' ls' hR' f0 f1 f2 f3 f4 f5 q2 => ih n' hn' hR' f0 f1 f2 f3 f4 f5 q2) (hb v0 v1 v2 M iv2 hm)
def e_S_isLike (v0 : Nat) (v1 : Nat) (M : rf_M) (K : Int → rf_M → Prop) : Prop := ((gi M v0 2) = (gi M v1 2) → (e_S_isLike_15 v0 v1 0 M K)) ∧ (¬ ((gi M v0 2) = (gi M v1 2)) → (K 0 M))
theorem E_S_isLike {fz : Bool} {S : gS} {B : rf_M} {M : rf_M} {ls : rf_L} {n0 : Nat} {v0 : Nat} {v1 : Nat} {K : Int → rf_M → Prop} (hS : rl S) (hR : fl 22 353 B M) (mv0 : v0 ∈ k4) (mv1 : v1 ∈ k4) (a0 : rf_ld ls 0 = some (.ref v0)) (a1 : rf_ld ls 1 = some (.ref v1)) (h : e_S_isLike v0 v1 M K) : lx (cx0 fz) n0 121 0 ls [] (M, S) (vl_i 22 353 B S K) := by
  unfold e_S_isLike at h
  refine l1 (n := 1) rfl rfl rfl (la_of a0) ?_
  refine l_gi rfl (ko_4 hS mv0) rfl (fun _ => rfl) ?_
  refine l1 (n := 1) rfl rfl rfl (la_of a1) ?_
  refine l_gi rfl (ko_4 hS mv1) rfl (fun _ => rfl) ?_
  refine l_ic rfl (inr_gi _ _ _) (inr_gi _ _ _) (fun c => ?_) (fun c => ?_)
  · replace h := h.1 c
    refine l1 (n := 1) rfl rfl rfl rfl ?_
    refine l_s1 (n := 1) rfl rfl rfl rfl (fun ls y1 ho => ?_)
    have y2 := ho 0 _ (by decide) (fun q => by cases q.2) a0
    have y3 := ho 1 _ (by decide) (fun q => by cases q.2) a1
    exact E_S_isLike_15 hS hR mv0 mv1 ⟨by decide, by decide⟩ y2 y3 y1 h
  · replace h := h.2 c
    refine l1 (n := 1) rfl rfl rfl rfl ?_
    exact l_rb rfl rfl (Or.inl rfl) hR h
def em_S_isLike (x0 : Nat) (x1 : Nat) (M : rf_M) (K : Int → rf_M → Prop) : Prop := e_S_isLike x0 x1 M K
theorem E_S_isLike_m {fz : Bool} {S : gS} {B : rf_M} {M : rf_M} {n0 : Nat} {x0 : Nat} {x1 : Nat} {K : Int → rf_M → Prop} (hS : rl S) (hR : fl 22 353 B M) (mx0 : x0 ∈ k4) (mx1 : x1 ∈ k4) (h : em_S_isLike x0 x1 M K) : lx (cx0 fz) n0 121 0 (lv_args 0 [.ref x0, .ref x1]) [] (M, S) (vl_i 22 353 B S K) :=
  E_S_isLike hS hR mx0 mx1 rfl rfl h
def e_M_replays_69 (s0 : Int) (M : rf_M) (K : Int → rf_M → Prop) : Prop := K s0 M
theorem E_M_replays_69 {fz : Bool} {S : gS} {B : rf_M} {M : rf_M} {ls : rf_L} {n0 : Nat} {s0 : Int} {K : Int → rf_M → Prop} (hS : rl S) (hR : fl 22 353 B M) (is0 : inr s0) (h : e_M_replays_69 s0 M K) : lx (cx0 fz) n0 118 69 ls [zv s0] (M, S) (vl_i 22 353 B S K) := by
  unfold e_M_replays_69 at h
  exact l_ri rfl rfl is0 hR h
def e_M_replays_68 (M : rf_M) (K : Int → rf_M → Prop) : Prop := e_M_replays_69 0 M K
theorem E_M_replays_68 {fz : Bool} {S : gS} {B : rf_M} {M : rf_M} {ls : rf_L} {n0 : Nat} {K : Int → rf_M → Prop} (hS : rl S) (hR : fl 22 353 B M) (h : e_M_replays_68 M K) : lx (cx0 fz) n0 118 68 ls [] (M, S) (vl_i 22 353 B S K) := by
  unfold e_M_replays_68 at h
  refine l1 (n := 1) rfl rfl rfl rfl ?_
  exact E_M_replays_69 hS hR ⟨by decide, by decide⟩ h
def e_M_replays_8b (v1 : Int) (M : rf_M) (b8 : Int → rf_M → Prop) (K : Int → rf_M → Prop) : Prop := ((gi M 324 0) ≤ v1 → (((gi M 331 2) = 0 → (e_M_replays_68 M K)) ∧ (¬ ((gi M 331 2) = 0) → (em_S_isLike 187 332 M (fun (z1 : Int) (M1 : rf_M) => (z1 = 0 → (e_M_replays_68 M1 K)) ∧ (¬ (z1 = 0) → (e_M_replays_69 1 M1 K))))))) ∧ (¬ ((gi M 324 0) ≤ v1) → (em_Y_redo v1 M (fun (M2 : rf_M) => inr (v1 + 1) ∧ (b8 (v1 + 1) M2))))
theorem E_M_replays_8b {fz : Bool} {S : gS} {B : rf_M} {M : rf_M} {ls : rf_L} {n0 : Nat} {v1 : Int} {b8 : Int → rf_M → Prop} {K : Int → rf_M → Prop} (hS : rl S) (hR : fl 22 353 B M) (iv1 : inr v1) (a0 : rf_ld ls 0 = some (.ref 22)) (a1 : rf_ld ls 1 = some (zv v1)) (hb8 : ∀ n', n' < n0 → ∀ (v1 : Int) (M : rf_M) (ls : rf_L), fl 22 353 B M → inr v1 → rf_ld ls 0 = some (.ref 22) → rf_ld ls 1 = some (zv v1) → b8 v1 M → lx (cx0 fz) n' 118 8 ls [] (M, S) (vl_i 22 353 B S K)) (h : e_M_replays_8b v1 M b8 K) : lx (cx0 fz) n0 118 8 ls [] (M, S) (vl_i 22 353 B S K) := by
  unfold e_M_replays_8b at h
  rcases Nat.eq_zero_or_pos n0 with e0 | hp
  · rw [e0]; exact lx_zero
  refine l1 (n := 1) rfl rfl rfl (li_of a1) ?_
  refine l1 (n := 1) rfl rfl rfl (la_of a0) ?_
  refine l_gr rfl (ko_0 hS (List.Mem.head _)) rfl (fun _ => rfl) (kf_0_8 hR.2 (List.Mem.head _)) ?_
  refine l_gi rfl (ko_9 hS (List.Mem.head _)) rfl (fun _ => rfl) ?_
  refine l_ic rfl iv1 (inr_gi _ _ _) (fun c => ?_) (fun c => ?_)
  · replace h := h.1 c
    refine l1 (n := 1) rfl rfl rfl (la_of a0) ?_
    refine l_gr rfl (ko_0 hS (List.Mem.head _)) rfl (fun _ => rfl) (kf_0_9 hR.2 (List.Mem.head _)) ?_
    refine l_gi rfl (ko_10 hS (List.Mem.head _)) rfl (fun _ => rfl) ?_
    refine l_if rfl (inr_gi _ _ _) (fun c => ?_) (fun c => ?_)
    · replace h := h.1 c
      exact E_M_replays_68 hS hR  h
    · replace h := h.2 c
      refine l1 (n := 1) rfl rfl rfl (la_of a0) ?_
      refine l_gr rfl (ko_0 hS (List.Mem.head _)) rfl (fun _ => rfl) (kf_0_6 hR.2 (List.Mem.head _)) ?_
      refine l1 (n := 1) rfl rfl rfl (la_of a0) ?_
      refine l_gr rfl (ko_0 hS (List.Mem.head _)) rfl (fun _ => rfl) (kf_0_9 hR.2 (List.Mem.head _)) ?_
      refine l_gr rfl (ko_10 hS (List.Mem.head _)) rfl (fun _ => rfl) (kf_10_0 hR.2 (List.Mem.head _)) ?_
      refine b_iv (c := 187) (as := [.ref 332]) (rest := []) rfl (by decide) (ko_4 hS (List.Mem.head _)) rfl rfl (Nat.le_of_ble_eq_true rfl) (fun hq => ?_)
      refine lx_mono (E_S_isLike_m hS hR (List.Mem.head _) (by decide) h) ?_
      rintro _ _ ⟨z1, M1, rfl, rfl, r1, iz1, h⟩
      refine l_if rfl iz1 (fun c => ?_) (fun c => ?_)
      · replace h := h.1 c
        exact E_M_replays_68 hS r1  h
      · replace h := h.2 c
        refine l1 (n := 1) rfl rfl rfl rfl ?_
        refine l3 rfl rfl rfl ?_
        exact E_M_replays_69 hS r1 ⟨by decide, by decide⟩ h
  · replace h := h.2 c
    refine l1 (n := 1) rfl rfl rfl (la_of a0) ?_
    refine l_gr rfl (ko_0 hS (List.Mem.head _)) rfl (fun _ => rfl) (kf_0_9 hR.2 (List.Mem.head _)) ?_
    refine l1 (n := 1) rfl rfl rfl (la_of a0) ?_
    refine l_gr rfl (ko_0 hS (List.Mem.head _)) rfl (fun _ => rfl) (kf_0_8 hR.2 (List.Mem.head _)) ?_
    refine l1 (n := 1) rfl rfl rfl (li_of a1) ?_
    refine b_iv (c := 331) (as := [.ref 324, zv v1]) (rest := []) rfl (by decide) (ko_10 hS (List.Mem.head _)) rfl rfl (Nat.le_of_ble_eq_true rfl) (fun hq => ?_)
    refine lx_mono (E_Y_redo_m hS hR iv1 h) ?_
    rintro _ _ ⟨M2, rfl, rfl, r2, h⟩
    refine l_ii rfl a1 (Nat.le_of_ble_eq_true rfl) (fun ls y1 ho => ?_)
    have y2 := ho 0 _ (by decide) (fun q => by cases q.2) a0
    refine l3 rfl rfl rfl ?_
    obtain ⟨i1, h⟩ := h
    exact hb8 _ (by omega) _ _ _ r2 i1 y2 y1 h
