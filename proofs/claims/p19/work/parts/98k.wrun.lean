/-! the reference's runs as formulas, for lx (printed by wip/tools/vl.py) -/
def e_W_isClient_15 (s0 : Int) (M : rf_M) (K : Int → rf_M → Prop) : Prop := (s0 = 0 ∨ s0 = 1) ∧ K s0 M
theorem E_W_isClient_15 {fz : Bool} {S : gS} {B : rf_M} {M : rf_M} {ls : rf_L} {n0 : Nat} {s0 : Int} {K : Int → rf_M → Prop} (hS : rl S) (hR : fl 353 406 B M) (is0 : inr s0) (h : e_W_isClient_15 s0 M K) : lx (cx0 fz) n0 155 15 ls [zv s0] (M, S) (vl_i 353 406 B S K) := by
  unfold e_W_isClient_15 at h
  exact l_rb rfl rfl h.1 hR h.2
def e_W_isClient_14 (M : rf_M) (K : Int → rf_M → Prop) : Prop := e_W_isClient_15 0 M K
theorem E_W_isClient_14 {fz : Bool} {S : gS} {B : rf_M} {M : rf_M} {ls : rf_L} {n0 : Nat} {K : Int → rf_M → Prop} (hS : rl S) (hR : fl 353 406 B M) (h : e_W_isClient_14 M K) : lx (cx0 fz) n0 155 14 ls [] (M, S) (vl_i 353 406 B S K) := by
  unfold e_W_isClient_14 at h
  refine l1 (n := 1) rfl rfl rfl rfl ?_
  exact E_W_isClient_15 hS hR ⟨by decide, by decide⟩ h
def e_W_isClient (v1 : Int) (M : rf_M) (K : Int → rf_M → Prop) : Prop := (v1 < 0 → (e_W_isClient_14 M K)) ∧ (¬ (v1 < 0) → ((8 ≤ v1 → (e_W_isClient_14 M K)) ∧ (¬ (8 ≤ v1) → (e_W_isClient_15 1 M K))))
theorem E_W_isClient {fz : Bool} {S : gS} {B : rf_M} {M : rf_M} {ls : rf_L} {n0 : Nat} {v1 : Int} {K : Int → rf_M → Prop} (hS : rl S) (hR : fl 353 406 B M) (iv1 : inr v1) (a1 : rf_ld ls 1 = some (zv v1)) (h : e_W_isClient v1 M K) : lx (cx0 fz) n0 155 0 ls [] (M, S) (vl_i 353 406 B S K) := by
  unfold e_W_isClient at h
  refine l1 (n := 1) rfl rfl rfl (li_of a1) ?_
  refine l_if rfl iv1 (fun c => ?_) (fun c => ?_)
  · replace h := h.1 c
    exact E_W_isClient_14 hS hR  h
  · replace h := h.2 c
    refine l1 (n := 1) rfl rfl rfl (li_of a1) ?_
    refine l_bi rfl (by decide) ?_
    refine l_ic rfl iv1 ⟨by decide, by decide⟩ (fun c => ?_) (fun c => ?_)
    · replace h := h.1 c
      exact E_W_isClient_14 hS hR  h
    · replace h := h.2 c
      refine l1 (n := 1) rfl rfl rfl rfl ?_
      refine l3 rfl rfl rfl ?_
      exact E_W_isClient_15 hS hR ⟨by decide, by decide⟩ h
def em_W_isClient (x1 : Int) (M : rf_M) (K : Int → rf_M → Prop) : Prop := e_W_isClient x1 M K
theorem E_W_isClient_m {fz : Bool} {S : gS} {B : rf_M} {M : rf_M} {n0 : Nat} {x1 : Int} {K : Int → rf_M → Prop} (hS : rl S) (hR : fl 353 406 B M) (ix1 : inr x1) (h : em_W_isClient x1 M K) : lx (cx0 fz) n0 155 0 (lv_args 0 [.ref 353, zv x1]) [] (M, S) (vl_i 353 406 B S K) :=
  E_W_isClient hS hR ix1 rfl h
def e_W_bringRead_12b (v1 : Int) (v2 : Int) (M : rf_M) (b12 : Int → Int → rf_M → Prop) (K : rf_M → Prop) : Prop := (16 ≤ v2 → (K M)) ∧ (¬ (16 ≤ v2) → (inr ((16 * v1) + v2) ∧ ((0 ≤ ((16 * v1) + v2) ∧ ((16 * v1) + v2) < 128 → ((0 ≤ v2 ∧ v2 < 16 → (∀ M1 : rf_M, M1 = wl M 389 (v2).toNat (gl M 387 ((16 * v1) + v2).toNat) → (inr ((16 * v1) + v2) ∧ ((0 ≤ ((16 * v1) + v2) ∧ ((16 * v1) + v2) < 128 → ((0 ≤ v2 ∧ v2 < 16 → (∀ M2 : rf_M, M2 = wi M1 390 (v2).toNat (gi M1 388 ((16 * v1) + v2).toNat) → (inr (v2 + 1) ∧ (b12 v1 (v2 + 1) M2)))))))))))))))
theorem E_W_bringRead_12b {fz : Bool} {S : gS} {B : rf_M} {M : rf_M} {ls : rf_L} {n0 : Nat} {v1 : Int} {v2 : Int} {b12 : Int → Int → rf_M → Prop} {K : rf_M → Prop} (hS : rl S) (hR : fl 353 406 B M) (iv1 : inr v1) (iv2 : inr v2) (a0 : rf_ld ls 0 = some (.ref 353)) (a1 : rf_ld ls 1 = some (zv v1)) (a2 : rf_ld ls 2 = some (zv v2)) (hb12 : ∀ n', n' < n0 → ∀ (v1 : Int) (v2 : Int) (M : rf_M) (ls : rf_L), fl 353 406 B M → inr v1 → inr v2 → rf_ld ls 0 = some (.ref 353) → rf_ld ls 1 = some (zv v1) → rf_ld ls 2 = some (zv v2) → b12 v1 v2 M → lx (cx0 fz) n' 157 12 ls [] (M, S) (vl_v 353 406 B S K)) (h : e_W_bringRead_12b v1 v2 M b12 K) : lx (cx0 fz) n0 157 12 ls [] (M, S) (vl_v 353 406 B S K) := by
  unfold e_W_bringRead_12b at h
  rcases Nat.eq_zero_or_pos n0 with e0 | hp
  · rw [e0]; exact lx_zero
  refine l1 (n := 1) rfl rfl rfl (li_of a2) ?_
  refine l_bi rfl (by decide) ?_
  refine l_ic rfl iv2 ⟨by decide, by decide⟩ (fun c => ?_) (fun c => ?_)
  · replace h := h.1 c
    exact l_rv rfl rfl hR h
  · replace h := h.2 c
    refine l1 (n := 1) rfl rfl rfl (la_of a0) ?_
    refine l_gr rfl (ko_11 hS (List.Mem.head _)) rfl (fun _ => rfl) (kf_11_53 hR.2 (List.Mem.head _)) ?_
    refine l1 (n := 1) rfl rfl rfl (li_of a2) ?_
    refine l1 (n := 1) rfl rfl rfl (la_of a0) ?_
    refine l_gr rfl (ko_11 hS (List.Mem.head _)) rfl (fun _ => rfl) (kf_11_50 hR.2 (List.Mem.head _)) ?_
    refine l_bi rfl (by decide) ?_
    refine l1 (n := 1) rfl rfl rfl (li_of a1) ?_
    refine l_mul rfl ?_
    refine l1 (n := 1) rfl rfl rfl (li_of a2) ?_
    refine l_add rfl ?_
    obtain ⟨i1, h⟩ := h
    refine b_la rfl (kc_387 (fz := fz) hS).1 (Nat.le_of_ble_eq_true rfl) i1 (fun q => ?_)
    replace h := h q
    refine b_ls rfl (kc_389 (fz := fz) hS).1 (Nat.le_of_ble_eq_true rfl) iv2 (fun q M1 e => ?_)
    replace h := h q M1 e
    have r1 := hR.wl (Nat.le_of_ble_eq_true rfl) (Nat.le_of_ble_eq_true rfl) e
    refine l1 (n := 1) rfl rfl rfl (la_of a0) ?_
    refine l_gr rfl (ko_11 hS (List.Mem.head _)) rfl (fun _ => rfl) (kf_11_54 r1.2 (List.Mem.head _)) ?_
    refine l1 (n := 1) rfl rfl rfl (li_of a2) ?_
    refine l1 (n := 1) rfl rfl rfl (la_of a0) ?_
    refine l_gr rfl (ko_11 hS (List.Mem.head _)) rfl (fun _ => rfl) (kf_11_51 r1.2 (List.Mem.head _)) ?_
    refine l_bi rfl (by decide) ?_
    refine l1 (n := 1) rfl rfl rfl (li_of a1) ?_
    refine l_mul rfl ?_
    refine l1 (n := 1) rfl rfl rfl (li_of a2) ?_
    refine l_add rfl ?_
    obtain ⟨i2, h⟩ := h
    refine b_ia rfl (kc_388 (fz := fz) hS).1 (Nat.le_of_ble_eq_true rfl) i2 (fun q => ?_)
    replace h := h q
    refine b_is rfl (kc_390 (fz := fz) hS).1 (Nat.le_of_ble_eq_true rfl) iv2 (fun q M2 e => ?_)
    replace h := h q M2 e
    have r2 := r1.wi (Nat.le_of_ble_eq_true rfl) (Nat.le_of_ble_eq_true rfl) e
    refine l_ii rfl a2 (Nat.le_of_ble_eq_true rfl) (fun ls y1 ho => ?_)
    have y2 := ho 0 _ (by decide) (fun q => by cases q.2) a0
    have y3 := ho 1 _ (by decide) (fun q => by cases q.2) a1
    refine l3 rfl rfl rfl ?_
    obtain ⟨i3, h⟩ := h
    exact hb12 _ (by omega) _ _ _ _ r2 iv1 i3 y2 y3 y1 h
def e_W_bringRead_12 (v1 : Int) (v2 : Int) (M : rf_M) (K : rf_M → Prop) : Prop := ∃ Inv : Int → Int → rf_M → Prop, Inv v1 v2 M ∧ ∀ (v1 : Int) (v2 : Int) (M : rf_M), inr v1 → inr v2 → Inv v1 v2 M → e_W_bringRead_12b v1 v2 M Inv K
theorem E_W_bringRead_12 {fz : Bool} {S : gS} {B : rf_M} {M : rf_M} {ls : rf_L} {n0 : Nat} {v1 : Int} {v2 : Int} {K : rf_M → Prop} (hS : rl S) (hR : fl 353 406 B M) (iv1 : inr v1) (iv2 : inr v2) (a0 : rf_ld ls 0 = some (.ref 353)) (a1 : rf_ld ls 1 = some (zv v1)) (a2 : rf_ld ls 2 = some (zv v2)) (h : e_W_bringRead_12 v1 v2 M K) : lx (cx0 fz) n0 157 12 ls [] (M, S) (vl_v 353 406 B S K) := by
  obtain ⟨Inv, hm, hb⟩ := h
  induction n0 using Nat.strongRecOn generalizing ls M v1 v2 with
  | _ n0 ih =>
    refine E_W_bringRead_12b hS hR iv1 iv2 a0 a1 a2 (fun n' hn' v1' v2' M' ls' hR' f0 f1 f2 f3 f4 q2 => ih n' hn' hR' f0 f1 f2 f3 f4 q2) (hb v1 v2 M iv1 iv2 hm)
def e_W_bringRead (v1 : Int) (M : rf_M) (K : rf_M → Prop) : Prop := (0 ≤ v1 ∧ v1 < 8 → (∀ M1 : rf_M, M1 = wi M 353 52 (gi M 386 (v1).toNat) → (e_W_bringRead_12 v1 0 M1 K)))
theorem E_W_bringRead {fz : Bool} {S : gS} {B : rf_M} {M : rf_M} {ls : rf_L} {n0 : Nat} {v1 : Int} {K : rf_M → Prop} (hS : rl S) (hR : fl 353 406 B M) (iv1 : inr v1) (a0 : rf_ld ls 0 = some (.ref 353)) (a1 : rf_ld ls 1 = some (zv v1)) (h : e_W_bringRead v1 M K) : lx (cx0 fz) n0 157 0 ls [] (M, S) (vl_v 353 406 B S K) := by
  unfold e_W_bringRead at h
  refine l1 (n := 1) rfl rfl rfl (la_of a0) ?_
  refine l1 (n := 1) rfl rfl rfl (la_of a0) ?_
  refine l_gr rfl (ko_11 hS (List.Mem.head _)) rfl (fun _ => rfl) (kf_11_49 hR.2 (List.Mem.head _)) ?_
  refine l1 (n := 1) rfl rfl rfl (li_of a1) ?_
  refine b_ia rfl (kc_386 (fz := fz) hS).1 (Nat.le_of_ble_eq_true rfl) iv1 (fun q => ?_)
  replace h := h q
  refine l_pi rfl (ko_11 (fz := fz) hS (List.Mem.head _)) rfl (fun _ _ => rfl) (fun M1 e => ?_)
  replace h := h M1 e
  have r1 := hR.wi (Nat.le_of_ble_eq_true rfl) (Nat.le_of_ble_eq_true rfl) e
  refine l1 (n := 1) rfl rfl rfl rfl ?_
  refine l_s1 (n := 1) rfl rfl rfl rfl (fun ls y1 ho => ?_)
  have y2 := ho 0 _ (by decide) (fun q => by cases q.2) a0
  have y3 := ho 1 _ (by decide) (fun q => by cases q.2) a1
  exact E_W_bringRead_12 hS r1 iv1 ⟨by decide, by decide⟩ y2 y3 y1 h
def em_W_bringRead (x1 : Int) (M : rf_M) (K : rf_M → Prop) : Prop := e_W_bringRead x1 M K
theorem E_W_bringRead_m {fz : Bool} {S : gS} {B : rf_M} {M : rf_M} {n0 : Nat} {x1 : Int} {K : rf_M → Prop} (hS : rl S) (hR : fl 353 406 B M) (ix1 : inr x1) (h : em_W_bringRead x1 M K) : lx (cx0 fz) n0 157 0 (lv_args 0 [.ref 353, zv x1]) [] (M, S) (vl_v 353 406 B S K) :=
  E_W_bringRead hS hR ix1 rfl rfl h
def e_W_isChanged_45 (v1 : Int) (M : rf_M) (b2 : Int → rf_M → Prop) (K : Int → rf_M → Prop) : Prop := inr (v1 + 1) ∧ (b2 (v1 + 1) M)
theorem E_W_isChanged_45 {fz : Bool} {S : gS} {B : rf_M} {M : rf_M} {ls : rf_L} {n0 : Nat} {v1 : Int} {b2 : Int → rf_M → Prop} {K : Int → rf_M → Prop} (hS : rl S) (hR : fl 353 406 B M) (iv1 : inr v1) (a0 : rf_ld ls 0 = some (.ref 353)) (a1 : rf_ld ls 1 = some (zv v1)) (hb2 : ∀ n', n' < n0 → ∀ (v1 : Int) (M : rf_M) (ls : rf_L), fl 353 406 B M → inr v1 → rf_ld ls 0 = some (.ref 353) → rf_ld ls 1 = some (zv v1) → b2 v1 M → lx (cx0 fz) n' 158 2 ls [] (M, S) (vl_i 353 406 B S K)) (h : e_W_isChanged_45 v1 M b2 K) : lx (cx0 fz) n0 158 45 ls [] (M, S) (vl_i 353 406 B S K) := by
  unfold e_W_isChanged_45 at h
  rcases Nat.eq_zero_or_pos n0 with e0 | hp
  · rw [e0]; exact lx_zero
  refine l_ii rfl a1 (Nat.le_of_ble_eq_true rfl) (fun ls y1 ho => ?_)
  have y2 := ho 0 _ (by decide) (fun q => by cases q.2) a0
  refine l3 rfl rfl rfl ?_
  obtain ⟨i1, h⟩ := h
  exact hb2 _ (by omega) _ _ _ hR i1 y2 y1 h
def e_W_isChanged_2b (v1 : Int) (M : rf_M) (b2 : Int → rf_M → Prop) (K : Int → rf_M → Prop) : Prop := (16 ≤ v1 → (K 0 M)) ∧ (¬ (16 ≤ v1) → (((Int32.ofInt (Int32.ofInt (gi M 353 52) >>> (Int32.ofInt v1 &&& 31)).toInt &&& Int32.ofInt 1).toInt = 1 → ((0 ≤ v1 ∧ v1 < 16 → (inr ((16 * (gi M 353 42)) + v1) ∧ ((0 ≤ ((16 * (gi M 353 42)) + v1) ∧ ((16 * (gi M 353 42)) + v1) < 32 → (((gi M 390 (v1).toNat) = (gi M 377 ((16 * (gi M 353 42)) + v1).toNat) → (e_W_isChanged_45 v1 M b2 K)) ∧ (¬ ((gi M 390 (v1).toNat) = (gi M 377 ((16 * (gi M 353 42)) + v1).toNat)) → (K 1 M))))))))) ∧ (¬ (Int32.ofInt (Int32.ofInt (gi M 353 52) >>> (Int32.ofInt v1 &&& 31)).toInt &&& Int32.ofInt 1).toInt = 1 → (e_W_isChanged_45 v1 M b2 K))))
theorem E_W_isChanged_2b {fz : Bool} {S : gS} {B : rf_M} {M : rf_M} {ls : rf_L} {n0 : Nat} {v1 : Int} {b2 : Int → rf_M → Prop} {K : Int → rf_M → Prop} (hS : rl S) (hR : fl 353 406 B M) (iv1 : inr v1) (a0 : rf_ld ls 0 = some (.ref 353)) (a1 : rf_ld ls 1 = some (zv v1)) (hb2 : ∀ n', n' < n0 → ∀ (v1 : Int) (M : rf_M) (ls : rf_L), fl 353 406 B M → inr v1 → rf_ld ls 0 = some (.ref 353) → rf_ld ls 1 = some (zv v1) → b2 v1 M → lx (cx0 fz) n' 158 2 ls [] (M, S) (vl_i 353 406 B S K)) (h : e_W_isChanged_2b v1 M b2 K) : lx (cx0 fz) n0 158 2 ls [] (M, S) (vl_i 353 406 B S K) := by
  unfold e_W_isChanged_2b at h
  rcases Nat.eq_zero_or_pos n0 with e0 | hp
  · rw [e0]; exact lx_zero
  refine l1 (n := 1) rfl rfl rfl (li_of a1) ?_
  refine l_bi rfl (by decide) ?_
  refine l_ic rfl iv1 ⟨by decide, by decide⟩ (fun c => ?_) (fun c => ?_)
  · replace h := h.1 c
    refine l1 (n := 1) rfl rfl rfl rfl ?_
    exact l_rb rfl rfl (Or.inl rfl) hR h
  · replace h := h.2 c
    refine l1 (n := 1) rfl rfl rfl (la_of a0) ?_
    refine l_gi rfl (ko_11 hS (List.Mem.head _)) rfl (fun _ => rfl) ?_
    refine l1 (n := 1) rfl rfl rfl (li_of a1) ?_
    refine l_op (T := (Int32.ofInt (gi M 353 52) >>> (Int32.ofInt v1 &&& 31))) rfl rfl rfl ?_
    refine l1 (n := 1) rfl rfl rfl rfl ?_
    refine l_op (T := (Int32.ofInt (Int32.ofInt (gi M 353 52) >>> (Int32.ofInt v1 &&& 31)).toInt &&& Int32.ofInt 1)) rfl rfl rfl ?_
    refine l1 (n := 1) rfl rfl rfl rfl ?_
    refine l_ic rfl (inr_ti _) ⟨by decide, by decide⟩ (fun c => ?_) (fun c => ?_)
    · replace h := h.2 c
      exact E_W_isChanged_45 hS hR iv1 a0 a1 (fun n' hn' => hb2 n' (by omega)) h
    · replace h := h.1 (Classical.not_not.mp c)
      refine l1 (n := 1) rfl rfl rfl (la_of a0) ?_
      refine l_gr rfl (ko_11 hS (List.Mem.head _)) rfl (fun _ => rfl) (kf_11_54 hR.2 (List.Mem.head _)) ?_
      refine l1 (n := 1) rfl rfl rfl (li_of a1) ?_
      refine b_ia rfl (kc_390 (fz := fz) hS).1 (Nat.le_of_ble_eq_true rfl) iv1 (fun q => ?_)
      replace h := h q
      refine l1 (n := 1) rfl rfl rfl (la_of a0) ?_
      refine l_gr rfl (ko_11 hS (List.Mem.head _)) rfl (fun _ => rfl) (kf_11_39 hR.2 (List.Mem.head _)) ?_
      refine l_bi rfl (by decide) ?_
      refine l1 (n := 1) rfl rfl rfl (la_of a0) ?_
      refine l_gi rfl (ko_11 hS (List.Mem.head _)) rfl (fun _ => rfl) ?_
      refine l_mul rfl ?_
      refine l1 (n := 1) rfl rfl rfl (li_of a1) ?_
      refine l_add rfl ?_
      obtain ⟨i1, h⟩ := h
      refine b_ia rfl (kc_377 (fz := fz) hS).1 (Nat.le_of_ble_eq_true rfl) i1 (fun q => ?_)
      replace h := h q
      refine l_ic rfl (inr_gi _ _ _) (inr_gi _ _ _) (fun c => ?_) (fun c => ?_)
      · replace h := h.1 c
        exact E_W_isChanged_45 hS hR iv1 a0 a1 (fun n' hn' => hb2 n' (by omega)) h
      · replace h := h.2 c
        refine l1 (n := 1) rfl rfl rfl rfl ?_
        exact l_rb rfl rfl (Or.inr rfl) hR h
def e_W_isChanged_2 (v1 : Int) (M : rf_M) (K : Int → rf_M → Prop) : Prop := ∃ Inv : Int → rf_M → Prop, Inv v1 M ∧ ∀ (v1 : Int) (M : rf_M), inr v1 → Inv v1 M → e_W_isChanged_2b v1 M Inv K
theorem E_W_isChanged_2 {fz : Bool} {S : gS} {B : rf_M} {M : rf_M} {ls : rf_L} {n0 : Nat} {v1 : Int} {K : Int → rf_M → Prop} (hS : rl S) (hR : fl 353 406 B M) (iv1 : inr v1) (a0 : rf_ld ls 0 = some (.ref 353)) (a1 : rf_ld ls 1 = some (zv v1)) (h : e_W_isChanged_2 v1 M K) : lx (cx0 fz) n0 158 2 ls [] (M, S) (vl_i 353 406 B S K) := by
  obtain ⟨Inv, hm, hb⟩ := h
  induction n0 using Nat.strongRecOn generalizing ls M v1 with
  | _ n0 ih =>
    refine E_W_isChanged_2b hS hR iv1 a0 a1 (fun n' hn' v1' M' ls' hR' f0 f1 f2 q2 => ih n' hn' hR' f0 f1 f2 q2) (hb v1 M iv1 hm)
def e_W_isChanged (M : rf_M) (K : Int → rf_M → Prop) : Prop := e_W_isChanged_2 0 M K
theorem E_W_isChanged {fz : Bool} {S : gS} {B : rf_M} {M : rf_M} {ls : rf_L} {n0 : Nat} {K : Int → rf_M → Prop} (hS : rl S) (hR : fl 353 406 B M) (a0 : rf_ld ls 0 = some (.ref 353)) (h : e_W_isChanged M K) : lx (cx0 fz) n0 158 0 ls [] (M, S) (vl_i 353 406 B S K) := by
  unfold e_W_isChanged at h
  refine l1 (n := 1) rfl rfl rfl rfl ?_
  refine l_s1 (n := 1) rfl rfl rfl rfl (fun ls y1 ho => ?_)
  have y2 := ho 0 _ (by decide) (fun q => by cases q.2) a0
  exact E_W_isChanged_2 hS hR ⟨by decide, by decide⟩ y2 y1 h
def em_W_isChanged (M : rf_M) (K : Int → rf_M → Prop) : Prop := e_W_isChanged  M K
theorem E_W_isChanged_m {fz : Bool} {S : gS} {B : rf_M} {M : rf_M} {n0 : Nat} {K : Int → rf_M → Prop} (hS : rl S) (hR : fl 353 406 B M) (h : em_W_isChanged  M K) : lx (cx0 fz) n0 158 0 (lv_args 0 [.ref 353]) [] (M, S) (vl_i 353 406 B S K) :=
  E_W_isChanged hS hR rfl h
def e_W_firstOf (v1 : Int) (M : rf_M) (K : Int → rf_M → Prop) : Prop := inr (16 * v1) ∧ ((0 ≤ (16 * v1) ∧ (16 * v1) < 128 → (K (gi M 380 (16 * v1).toNat) M)))
theorem E_W_firstOf {fz : Bool} {S : gS} {B : rf_M} {M : rf_M} {ls : rf_L} {n0 : Nat} {v1 : Int} {K : Int → rf_M → Prop} (hS : rl S) (hR : fl 353 406 B M) (iv1 : inr v1) (a0 : rf_ld ls 0 = some (.ref 353)) (a1 : rf_ld ls 1 = some (zv v1)) (h : e_W_firstOf v1 M K) : lx (cx0 fz) n0 160 0 ls [] (M, S) (vl_i 353 406 B S K) := by
  unfold e_W_firstOf at h
  refine l1 (n := 1) rfl rfl rfl (la_of a0) ?_
  refine l_gr rfl (ko_11 hS (List.Mem.head _)) rfl (fun _ => rfl) (kf_11_43 hR.2 (List.Mem.head _)) ?_
  refine l_bi rfl (by decide) ?_
  refine l1 (n := 1) rfl rfl rfl (li_of a1) ?_
  refine l_mul rfl ?_
  obtain ⟨i1, h⟩ := h
  refine b_ia rfl (kc_380 (fz := fz) hS).1 (Nat.le_of_ble_eq_true rfl) i1 (fun q => ?_)
  replace h := h q
  exact l_ri rfl rfl (inr_gi _ _ _) hR h
def em_W_firstOf (x1 : Int) (M : rf_M) (K : Int → rf_M → Prop) : Prop := e_W_firstOf x1 M K
theorem E_W_firstOf_m {fz : Bool} {S : gS} {B : rf_M} {M : rf_M} {n0 : Nat} {x1 : Int} {K : Int → rf_M → Prop} (hS : rl S) (hR : fl 353 406 B M) (ix1 : inr x1) (h : em_W_firstOf x1 M K) : lx (cx0 fz) n0 160 0 (lv_args 0 [.ref 353, zv x1]) [] (M, S) (vl_i 353 406 B S K) :=
  E_W_firstOf hS hR ix1 rfl rfl h
def e_W_beginWalk_12b (v1 : Int) (v2 : Int) (M : rf_M) (b12 : Int → Int → rf_M → Prop) (K : rf_M → Prop) : Prop := (10 ≤ v2 → ((0 ≤ v1 ∧ v1 < 12 → (∀ M1 : rf_M, M1 = wi M 353 60 (gi M 358 (v1).toNat) → (K M1))))) ∧ (¬ (10 ≤ v2) → ((0 ≤ v2 ∧ v2 < 10 → (∀ M2 : rf_M, M2 = wl M 392 (v2).toNat (Int64.ofNat 0) → (inr (v2 + 1) ∧ (b12 v1 (v2 + 1) M2))))))
theorem E_W_beginWalk_12b {fz : Bool} {S : gS} {B : rf_M} {M : rf_M} {ls : rf_L} {n0 : Nat} {v1 : Int} {v2 : Int} {b12 : Int → Int → rf_M → Prop} {K : rf_M → Prop} (hS : rl S) (hR : fl 353 406 B M) (iv1 : inr v1) (iv2 : inr v2) (a0 : rf_ld ls 0 = some (.ref 353)) (a1 : rf_ld ls 1 = some (zv v1)) (a2 : rf_ld ls 2 = some (zv v2)) (hb12 : ∀ n', n' < n0 → ∀ (v1 : Int) (v2 : Int) (M : rf_M) (ls : rf_L), fl 353 406 B M → inr v1 → inr v2 → rf_ld ls 0 = some (.ref 353) → rf_ld ls 1 = some (zv v1) → rf_ld ls 2 = some (zv v2) → b12 v1 v2 M → lx (cx0 fz) n' 161 12 ls [] (M, S) (vl_v 353 406 B S K)) (h : e_W_beginWalk_12b v1 v2 M b12 K) : lx (cx0 fz) n0 161 12 ls [] (M, S) (vl_v 353 406 B S K) := by
  unfold e_W_beginWalk_12b at h
  rcases Nat.eq_zero_or_pos n0 with e0 | hp
  · rw [e0]; exact lx_zero
  refine l1 (n := 1) rfl rfl rfl (li_of a2) ?_
  refine l_bi rfl (by decide) ?_
  refine l_ic rfl iv2 ⟨by decide, by decide⟩ (fun c => ?_) (fun c => ?_)
  · replace h := h.1 c
    refine l1 (n := 1) rfl rfl rfl (la_of a0) ?_
    refine l1 (n := 1) rfl rfl rfl (la_of a0) ?_
    refine l_gr rfl (ko_11 hS (List.Mem.head _)) rfl (fun _ => rfl) (kf_11_15 hR.2 (List.Mem.head _)) ?_
    refine l1 (n := 1) rfl rfl rfl (li_of a1) ?_
    refine b_ia rfl (kc_358 (fz := fz) hS).1 (Nat.le_of_ble_eq_true rfl) iv1 (fun q => ?_)
    replace h := h q
    refine l_pi rfl (ko_11 (fz := fz) hS (List.Mem.head _)) rfl (fun _ _ => rfl) (fun M1 e => ?_)
    replace h := h M1 e
    have r1 := hR.wi (Nat.le_of_ble_eq_true rfl) (Nat.le_of_ble_eq_true rfl) e
    exact l_rv rfl rfl r1 h
  · replace h := h.2 c
    refine l1 (n := 1) rfl rfl rfl (la_of a0) ?_
    refine l_gr rfl (ko_11 hS (List.Mem.head _)) rfl (fun _ => rfl) (kf_11_57 hR.2 (List.Mem.head _)) ?_
    refine l1 (n := 1) rfl rfl rfl (li_of a2) ?_
    refine l1 (n := 1) rfl rfl rfl rfl ?_
    refine b_ls rfl (kc_392 (fz := fz) hS).1 (Nat.le_of_ble_eq_true rfl) iv2 (fun q M2 e => ?_)
    replace h := h q M2 e
    have r2 := hR.wl (Nat.le_of_ble_eq_true rfl) (Nat.le_of_ble_eq_true rfl) e
    refine l_ii rfl a2 (Nat.le_of_ble_eq_true rfl) (fun ls y1 ho => ?_)
    have y2 := ho 0 _ (by decide) (fun q => by cases q.2) a0
    have y3 := ho 1 _ (by decide) (fun q => by cases q.2) a1
    refine l3 rfl rfl rfl ?_
    obtain ⟨i1, h⟩ := h
    exact hb12 _ (by omega) _ _ _ _ r2 iv1 i1 y2 y3 y1 h
def e_W_beginWalk_12 (v1 : Int) (v2 : Int) (M : rf_M) (K : rf_M → Prop) : Prop := ∃ Inv : Int → Int → rf_M → Prop, Inv v1 v2 M ∧ ∀ (v1 : Int) (v2 : Int) (M : rf_M), inr v1 → inr v2 → Inv v1 v2 M → e_W_beginWalk_12b v1 v2 M Inv K
theorem E_W_beginWalk_12 {fz : Bool} {S : gS} {B : rf_M} {M : rf_M} {ls : rf_L} {n0 : Nat} {v1 : Int} {v2 : Int} {K : rf_M → Prop} (hS : rl S) (hR : fl 353 406 B M) (iv1 : inr v1) (iv2 : inr v2) (a0 : rf_ld ls 0 = some (.ref 353)) (a1 : rf_ld ls 1 = some (zv v1)) (a2 : rf_ld ls 2 = some (zv v2)) (h : e_W_beginWalk_12 v1 v2 M K) : lx (cx0 fz) n0 161 12 ls [] (M, S) (vl_v 353 406 B S K) := by
  obtain ⟨Inv, hm, hb⟩ := h
  induction n0 using Nat.strongRecOn generalizing ls M v1 v2 with
  | _ n0 ih =>
    refine E_W_beginWalk_12b hS hR iv1 iv2 a0 a1 a2 (fun n' hn' v1' v2' M' ls' hR' f0 f1 f2 f3 f4 q2 => ih n' hn' hR' f0 f1 f2 f3 f4 q2) (hb v1 v2 M iv1 iv2 hm)
def e_W_beginWalk (v1 : Int) (M : rf_M) (K : rf_M → Prop) : Prop := ∀ M1 : rf_M, M1 = wi M 353 55 0 → (∀ M2 : rf_M, M2 = wi M1 353 58 0 → (e_W_beginWalk_12 v1 0 M2 K))
theorem E_W_beginWalk {fz : Bool} {S : gS} {B : rf_M} {M : rf_M} {ls : rf_L} {n0 : Nat} {v1 : Int} {K : rf_M → Prop} (hS : rl S) (hR : fl 353 406 B M) (iv1 : inr v1) (a0 : rf_ld ls 0 = some (.ref 353)) (a1 : rf_ld ls 1 = some (zv v1)) (h : e_W_beginWalk v1 M K) : lx (cx0 fz) n0 161 0 ls [] (M, S) (vl_v 353 406 B S K) := by
  unfold e_W_beginWalk at h
  refine l1 (n := 1) rfl rfl rfl (la_of a0) ?_
  refine l1 (n := 1) rfl rfl rfl rfl ?_
  refine l_pi rfl (ko_11 (fz := fz) hS (List.Mem.head _)) rfl (fun _ _ => rfl) (fun M1 e => ?_)
  replace h := h M1 e
  have r1 := hR.wi (Nat.le_of_ble_eq_true rfl) (Nat.le_of_ble_eq_true rfl) e
  refine l1 (n := 1) rfl rfl rfl (la_of a0) ?_
  refine l1 (n := 1) rfl rfl rfl rfl ?_
  refine l_pi rfl (ko_11 (fz := fz) hS (List.Mem.head _)) rfl (fun _ _ => rfl) (fun M2 e => ?_)
  replace h := h M2 e
  have r2 := r1.wi (Nat.le_of_ble_eq_true rfl) (Nat.le_of_ble_eq_true rfl) e
  refine l1 (n := 1) rfl rfl rfl rfl ?_
  refine l_s1 (n := 1) rfl rfl rfl rfl (fun ls y1 ho => ?_)
  have y2 := ho 0 _ (by decide) (fun q => by cases q.2) a0
  have y3 := ho 1 _ (by decide) (fun q => by cases q.2) a1
  exact E_W_beginWalk_12 hS r2 iv1 ⟨by decide, by decide⟩ y2 y3 y1 h
def em_W_beginWalk (x1 : Int) (M : rf_M) (K : rf_M → Prop) : Prop := e_W_beginWalk x1 M K
theorem E_W_beginWalk_m {fz : Bool} {S : gS} {B : rf_M} {M : rf_M} {n0 : Nat} {x1 : Int} {K : rf_M → Prop} (hS : rl S) (hR : fl 353 406 B M) (ix1 : inr x1) (h : em_W_beginWalk x1 M K) : lx (cx0 fz) n0 161 0 (lv_args 0 [.ref 353, zv x1]) [] (M, S) (vl_v 353 406 B S K) :=
  E_W_beginWalk hS hR ix1 rfl rfl h
def e_W_valueOf_112 (v1 : Int) (M : rf_M) (K : Int64 → rf_M → Prop) : Prop := (0 ≤ v1 ∧ v1 < 16 → (K (gl M 389 (v1).toNat) M))
theorem E_W_valueOf_112 {fz : Bool} {S : gS} {B : rf_M} {M : rf_M} {ls : rf_L} {n0 : Nat} {v1 : Int} {K : Int64 → rf_M → Prop} (hS : rl S) (hR : fl 353 406 B M) (iv1 : inr v1) (a0 : rf_ld ls 0 = some (.ref 353)) (a1 : rf_ld ls 1 = some (zv v1)) (h : e_W_valueOf_112 v1 M K) : lx (cx0 fz) n0 164 112 ls [] (M, S) (vl_l 353 406 B S K) := by
  unfold e_W_valueOf_112 at h
  refine l1 (n := 1) rfl rfl rfl (la_of a0) ?_
  refine l_gr rfl (ko_11 hS (List.Mem.head _)) rfl (fun _ => rfl) (kf_11_53 hR.2 (List.Mem.head _)) ?_
  refine l1 (n := 1) rfl rfl rfl (li_of a1) ?_
  refine b_la rfl (kc_389 (fz := fz) hS).1 (Nat.le_of_ble_eq_true rfl) iv1 (fun q => ?_)
  replace h := h q
  exact l_rl rfl rfl hR h
def e_W_valueOf (v1 : Int) (M : rf_M) (K : Int64 → rf_M → Prop) : Prop := (v1 < 16 → (((Int32.ofInt (Int32.ofInt (gi M 353 55) >>> (Int32.ofInt v1 &&& 31)).toInt &&& Int32.ofInt 1).toInt = 1 → ((0 ≤ v1 ∧ v1 < 16 → (K (gl M 391 (v1).toNat) M)))) ∧ (¬ (Int32.ofInt (Int32.ofInt (gi M 353 55) >>> (Int32.ofInt v1 &&& 31)).toInt &&& Int32.ofInt 1).toInt = 1 → (((Int32.ofInt (Int32.ofInt (gi M 353 52) >>> (Int32.ofInt v1 &&& 31)).toInt &&& Int32.ofInt 1).toInt = 0 → (em_W_isChanged  M (fun (z1 : Int) (M1 : rf_M) => (z1 = 0 → (∀ M2 : rf_M, M2 = wi M1 353 52 (Int32.ofInt (gi M1 353 52) ||| Int32.ofInt (Int32.ofInt 1 <<< (Int32.ofInt v1 &&& 31)).toInt).toInt → (inr ((16 * (gi M2 353 42)) + v1) ∧ ((0 ≤ ((16 * (gi M2 353 42)) + v1) ∧ ((16 * (gi M2 353 42)) + v1) < 32 → ((0 ≤ v1 ∧ v1 < 16 → (∀ M3 : rf_M, M3 = wl M2 389 (v1).toNat (gl M2 376 ((16 * (gi M2 353 42)) + v1).toNat) → (inr ((16 * (gi M3 353 42)) + v1) ∧ ((0 ≤ ((16 * (gi M3 353 42)) + v1) ∧ ((16 * (gi M3 353 42)) + v1) < 32 → ((0 ≤ v1 ∧ v1 < 16 → (∀ M4 : rf_M, M4 = wi M3 390 (v1).toNat (gi M3 377 ((16 * (gi M3 353 42)) + v1).toNat) → (e_W_valueOf_112 v1 M4 K))))))))))))))) ∧ (¬ (z1 = 0) → (∀ M5 : rf_M, M5 = wi M1 353 65 2 → (K (Int64.ofNat 0) M5)))))) ∧ (¬ (Int32.ofInt (Int32.ofInt (gi M 353 52) >>> (Int32.ofInt v1 &&& 31)).toInt &&& Int32.ofInt 1).toInt = 0 → (e_W_valueOf_112 v1 M K)))))) ∧ (¬ (v1 < 16) → (inr (v1 - 16) ∧ ((0 ≤ (v1 - 16) ∧ (v1 - 16) < 10 → (K (gl M 392 (v1 - 16).toNat) M)))))
theorem E_W_valueOf {fz : Bool} {S : gS} {B : rf_M} {M : rf_M} {ls : rf_L} {n0 : Nat} {v1 : Int} {K : Int64 → rf_M → Prop} (hS : rl S) (hR : fl 353 406 B M) (iv1 : inr v1) (a0 : rf_ld ls 0 = some (.ref 353)) (a1 : rf_ld ls 1 = some (zv v1)) (h : e_W_valueOf v1 M K) : lx (cx0 fz) n0 164 0 ls [] (M, S) (vl_l 353 406 B S K) := by
  unfold e_W_valueOf at h
  refine l1 (n := 1) rfl rfl rfl (li_of a1) ?_
  refine l_bi rfl (by decide) ?_
  refine l_ic rfl iv1 ⟨by decide, by decide⟩ (fun c => ?_) (fun c => ?_)
  · replace h := h.1 c
    refine l1 (n := 1) rfl rfl rfl (la_of a0) ?_
    refine l_gi rfl (ko_11 hS (List.Mem.head _)) rfl (fun _ => rfl) ?_
    refine l1 (n := 1) rfl rfl rfl (li_of a1) ?_
    refine l_op (T := (Int32.ofInt (gi M 353 55) >>> (Int32.ofInt v1 &&& 31))) rfl rfl rfl ?_
    refine l1 (n := 1) rfl rfl rfl rfl ?_
    refine l_op (T := (Int32.ofInt (Int32.ofInt (gi M 353 55) >>> (Int32.ofInt v1 &&& 31)).toInt &&& Int32.ofInt 1)) rfl rfl rfl ?_
    refine l1 (n := 1) rfl rfl rfl rfl ?_
    refine l_ic rfl (inr_ti _) ⟨by decide, by decide⟩ (fun c => ?_) (fun c => ?_)
    · replace h := h.2 c
      refine l1 (n := 1) rfl rfl rfl (la_of a0) ?_
      refine l_gi rfl (ko_11 hS (List.Mem.head _)) rfl (fun _ => rfl) ?_
      refine l1 (n := 1) rfl rfl rfl (li_of a1) ?_
      refine l_op (T := (Int32.ofInt (gi M 353 52) >>> (Int32.ofInt v1 &&& 31))) rfl rfl rfl ?_
      refine l1 (n := 1) rfl rfl rfl rfl ?_
      refine l_op (T := (Int32.ofInt (Int32.ofInt (gi M 353 52) >>> (Int32.ofInt v1 &&& 31)).toInt &&& Int32.ofInt 1)) rfl rfl rfl ?_
      refine l_if rfl (inr_ti _) (fun c => ?_) (fun c => ?_)
      · replace h := h.2 c
        exact E_W_valueOf_112 hS hR iv1 a0 a1 h
      · replace h := h.1 (Classical.not_not.mp c)
        refine l1 (n := 1) rfl rfl rfl (la_of a0) ?_
        refine b_iv (c := 353) (as := []) (rest := []) rfl (by decide) (ko_11 hS (List.Mem.head _)) rfl rfl (Nat.le_of_ble_eq_true rfl) (fun hq => ?_)
        refine lx_mono (E_W_isChanged_m hS hR h) ?_
        rintro _ _ ⟨z1, M1, rfl, rfl, r1, iz1, h⟩
        refine l_if rfl iz1 (fun c => ?_) (fun c => ?_)
        · replace h := h.1 c
          refine l1 (n := 1) rfl rfl rfl (la_of a0) ?_
          refine l1 (n := 1) rfl rfl rfl (la_of a0) ?_
          refine l_gi rfl (ko_11 hS (List.Mem.head _)) rfl (fun _ => rfl) ?_
          refine l1 (n := 1) rfl rfl rfl rfl ?_
          refine l1 (n := 1) rfl rfl rfl (li_of a1) ?_
          refine l_op (T := (Int32.ofInt 1 <<< (Int32.ofInt v1 &&& 31))) rfl rfl rfl ?_
          refine l_op (T := (Int32.ofInt (gi M1 353 52) ||| Int32.ofInt (Int32.ofInt 1 <<< (Int32.ofInt v1 &&& 31)).toInt)) rfl rfl rfl ?_
          refine l_pi rfl (ko_11 (fz := fz) hS (List.Mem.head _)) rfl (fun _ _ => rfl) (fun M2 e => ?_)
          replace h := h M2 e
          have r2 := r1.wi (Nat.le_of_ble_eq_true rfl) (Nat.le_of_ble_eq_true rfl) e
          refine l1 (n := 1) rfl rfl rfl (la_of a0) ?_
          refine l_gr rfl (ko_11 hS (List.Mem.head _)) rfl (fun _ => rfl) (kf_11_53 r2.2 (List.Mem.head _)) ?_
          refine l1 (n := 1) rfl rfl rfl (li_of a1) ?_
          refine l1 (n := 1) rfl rfl rfl (la_of a0) ?_
          refine l_gr rfl (ko_11 hS (List.Mem.head _)) rfl (fun _ => rfl) (kf_11_38 r2.2 (List.Mem.head _)) ?_
          refine l_bi rfl (by decide) ?_
          refine l1 (n := 1) rfl rfl rfl (la_of a0) ?_
          refine l_gi rfl (ko_11 hS (List.Mem.head _)) rfl (fun _ => rfl) ?_
          refine l_mul rfl ?_
          refine l1 (n := 1) rfl rfl rfl (li_of a1) ?_
          refine l_add rfl ?_
          obtain ⟨i1, h⟩ := h
          refine b_la rfl (kc_376 (fz := fz) hS).1 (Nat.le_of_ble_eq_true rfl) i1 (fun q => ?_)
          replace h := h q
          refine b_ls rfl (kc_389 (fz := fz) hS).1 (Nat.le_of_ble_eq_true rfl) iv1 (fun q M3 e => ?_)
          replace h := h q M3 e
          have r3 := r2.wl (Nat.le_of_ble_eq_true rfl) (Nat.le_of_ble_eq_true rfl) e
          refine l1 (n := 1) rfl rfl rfl (la_of a0) ?_
          refine l_gr rfl (ko_11 hS (List.Mem.head _)) rfl (fun _ => rfl) (kf_11_54 r3.2 (List.Mem.head _)) ?_
          refine l1 (n := 1) rfl rfl rfl (li_of a1) ?_
          refine l1 (n := 1) rfl rfl rfl (la_of a0) ?_
          refine l_gr rfl (ko_11 hS (List.Mem.head _)) rfl (fun _ => rfl) (kf_11_39 r3.2 (List.Mem.head _)) ?_
          refine l_bi rfl (by decide) ?_
          refine l1 (n := 1) rfl rfl rfl (la_of a0) ?_
          refine l_gi rfl (ko_11 hS (List.Mem.head _)) rfl (fun _ => rfl) ?_
          refine l_mul rfl ?_
          refine l1 (n := 1) rfl rfl rfl (li_of a1) ?_
          refine l_add rfl ?_
          obtain ⟨i2, h⟩ := h
          refine b_ia rfl (kc_377 (fz := fz) hS).1 (Nat.le_of_ble_eq_true rfl) i2 (fun q => ?_)
          replace h := h q
          refine b_is rfl (kc_390 (fz := fz) hS).1 (Nat.le_of_ble_eq_true rfl) iv1 (fun q M4 e => ?_)
          replace h := h q M4 e
          have r4 := r3.wi (Nat.le_of_ble_eq_true rfl) (Nat.le_of_ble_eq_true rfl) e
          exact E_W_valueOf_112 hS r4 iv1 a0 a1 h
        · replace h := h.2 c
          refine l1 (n := 1) rfl rfl rfl (la_of a0) ?_
          refine l1 (n := 1) rfl rfl rfl rfl ?_
          refine l_pi rfl (ko_11 (fz := fz) hS (List.Mem.head _)) rfl (fun _ _ => rfl) (fun M5 e => ?_)
          replace h := h M5 e
          have r5 := r1.wi (Nat.le_of_ble_eq_true rfl) (Nat.le_of_ble_eq_true rfl) e
          refine l1 (n := 1) rfl rfl rfl rfl ?_
          exact l_rl rfl rfl r5 h
    · replace h := h.1 (Classical.not_not.mp c)
      refine l1 (n := 1) rfl rfl rfl (la_of a0) ?_
      refine l_gr rfl (ko_11 hS (List.Mem.head _)) rfl (fun _ => rfl) (kf_11_56 hR.2 (List.Mem.head _)) ?_
      refine l1 (n := 1) rfl rfl rfl (li_of a1) ?_
      refine b_la rfl (kc_391 (fz := fz) hS).1 (Nat.le_of_ble_eq_true rfl) iv1 (fun q => ?_)
      replace h := h q
      exact l_rl rfl rfl hR h
  · replace h := h.2 c
    refine l1 (n := 1) rfl rfl rfl (la_of a0) ?_
    refine l_gr rfl (ko_11 hS (List.Mem.head _)) rfl (fun _ => rfl) (kf_11_57 hR.2 (List.Mem.head _)) ?_
    refine l1 (n := 1) rfl rfl rfl (li_of a1) ?_
    refine l_bi rfl (by decide) ?_
    refine l_sub rfl ?_
    obtain ⟨i3, h⟩ := h
    refine b_la rfl (kc_392 (fz := fz) hS).1 (Nat.le_of_ble_eq_true rfl) i3 (fun q => ?_)
    replace h := h q
    exact l_rl rfl rfl hR h
def em_W_valueOf (x1 : Int) (M : rf_M) (K : Int64 → rf_M → Prop) : Prop := e_W_valueOf x1 M K
theorem E_W_valueOf_m {fz : Bool} {S : gS} {B : rf_M} {M : rf_M} {n0 : Nat} {x1 : Int} {K : Int64 → rf_M → Prop} (hS : rl S) (hR : fl 353 406 B M) (ix1 : inr x1) (h : em_W_valueOf x1 M K) : lx (cx0 fz) n0 164 0 (lv_args 0 [.ref 353, zv x1]) [] (M, S) (vl_l 353 406 B S K) :=
  E_W_valueOf hS hR ix1 rfl rfl h
def e_W_two_85 (s0 : Int64) (M : rf_M) (K : Int64 → rf_M → Prop) : Prop := K s0 M
theorem E_W_two_85 {fz : Bool} {S : gS} {B : rf_M} {M : rf_M} {ls : rf_L} {n0 : Nat} {s0 : Int64} {K : Int64 → rf_M → Prop} (hS : rl S) (hR : fl 353 406 B M) (h : e_W_two_85 s0 M K) : lx (cx0 fz) n0 165 85 ls [.long s0] (M, S) (vl_l 353 406 B S K) := by
  unfold e_W_two_85 at h
  exact l_rl rfl rfl hR h
def e_W_two_72 (s0 : Int64) (M : rf_M) (K : Int64 → rf_M → Prop) : Prop := K s0 M
theorem E_W_two_72 {fz : Bool} {S : gS} {B : rf_M} {M : rf_M} {ls : rf_L} {n0 : Nat} {s0 : Int64} {K : Int64 → rf_M → Prop} (hS : rl S) (hR : fl 353 406 B M) (h : e_W_two_72 s0 M K) : lx (cx0 fz) n0 165 72 ls [.long s0] (M, S) (vl_l 353 406 B S K) := by
  unfold e_W_two_72 at h
  exact l_rl rfl rfl hR h
def e_W_two_98 (s0 : Int64) (M : rf_M) (K : Int64 → rf_M → Prop) : Prop := K s0 M
theorem E_W_two_98 {fz : Bool} {S : gS} {B : rf_M} {M : rf_M} {ls : rf_L} {n0 : Nat} {s0 : Int64} {K : Int64 → rf_M → Prop} (hS : rl S) (hR : fl 353 406 B M) (h : e_W_two_98 s0 M K) : lx (cx0 fz) n0 165 98 ls [.long s0] (M, S) (vl_l 353 406 B S K) := by
  unfold e_W_two_98 at h
  exact l_rl rfl rfl hR h
def e_W_two_179 (s0 : Int64) (M : rf_M) (K : Int64 → rf_M → Prop) : Prop := K s0 M
theorem E_W_two_179 {fz : Bool} {S : gS} {B : rf_M} {M : rf_M} {ls : rf_L} {n0 : Nat} {s0 : Int64} {K : Int64 → rf_M → Prop} (hS : rl S) (hR : fl 353 406 B M) (h : e_W_two_179 s0 M K) : lx (cx0 fz) n0 165 179 ls [.long s0] (M, S) (vl_l 353 406 B S K) := by
  unfold e_W_two_179 at h
  exact l_rl rfl rfl hR h
def e_W_two (v1 : Int) (v2 : Int64) (v4 : Int64) (M : rf_M) (K : Int64 → rf_M → Prop) : Prop := (v1 = 35 → (((lg_cmp v2 v4).toInt = 0 → (e_W_two_98 (Int64.ofNat 0) M K)) ∧ (¬ ((lg_cmp v2 v4).toInt = 0) → (e_W_two_98 (Int64.ofNat 1) M K)))) ∧ (v1 = 42 → (K (v2 * v4) M)) ∧ (v1 = 43 → (K (v2 + v4) M)) ∧ (v1 = 45 → (K (v2 - v4) M)) ∧ (v1 = 60 → ((0 ≤ (lg_cmp v2 v4).toInt → (e_W_two_72 (Int64.ofNat 0) M K)) ∧ (¬ (0 ≤ (lg_cmp v2 v4).toInt) → (e_W_two_72 (Int64.ofNat 1) M K)))) ∧ (v1 = 61 → (((lg_cmp v2 v4).toInt = 0 → (e_W_two_85 (Int64.ofNat 1) M K)) ∧ (¬ (lg_cmp v2 v4).toInt = 0 → (e_W_two_85 (Int64.ofNat 0) M K)))) ∧ (¬ v1 = 35 ∧ ¬ v1 = 42 ∧ ¬ v1 = 43 ∧ ¬ v1 = 45 ∧ ¬ v1 = 60 ∧ ¬ v1 = 61 → (((lg_cmp v4 (Int64.ofNat 0)).toInt = 0 → (∀ M1 : rf_M, M1 = wi M 353 65 1 → (∀ M2 : rf_M, M2 = wl M1 353 66 (Int64.ofNat 18446744073709551615) → (K (Int64.ofNat 0) M2)))) ∧ (¬ (lg_cmp v4 (Int64.ofNat 0)).toInt = 0 → ((v1 = 47 → (((lg_cmp v4 (Int64.ofNat 18446744073709551615)).toInt = 0 → (e_W_two_179 (-v2) M K)) ∧ (¬ (lg_cmp v4 (Int64.ofNat 18446744073709551615)).toInt = 0 → ((¬ v4 = 0 → (e_W_two_179 (v2 / v4) M K)))))) ∧ (¬ v1 = 47 → (((lg_cmp v4 (Int64.ofNat 18446744073709551615)).toInt = 0 → (e_W_two_179 (Int64.ofNat 0) M K)) ∧ (¬ (lg_cmp v4 (Int64.ofNat 18446744073709551615)).toInt = 0 → ((¬ v4 = 0 → (e_W_two_179 (v2 - v2 / v4 * v4) M K))))))))))
theorem E_W_two {fz : Bool} {S : gS} {B : rf_M} {M : rf_M} {ls : rf_L} {n0 : Nat} {v1 : Int} {v2 : Int64} {v4 : Int64} {K : Int64 → rf_M → Prop} (hS : rl S) (hR : fl 353 406 B M) (iv1 : inr v1) (a0 : rf_ld ls 0 = some (.ref 353)) (a1 : rf_ld ls 1 = some (zv v1)) (a2 : rf_ld ls 2 = some (.long v2)) (a4 : rf_ld ls 4 = some (.long v4)) (h : e_W_two v1 v2 v4 M K) : lx (cx0 fz) n0 165 0 ls [] (M, S) (vl_l 353 406 B S K) := by
  unfold e_W_two at h
  refine l1 (n := 1) rfl rfl rfl (li_of a1) ?_
  have ia : inr v1 := iv1
  obtain ⟨h1, h⟩ := h
  by_cases e35 : v1 = 35
  · replace h := h1 e35
    refine l_sw (pc' := 86) e35 rfl rfl rfl ?_
    refine l1 (n := 1) rfl rfl rfl (ll_of a2) ?_
    refine l1 (n := 2) rfl rfl rfl (ll_of a4) ?_
    refine l_op (T := (lg_cmp v2 v4)) rfl rfl rfl ?_
    refine l_if rfl (inr_ti _) (fun c => ?_) (fun c => ?_)
    · replace h := h.1 c
      refine l1 (n := 1) rfl rfl rfl rfl ?_
      exact E_W_two_98 hS hR  h
    · replace h := h.2 c
      refine l1 (n := 1) rfl rfl rfl rfl ?_
      refine l3 rfl rfl rfl ?_
      exact E_W_two_98 hS hR  h
  obtain ⟨h1, h⟩ := h
  by_cases e42 : v1 = 42
  · replace h := h1 e42
    refine l_sw (pc' := 109) e42 rfl rfl rfl ?_
    refine l1 (n := 1) rfl rfl rfl (ll_of a2) ?_
    refine l1 (n := 2) rfl rfl rfl (ll_of a4) ?_
    refine l0 rfl rfl rfl ?_
    exact l_rl rfl rfl hR h
  obtain ⟨h1, h⟩ := h
  by_cases e43 : v1 = 43
  · replace h := h1 e43
    refine l_sw (pc' := 99) e43 rfl rfl rfl ?_
    refine l1 (n := 1) rfl rfl rfl (ll_of a2) ?_
    refine l1 (n := 2) rfl rfl rfl (ll_of a4) ?_
    refine l0 rfl rfl rfl ?_
    exact l_rl rfl rfl hR h
  obtain ⟨h1, h⟩ := h
  by_cases e45 : v1 = 45
  · replace h := h1 e45
    refine l_sw (pc' := 104) e45 rfl rfl rfl ?_
    refine l1 (n := 1) rfl rfl rfl (ll_of a2) ?_
    refine l1 (n := 2) rfl rfl rfl (ll_of a4) ?_
    refine l0 rfl rfl rfl ?_
    exact l_rl rfl rfl hR h
  obtain ⟨h1, h⟩ := h
  by_cases e60 : v1 = 60
  · replace h := h1 e60
    refine l_sw (pc' := 60) e60 rfl rfl rfl ?_
    refine l1 (n := 1) rfl rfl rfl (ll_of a2) ?_
    refine l1 (n := 2) rfl rfl rfl (ll_of a4) ?_
    refine l_op (T := (lg_cmp v2 v4)) rfl rfl rfl ?_
    refine l_if rfl (inr_ti _) (fun c => ?_) (fun c => ?_)
    · replace h := h.1 c
      refine l1 (n := 1) rfl rfl rfl rfl ?_
      exact E_W_two_72 hS hR  h
    · replace h := h.2 c
      refine l1 (n := 1) rfl rfl rfl rfl ?_
      refine l3 rfl rfl rfl ?_
      exact E_W_two_72 hS hR  h
  obtain ⟨h1, h⟩ := h
  by_cases e61 : v1 = 61
  · replace h := h1 e61
    refine l_sw (pc' := 73) e61 rfl rfl rfl ?_
    refine l1 (n := 1) rfl rfl rfl (ll_of a2) ?_
    refine l1 (n := 2) rfl rfl rfl (ll_of a4) ?_
    refine l_op (T := (lg_cmp v2 v4)) rfl rfl rfl ?_
    refine l_if rfl (inr_ti _) (fun c => ?_) (fun c => ?_)
    · replace h := h.2 c
      refine l1 (n := 1) rfl rfl rfl rfl ?_
      exact E_W_two_85 hS hR  h
    · replace h := h.1 (Classical.not_not.mp c)
      refine l1 (n := 1) rfl rfl rfl rfl ?_
      refine l3 rfl rfl rfl ?_
      exact E_W_two_85 hS hR  h
  replace h := h ⟨e35, e42, e43, e45, e60, e61⟩
  refine l_swl (t := 114) rfl ia (by simp only [List.tail_cons, rf_sw, if_neg (Ne.symm e35), if_neg (Ne.symm e42), if_neg (Ne.symm e43), if_neg (Ne.symm e45), if_neg (Ne.symm e60), if_neg (Ne.symm e61)]; rfl) ?_
  refine l1 (n := 2) rfl rfl rfl (ll_of a4) ?_
  refine l1 (n := 1) rfl rfl rfl rfl ?_
  refine l_op (T := (lg_cmp v4 (Int64.ofNat 0))) rfl rfl rfl ?_
  refine l_if rfl (inr_ti _) (fun c => ?_) (fun c => ?_)
  · replace h := h.2 c
    refine l1 (n := 1) rfl rfl rfl (li_of a1) ?_
    refine l_bi rfl (by decide) ?_
    refine l_ic rfl iv1 ⟨by decide, by decide⟩ (fun c => ?_) (fun c => ?_)
    · replace h := h.2 c
      refine l1 (n := 2) rfl rfl rfl (ll_of a4) ?_
      refine l7 (n := 3) rfl rfl rfl rfl ?_
      refine l_op (T := (lg_cmp v4 (Int64.ofNat 18446744073709551615))) rfl rfl rfl ?_
      refine l_if rfl (inr_ti _) (fun c => ?_) (fun c => ?_)
      · replace h := h.2 c
        refine l1 (n := 1) rfl rfl rfl (ll_of a2) ?_
        refine l1 (n := 2) rfl rfl rfl (ll_of a4) ?_
        refine b_rm rfl (fun q => ?_)
        replace h := h q
        exact E_W_two_179 hS hR  h
      · replace h := h.1 (Classical.not_not.mp c)
        refine l1 (n := 1) rfl rfl rfl rfl ?_
        refine l3 rfl rfl rfl ?_
        exact E_W_two_179 hS hR  h
    · replace h := h.1 (Classical.not_not.mp c)
      refine l1 (n := 2) rfl rfl rfl (ll_of a4) ?_
      refine l7 (n := 3) rfl rfl rfl rfl ?_
      refine l_op (T := (lg_cmp v4 (Int64.ofNat 18446744073709551615))) rfl rfl rfl ?_
      refine l_if rfl (inr_ti _) (fun c => ?_) (fun c => ?_)
      · replace h := h.2 c
        refine l1 (n := 1) rfl rfl rfl (ll_of a2) ?_
        refine l1 (n := 2) rfl rfl rfl (ll_of a4) ?_
        refine b_dv rfl (fun q => ?_)
        replace h := h q
        refine l3 rfl rfl rfl ?_
        exact E_W_two_179 hS hR  h
      · replace h := h.1 (Classical.not_not.mp c)
        refine l1 (n := 1) rfl rfl rfl (ll_of a2) ?_
        refine l0 rfl rfl rfl ?_
        refine l3 rfl rfl rfl ?_
        exact E_W_two_179 hS hR  h
  · replace h := h.1 (Classical.not_not.mp c)
    refine l1 (n := 1) rfl rfl rfl (la_of a0) ?_
    refine l1 (n := 1) rfl rfl rfl rfl ?_
    refine l_pi rfl (ko_11 (fz := fz) hS (List.Mem.head _)) rfl (fun _ _ => rfl) (fun M1 e => ?_)
    replace h := h M1 e
    have r1 := hR.wi (Nat.le_of_ble_eq_true rfl) (Nat.le_of_ble_eq_true rfl) e
    refine l1 (n := 1) rfl rfl rfl (la_of a0) ?_
    refine l7 (n := 3) rfl rfl rfl rfl ?_
    refine l_pl rfl (ko_11 (fz := fz) hS (List.Mem.head _)) rfl (fun _ _ => rfl) (fun M2 e => ?_)
    replace h := h M2 e
    have r2 := r1.wl (Nat.le_of_ble_eq_true rfl) (Nat.le_of_ble_eq_true rfl) e
    refine l1 (n := 1) rfl rfl rfl rfl ?_
    exact l_rl rfl rfl r2 h
def em_W_two (x1 : Int) (x2 : Int64) (x3 : Int64) (M : rf_M) (K : Int64 → rf_M → Prop) : Prop := e_W_two x1 x2 x3 M K
theorem E_W_two_m {fz : Bool} {S : gS} {B : rf_M} {M : rf_M} {n0 : Nat} {x1 : Int} {x2 : Int64} {x3 : Int64} {K : Int64 → rf_M → Prop} (hS : rl S) (hR : fl 353 406 B M) (ix1 : inr x1) (h : em_W_two x1 x2 x3 M K) : lx (cx0 fz) n0 165 0 (lv_args 0 [.ref 353, zv x1, .long x2, .long x3]) [] (M, S) (vl_l 353 406 B S K) :=
  E_W_two hS hR ix1 rfl rfl rfl rfl h
def e_W_work_162 (v2 : Int) (v3 : Int) (v4 : Int) (M : rf_M) (b5 : Int → Int → Int → rf_M → Prop) (K : Int64 → rf_M → Prop) : Prop := inr (v4 + 1) ∧ (b5 v2 v3 (v4 + 1) M)
theorem E_W_work_162 {fz : Bool} {S : gS} {B : rf_M} {M : rf_M} {ls : rf_L} {n0 : Nat} {v2 : Int} {v3 : Int} {v4 : Int} {b5 : Int → Int → Int → rf_M → Prop} {K : Int64 → rf_M → Prop} (hS : rl S) (hR : fl 353 406 B M) (iv2 : inr v2) (iv3 : inr v3) (iv4 : inr v4) (a0 : rf_ld ls 0 = some (.ref 353)) (a2 : rf_ld ls 2 = some (zv v2)) (a3 : rf_ld ls 3 = some (zv v3)) (a4 : rf_ld ls 4 = some (zv v4)) (hb5 : ∀ n', n' < n0 → ∀ (v2 : Int) (v3 : Int) (v4 : Int) (M : rf_M) (ls : rf_L), fl 353 406 B M → inr v2 → inr v3 → inr v4 → rf_ld ls 0 = some (.ref 353) → rf_ld ls 2 = some (zv v2) → rf_ld ls 3 = some (zv v3) → rf_ld ls 4 = some (zv v4) → b5 v2 v3 v4 M → lx (cx0 fz) n' 163 5 ls [] (M, S) (vl_l 353 406 B S K)) (h : e_W_work_162 v2 v3 v4 M b5 K) : lx (cx0 fz) n0 163 162 ls [] (M, S) (vl_l 353 406 B S K) := by
  unfold e_W_work_162 at h
  rcases Nat.eq_zero_or_pos n0 with e0 | hp
  · rw [e0]; exact lx_zero
  refine l_ii rfl a4 (Nat.le_of_ble_eq_true rfl) (fun ls y1 ho => ?_)
  have y2 := ho 0 _ (by decide) (fun q => by cases q.2) a0
  have y3 := ho 2 _ (by decide) (fun q => by cases q.2) a2
  have y4 := ho 3 _ (by decide) (fun q => by cases q.2) a3
  refine l3 rfl rfl rfl ?_
  obtain ⟨i1, h⟩ := h
  exact hb5 _ (by omega) _ _ _ _ _ hR iv2 iv3 i1 y2 y3 y4 y1 h
def e_W_work_98 (v2 : Int) (v3 : Int) (v4 : Int) (s1 : Int) (s2 : Int64) (M : rf_M) (b5 : Int → Int → Int → rf_M → Prop) (K : Int64 → rf_M → Prop) : Prop := (0 ≤ s1 ∧ s1 < 64 → (∀ M1 : rf_M, M1 = wl M 398 (s1).toNat s2 → (inr (v3 + 1) ∧ (e_W_work_162 v2 (v3 + 1) v4 M1 b5 K))))
theorem E_W_work_98 {fz : Bool} {S : gS} {B : rf_M} {M : rf_M} {ls : rf_L} {n0 : Nat} {v2 : Int} {v3 : Int} {v4 : Int} {s1 : Int} {s2 : Int64} {b5 : Int → Int → Int → rf_M → Prop} {K : Int64 → rf_M → Prop} (hS : rl S) (hR : fl 353 406 B M) (iv2 : inr v2) (iv3 : inr v3) (iv4 : inr v4) (is1 : inr s1) (a0 : rf_ld ls 0 = some (.ref 353)) (a2 : rf_ld ls 2 = some (zv v2)) (a3 : rf_ld ls 3 = some (zv v3)) (a4 : rf_ld ls 4 = some (zv v4)) (hb5 : ∀ n', n' < n0 → ∀ (v2 : Int) (v3 : Int) (v4 : Int) (M : rf_M) (ls : rf_L), fl 353 406 B M → inr v2 → inr v3 → inr v4 → rf_ld ls 0 = some (.ref 353) → rf_ld ls 2 = some (zv v2) → rf_ld ls 3 = some (zv v3) → rf_ld ls 4 = some (zv v4) → b5 v2 v3 v4 M → lx (cx0 fz) n' 163 5 ls [] (M, S) (vl_l 353 406 B S K)) (h : e_W_work_98 v2 v3 v4 s1 s2 M b5 K) : lx (cx0 fz) n0 163 98 ls [.long s2, zv s1, .ref 398] (M, S) (vl_l 353 406 B S K) := by
  unfold e_W_work_98 at h
  rcases Nat.eq_zero_or_pos n0 with e0 | hp
  · rw [e0]; exact lx_zero
  refine b_ls rfl (kc_398 (fz := fz) hS).1 (Nat.le_of_ble_eq_true rfl) is1 (fun q M1 e => ?_)
  replace h := h q M1 e
  have r1 := hR.wl (Nat.le_of_ble_eq_true rfl) (Nat.le_of_ble_eq_true rfl) e
  refine l_ii rfl a3 (Nat.le_of_ble_eq_true rfl) (fun ls y1 ho => ?_)
  have y2 := ho 0 _ (by decide) (fun q => by cases q.2) a0
  have y3 := ho 2 _ (by decide) (fun q => by cases q.2) a2
  have y4 := ho 4 _ (by decide) (fun q => by cases q.2) a4
  refine l3 rfl rfl rfl ?_
  obtain ⟨i1, h⟩ := h
  exact E_W_work_162 hS r1 iv2 i1 iv4 y2 y3 y1 y4 (fun n' hn' => hb5 n' (by omega)) h
def e_W_work_185 (s0 : Int64) (M : rf_M) (K : Int64 → rf_M → Prop) : Prop := K s0 M
theorem E_W_work_185 {fz : Bool} {S : gS} {B : rf_M} {M : rf_M} {ls : rf_L} {n0 : Nat} {s0 : Int64} {K : Int64 → rf_M → Prop} (hS : rl S) (hR : fl 353 406 B M) (h : e_W_work_185 s0 M K) : lx (cx0 fz) n0 163 185 ls [.long s0] (M, S) (vl_l 353 406 B S K) := by
  unfold e_W_work_185 at h
  exact l_rl rfl rfl hR h
def e_W_work_168 (M : rf_M) (K : Int64 → rf_M → Prop) : Prop := ((gi M 353 65) = 0 → ((0 ≤ (0 : Int) ∧ (0 : Int) < 64 → (e_W_work_185 (gl M 398 0) M K)))) ∧ (¬ (gi M 353 65) = 0 → (e_W_work_185 (Int64.ofNat 0) M K))
theorem E_W_work_168 {fz : Bool} {S : gS} {B : rf_M} {M : rf_M} {ls : rf_L} {n0 : Nat} {K : Int64 → rf_M → Prop} (hS : rl S) (hR : fl 353 406 B M) (a0 : rf_ld ls 0 = some (.ref 353)) (h : e_W_work_168 M K) : lx (cx0 fz) n0 163 168 ls [] (M, S) (vl_l 353 406 B S K) := by
  unfold e_W_work_168 at h
  refine l1 (n := 1) rfl rfl rfl (la_of a0) ?_
  refine l_gi rfl (ko_11 hS (List.Mem.head _)) rfl (fun _ => rfl) ?_
  refine l_if rfl (inr_gi _ _ _) (fun c => ?_) (fun c => ?_)
  · replace h := h.2 c
    refine l1 (n := 1) rfl rfl rfl rfl ?_
    exact E_W_work_185 hS hR  h
  · replace h := h.1 (Classical.not_not.mp c)
    refine l1 (n := 1) rfl rfl rfl (la_of a0) ?_
    refine l_gr rfl (ko_11 hS (List.Mem.head _)) rfl (fun _ => rfl) (kf_11_67 hR.2 (List.Mem.head _)) ?_
    refine l1 (n := 1) rfl rfl rfl rfl ?_
    refine b_la rfl (kc_398 (fz := fz) hS).1 (Nat.le_of_ble_eq_true rfl) ⟨by decide, by decide⟩ (fun q => ?_)
    replace h := h q
    refine l3 rfl rfl rfl ?_
    exact E_W_work_185 hS hR  h
def e_W_work_5b (v2 : Int) (v3 : Int) (v4 : Int) (M : rf_M) (b5 : Int → Int → Int → rf_M → Prop) (K : Int64 → rf_M → Prop) : Prop := (0 ≤ v4 ∧ v4 < 2400 → (((gi M 368 (v4).toNat) = 4 → (e_W_work_168 M K)) ∧ (¬ ((gi M 368 (v4).toNat) = 4) → (((gi M 353 65) = 0 → ((0 ≤ v4 ∧ v4 < 2400 → (((gi M 368 (v4).toNat) = 1 → ((0 ≤ v4 ∧ v4 < 2400 → ((0 ≤ v3 ∧ v3 < 64 → (∀ M5 : rf_M, M5 = wl M 398 (v3).toNat (gl M 370 (v4).toNat) → (inr (v3 + 1) ∧ (e_W_work_162 v2 (v3 + 1) v4 M5 b5 K)))))))) ∧ (¬ (gi M 368 (v4).toNat) = 1 → (((gi M 368 (v4).toNat) = 2 → ((v2 = 0 → ((0 ≤ v4 ∧ v4 < 2400 → (em_W_valueOf (gi M 369 (v4).toNat) M (fun (z4 : Int64) (M4 : rf_M) => e_W_work_98 v2 v3 v4 v3 z4 M4 b5 K))))) ∧ (¬ (v2 = 0) → ((0 ≤ v4 ∧ v4 < 2400 → ((0 ≤ (gi M 369 (v4).toNat) ∧ (gi M 369 (v4).toNat) < 16 → (e_W_work_98 v2 v3 v4 v3 (gl M 399 (gi M 369 (v4).toNat).toNat) M b5 K)))))))) ∧ (¬ (gi M 368 (v4).toNat) = 2 → (((gi M 368 (v4).toNat) = 3 → (inr (v3 - 1) ∧ ((0 ≤ (v3 - 1) ∧ (v3 - 1) < 64 → (inr (v3 - 1) ∧ ((0 ≤ (v3 - 1) ∧ (v3 - 1) < 64 → (∀ M3 : rf_M, M3 = wl M 398 (v3 - 1).toNat (-(gl M 398 (v3 - 1).toNat)) → (e_W_work_162 v2 v3 v4 M3 b5 K))))))))) ∧ (¬ (gi M 368 (v4).toNat) = 3 → (inr ((v3 + (-1)) - 1) ∧ ((0 ≤ ((v3 + (-1)) - 1) ∧ ((v3 + (-1)) - 1) < 64 → (inr (v3 + (-1)) ∧ ((0 ≤ (v3 + (-1)) ∧ (v3 + (-1)) < 64 → (em_W_two (gi M 368 (v4).toNat) (gl M 398 ((v3 + (-1)) - 1).toNat) (gl M 398 (v3 + (-1)).toNat) M (fun (z1 : Int64) (M1 : rf_M) => inr ((v3 + (-1)) - 1) ∧ ((0 ≤ ((v3 + (-1)) - 1) ∧ ((v3 + (-1)) - 1) < 64 → (∀ M2 : rf_M, M2 = wl M1 398 ((v3 + (-1)) - 1).toNat z1 → (e_W_work_162 v2 (v3 + (-1)) v4 M2 b5 K))))))))))))))))))))) ∧ (¬ (gi M 353 65) = 0 → (e_W_work_168 M K))))))
theorem E_W_work_5b {fz : Bool} {S : gS} {B : rf_M} {M : rf_M} {ls : rf_L} {n0 : Nat} {v2 : Int} {v3 : Int} {v4 : Int} {b5 : Int → Int → Int → rf_M → Prop} {K : Int64 → rf_M → Prop} (hS : rl S) (hR : fl 353 406 B M) (iv2 : inr v2) (iv3 : inr v3) (iv4 : inr v4) (a0 : rf_ld ls 0 = some (.ref 353)) (a2 : rf_ld ls 2 = some (zv v2)) (a3 : rf_ld ls 3 = some (zv v3)) (a4 : rf_ld ls 4 = some (zv v4)) (hb5 : ∀ n', n' < n0 → ∀ (v2 : Int) (v3 : Int) (v4 : Int) (M : rf_M) (ls : rf_L), fl 353 406 B M → inr v2 → inr v3 → inr v4 → rf_ld ls 0 = some (.ref 353) → rf_ld ls 2 = some (zv v2) → rf_ld ls 3 = some (zv v3) → rf_ld ls 4 = some (zv v4) → b5 v2 v3 v4 M → lx (cx0 fz) n' 163 5 ls [] (M, S) (vl_l 353 406 B S K)) (h : e_W_work_5b v2 v3 v4 M b5 K) : lx (cx0 fz) n0 163 5 ls [] (M, S) (vl_l 353 406 B S K) := by
  unfold e_W_work_5b at h
  rcases Nat.eq_zero_or_pos n0 with e0 | hp
  · rw [e0]; exact lx_zero
  refine l1 (n := 1) rfl rfl rfl (la_of a0) ?_
  refine l_gr rfl (ko_11 hS (List.Mem.head _)) rfl (fun _ => rfl) (kf_11_25 hR.2 (List.Mem.head _)) ?_
  refine l1 (n := 2) rfl rfl rfl (li_of a4) ?_
  refine b_ia rfl (kc_368 (fz := fz) hS).1 (Nat.le_of_ble_eq_true rfl) iv4 (fun q => ?_)
  replace h := h q
  refine l1 (n := 1) rfl rfl rfl rfl ?_
  refine l_ic rfl (inr_gi _ _ _) ⟨by decide, by decide⟩ (fun c => ?_) (fun c => ?_)
  · replace h := h.1 c
    exact E_W_work_168 hS hR a0 h
  · replace h := h.2 c
    refine l1 (n := 1) rfl rfl rfl (la_of a0) ?_
    refine l_gi rfl (ko_11 hS (List.Mem.head _)) rfl (fun _ => rfl) ?_
    refine l_if rfl (inr_gi _ _ _) (fun c => ?_) (fun c => ?_)
    · replace h := h.2 c
      exact E_W_work_168 hS hR a0 h
    · replace h := h.1 (Classical.not_not.mp c)
      refine l1 (n := 1) rfl rfl rfl (la_of a0) ?_
      refine l_gr rfl (ko_11 hS (List.Mem.head _)) rfl (fun _ => rfl) (kf_11_25 hR.2 (List.Mem.head _)) ?_
      refine l1 (n := 2) rfl rfl rfl (li_of a4) ?_
      refine b_ia rfl (kc_368 (fz := fz) hS).1 (Nat.le_of_ble_eq_true rfl) iv4 (fun q => ?_)
      replace h := h q
      refine l_s1 (n := 2) rfl rfl rfl rfl (fun ls y1 ho => ?_)
      have y2 := ho 0 _ (by decide) (fun q => by cases q.2) a0
      have y3 := ho 2 _ (by decide) (fun q => by cases q.2) a2
      have y4 := ho 3 _ (by decide) (fun q => by cases q.2) a3
      have y5 := ho 4 _ (by decide) (fun q => by cases q.2) a4
      refine l1 (n := 2) rfl rfl rfl (li_of y1) ?_
      refine l1 (n := 1) rfl rfl rfl rfl ?_
      refine l_ic rfl (inr_gi _ _ _) ⟨by decide, by decide⟩ (fun c => ?_) (fun c => ?_)
      · replace h := h.2 c
        refine l1 (n := 2) rfl rfl rfl (li_of y1) ?_
        refine l1 (n := 1) rfl rfl rfl rfl ?_
        refine l_ic rfl (inr_gi _ _ _) ⟨by decide, by decide⟩ (fun c => ?_) (fun c => ?_)
        · replace h := h.2 c
          refine l1 (n := 2) rfl rfl rfl (li_of y1) ?_
          refine l1 (n := 1) rfl rfl rfl rfl ?_
          refine l_ic rfl (inr_gi _ _ _) ⟨by decide, by decide⟩ (fun c => ?_) (fun c => ?_)
          · replace h := h.2 c
            refine l_ii rfl y4 (Nat.le_of_ble_eq_true rfl) (fun ls y6 ho => ?_)
            have y7 := ho 0 _ (by decide) (fun q => by cases q.2) y2
            have y8 := ho 2 _ (by decide) (fun q => by cases q.2) y3
            have y9 := ho 4 _ (by decide) (fun q => by cases q.2) y5
            have y10 := ho 5 _ (by decide) (fun q => by cases q.2) y1
            refine l1 (n := 1) rfl rfl rfl (la_of y7) ?_
            refine l_gr rfl (ko_11 hS (List.Mem.head _)) rfl (fun _ => rfl) (kf_11_67 hR.2 (List.Mem.head _)) ?_
            refine l1 (n := 1) rfl rfl rfl (li_of y6) ?_
            refine l1 (n := 1) rfl rfl rfl rfl ?_
            refine l_sub rfl ?_
            refine l1 (n := 1) rfl rfl rfl (la_of y7) ?_
            refine l1 (n := 2) rfl rfl rfl (li_of y10) ?_
            refine l1 (n := 1) rfl rfl rfl (la_of y7) ?_
            refine l_gr rfl (ko_11 hS (List.Mem.head _)) rfl (fun _ => rfl) (kf_11_67 hR.2 (List.Mem.head _)) ?_
            refine l1 (n := 1) rfl rfl rfl (li_of y6) ?_
            refine l1 (n := 1) rfl rfl rfl rfl ?_
            refine l_sub rfl ?_
            obtain ⟨i1, h⟩ := h
            refine b_la rfl (kc_398 (fz := fz) hS).1 (Nat.le_of_ble_eq_true rfl) i1 (fun q => ?_)
            replace h := h q
            refine l1 (n := 1) rfl rfl rfl (la_of y7) ?_
            refine l_gr rfl (ko_11 hS (List.Mem.head _)) rfl (fun _ => rfl) (kf_11_67 hR.2 (List.Mem.head _)) ?_
            refine l1 (n := 1) rfl rfl rfl (li_of y6) ?_
            obtain ⟨i2, h⟩ := h
            refine b_la rfl (kc_398 (fz := fz) hS).1 (Nat.le_of_ble_eq_true rfl) i2 (fun q => ?_)
            replace h := h q
            refine b_iv (c := 353) (as := [zv (gi M 368 (v4).toNat), .long (gl M 398 ((v3 + (-1)) - 1).toNat), .long (gl M 398 (v3 + (-1)).toNat)]) (rest := [zv ((v3 + (-1)) - 1), .ref 398]) rfl (by decide) (ko_11 hS (List.Mem.head _)) rfl rfl (Nat.le_of_ble_eq_true rfl) (fun hq => ?_)
            refine lx_mono (E_W_two_m hS hR (inr_gi _ _ _) h) ?_
            rintro _ _ ⟨z1, M1, rfl, rfl, r1, h⟩
            obtain ⟨i3, h⟩ := h
            refine b_ls rfl (kc_398 (fz := fz) hS).1 (Nat.le_of_ble_eq_true rfl) i3 (fun q M2 e => ?_)
            replace h := h q M2 e
            have r2 := r1.wl (Nat.le_of_ble_eq_true rfl) (Nat.le_of_ble_eq_true rfl) e
            exact E_W_work_162 hS r2 iv2 i2 iv4 y7 y8 y6 y9 (fun n' hn' => hb5 n' (by omega)) h
          · replace h := h.1 (Classical.not_not.mp c)
            refine l1 (n := 1) rfl rfl rfl (la_of y2) ?_
            refine l_gr rfl (ko_11 hS (List.Mem.head _)) rfl (fun _ => rfl) (kf_11_67 hR.2 (List.Mem.head _)) ?_
            refine l1 (n := 1) rfl rfl rfl (li_of y4) ?_
            refine l1 (n := 1) rfl rfl rfl rfl ?_
            refine l_sub rfl ?_
            refine l1 (n := 1) rfl rfl rfl (la_of y2) ?_
            refine l_gr rfl (ko_11 hS (List.Mem.head _)) rfl (fun _ => rfl) (kf_11_67 hR.2 (List.Mem.head _)) ?_
            refine l1 (n := 1) rfl rfl rfl (li_of y4) ?_
            refine l1 (n := 1) rfl rfl rfl rfl ?_
            refine l_sub rfl ?_
            obtain ⟨i4, h⟩ := h
            refine b_la rfl (kc_398 (fz := fz) hS).1 (Nat.le_of_ble_eq_true rfl) i4 (fun q => ?_)
            replace h := h q
            refine l0 rfl rfl rfl ?_
            obtain ⟨i5, h⟩ := h
            refine b_ls rfl (kc_398 (fz := fz) hS).1 (Nat.le_of_ble_eq_true rfl) i5 (fun q M3 e => ?_)
            replace h := h q M3 e
            have r3 := hR.wl (Nat.le_of_ble_eq_true rfl) (Nat.le_of_ble_eq_true rfl) e
            refine l3 rfl rfl rfl ?_
            exact E_W_work_162 hS r3 iv2 iv3 iv4 y2 y3 y4 y5 (fun n' hn' => hb5 n' (by omega)) h
        · replace h := h.1 (Classical.not_not.mp c)
          refine l1 (n := 1) rfl rfl rfl (la_of y2) ?_
          refine l_gr rfl (ko_11 hS (List.Mem.head _)) rfl (fun _ => rfl) (kf_11_67 hR.2 (List.Mem.head _)) ?_
          refine l1 (n := 1) rfl rfl rfl (li_of y4) ?_
          refine l1 (n := 1) rfl rfl rfl (li_of y3) ?_
          refine l_if rfl iv2 (fun c => ?_) (fun c => ?_)
          · replace h := h.1 c
            refine l1 (n := 1) rfl rfl rfl (la_of y2) ?_
            refine l1 (n := 1) rfl rfl rfl (la_of y2) ?_
            refine l_gr rfl (ko_11 hS (List.Mem.head _)) rfl (fun _ => rfl) (kf_11_26 hR.2 (List.Mem.head _)) ?_
            refine l1 (n := 2) rfl rfl rfl (li_of y5) ?_
            refine b_ia rfl (kc_369 (fz := fz) hS).1 (Nat.le_of_ble_eq_true rfl) iv4 (fun q => ?_)
            replace h := h q
            refine b_iv (c := 353) (as := [zv (gi M 369 (v4).toNat)]) (rest := [zv v3, .ref 398]) rfl (by decide) (ko_11 hS (List.Mem.head _)) rfl rfl (Nat.le_of_ble_eq_true rfl) (fun hq => ?_)
            refine lx_mono (E_W_valueOf_m hS hR (inr_gi _ _ _) h) ?_
            rintro _ _ ⟨z4, M4, rfl, rfl, r4, h⟩
            exact E_W_work_98 hS r4 iv2 iv3 iv4 iv3 y2 y3 y4 y5 (fun n' hn' => hb5 n' (by omega)) h
          · replace h := h.2 c
            refine l1 (n := 1) rfl rfl rfl (la_of y2) ?_
            refine l_gr rfl (ko_11 hS (List.Mem.head _)) rfl (fun _ => rfl) (kf_11_68 hR.2 (List.Mem.head _)) ?_
            refine l1 (n := 1) rfl rfl rfl (la_of y2) ?_
            refine l_gr rfl (ko_11 hS (List.Mem.head _)) rfl (fun _ => rfl) (kf_11_26 hR.2 (List.Mem.head _)) ?_
            refine l1 (n := 2) rfl rfl rfl (li_of y5) ?_
            refine b_ia rfl (kc_369 (fz := fz) hS).1 (Nat.le_of_ble_eq_true rfl) iv4 (fun q => ?_)
            replace h := h q
            refine b_la rfl (kc_399 (fz := fz) hS).1 (Nat.le_of_ble_eq_true rfl) (inr_gi _ _ _) (fun q => ?_)
            replace h := h q
            refine l3 rfl rfl rfl ?_
            exact E_W_work_98 hS hR iv2 iv3 iv4 iv3 y2 y3 y4 y5 (fun n' hn' => hb5 n' (by omega)) h
      · replace h := h.1 (Classical.not_not.mp c)
        refine l1 (n := 1) rfl rfl rfl (la_of y2) ?_
        refine l_gr rfl (ko_11 hS (List.Mem.head _)) rfl (fun _ => rfl) (kf_11_67 hR.2 (List.Mem.head _)) ?_
        refine l1 (n := 1) rfl rfl rfl (li_of y4) ?_
        refine l1 (n := 1) rfl rfl rfl (la_of y2) ?_
        refine l_gr rfl (ko_11 hS (List.Mem.head _)) rfl (fun _ => rfl) (kf_11_27 hR.2 (List.Mem.head _)) ?_
        refine l1 (n := 2) rfl rfl rfl (li_of y5) ?_
        refine b_la rfl (kc_370 (fz := fz) hS).1 (Nat.le_of_ble_eq_true rfl) iv4 (fun q => ?_)
        replace h := h q
        refine b_ls rfl (kc_398 (fz := fz) hS).1 (Nat.le_of_ble_eq_true rfl) iv3 (fun q M5 e => ?_)
        replace h := h q M5 e
        have r5 := hR.wl (Nat.le_of_ble_eq_true rfl) (Nat.le_of_ble_eq_true rfl) e
        refine l_ii rfl y4 (Nat.le_of_ble_eq_true rfl) (fun ls y11 ho => ?_)
        have y12 := ho 0 _ (by decide) (fun q => by cases q.2) y2
        have y13 := ho 2 _ (by decide) (fun q => by cases q.2) y3
        have y14 := ho 4 _ (by decide) (fun q => by cases q.2) y5
        refine l3 rfl rfl rfl ?_
        obtain ⟨i6, h⟩ := h
        exact E_W_work_162 hS r5 iv2 i6 iv4 y12 y13 y11 y14 (fun n' hn' => hb5 n' (by omega)) h
def e_W_work_5 (v2 : Int) (v3 : Int) (v4 : Int) (M : rf_M) (K : Int64 → rf_M → Prop) : Prop := ∃ Inv : Int → Int → Int → rf_M → Prop, Inv v2 v3 v4 M ∧ ∀ (v2 : Int) (v3 : Int) (v4 : Int) (M : rf_M), inr v2 → inr v3 → inr v4 → Inv v2 v3 v4 M → e_W_work_5b v2 v3 v4 M Inv K
theorem E_W_work_5 {fz : Bool} {S : gS} {B : rf_M} {M : rf_M} {ls : rf_L} {n0 : Nat} {v2 : Int} {v3 : Int} {v4 : Int} {K : Int64 → rf_M → Prop} (hS : rl S) (hR : fl 353 406 B M) (iv2 : inr v2) (iv3 : inr v3) (iv4 : inr v4) (a0 : rf_ld ls 0 = some (.ref 353)) (a2 : rf_ld ls 2 = some (zv v2)) (a3 : rf_ld ls 3 = some (zv v3)) (a4 : rf_ld ls 4 = some (zv v4)) (h : e_W_work_5 v2 v3 v4 M K) : lx (cx0 fz) n0 163 5 ls [] (M, S) (vl_l 353 406 B S K) := by
  obtain ⟨Inv, hm, hb⟩ := h
  induction n0 using Nat.strongRecOn generalizing ls M v2 v3 v4 with
  | _ n0 ih =>
    refine E_W_work_5b hS hR iv2 iv3 iv4 a0 a2 a3 a4 (fun n' hn' v2' v3' v4' M' ls' hR' f0 f1 f2 f3 f4 f5 f6 q2 => ih n' hn' hR' f0 f1 f2 f3 f4 f5 f6 q2) (hb v2 v3 v4 M iv2 iv3 iv4 hm)
def e_W_work (v1 : Int) (v2 : Int) (M : rf_M) (K : Int64 → rf_M → Prop) : Prop := e_W_work_5 v2 0 v1 M K
theorem E_W_work {fz : Bool} {S : gS} {B : rf_M} {M : rf_M} {ls : rf_L} {n0 : Nat} {v1 : Int} {v2 : Int} {K : Int64 → rf_M → Prop} (hS : rl S) (hR : fl 353 406 B M) (iv1 : inr v1) (iv2 : inr v2) (a0 : rf_ld ls 0 = some (.ref 353)) (a1 : rf_ld ls 1 = some (zv v1)) (a2 : rf_ld ls 2 = some (zv v2)) (h : e_W_work v1 v2 M K) : lx (cx0 fz) n0 163 0 ls [] (M, S) (vl_l 353 406 B S K) := by
  unfold e_W_work at h
  refine l1 (n := 1) rfl rfl rfl rfl ?_
  refine l_s1 (n := 1) rfl rfl rfl rfl (fun ls y1 ho => ?_)
  have y2 := ho 0 _ (by decide) (fun q => by cases q.2) a0
  have y3 := ho 1 _ (by decide) (fun q => by cases q.2) a1
  have y4 := ho 2 _ (by decide) (fun q => by cases q.2) a2
  refine l1 (n := 1) rfl rfl rfl (li_of y3) ?_
  refine l_s1 (n := 2) rfl rfl rfl rfl (fun ls y5 ho => ?_)
  have y6 := ho 0 _ (by decide) (fun q => by cases q.2) y2
  have y7 := ho 2 _ (by decide) (fun q => by cases q.2) y4
  have y8 := ho 3 _ (by decide) (fun q => by cases q.2) y1
  exact E_W_work_5 hS hR iv2 ⟨by decide, by decide⟩ iv1 y6 y7 y8 y5 h
def em_W_work (x1 : Int) (x2 : Int) (M : rf_M) (K : Int64 → rf_M → Prop) : Prop := e_W_work x1 x2 M K
theorem E_W_work_m {fz : Bool} {S : gS} {B : rf_M} {M : rf_M} {n0 : Nat} {x1 : Int} {x2 : Int} {K : Int64 → rf_M → Prop} (hS : rl S) (hR : fl 353 406 B M) (ix1 : inr x1) (ix2 : inr x2) (h : em_W_work x1 x2 M K) : lx (cx0 fz) n0 163 0 (lv_args 0 [.ref 353, zv x1, zv x2]) [] (M, S) (vl_l 353 406 B S K) :=
  E_W_work hS hR ix1 ix2 rfl rfl rfl h
def e_W_around_42 (v2 : Int) (v4 : Int) (M : rf_M) (b2 : Int → Int → rf_M → Prop) (K : Int → rf_M → Prop) : Prop := b2 v2 v4 M
theorem E_W_around_42 {fz : Bool} {S : gS} {B : rf_M} {M : rf_M} {ls : rf_L} {n0 : Nat} {v2 : Int} {v4 : Int} {b2 : Int → Int → rf_M → Prop} {K : Int → rf_M → Prop} (hS : rl S) (hR : fl 353 406 B M) (iv2 : inr v2) (iv4 : inr v4) (a0 : rf_ld ls 0 = some (.ref 353)) (a2 : rf_ld ls 2 = some (zv v2)) (a4 : rf_ld ls 4 = some (zv v4)) (hb2 : ∀ n', n' < n0 → ∀ (v2 : Int) (v3 : Int) (M : rf_M) (ls : rf_L), fl 353 406 B M → inr v2 → inr v3 → rf_ld ls 0 = some (.ref 353) → rf_ld ls 2 = some (zv v2) → rf_ld ls 3 = some (zv v3) → b2 v2 v3 M → lx (cx0 fz) n' 167 2 ls [] (M, S) (vl_i 353 406 B S K)) (h : e_W_around_42 v2 v4 M b2 K) : lx (cx0 fz) n0 167 42 ls [] (M, S) (vl_i 353 406 B S K) := by
  unfold e_W_around_42 at h
  rcases Nat.eq_zero_or_pos n0 with e0 | hp
  · rw [e0]; exact lx_zero
  refine l1 (n := 2) rfl rfl rfl (li_of a4) ?_
  refine l_s1 (n := 1) rfl rfl rfl rfl (fun ls y1 ho => ?_)
  have y2 := ho 0 _ (by decide) (fun q => by cases q.2) a0
  have y3 := ho 2 _ (by decide) (fun q => by cases q.2) a2
  refine l3 rfl rfl rfl ?_
  exact hb2 _ (by omega) _ _ _ _ hR iv2 iv4 y2 y3 y1 h
def e_W_around_2b (v2 : Int) (v3 : Int) (M : rf_M) (b2 : Int → Int → rf_M → Prop) (K : Int → rf_M → Prop) : Prop := (v3 < 0 → (K (-1) M)) ∧ (¬ (v3 < 0) → ((0 ≤ v3 ∧ v3 < 480 → (((gi M 362 (v3).toNat) < 0 → (e_W_around_42 v2 (gi M 362 (v3).toNat) M b2 K)) ∧ (¬ ((gi M 362 (v3).toNat) < 0) → ((0 ≤ (gi M 362 (v3).toNat) ∧ (gi M 362 (v3).toNat) < 480 → (((gi M 360 (gi M 362 (v3).toNat).toNat) = v2 → ((0 ≤ v3 ∧ v3 < 480 → (((gi M 363 (v3).toNat) = 0 → (K (gi M 362 (v3).toNat) M)) ∧ (¬ (gi M 363 (v3).toNat) = 0 → (e_W_around_42 v2 (gi M 362 (v3).toNat) M b2 K)))))) ∧ (¬ (gi M 360 (gi M 362 (v3).toNat).toNat) = v2 → (e_W_around_42 v2 (gi M 362 (v3).toNat) M b2 K))))))))))
theorem E_W_around_2b {fz : Bool} {S : gS} {B : rf_M} {M : rf_M} {ls : rf_L} {n0 : Nat} {v2 : Int} {v3 : Int} {b2 : Int → Int → rf_M → Prop} {K : Int → rf_M → Prop} (hS : rl S) (hR : fl 353 406 B M) (iv2 : inr v2) (iv3 : inr v3) (a0 : rf_ld ls 0 = some (.ref 353)) (a2 : rf_ld ls 2 = some (zv v2)) (a3 : rf_ld ls 3 = some (zv v3)) (hb2 : ∀ n', n' < n0 → ∀ (v2 : Int) (v3 : Int) (M : rf_M) (ls : rf_L), fl 353 406 B M → inr v2 → inr v3 → rf_ld ls 0 = some (.ref 353) → rf_ld ls 2 = some (zv v2) → rf_ld ls 3 = some (zv v3) → b2 v2 v3 M → lx (cx0 fz) n' 167 2 ls [] (M, S) (vl_i 353 406 B S K)) (h : e_W_around_2b v2 v3 M b2 K) : lx (cx0 fz) n0 167 2 ls [] (M, S) (vl_i 353 406 B S K) := by
  unfold e_W_around_2b at h
  rcases Nat.eq_zero_or_pos n0 with e0 | hp
  · rw [e0]; exact lx_zero
  refine l1 (n := 1) rfl rfl rfl (li_of a3) ?_
  refine l_if rfl iv3 (fun c => ?_) (fun c => ?_)
  · replace h := h.1 c
    refine l1 (n := 1) rfl rfl rfl rfl ?_
    exact l_ri rfl rfl ⟨by decide, by decide⟩ hR h
  · replace h := h.2 c
    refine l1 (n := 1) rfl rfl rfl (la_of a0) ?_
    refine l_gr rfl (ko_11 hS (List.Mem.head _)) rfl (fun _ => rfl) (kf_11_19 hR.2 (List.Mem.head _)) ?_
    refine l1 (n := 1) rfl rfl rfl (li_of a3) ?_
    refine b_ia rfl (kc_362 (fz := fz) hS).1 (Nat.le_of_ble_eq_true rfl) iv3 (fun q => ?_)
    replace h := h q
    refine l_s1 (n := 2) rfl rfl rfl rfl (fun ls y1 ho => ?_)
    have y2 := ho 0 _ (by decide) (fun q => by cases q.2) a0
    have y3 := ho 2 _ (by decide) (fun q => by cases q.2) a2
    have y4 := ho 3 _ (by decide) (fun q => by cases q.2) a3
    refine l1 (n := 2) rfl rfl rfl (li_of y1) ?_
    refine l_if rfl (inr_gi _ _ _) (fun c => ?_) (fun c => ?_)
    · replace h := h.1 c
      exact E_W_around_42 hS hR iv2 (inr_gi _ _ _) y2 y3 y1 (fun n' hn' => hb2 n' (by omega)) h
    · replace h := h.2 c
      refine l1 (n := 1) rfl rfl rfl (la_of y2) ?_
      refine l_gr rfl (ko_11 hS (List.Mem.head _)) rfl (fun _ => rfl) (kf_11_17 hR.2 (List.Mem.head _)) ?_
      refine l1 (n := 2) rfl rfl rfl (li_of y1) ?_
      refine b_ia rfl (kc_360 (fz := fz) hS).1 (Nat.le_of_ble_eq_true rfl) (inr_gi _ _ _) (fun q => ?_)
      replace h := h q
      refine l1 (n := 1) rfl rfl rfl (li_of y3) ?_
      refine l_ic rfl (inr_gi _ _ _) iv2 (fun c => ?_) (fun c => ?_)
      · replace h := h.2 c
        exact E_W_around_42 hS hR iv2 (inr_gi _ _ _) y2 y3 y1 (fun n' hn' => hb2 n' (by omega)) h
      · replace h := h.1 (Classical.not_not.mp c)
        refine l1 (n := 1) rfl rfl rfl (la_of y2) ?_
        refine l_gr rfl (ko_11 hS (List.Mem.head _)) rfl (fun _ => rfl) (kf_11_20 hR.2 (List.Mem.head _)) ?_
        refine l1 (n := 1) rfl rfl rfl (li_of y4) ?_
        refine b_ia rfl (kc_363 (fz := fz) hS).1 (Nat.le_of_ble_eq_true rfl) iv3 (fun q => ?_)
        replace h := h q
        refine l_if rfl (inr_gi _ _ _) (fun c => ?_) (fun c => ?_)
        · replace h := h.2 c
          exact E_W_around_42 hS hR iv2 (inr_gi _ _ _) y2 y3 y1 (fun n' hn' => hb2 n' (by omega)) h
        · replace h := h.1 (Classical.not_not.mp c)
          refine l1 (n := 2) rfl rfl rfl (li_of y1) ?_
          exact l_ri rfl rfl (inr_gi _ _ _) hR h
def e_W_around_2 (v2 : Int) (v3 : Int) (M : rf_M) (K : Int → rf_M → Prop) : Prop := ∃ Inv : Int → Int → rf_M → Prop, Inv v2 v3 M ∧ ∀ (v2 : Int) (v3 : Int) (M : rf_M), inr v2 → inr v3 → Inv v2 v3 M → e_W_around_2b v2 v3 M Inv K
theorem E_W_around_2 {fz : Bool} {S : gS} {B : rf_M} {M : rf_M} {ls : rf_L} {n0 : Nat} {v2 : Int} {v3 : Int} {K : Int → rf_M → Prop} (hS : rl S) (hR : fl 353 406 B M) (iv2 : inr v2) (iv3 : inr v3) (a0 : rf_ld ls 0 = some (.ref 353)) (a2 : rf_ld ls 2 = some (zv v2)) (a3 : rf_ld ls 3 = some (zv v3)) (h : e_W_around_2 v2 v3 M K) : lx (cx0 fz) n0 167 2 ls [] (M, S) (vl_i 353 406 B S K) := by
  obtain ⟨Inv, hm, hb⟩ := h
  induction n0 using Nat.strongRecOn generalizing ls M v2 v3 with
  | _ n0 ih =>
    refine E_W_around_2b hS hR iv2 iv3 a0 a2 a3 (fun n' hn' v2' v3' M' ls' hR' f0 f1 f2 f3 f4 q2 => ih n' hn' hR' f0 f1 f2 f3 f4 q2) (hb v2 v3 M iv2 iv3 hm)
def e_W_around (v1 : Int) (v2 : Int) (M : rf_M) (K : Int → rf_M → Prop) : Prop := e_W_around_2 v2 v1 M K
theorem E_W_around {fz : Bool} {S : gS} {B : rf_M} {M : rf_M} {ls : rf_L} {n0 : Nat} {v1 : Int} {v2 : Int} {K : Int → rf_M → Prop} (hS : rl S) (hR : fl 353 406 B M) (iv1 : inr v1) (iv2 : inr v2) (a0 : rf_ld ls 0 = some (.ref 353)) (a1 : rf_ld ls 1 = some (zv v1)) (a2 : rf_ld ls 2 = some (zv v2)) (h : e_W_around v1 v2 M K) : lx (cx0 fz) n0 167 0 ls [] (M, S) (vl_i 353 406 B S K) := by
  unfold e_W_around at h
  refine l1 (n := 1) rfl rfl rfl (li_of a1) ?_
  refine l_s1 (n := 1) rfl rfl rfl rfl (fun ls y1 ho => ?_)
  have y2 := ho 0 _ (by decide) (fun q => by cases q.2) a0
  have y3 := ho 2 _ (by decide) (fun q => by cases q.2) a2
  exact E_W_around_2 hS hR iv2 iv1 y2 y3 y1 h
def em_W_around (x1 : Int) (x2 : Int) (M : rf_M) (K : Int → rf_M → Prop) : Prop := e_W_around x1 x2 M K
theorem E_W_around_m {fz : Bool} {S : gS} {B : rf_M} {M : rf_M} {n0 : Nat} {x1 : Int} {x2 : Int} {K : Int → rf_M → Prop} (hS : rl S) (hR : fl 353 406 B M) (ix1 : inr x1) (ix2 : inr x2) (h : em_W_around x1 x2 M K) : lx (cx0 fz) n0 167 0 (lv_args 0 [.ref 353, zv x1, zv x2]) [] (M, S) (vl_i 353 406 B S K) :=
  E_W_around hS hR ix1 ix2 rfl rfl rfl h
def e_W_bringBack_53b (v1 : Int) (v2 : Int) (M : rf_M) (b53 : Int → Int → rf_M → Prop) (K : rf_M → Prop) : Prop := (10 ≤ v2 → (K M)) ∧ (¬ (10 ≤ v2) → (inr ((10 * v1) + v2) ∧ ((0 ≤ ((10 * v1) + v2) ∧ ((10 * v1) + v2) < 4800 → ((0 ≤ v2 ∧ v2 < 10 → (∀ M1 : rf_M, M1 = wl M 392 (v2).toNat (gl M 396 ((10 * v1) + v2).toNat) → (inr (v2 + 1) ∧ (b53 v1 (v2 + 1) M1)))))))))
theorem E_W_bringBack_53b {fz : Bool} {S : gS} {B : rf_M} {M : rf_M} {ls : rf_L} {n0 : Nat} {v1 : Int} {v2 : Int} {b53 : Int → Int → rf_M → Prop} {K : rf_M → Prop} (hS : rl S) (hR : fl 353 406 B M) (iv1 : inr v1) (iv2 : inr v2) (a0 : rf_ld ls 0 = some (.ref 353)) (a1 : rf_ld ls 1 = some (zv v1)) (a2 : rf_ld ls 2 = some (zv v2)) (hb53 : ∀ n', n' < n0 → ∀ (v1 : Int) (v2 : Int) (M : rf_M) (ls : rf_L), fl 353 406 B M → inr v1 → inr v2 → rf_ld ls 0 = some (.ref 353) → rf_ld ls 1 = some (zv v1) → rf_ld ls 2 = some (zv v2) → b53 v1 v2 M → lx (cx0 fz) n' 168 53 ls [] (M, S) (vl_v 353 406 B S K)) (h : e_W_bringBack_53b v1 v2 M b53 K) : lx (cx0 fz) n0 168 53 ls [] (M, S) (vl_v 353 406 B S K) := by
  unfold e_W_bringBack_53b at h
  rcases Nat.eq_zero_or_pos n0 with e0 | hp
  · rw [e0]; exact lx_zero
  refine l1 (n := 1) rfl rfl rfl (li_of a2) ?_
  refine l_bi rfl (by decide) ?_
  refine l_ic rfl iv2 ⟨by decide, by decide⟩ (fun c => ?_) (fun c => ?_)
  · replace h := h.1 c
    exact l_rv rfl rfl hR h
  · replace h := h.2 c
    refine l1 (n := 1) rfl rfl rfl (la_of a0) ?_
    refine l_gr rfl (ko_11 hS (List.Mem.head _)) rfl (fun _ => rfl) (kf_11_57 hR.2 (List.Mem.head _)) ?_
    refine l1 (n := 1) rfl rfl rfl (li_of a2) ?_
    refine l1 (n := 1) rfl rfl rfl (la_of a0) ?_
    refine l_gr rfl (ko_11 hS (List.Mem.head _)) rfl (fun _ => rfl) (kf_11_63 hR.2 (List.Mem.head _)) ?_
    refine l_bi rfl (by decide) ?_
    refine l1 (n := 1) rfl rfl rfl (li_of a1) ?_
    refine l_mul rfl ?_
    refine l1 (n := 1) rfl rfl rfl (li_of a2) ?_
    refine l_add rfl ?_
    obtain ⟨i1, h⟩ := h
    refine b_la rfl (kc_396 (fz := fz) hS).1 (Nat.le_of_ble_eq_true rfl) i1 (fun q => ?_)
    replace h := h q
    refine b_ls rfl (kc_392 (fz := fz) hS).1 (Nat.le_of_ble_eq_true rfl) iv2 (fun q M1 e => ?_)
    replace h := h q M1 e
    have r1 := hR.wl (Nat.le_of_ble_eq_true rfl) (Nat.le_of_ble_eq_true rfl) e
    refine l_ii rfl a2 (Nat.le_of_ble_eq_true rfl) (fun ls y1 ho => ?_)
    have y2 := ho 0 _ (by decide) (fun q => by cases q.2) a0
    have y3 := ho 1 _ (by decide) (fun q => by cases q.2) a1
    refine l3 rfl rfl rfl ?_
    obtain ⟨i2, h⟩ := h
    exact hb53 _ (by omega) _ _ _ _ r1 iv1 i2 y2 y3 y1 h
def e_W_bringBack_53 (v1 : Int) (v2 : Int) (M : rf_M) (K : rf_M → Prop) : Prop := ∃ Inv : Int → Int → rf_M → Prop, Inv v1 v2 M ∧ ∀ (v1 : Int) (v2 : Int) (M : rf_M), inr v1 → inr v2 → Inv v1 v2 M → e_W_bringBack_53b v1 v2 M Inv K
theorem E_W_bringBack_53 {fz : Bool} {S : gS} {B : rf_M} {M : rf_M} {ls : rf_L} {n0 : Nat} {v1 : Int} {v2 : Int} {K : rf_M → Prop} (hS : rl S) (hR : fl 353 406 B M) (iv1 : inr v1) (iv2 : inr v2) (a0 : rf_ld ls 0 = some (.ref 353)) (a1 : rf_ld ls 1 = some (zv v1)) (a2 : rf_ld ls 2 = some (zv v2)) (h : e_W_bringBack_53 v1 v2 M K) : lx (cx0 fz) n0 168 53 ls [] (M, S) (vl_v 353 406 B S K) := by
  obtain ⟨Inv, hm, hb⟩ := h
  induction n0 using Nat.strongRecOn generalizing ls M v1 v2 with
  | _ n0 ih =>
    refine E_W_bringBack_53b hS hR iv1 iv2 a0 a1 a2 (fun n' hn' v1' v2' M' ls' hR' f0 f1 f2 f3 f4 q2 => ih n' hn' hR' f0 f1 f2 f3 f4 q2) (hb v1 v2 M iv1 iv2 hm)
def e_W_bringBack_22b (v1 : Int) (v2 : Int) (M : rf_M) (b22 : Int → Int → rf_M → Prop) (K : rf_M → Prop) : Prop := (16 ≤ v2 → (e_W_bringBack_53 v1 0 M K)) ∧ (¬ (16 ≤ v2) → (inr ((16 * v1) + v2) ∧ ((0 ≤ ((16 * v1) + v2) ∧ ((16 * v1) + v2) < 7680 → ((0 ≤ v2 ∧ v2 < 16 → (∀ M1 : rf_M, M1 = wl M 391 (v2).toNat (gl M 395 ((16 * v1) + v2).toNat) → (inr (v2 + 1) ∧ (b22 v1 (v2 + 1) M1)))))))))
theorem E_W_bringBack_22b {fz : Bool} {S : gS} {B : rf_M} {M : rf_M} {ls : rf_L} {n0 : Nat} {v1 : Int} {v2 : Int} {b22 : Int → Int → rf_M → Prop} {K : rf_M → Prop} (hS : rl S) (hR : fl 353 406 B M) (iv1 : inr v1) (iv2 : inr v2) (a0 : rf_ld ls 0 = some (.ref 353)) (a1 : rf_ld ls 1 = some (zv v1)) (a2 : rf_ld ls 2 = some (zv v2)) (hb22 : ∀ n', n' < n0 → ∀ (v1 : Int) (v2 : Int) (M : rf_M) (ls : rf_L), fl 353 406 B M → inr v1 → inr v2 → rf_ld ls 0 = some (.ref 353) → rf_ld ls 1 = some (zv v1) → rf_ld ls 2 = some (zv v2) → b22 v1 v2 M → lx (cx0 fz) n' 168 22 ls [] (M, S) (vl_v 353 406 B S K)) (h : e_W_bringBack_22b v1 v2 M b22 K) : lx (cx0 fz) n0 168 22 ls [] (M, S) (vl_v 353 406 B S K) := by
  unfold e_W_bringBack_22b at h
  rcases Nat.eq_zero_or_pos n0 with e0 | hp
  · rw [e0]; exact lx_zero
  refine l1 (n := 1) rfl rfl rfl (li_of a2) ?_
  refine l_bi rfl (by decide) ?_
  refine l_ic rfl iv2 ⟨by decide, by decide⟩ (fun c => ?_) (fun c => ?_)
  · replace h := h.1 c
    refine l1 (n := 1) rfl rfl rfl rfl ?_
    refine l_s1 (n := 1) rfl rfl rfl rfl (fun ls y1 ho => ?_)
    have y2 := ho 0 _ (by decide) (fun q => by cases q.2) a0
    have y3 := ho 1 _ (by decide) (fun q => by cases q.2) a1
    exact E_W_bringBack_53 hS hR iv1 ⟨by decide, by decide⟩ y2 y3 y1 h
  · replace h := h.2 c
    refine l1 (n := 1) rfl rfl rfl (la_of a0) ?_
    refine l_gr rfl (ko_11 hS (List.Mem.head _)) rfl (fun _ => rfl) (kf_11_56 hR.2 (List.Mem.head _)) ?_
    refine l1 (n := 1) rfl rfl rfl (li_of a2) ?_
    refine l1 (n := 1) rfl rfl rfl (la_of a0) ?_
    refine l_gr rfl (ko_11 hS (List.Mem.head _)) rfl (fun _ => rfl) (kf_11_62 hR.2 (List.Mem.head _)) ?_
    refine l_bi rfl (by decide) ?_
    refine l1 (n := 1) rfl rfl rfl (li_of a1) ?_
    refine l_mul rfl ?_
    refine l1 (n := 1) rfl rfl rfl (li_of a2) ?_
    refine l_add rfl ?_
    obtain ⟨i1, h⟩ := h
    refine b_la rfl (kc_395 (fz := fz) hS).1 (Nat.le_of_ble_eq_true rfl) i1 (fun q => ?_)
    replace h := h q
    refine b_ls rfl (kc_391 (fz := fz) hS).1 (Nat.le_of_ble_eq_true rfl) iv2 (fun q M1 e => ?_)
    replace h := h q M1 e
    have r1 := hR.wl (Nat.le_of_ble_eq_true rfl) (Nat.le_of_ble_eq_true rfl) e
    refine l_ii rfl a2 (Nat.le_of_ble_eq_true rfl) (fun ls y4 ho => ?_)
    have y5 := ho 0 _ (by decide) (fun q => by cases q.2) a0
    have y6 := ho 1 _ (by decide) (fun q => by cases q.2) a1
    refine l3 rfl rfl rfl ?_
    obtain ⟨i2, h⟩ := h
    exact hb22 _ (by omega) _ _ _ _ r1 iv1 i2 y5 y6 y4 h
def e_W_bringBack_22 (v1 : Int) (v2 : Int) (M : rf_M) (K : rf_M → Prop) : Prop := ∃ Inv : Int → Int → rf_M → Prop, Inv v1 v2 M ∧ ∀ (v1 : Int) (v2 : Int) (M : rf_M), inr v1 → inr v2 → Inv v1 v2 M → e_W_bringBack_22b v1 v2 M Inv K
theorem E_W_bringBack_22 {fz : Bool} {S : gS} {B : rf_M} {M : rf_M} {ls : rf_L} {n0 : Nat} {v1 : Int} {v2 : Int} {K : rf_M → Prop} (hS : rl S) (hR : fl 353 406 B M) (iv1 : inr v1) (iv2 : inr v2) (a0 : rf_ld ls 0 = some (.ref 353)) (a1 : rf_ld ls 1 = some (zv v1)) (a2 : rf_ld ls 2 = some (zv v2)) (h : e_W_bringBack_22 v1 v2 M K) : lx (cx0 fz) n0 168 22 ls [] (M, S) (vl_v 353 406 B S K) := by
  obtain ⟨Inv, hm, hb⟩ := h
  induction n0 using Nat.strongRecOn generalizing ls M v1 v2 with
  | _ n0 ih =>
    refine E_W_bringBack_22b hS hR iv1 iv2 a0 a1 a2 (fun n' hn' v1' v2' M' ls' hR' f0 f1 f2 f3 f4 q2 => ih n' hn' hR' f0 f1 f2 f3 f4 q2) (hb v1 v2 M iv1 iv2 hm)
def e_W_bringBack (v1 : Int) (M : rf_M) (K : rf_M → Prop) : Prop := (0 ≤ v1 ∧ v1 < 480 → (∀ M1 : rf_M, M1 = wi M 353 55 (gi M 394 (v1).toNat) → ((0 ≤ v1 ∧ v1 < 480 → (∀ M2 : rf_M, M2 = wi M1 353 58 (gi M1 397 (v1).toNat) → (e_W_bringBack_22 v1 0 M2 K))))))
theorem E_W_bringBack {fz : Bool} {S : gS} {B : rf_M} {M : rf_M} {ls : rf_L} {n0 : Nat} {v1 : Int} {K : rf_M → Prop} (hS : rl S) (hR : fl 353 406 B M) (iv1 : inr v1) (a0 : rf_ld ls 0 = some (.ref 353)) (a1 : rf_ld ls 1 = some (zv v1)) (h : e_W_bringBack v1 M K) : lx (cx0 fz) n0 168 0 ls [] (M, S) (vl_v 353 406 B S K) := by
  unfold e_W_bringBack at h
  refine l1 (n := 1) rfl rfl rfl (la_of a0) ?_
  refine l1 (n := 1) rfl rfl rfl (la_of a0) ?_
  refine l_gr rfl (ko_11 hS (List.Mem.head _)) rfl (fun _ => rfl) (kf_11_61 hR.2 (List.Mem.head _)) ?_
  refine l1 (n := 1) rfl rfl rfl (li_of a1) ?_
  refine b_ia rfl (kc_394 (fz := fz) hS).1 (Nat.le_of_ble_eq_true rfl) iv1 (fun q => ?_)
  replace h := h q
  refine l_pi rfl (ko_11 (fz := fz) hS (List.Mem.head _)) rfl (fun _ _ => rfl) (fun M1 e => ?_)
  replace h := h M1 e
  have r1 := hR.wi (Nat.le_of_ble_eq_true rfl) (Nat.le_of_ble_eq_true rfl) e
  refine l1 (n := 1) rfl rfl rfl (la_of a0) ?_
  refine l1 (n := 1) rfl rfl rfl (la_of a0) ?_
  refine l_gr rfl (ko_11 hS (List.Mem.head _)) rfl (fun _ => rfl) (kf_11_64 r1.2 (List.Mem.head _)) ?_
  refine l1 (n := 1) rfl rfl rfl (li_of a1) ?_
  refine b_ia rfl (kc_397 (fz := fz) hS).1 (Nat.le_of_ble_eq_true rfl) iv1 (fun q => ?_)
  replace h := h q
  refine l_pi rfl (ko_11 (fz := fz) hS (List.Mem.head _)) rfl (fun _ _ => rfl) (fun M2 e => ?_)
  replace h := h M2 e
  have r2 := r1.wi (Nat.le_of_ble_eq_true rfl) (Nat.le_of_ble_eq_true rfl) e
  refine l1 (n := 1) rfl rfl rfl rfl ?_
  refine l_s1 (n := 1) rfl rfl rfl rfl (fun ls y1 ho => ?_)
  have y2 := ho 0 _ (by decide) (fun q => by cases q.2) a0
  have y3 := ho 1 _ (by decide) (fun q => by cases q.2) a1
  exact E_W_bringBack_22 hS r2 iv1 ⟨by decide, by decide⟩ y2 y3 y1 h
def em_W_bringBack (x1 : Int) (M : rf_M) (K : rf_M → Prop) : Prop := e_W_bringBack x1 M K
theorem E_W_bringBack_m {fz : Bool} {S : gS} {B : rf_M} {M : rf_M} {n0 : Nat} {x1 : Int} {K : rf_M → Prop} (hS : rl S) (hR : fl 353 406 B M) (ix1 : inr x1) (h : em_W_bringBack x1 M K) : lx (cx0 fz) n0 168 0 (lv_args 0 [.ref 353, zv x1]) [] (M, S) (vl_v 353 406 B S K) :=
  E_W_bringBack hS hR ix1 rfl rfl h
def e_W_behind_52 (s0 : Int) (M : rf_M) (K : Int → rf_M → Prop) : Prop := K s0 M
theorem E_W_behind_52 {fz : Bool} {S : gS} {B : rf_M} {M : rf_M} {ls : rf_L} {n0 : Nat} {s0 : Int} {K : Int → rf_M → Prop} (hS : rl S) (hR : fl 353 406 B M) (is0 : inr s0) (h : e_W_behind_52 s0 M K) : lx (cx0 fz) n0 170 52 ls [zv s0] (M, S) (vl_i 353 406 B S K) := by
  unfold e_W_behind_52 at h
  exact l_ri rfl rfl is0 hR h
def e_W_behind_38 (v2 : Int) (M : rf_M) (K : Int → rf_M → Prop) : Prop := (0 ≤ v2 → ((0 ≤ v2 ∧ v2 < 480 → (e_W_behind_52 (gi M 361 (v2).toNat) M K)))) ∧ (¬ (0 ≤ v2) → (e_W_behind_52 (-1) M K))
theorem E_W_behind_38 {fz : Bool} {S : gS} {B : rf_M} {M : rf_M} {ls : rf_L} {n0 : Nat} {v2 : Int} {K : Int → rf_M → Prop} (hS : rl S) (hR : fl 353 406 B M) (iv2 : inr v2) (a0 : rf_ld ls 0 = some (.ref 353)) (a2 : rf_ld ls 2 = some (zv v2)) (h : e_W_behind_38 v2 M K) : lx (cx0 fz) n0 170 38 ls [] (M, S) (vl_i 353 406 B S K) := by
  unfold e_W_behind_38 at h
  refine l1 (n := 1) rfl rfl rfl (li_of a2) ?_
  refine l_if rfl iv2 (fun c => ?_) (fun c => ?_)
  · replace h := h.1 c
    refine l1 (n := 1) rfl rfl rfl (la_of a0) ?_
    refine l_gr rfl (ko_11 hS (List.Mem.head _)) rfl (fun _ => rfl) (kf_11_18 hR.2 (List.Mem.head _)) ?_
    refine l1 (n := 1) rfl rfl rfl (li_of a2) ?_
    refine b_ia rfl (kc_361 (fz := fz) hS).1 (Nat.le_of_ble_eq_true rfl) iv2 (fun q => ?_)
    replace h := h q
    exact E_W_behind_52 hS hR (inr_gi _ _ _) h
  · replace h := h.2 c
    refine l1 (n := 1) rfl rfl rfl rfl ?_
    refine l3 rfl rfl rfl ?_
    exact E_W_behind_52 hS hR ⟨by decide, by decide⟩ h
def e_W_behind_2b (v2 : Int) (M : rf_M) (b2 : Int → rf_M → Prop) (K : Int → rf_M → Prop) : Prop := (v2 < 0 → (e_W_behind_38 v2 M K)) ∧ (¬ (v2 < 0) → ((0 ≤ v2 ∧ v2 < 480 → ((0 ≤ (gi M 361 (v2).toNat) → (e_W_behind_38 v2 M K)) ∧ (¬ (0 ≤ (gi M 361 (v2).toNat)) → ((0 ≤ v2 ∧ v2 < 480 → (((gi M 362 (v2).toNat) < 0 → (b2 (gi M 362 (v2).toNat) M)) ∧ (¬ ((gi M 362 (v2).toNat) < 0) → ((0 ≤ (gi M 362 (v2).toNat) ∧ (gi M 362 (v2).toNat) < 480 → (((gi M 360 (gi M 362 (v2).toNat).toNat) = 2 → (K (gi M 362 (v2).toNat) M)) ∧ (¬ (gi M 360 (gi M 362 (v2).toNat).toNat) = 2 → (b2 (gi M 362 (v2).toNat) M))))))))))))))
theorem E_W_behind_2b {fz : Bool} {S : gS} {B : rf_M} {M : rf_M} {ls : rf_L} {n0 : Nat} {v2 : Int} {b2 : Int → rf_M → Prop} {K : Int → rf_M → Prop} (hS : rl S) (hR : fl 353 406 B M) (iv2 : inr v2) (a0 : rf_ld ls 0 = some (.ref 353)) (a2 : rf_ld ls 2 = some (zv v2)) (hb2 : ∀ n', n' < n0 → ∀ (v2 : Int) (M : rf_M) (ls : rf_L), fl 353 406 B M → inr v2 → rf_ld ls 0 = some (.ref 353) → rf_ld ls 2 = some (zv v2) → b2 v2 M → lx (cx0 fz) n' 170 2 ls [] (M, S) (vl_i 353 406 B S K)) (h : e_W_behind_2b v2 M b2 K) : lx (cx0 fz) n0 170 2 ls [] (M, S) (vl_i 353 406 B S K) := by
  unfold e_W_behind_2b at h
  rcases Nat.eq_zero_or_pos n0 with e0 | hp
  · rw [e0]; exact lx_zero
  refine l1 (n := 1) rfl rfl rfl (li_of a2) ?_
  refine l_if rfl iv2 (fun c => ?_) (fun c => ?_)
  · replace h := h.1 c
    exact E_W_behind_38 hS hR iv2 a0 a2 h
  · replace h := h.2 c
    refine l1 (n := 1) rfl rfl rfl (la_of a0) ?_
    refine l_gr rfl (ko_11 hS (List.Mem.head _)) rfl (fun _ => rfl) (kf_11_18 hR.2 (List.Mem.head _)) ?_
    refine l1 (n := 1) rfl rfl rfl (li_of a2) ?_
    refine b_ia rfl (kc_361 (fz := fz) hS).1 (Nat.le_of_ble_eq_true rfl) iv2 (fun q => ?_)
    replace h := h q
    refine l_if rfl (inr_gi _ _ _) (fun c => ?_) (fun c => ?_)
    · replace h := h.1 c
      exact E_W_behind_38 hS hR iv2 a0 a2 h
    · replace h := h.2 c
      refine l1 (n := 1) rfl rfl rfl (la_of a0) ?_
      refine l_gr rfl (ko_11 hS (List.Mem.head _)) rfl (fun _ => rfl) (kf_11_19 hR.2 (List.Mem.head _)) ?_
      refine l1 (n := 1) rfl rfl rfl (li_of a2) ?_
      refine b_ia rfl (kc_362 (fz := fz) hS).1 (Nat.le_of_ble_eq_true rfl) iv2 (fun q => ?_)
      replace h := h q
      refine l_s1 (n := 1) rfl rfl rfl rfl (fun ls y1 ho => ?_)
      have y2 := ho 0 _ (by decide) (fun q => by cases q.2) a0
      refine l1 (n := 1) rfl rfl rfl (li_of y1) ?_
      refine l_if rfl (inr_gi _ _ _) (fun c => ?_) (fun c => ?_)
      · replace h := h.1 c
        exact hb2 _ (by omega) _ _ _ hR (inr_gi _ _ _) y2 y1 h
      · replace h := h.2 c
        refine l1 (n := 1) rfl rfl rfl (la_of y2) ?_
        refine l_gr rfl (ko_11 hS (List.Mem.head _)) rfl (fun _ => rfl) (kf_11_17 hR.2 (List.Mem.head _)) ?_
        refine l1 (n := 1) rfl rfl rfl (li_of y1) ?_
        refine b_ia rfl (kc_360 (fz := fz) hS).1 (Nat.le_of_ble_eq_true rfl) (inr_gi _ _ _) (fun q => ?_)
        replace h := h q
        refine l1 (n := 1) rfl rfl rfl rfl ?_
        refine l_ic rfl (inr_gi _ _ _) ⟨by decide, by decide⟩ (fun c => ?_) (fun c => ?_)
        · replace h := h.2 c
          exact hb2 _ (by omega) _ _ _ hR (inr_gi _ _ _) y2 y1 h
        · replace h := h.1 (Classical.not_not.mp c)
          refine l1 (n := 1) rfl rfl rfl (li_of y1) ?_
          exact l_ri rfl rfl (inr_gi _ _ _) hR h
def e_W_behind_2 (v2 : Int) (M : rf_M) (K : Int → rf_M → Prop) : Prop := ∃ Inv : Int → rf_M → Prop, Inv v2 M ∧ ∀ (v2 : Int) (M : rf_M), inr v2 → Inv v2 M → e_W_behind_2b v2 M Inv K
theorem E_W_behind_2 {fz : Bool} {S : gS} {B : rf_M} {M : rf_M} {ls : rf_L} {n0 : Nat} {v2 : Int} {K : Int → rf_M → Prop} (hS : rl S) (hR : fl 353 406 B M) (iv2 : inr v2) (a0 : rf_ld ls 0 = some (.ref 353)) (a2 : rf_ld ls 2 = some (zv v2)) (h : e_W_behind_2 v2 M K) : lx (cx0 fz) n0 170 2 ls [] (M, S) (vl_i 353 406 B S K) := by
  obtain ⟨Inv, hm, hb⟩ := h
  induction n0 using Nat.strongRecOn generalizing ls M v2 with
  | _ n0 ih =>
    refine E_W_behind_2b hS hR iv2 a0 a2 (fun n' hn' v2' M' ls' hR' f0 f1 f2 q2 => ih n' hn' hR' f0 f1 f2 q2) (hb v2 M iv2 hm)
def e_W_behind (v1 : Int) (M : rf_M) (K : Int → rf_M → Prop) : Prop := e_W_behind_2 v1 M K
theorem E_W_behind {fz : Bool} {S : gS} {B : rf_M} {M : rf_M} {ls : rf_L} {n0 : Nat} {v1 : Int} {K : Int → rf_M → Prop} (hS : rl S) (hR : fl 353 406 B M) (iv1 : inr v1) (a0 : rf_ld ls 0 = some (.ref 353)) (a1 : rf_ld ls 1 = some (zv v1)) (h : e_W_behind v1 M K) : lx (cx0 fz) n0 170 0 ls [] (M, S) (vl_i 353 406 B S K) := by
  unfold e_W_behind at h
  refine l1 (n := 1) rfl rfl rfl (li_of a1) ?_
  refine l_s1 (n := 1) rfl rfl rfl rfl (fun ls y1 ho => ?_)
  have y2 := ho 0 _ (by decide) (fun q => by cases q.2) a0
  exact E_W_behind_2 hS hR iv1 y2 y1 h
def em_W_behind (x1 : Int) (M : rf_M) (K : Int → rf_M → Prop) : Prop := e_W_behind x1 M K
theorem E_W_behind_m {fz : Bool} {S : gS} {B : rf_M} {M : rf_M} {n0 : Nat} {x1 : Int} {K : Int → rf_M → Prop} (hS : rl S) (hR : fl 353 406 B M) (ix1 : inr x1) (h : em_W_behind x1 M K) : lx (cx0 fz) n0 170 0 (lv_args 0 [.ref 353, zv x1]) [] (M, S) (vl_i 353 406 B S K) :=
  E_W_behind hS hR ix1 rfl rfl h
def e_W_goIn_28 (s1 : Int) (M : rf_M) (K : rf_M → Prop) : Prop := ∀ M1 : rf_M, M1 = wi M 353 60 s1 → (K M1)
theorem E_W_goIn_28 {fz : Bool} {S : gS} {B : rf_M} {M : rf_M} {ls : rf_L} {n0 : Nat} {s1 : Int} {K : rf_M → Prop} (hS : rl S) (hR : fl 353 406 B M) (is1 : inr s1) (h : e_W_goIn_28 s1 M K) : lx (cx0 fz) n0 169 28 ls [zv s1, .ref 353] (M, S) (vl_v 353 406 B S K) := by
  unfold e_W_goIn_28 at h
  refine l_pi rfl (ko_11 (fz := fz) hS (List.Mem.head _)) rfl (fun _ _ => rfl) (fun M1 e => ?_)
  replace h := h M1 e
  have r1 := hR.wi (Nat.le_of_ble_eq_true rfl) (Nat.le_of_ble_eq_true rfl) e
  exact l_rv rfl rfl r1 h
def e_W_goIn (v1 : Int) (v2 : Int) (M : rf_M) (K : rf_M → Prop) : Prop := (v2 < 0 → ((0 ≤ v1 ∧ v1 < 480 → (((gi M 360 (v1).toNat) = 2 → (e_W_goIn_28 v1 M K)) ∧ (¬ (gi M 360 (v1).toNat) = 2 → (em_W_behind v1 M (fun (z1 : Int) (M1 : rf_M) => e_W_goIn_28 z1 M1 K))))))) ∧ (¬ (v2 < 0) → (e_W_goIn_28 v2 M K))
theorem E_W_goIn {fz : Bool} {S : gS} {B : rf_M} {M : rf_M} {ls : rf_L} {n0 : Nat} {v1 : Int} {v2 : Int} {K : rf_M → Prop} (hS : rl S) (hR : fl 353 406 B M) (iv1 : inr v1) (iv2 : inr v2) (a0 : rf_ld ls 0 = some (.ref 353)) (a1 : rf_ld ls 1 = some (zv v1)) (a2 : rf_ld ls 2 = some (zv v2)) (h : e_W_goIn v1 v2 M K) : lx (cx0 fz) n0 169 0 ls [] (M, S) (vl_v 353 406 B S K) := by
  unfold e_W_goIn at h
  refine l1 (n := 1) rfl rfl rfl (la_of a0) ?_
  refine l1 (n := 1) rfl rfl rfl (li_of a2) ?_
  refine l_if rfl iv2 (fun c => ?_) (fun c => ?_)
  · replace h := h.1 c
    refine l1 (n := 1) rfl rfl rfl (la_of a0) ?_
    refine l_gr rfl (ko_11 hS (List.Mem.head _)) rfl (fun _ => rfl) (kf_11_17 hR.2 (List.Mem.head _)) ?_
    refine l1 (n := 1) rfl rfl rfl (li_of a1) ?_
    refine b_ia rfl (kc_360 (fz := fz) hS).1 (Nat.le_of_ble_eq_true rfl) iv1 (fun q => ?_)
    replace h := h q
    refine l1 (n := 1) rfl rfl rfl rfl ?_
    refine l_ic rfl (inr_gi _ _ _) ⟨by decide, by decide⟩ (fun c => ?_) (fun c => ?_)
    · replace h := h.2 c
      refine l1 (n := 1) rfl rfl rfl (la_of a0) ?_
      refine l1 (n := 1) rfl rfl rfl (li_of a1) ?_
      refine b_iv (c := 353) (as := [zv v1]) (rest := [.ref 353]) rfl (by decide) (ko_11 hS (List.Mem.head _)) rfl rfl (Nat.le_of_ble_eq_true rfl) (fun hq => ?_)
      refine lx_mono (E_W_behind_m hS hR iv1 h) ?_
      rintro _ _ ⟨z1, M1, rfl, rfl, r1, iz1, h⟩
      exact E_W_goIn_28 hS r1 iz1 h
    · replace h := h.1 (Classical.not_not.mp c)
      refine l1 (n := 1) rfl rfl rfl (li_of a1) ?_
      refine l3 rfl rfl rfl ?_
      exact E_W_goIn_28 hS hR iv1 h
  · replace h := h.2 c
    refine l1 (n := 1) rfl rfl rfl (li_of a2) ?_
    refine l3 rfl rfl rfl ?_
    exact E_W_goIn_28 hS hR iv2 h
def em_W_goIn (x1 : Int) (x2 : Int) (M : rf_M) (K : rf_M → Prop) : Prop := e_W_goIn x1 x2 M K
theorem E_W_goIn_m {fz : Bool} {S : gS} {B : rf_M} {M : rf_M} {n0 : Nat} {x1 : Int} {x2 : Int} {K : rf_M → Prop} (hS : rl S) (hR : fl 353 406 B M) (ix1 : inr x1) (ix2 : inr x2) (h : em_W_goIn x1 x2 M K) : lx (cx0 fz) n0 169 0 (lv_args 0 [.ref 353, zv x1, zv x2]) [] (M, S) (vl_v 353 406 B S K) :=
  E_W_goIn hS hR ix1 ix2 rfl rfl rfl h
def e_W_throwFrom (v1 : Int) (M : rf_M) (K : Int → rf_M → Prop) : Prop := em_W_around v1 7 M (fun (z1 : Int) (M1 : rf_M) => (0 ≤ z1 → (em_W_bringBack z1 M1 (fun (M2 : rf_M) => (0 ≤ z1 ∧ z1 < 480 → (inr ((gi M2 367 (z1).toNat) - 16) ∧ ((0 ≤ ((gi M2 367 (z1).toNat) - 16) ∧ ((gi M2 367 (z1).toNat) - 16) < 10 → (∀ M3 : rf_M, M3 = wl M2 392 ((gi M2 367 (z1).toNat) - 16).toNat (gl M2 353 66) → ((0 ≤ z1 ∧ z1 < 480 → (em_W_goIn z1 (gi M3 366 (z1).toNat) M3 (fun (M4 : rf_M) => K 0 M4)))))))))))) ∧ (¬ (0 ≤ z1) → (K 2 M1)))
theorem E_W_throwFrom {fz : Bool} {S : gS} {B : rf_M} {M : rf_M} {ls : rf_L} {n0 : Nat} {v1 : Int} {K : Int → rf_M → Prop} (hS : rl S) (hR : fl 353 406 B M) (iv1 : inr v1) (a0 : rf_ld ls 0 = some (.ref 353)) (a1 : rf_ld ls 1 = some (zv v1)) (h : e_W_throwFrom v1 M K) : lx (cx0 fz) n0 166 0 ls [] (M, S) (vl_i 353 406 B S K) := by
  unfold e_W_throwFrom at h
  refine l1 (n := 1) rfl rfl rfl (la_of a0) ?_
  refine l1 (n := 1) rfl rfl rfl (li_of a1) ?_
  refine l_bi rfl (by decide) ?_
  refine b_iv (c := 353) (as := [zv v1, zv 7]) (rest := []) rfl (by decide) (ko_11 hS (List.Mem.head _)) rfl rfl (Nat.le_of_ble_eq_true rfl) (fun hq => ?_)
  refine lx_mono (E_W_around_m hS hR iv1 ⟨by decide, by decide⟩ h) ?_
  rintro _ _ ⟨z1, M1, rfl, rfl, r1, iz1, h⟩
  refine l_s1 (n := 1) rfl rfl rfl rfl (fun ls y1 ho => ?_)
  have y2 := ho 0 _ (by decide) (fun q => by cases q.2) a0
  refine l1 (n := 1) rfl rfl rfl (li_of y1) ?_
  refine l_if rfl iz1 (fun c => ?_) (fun c => ?_)
  · replace h := h.1 c
    refine l1 (n := 1) rfl rfl rfl (la_of y2) ?_
    refine l1 (n := 1) rfl rfl rfl (li_of y1) ?_
    refine b_iv (c := 353) (as := [zv z1]) (rest := []) rfl (by decide) (ko_11 hS (List.Mem.head _)) rfl rfl (Nat.le_of_ble_eq_true rfl) (fun hq => ?_)
    refine lx_mono (E_W_bringBack_m hS r1 iz1 h) ?_
    rintro _ _ ⟨M2, rfl, rfl, r2, h⟩
    refine l1 (n := 1) rfl rfl rfl (la_of y2) ?_
    refine l_gr rfl (ko_11 hS (List.Mem.head _)) rfl (fun _ => rfl) (kf_11_57 r2.2 (List.Mem.head _)) ?_
    refine l1 (n := 1) rfl rfl rfl (la_of y2) ?_
    refine l_gr rfl (ko_11 hS (List.Mem.head _)) rfl (fun _ => rfl) (kf_11_24 r2.2 (List.Mem.head _)) ?_
    refine l1 (n := 1) rfl rfl rfl (li_of y1) ?_
    refine b_ia rfl (kc_367 (fz := fz) hS).1 (Nat.le_of_ble_eq_true rfl) iz1 (fun q => ?_)
    replace h := h q
    refine l_bi rfl (by decide) ?_
    refine l_sub rfl ?_
    refine l1 (n := 1) rfl rfl rfl (la_of y2) ?_
    refine l_gl rfl (ko_11 hS (List.Mem.head _)) rfl (fun _ => rfl) ?_
    obtain ⟨i1, h⟩ := h
    refine b_ls rfl (kc_392 (fz := fz) hS).1 (Nat.le_of_ble_eq_true rfl) i1 (fun q M3 e => ?_)
    replace h := h q M3 e
    have r3 := r2.wl (Nat.le_of_ble_eq_true rfl) (Nat.le_of_ble_eq_true rfl) e
    refine l1 (n := 1) rfl rfl rfl (la_of y2) ?_
    refine l1 (n := 1) rfl rfl rfl (li_of y1) ?_
    refine l1 (n := 1) rfl rfl rfl (la_of y2) ?_
    refine l_gr rfl (ko_11 hS (List.Mem.head _)) rfl (fun _ => rfl) (kf_11_23 r3.2 (List.Mem.head _)) ?_
    refine l1 (n := 1) rfl rfl rfl (li_of y1) ?_
    refine b_ia rfl (kc_366 (fz := fz) hS).1 (Nat.le_of_ble_eq_true rfl) iz1 (fun q => ?_)
    replace h := h q
    refine b_iv (c := 353) (as := [zv z1, zv (gi M3 366 (z1).toNat)]) (rest := []) rfl (by decide) (ko_11 hS (List.Mem.head _)) rfl rfl (Nat.le_of_ble_eq_true rfl) (fun hq => ?_)
    refine lx_mono (E_W_goIn_m hS r3 iz1 (inr_gi _ _ _) h) ?_
    rintro _ _ ⟨M4, rfl, rfl, r4, h⟩
    refine l1 (n := 1) rfl rfl rfl rfl ?_
    exact l_ri rfl rfl ⟨by decide, by decide⟩ r4 h
  · replace h := h.2 c
    refine l1 (n := 1) rfl rfl rfl rfl ?_
    exact l_ri rfl rfl ⟨by decide, by decide⟩ r1 h
def em_W_throwFrom (x1 : Int) (M : rf_M) (K : Int → rf_M → Prop) : Prop := e_W_throwFrom x1 M K
theorem E_W_throwFrom_m {fz : Bool} {S : gS} {B : rf_M} {M : rf_M} {n0 : Nat} {x1 : Int} {K : Int → rf_M → Prop} (hS : rl S) (hR : fl 353 406 B M) (ix1 : inr x1) (h : em_W_throwFrom x1 M K) : lx (cx0 fz) n0 166 0 (lv_args 0 [.ref 353, zv x1]) [] (M, S) (vl_i 353 406 B S K) :=
  E_W_throwFrom hS hR ix1 rfl rfl h
def e_W_retryFrom (v1 : Int) (M : rf_M) (K : Int → rf_M → Prop) : Prop := em_W_around v1 5 M (fun (z1 : Int) (M1 : rf_M) => (0 ≤ z1 → (em_W_bringBack z1 M1 (fun (M2 : rf_M) => (0 ≤ z1 ∧ z1 < 480 → (em_W_goIn z1 (gi M2 366 (z1).toNat) M2 (fun (M3 : rf_M) => K 0 M3)))))) ∧ (¬ (0 ≤ z1) → (K 3 M1)))
theorem E_W_retryFrom {fz : Bool} {S : gS} {B : rf_M} {M : rf_M} {ls : rf_L} {n0 : Nat} {v1 : Int} {K : Int → rf_M → Prop} (hS : rl S) (hR : fl 353 406 B M) (iv1 : inr v1) (a0 : rf_ld ls 0 = some (.ref 353)) (a1 : rf_ld ls 1 = some (zv v1)) (h : e_W_retryFrom v1 M K) : lx (cx0 fz) n0 171 0 ls [] (M, S) (vl_i 353 406 B S K) := by
  unfold e_W_retryFrom at h
  refine l1 (n := 1) rfl rfl rfl (la_of a0) ?_
  refine l1 (n := 1) rfl rfl rfl (li_of a1) ?_
  refine l1 (n := 1) rfl rfl rfl rfl ?_
  refine b_iv (c := 353) (as := [zv v1, zv 5]) (rest := []) rfl (by decide) (ko_11 hS (List.Mem.head _)) rfl rfl (Nat.le_of_ble_eq_true rfl) (fun hq => ?_)
  refine lx_mono (E_W_around_m hS hR iv1 ⟨by decide, by decide⟩ h) ?_
  rintro _ _ ⟨z1, M1, rfl, rfl, r1, iz1, h⟩
  refine l_s1 (n := 1) rfl rfl rfl rfl (fun ls y1 ho => ?_)
  have y2 := ho 0 _ (by decide) (fun q => by cases q.2) a0
  refine l1 (n := 1) rfl rfl rfl (li_of y1) ?_
  refine l_if rfl iz1 (fun c => ?_) (fun c => ?_)
  · replace h := h.1 c
    refine l1 (n := 1) rfl rfl rfl (la_of y2) ?_
    refine l1 (n := 1) rfl rfl rfl (li_of y1) ?_
    refine b_iv (c := 353) (as := [zv z1]) (rest := []) rfl (by decide) (ko_11 hS (List.Mem.head _)) rfl rfl (Nat.le_of_ble_eq_true rfl) (fun hq => ?_)
    refine lx_mono (E_W_bringBack_m hS r1 iz1 h) ?_
    rintro _ _ ⟨M2, rfl, rfl, r2, h⟩
    refine l1 (n := 1) rfl rfl rfl (la_of y2) ?_
    refine l1 (n := 1) rfl rfl rfl (li_of y1) ?_
    refine l1 (n := 1) rfl rfl rfl (la_of y2) ?_
    refine l_gr rfl (ko_11 hS (List.Mem.head _)) rfl (fun _ => rfl) (kf_11_23 r2.2 (List.Mem.head _)) ?_
    refine l1 (n := 1) rfl rfl rfl (li_of y1) ?_
    refine b_ia rfl (kc_366 (fz := fz) hS).1 (Nat.le_of_ble_eq_true rfl) iz1 (fun q => ?_)
    replace h := h q
    refine b_iv (c := 353) (as := [zv z1, zv (gi M2 366 (z1).toNat)]) (rest := []) rfl (by decide) (ko_11 hS (List.Mem.head _)) rfl rfl (Nat.le_of_ble_eq_true rfl) (fun hq => ?_)
    refine lx_mono (E_W_goIn_m hS r2 iz1 (inr_gi _ _ _) h) ?_
    rintro _ _ ⟨M3, rfl, rfl, r3, h⟩
    refine l1 (n := 1) rfl rfl rfl rfl ?_
    exact l_ri rfl rfl ⟨by decide, by decide⟩ r3 h
  · replace h := h.2 c
    refine l1 (n := 1) rfl rfl rfl rfl ?_
    exact l_ri rfl rfl ⟨by decide, by decide⟩ r1 h
def em_W_retryFrom (x1 : Int) (M : rf_M) (K : Int → rf_M → Prop) : Prop := e_W_retryFrom x1 M K
theorem E_W_retryFrom_m {fz : Bool} {S : gS} {B : rf_M} {M : rf_M} {n0 : Nat} {x1 : Int} {K : Int → rf_M → Prop} (hS : rl S) (hR : fl 353 406 B M) (ix1 : inr x1) (h : em_W_retryFrom x1 M K) : lx (cx0 fz) n0 171 0 (lv_args 0 [.ref 353, zv x1]) [] (M, S) (vl_i 353 406 B S K) :=
  E_W_retryFrom hS hR ix1 rfl rfl h
def e_W_keep_53b (v1 : Int) (v2 : Int) (M : rf_M) (b53 : Int → Int → rf_M → Prop) (K : rf_M → Prop) : Prop := (10 ≤ v2 → (K M)) ∧ (¬ (10 ≤ v2) → ((0 ≤ v2 ∧ v2 < 10 → (inr ((10 * v1) + v2) ∧ ((0 ≤ ((10 * v1) + v2) ∧ ((10 * v1) + v2) < 4800 → (∀ M1 : rf_M, M1 = wl M 396 ((10 * v1) + v2).toNat (gl M 392 (v2).toNat) → (inr (v2 + 1) ∧ (b53 v1 (v2 + 1) M1)))))))))
theorem E_W_keep_53b {fz : Bool} {S : gS} {B : rf_M} {M : rf_M} {ls : rf_L} {n0 : Nat} {v1 : Int} {v2 : Int} {b53 : Int → Int → rf_M → Prop} {K : rf_M → Prop} (hS : rl S) (hR : fl 353 406 B M) (iv1 : inr v1) (iv2 : inr v2) (a0 : rf_ld ls 0 = some (.ref 353)) (a1 : rf_ld ls 1 = some (zv v1)) (a2 : rf_ld ls 2 = some (zv v2)) (hb53 : ∀ n', n' < n0 → ∀ (v1 : Int) (v2 : Int) (M : rf_M) (ls : rf_L), fl 353 406 B M → inr v1 → inr v2 → rf_ld ls 0 = some (.ref 353) → rf_ld ls 1 = some (zv v1) → rf_ld ls 2 = some (zv v2) → b53 v1 v2 M → lx (cx0 fz) n' 172 53 ls [] (M, S) (vl_v 353 406 B S K)) (h : e_W_keep_53b v1 v2 M b53 K) : lx (cx0 fz) n0 172 53 ls [] (M, S) (vl_v 353 406 B S K) := by
  unfold e_W_keep_53b at h
  rcases Nat.eq_zero_or_pos n0 with e0 | hp
  · rw [e0]; exact lx_zero
  refine l1 (n := 1) rfl rfl rfl (li_of a2) ?_
  refine l_bi rfl (by decide) ?_
  refine l_ic rfl iv2 ⟨by decide, by decide⟩ (fun c => ?_) (fun c => ?_)
  · replace h := h.1 c
    exact l_rv rfl rfl hR h
  · replace h := h.2 c
    refine l1 (n := 1) rfl rfl rfl (la_of a0) ?_
    refine l_gr rfl (ko_11 hS (List.Mem.head _)) rfl (fun _ => rfl) (kf_11_63 hR.2 (List.Mem.head _)) ?_
    refine l_bi rfl (by decide) ?_
    refine l1 (n := 1) rfl rfl rfl (li_of a1) ?_
    refine l_mul rfl ?_
    refine l1 (n := 1) rfl rfl rfl (li_of a2) ?_
    refine l_add rfl ?_
    refine l1 (n := 1) rfl rfl rfl (la_of a0) ?_
    refine l_gr rfl (ko_11 hS (List.Mem.head _)) rfl (fun _ => rfl) (kf_11_57 hR.2 (List.Mem.head _)) ?_
    refine l1 (n := 1) rfl rfl rfl (li_of a2) ?_
    refine b_la rfl (kc_392 (fz := fz) hS).1 (Nat.le_of_ble_eq_true rfl) iv2 (fun q => ?_)
    replace h := h q
    obtain ⟨i1, h⟩ := h
    refine b_ls rfl (kc_396 (fz := fz) hS).1 (Nat.le_of_ble_eq_true rfl) i1 (fun q M1 e => ?_)
    replace h := h q M1 e
    have r1 := hR.wl (Nat.le_of_ble_eq_true rfl) (Nat.le_of_ble_eq_true rfl) e
    refine l_ii rfl a2 (Nat.le_of_ble_eq_true rfl) (fun ls y1 ho => ?_)
    have y2 := ho 0 _ (by decide) (fun q => by cases q.2) a0
    have y3 := ho 1 _ (by decide) (fun q => by cases q.2) a1
    refine l3 rfl rfl rfl ?_
    obtain ⟨i2, h⟩ := h
    exact hb53 _ (by omega) _ _ _ _ r1 iv1 i2 y2 y3 y1 h
def e_W_keep_53 (v1 : Int) (v2 : Int) (M : rf_M) (K : rf_M → Prop) : Prop := ∃ Inv : Int → Int → rf_M → Prop, Inv v1 v2 M ∧ ∀ (v1 : Int) (v2 : Int) (M : rf_M), inr v1 → inr v2 → Inv v1 v2 M → e_W_keep_53b v1 v2 M Inv K
theorem E_W_keep_53 {fz : Bool} {S : gS} {B : rf_M} {M : rf_M} {ls : rf_L} {n0 : Nat} {v1 : Int} {v2 : Int} {K : rf_M → Prop} (hS : rl S) (hR : fl 353 406 B M) (iv1 : inr v1) (iv2 : inr v2) (a0 : rf_ld ls 0 = some (.ref 353)) (a1 : rf_ld ls 1 = some (zv v1)) (a2 : rf_ld ls 2 = some (zv v2)) (h : e_W_keep_53 v1 v2 M K) : lx (cx0 fz) n0 172 53 ls [] (M, S) (vl_v 353 406 B S K) := by
  obtain ⟨Inv, hm, hb⟩ := h
  induction n0 using Nat.strongRecOn generalizing ls M v1 v2 with
  | _ n0 ih =>
    refine E_W_keep_53b hS hR iv1 iv2 a0 a1 a2 (fun n' hn' v1' v2' M' ls' hR' f0 f1 f2 f3 f4 q2 => ih n' hn' hR' f0 f1 f2 f3 f4 q2) (hb v1 v2 M iv1 iv2 hm)
def e_W_keep_22b (v1 : Int) (v2 : Int) (M : rf_M) (b22 : Int → Int → rf_M → Prop) (K : rf_M → Prop) : Prop := (16 ≤ v2 → (e_W_keep_53 v1 0 M K)) ∧ (¬ (16 ≤ v2) → ((0 ≤ v2 ∧ v2 < 16 → (inr ((16 * v1) + v2) ∧ ((0 ≤ ((16 * v1) + v2) ∧ ((16 * v1) + v2) < 7680 → (∀ M1 : rf_M, M1 = wl M 395 ((16 * v1) + v2).toNat (gl M 391 (v2).toNat) → (inr (v2 + 1) ∧ (b22 v1 (v2 + 1) M1)))))))))
theorem E_W_keep_22b {fz : Bool} {S : gS} {B : rf_M} {M : rf_M} {ls : rf_L} {n0 : Nat} {v1 : Int} {v2 : Int} {b22 : Int → Int → rf_M → Prop} {K : rf_M → Prop} (hS : rl S) (hR : fl 353 406 B M) (iv1 : inr v1) (iv2 : inr v2) (a0 : rf_ld ls 0 = some (.ref 353)) (a1 : rf_ld ls 1 = some (zv v1)) (a2 : rf_ld ls 2 = some (zv v2)) (hb22 : ∀ n', n' < n0 → ∀ (v1 : Int) (v2 : Int) (M : rf_M) (ls : rf_L), fl 353 406 B M → inr v1 → inr v2 → rf_ld ls 0 = some (.ref 353) → rf_ld ls 1 = some (zv v1) → rf_ld ls 2 = some (zv v2) → b22 v1 v2 M → lx (cx0 fz) n' 172 22 ls [] (M, S) (vl_v 353 406 B S K)) (h : e_W_keep_22b v1 v2 M b22 K) : lx (cx0 fz) n0 172 22 ls [] (M, S) (vl_v 353 406 B S K) := by
  unfold e_W_keep_22b at h
  rcases Nat.eq_zero_or_pos n0 with e0 | hp
  · rw [e0]; exact lx_zero
  refine l1 (n := 1) rfl rfl rfl (li_of a2) ?_
  refine l_bi rfl (by decide) ?_
  refine l_ic rfl iv2 ⟨by decide, by decide⟩ (fun c => ?_) (fun c => ?_)
  · replace h := h.1 c
    refine l1 (n := 1) rfl rfl rfl rfl ?_
    refine l_s1 (n := 1) rfl rfl rfl rfl (fun ls y1 ho => ?_)
    have y2 := ho 0 _ (by decide) (fun q => by cases q.2) a0
    have y3 := ho 1 _ (by decide) (fun q => by cases q.2) a1
    exact E_W_keep_53 hS hR iv1 ⟨by decide, by decide⟩ y2 y3 y1 h
  · replace h := h.2 c
    refine l1 (n := 1) rfl rfl rfl (la_of a0) ?_
    refine l_gr rfl (ko_11 hS (List.Mem.head _)) rfl (fun _ => rfl) (kf_11_62 hR.2 (List.Mem.head _)) ?_
    refine l_bi rfl (by decide) ?_
    refine l1 (n := 1) rfl rfl rfl (li_of a1) ?_
    refine l_mul rfl ?_
    refine l1 (n := 1) rfl rfl rfl (li_of a2) ?_
    refine l_add rfl ?_
    refine l1 (n := 1) rfl rfl rfl (la_of a0) ?_
    refine l_gr rfl (ko_11 hS (List.Mem.head _)) rfl (fun _ => rfl) (kf_11_56 hR.2 (List.Mem.head _)) ?_
    refine l1 (n := 1) rfl rfl rfl (li_of a2) ?_
    refine b_la rfl (kc_391 (fz := fz) hS).1 (Nat.le_of_ble_eq_true rfl) iv2 (fun q => ?_)
    replace h := h q
    obtain ⟨i1, h⟩ := h
    refine b_ls rfl (kc_395 (fz := fz) hS).1 (Nat.le_of_ble_eq_true rfl) i1 (fun q M1 e => ?_)
    replace h := h q M1 e
    have r1 := hR.wl (Nat.le_of_ble_eq_true rfl) (Nat.le_of_ble_eq_true rfl) e
    refine l_ii rfl a2 (Nat.le_of_ble_eq_true rfl) (fun ls y4 ho => ?_)
    have y5 := ho 0 _ (by decide) (fun q => by cases q.2) a0
    have y6 := ho 1 _ (by decide) (fun q => by cases q.2) a1
    refine l3 rfl rfl rfl ?_
    obtain ⟨i2, h⟩ := h
    exact hb22 _ (by omega) _ _ _ _ r1 iv1 i2 y5 y6 y4 h
def e_W_keep_22 (v1 : Int) (v2 : Int) (M : rf_M) (K : rf_M → Prop) : Prop := ∃ Inv : Int → Int → rf_M → Prop, Inv v1 v2 M ∧ ∀ (v1 : Int) (v2 : Int) (M : rf_M), inr v1 → inr v2 → Inv v1 v2 M → e_W_keep_22b v1 v2 M Inv K
theorem E_W_keep_22 {fz : Bool} {S : gS} {B : rf_M} {M : rf_M} {ls : rf_L} {n0 : Nat} {v1 : Int} {v2 : Int} {K : rf_M → Prop} (hS : rl S) (hR : fl 353 406 B M) (iv1 : inr v1) (iv2 : inr v2) (a0 : rf_ld ls 0 = some (.ref 353)) (a1 : rf_ld ls 1 = some (zv v1)) (a2 : rf_ld ls 2 = some (zv v2)) (h : e_W_keep_22 v1 v2 M K) : lx (cx0 fz) n0 172 22 ls [] (M, S) (vl_v 353 406 B S K) := by
  obtain ⟨Inv, hm, hb⟩ := h
  induction n0 using Nat.strongRecOn generalizing ls M v1 v2 with
  | _ n0 ih =>
    refine E_W_keep_22b hS hR iv1 iv2 a0 a1 a2 (fun n' hn' v1' v2' M' ls' hR' f0 f1 f2 f3 f4 q2 => ih n' hn' hR' f0 f1 f2 f3 f4 q2) (hb v1 v2 M iv1 iv2 hm)
def e_W_keep (v1 : Int) (M : rf_M) (K : rf_M → Prop) : Prop := (0 ≤ v1 ∧ v1 < 480 → (∀ M1 : rf_M, M1 = wi M 394 (v1).toNat (gi M 353 55) → ((0 ≤ v1 ∧ v1 < 480 → (∀ M2 : rf_M, M2 = wi M1 397 (v1).toNat (gi M1 353 58) → (e_W_keep_22 v1 0 M2 K))))))
theorem E_W_keep {fz : Bool} {S : gS} {B : rf_M} {M : rf_M} {ls : rf_L} {n0 : Nat} {v1 : Int} {K : rf_M → Prop} (hS : rl S) (hR : fl 353 406 B M) (iv1 : inr v1) (a0 : rf_ld ls 0 = some (.ref 353)) (a1 : rf_ld ls 1 = some (zv v1)) (h : e_W_keep v1 M K) : lx (cx0 fz) n0 172 0 ls [] (M, S) (vl_v 353 406 B S K) := by
  unfold e_W_keep at h
  refine l1 (n := 1) rfl rfl rfl (la_of a0) ?_
  refine l_gr rfl (ko_11 hS (List.Mem.head _)) rfl (fun _ => rfl) (kf_11_61 hR.2 (List.Mem.head _)) ?_
  refine l1 (n := 1) rfl rfl rfl (li_of a1) ?_
  refine l1 (n := 1) rfl rfl rfl (la_of a0) ?_
  refine l_gi rfl (ko_11 hS (List.Mem.head _)) rfl (fun _ => rfl) ?_
  refine b_is rfl (kc_394 (fz := fz) hS).1 (Nat.le_of_ble_eq_true rfl) iv1 (fun q M1 e => ?_)
  replace h := h q M1 e
  have r1 := hR.wi (Nat.le_of_ble_eq_true rfl) (Nat.le_of_ble_eq_true rfl) e
  refine l1 (n := 1) rfl rfl rfl (la_of a0) ?_
  refine l_gr rfl (ko_11 hS (List.Mem.head _)) rfl (fun _ => rfl) (kf_11_64 r1.2 (List.Mem.head _)) ?_
  refine l1 (n := 1) rfl rfl rfl (li_of a1) ?_
  refine l1 (n := 1) rfl rfl rfl (la_of a0) ?_
  refine l_gi rfl (ko_11 hS (List.Mem.head _)) rfl (fun _ => rfl) ?_
  refine b_is rfl (kc_397 (fz := fz) hS).1 (Nat.le_of_ble_eq_true rfl) iv1 (fun q M2 e => ?_)
  replace h := h q M2 e
  have r2 := r1.wi (Nat.le_of_ble_eq_true rfl) (Nat.le_of_ble_eq_true rfl) e
  refine l1 (n := 1) rfl rfl rfl rfl ?_
  refine l_s1 (n := 1) rfl rfl rfl rfl (fun ls y1 ho => ?_)
  have y2 := ho 0 _ (by decide) (fun q => by cases q.2) a0
  have y3 := ho 1 _ (by decide) (fun q => by cases q.2) a1
  exact E_W_keep_22 hS r2 iv1 ⟨by decide, by decide⟩ y2 y3 y1 h
def em_W_keep (x1 : Int) (M : rf_M) (K : rf_M → Prop) : Prop := e_W_keep x1 M K
theorem E_W_keep_m {fz : Bool} {S : gS} {B : rf_M} {M : rf_M} {n0 : Nat} {x1 : Int} {K : rf_M → Prop} (hS : rl S) (hR : fl 353 406 B M) (ix1 : inr x1) (h : em_W_keep x1 M K) : lx (cx0 fz) n0 172 0 (lv_args 0 [.ref 353, zv x1]) [] (M, S) (vl_v 353 406 B S K) :=
  E_W_keep hS hR ix1 rfl rfl h
def e_W_step_346 (M : rf_M) (K : Int → rf_M → Prop) : Prop := K 0 M
theorem E_W_step_346 {fz : Bool} {S : gS} {B : rf_M} {M : rf_M} {ls : rf_L} {n0 : Nat} {K : Int → rf_M → Prop} (hS : rl S) (hR : fl 353 406 B M) (h : e_W_step_346 M K) : lx (cx0 fz) n0 162 346 ls [] (M, S) (vl_i 353 406 B S K) := by
  unfold e_W_step_346 at h
  refine l1 (n := 1) rfl rfl rfl rfl ?_
  exact l_ri rfl rfl ⟨by decide, by decide⟩ hR h
def e_W_step_198 (v1 : Int) (M : rf_M) (K : Int → rf_M → Prop) : Prop := em_W_behind v1 M (fun (z1 : Int) (M1 : rf_M) => ∀ M2 : rf_M, M2 = wi M1 353 60 z1 → (e_W_step_346 M2 K))
theorem E_W_step_198 {fz : Bool} {S : gS} {B : rf_M} {M : rf_M} {ls : rf_L} {n0 : Nat} {v1 : Int} {K : Int → rf_M → Prop} (hS : rl S) (hR : fl 353 406 B M) (iv1 : inr v1) (a0 : rf_ld ls 0 = some (.ref 353)) (a1 : rf_ld ls 1 = some (zv v1)) (h : e_W_step_198 v1 M K) : lx (cx0 fz) n0 162 198 ls [] (M, S) (vl_i 353 406 B S K) := by
  unfold e_W_step_198 at h
  refine l1 (n := 1) rfl rfl rfl (la_of a0) ?_
  refine l1 (n := 1) rfl rfl rfl (la_of a0) ?_
  refine l1 (n := 1) rfl rfl rfl (li_of a1) ?_
  refine b_iv (c := 353) (as := [zv v1]) (rest := [.ref 353]) rfl (by decide) (ko_11 hS (List.Mem.head _)) rfl rfl (Nat.le_of_ble_eq_true rfl) (fun hq => ?_)
  refine lx_mono (E_W_behind_m hS hR iv1 h) ?_
  rintro _ _ ⟨z1, M1, rfl, rfl, r1, iz1, h⟩
  refine l_pi rfl (ko_11 (fz := fz) hS (List.Mem.head _)) rfl (fun _ _ => rfl) (fun M2 e => ?_)
  replace h := h M2 e
  have r2 := r1.wi (Nat.le_of_ble_eq_true rfl) (Nat.le_of_ble_eq_true rfl) e
  refine l3 rfl rfl rfl ?_
  exact E_W_step_346 hS r2  h
def e_W_step_51 (v1 : Int) (s0 : Int64) (M : rf_M) (K : Int → rf_M → Prop) : Prop := ((gi M 353 65) = 2 → (K 1 M)) ∧ (¬ (gi M 353 65) = 2 → (((gi M 353 65) = 1 → (em_W_throwFrom v1 M (fun (z18 : Int) (M18 : rf_M) => K z18 M18))) ∧ (¬ (gi M 353 65) = 1 → ((0 ≤ v1 ∧ v1 < 480 → (((gi M 360 (v1).toNat) = 0 → (((lg_cmp s0 (Int64.ofNat 0)).toInt = 0 → ((0 ≤ v1 ∧ v1 < 480 → (em_W_goIn v1 (gi M 366 (v1).toNat) M (fun (M1 : rf_M) => e_W_step_346 M1 K))))) ∧ (¬ ((lg_cmp s0 (Int64.ofNat 0)).toInt = 0) → ((0 ≤ v1 ∧ v1 < 480 → (em_W_goIn v1 (gi M 365 (v1).toNat) M (fun (M2 : rf_M) => e_W_step_346 M2 K))))))) ∧ ((gi M 360 (v1).toNat) = 2 → (((lg_cmp s0 (Int64.ofNat 0)).toInt = 0 → (em_W_behind v1 M (fun (z3 : Int) (M3 : rf_M) => ∀ M4 : rf_M, M4 = wi M3 353 60 z3 → (e_W_step_346 M4 K)))) ∧ (¬ ((lg_cmp s0 (Int64.ofNat 0)).toInt = 0) → ((0 ≤ v1 ∧ v1 < 480 → (em_W_goIn v1 (gi M 365 (v1).toNat) M (fun (M5 : rf_M) => e_W_step_346 M5 K))))))) ∧ ((gi M 360 (v1).toNat) = 3 → (em_W_retryFrom v1 M (fun (z6 : Int) (M6 : rf_M) => K z6 M6))) ∧ ((gi M 360 (v1).toNat) = 4 → (∀ M7 : rf_M, M7 = wl M 353 66 s0 → (em_W_throwFrom v1 M7 (fun (z8 : Int) (M8 : rf_M) => K z8 M8)))) ∧ ((gi M 360 (v1).toNat) = 9 → ((0 ≤ v1 ∧ v1 < 480 → ((0 ≤ (gi M 353 58) ∧ (gi M 353 58) < 400 → (∀ M9 : rf_M, M9 = wi M 393 (gi M 353 58).toNat (gi M 364 (v1).toNat) → (∀ M10 : rf_M, M10 = wi M9 353 58 ((gi M9 353 58) + 1) → (em_W_behind v1 M10 (fun (z11 : Int) (M11 : rf_M) => ∀ M12 : rf_M, M12 = wi M11 353 60 z11 → (e_W_step_346 M12 K)))))))))) ∧ ((gi M 360 (v1).toNat) = 20 → ((0 ≤ v1 ∧ v1 < 480 → (((gi M 367 (v1).toNat) < 16 → ((0 ≤ v1 ∧ v1 < 480 → ((0 ≤ (gi M 367 (v1).toNat) ∧ (gi M 367 (v1).toNat) < 16 → (∀ M13 : rf_M, M13 = wl M 391 (gi M 367 (v1).toNat).toNat s0 → ((0 ≤ v1 ∧ v1 < 480 → (∀ M14 : rf_M, M14 = wi M13 353 55 (Int32.ofInt (gi M13 353 55) ||| Int32.ofInt (Int32.ofInt 1 <<< (Int32.ofInt (gi M13 367 (v1).toNat) &&& 31)).toInt).toInt → (e_W_step_198 v1 M14 K)))))))))) ∧ (¬ ((gi M 367 (v1).toNat) < 16) → ((0 ≤ v1 ∧ v1 < 480 → (inr ((gi M 367 (v1).toNat) - 16) ∧ ((0 ≤ ((gi M 367 (v1).toNat) - 16) ∧ ((gi M 367 (v1).toNat) - 16) < 10 → (∀ M15 : rf_M, M15 = wl M 392 ((gi M 367 (v1).toNat) - 16).toNat s0 → (e_W_step_198 v1 M15 K)))))))))))) ∧ (¬ (gi M 360 (v1).toNat) = 0 ∧ ¬ (gi M 360 (v1).toNat) = 2 ∧ ¬ (gi M 360 (v1).toNat) = 3 ∧ ¬ (gi M 360 (v1).toNat) = 4 ∧ ¬ (gi M 360 (v1).toNat) = 9 ∧ ¬ (gi M 360 (v1).toNat) = 20 → (em_W_keep v1 M (fun (M16 : rf_M) => (0 ≤ v1 ∧ v1 < 480 → (em_W_goIn v1 (gi M16 365 (v1).toNat) M16 (fun (M17 : rf_M) => e_W_step_346 M17 K))))))))))))
theorem E_W_step_51 {fz : Bool} {S : gS} {B : rf_M} {M : rf_M} {ls : rf_L} {n0 : Nat} {v1 : Int} {s0 : Int64} {K : Int → rf_M → Prop} (hS : rl S) (hR : fl 353 406 B M) (iv1 : inr v1) (a0 : rf_ld ls 0 = some (.ref 353)) (a1 : rf_ld ls 1 = some (zv v1)) (h : e_W_step_51 v1 s0 M K) : lx (cx0 fz) n0 162 51 ls [.long s0] (M, S) (vl_i 353 406 B S K) := by
  unfold e_W_step_51 at h
  refine l_s2 (n := 1) rfl rfl rfl rfl (fun ls y1 ho => ?_)
  have y2 := ho 0 _ (by decide) (by decide) (fun q => by cases q.2) a0
  have y3 := ho 1 _ (by decide) (by decide) (fun q => by cases q.2) a1
  refine l1 (n := 1) rfl rfl rfl (la_of y2) ?_
  refine l_gi rfl (ko_11 hS (List.Mem.head _)) rfl (fun _ => rfl) ?_
  refine l1 (n := 1) rfl rfl rfl rfl ?_
  refine l_ic rfl (inr_gi _ _ _) ⟨by decide, by decide⟩ (fun c => ?_) (fun c => ?_)
  · replace h := h.2 c
    refine l1 (n := 1) rfl rfl rfl (la_of y2) ?_
    refine l_gi rfl (ko_11 hS (List.Mem.head _)) rfl (fun _ => rfl) ?_
    refine l1 (n := 1) rfl rfl rfl rfl ?_
    refine l_ic rfl (inr_gi _ _ _) ⟨by decide, by decide⟩ (fun c => ?_) (fun c => ?_)
    · replace h := h.2 c
      refine l1 (n := 1) rfl rfl rfl (la_of y2) ?_
      refine l_gr rfl (ko_11 hS (List.Mem.head _)) rfl (fun _ => rfl) (kf_11_17 hR.2 (List.Mem.head _)) ?_
      refine l1 (n := 1) rfl rfl rfl (li_of y3) ?_
      refine b_ia rfl (kc_360 (fz := fz) hS).1 (Nat.le_of_ble_eq_true rfl) iv1 (fun q => ?_)
      replace h := h q
      have ia : inr (gi M 360 (v1).toNat) := (inr_gi _ _ _)
      obtain ⟨h1, h⟩ := h
      by_cases e0 : (gi M 360 (v1).toNat) = 0
      · replace h := h1 e0
        refine l_sw (pc' := 210) e0 rfl rfl rfl ?_
        refine l1 (n := 1) rfl rfl rfl (ll_of y1) ?_
        refine l1 (n := 1) rfl rfl rfl rfl ?_
        refine l_op (T := (lg_cmp s0 (Int64.ofNat 0))) rfl rfl rfl ?_
        refine l_if rfl (inr_ti _) (fun c => ?_) (fun c => ?_)
        · replace h := h.1 c
          refine l1 (n := 1) rfl rfl rfl (la_of y2) ?_
          refine l1 (n := 1) rfl rfl rfl (li_of y3) ?_
          refine l1 (n := 1) rfl rfl rfl (la_of y2) ?_
          refine l_gr rfl (ko_11 hS (List.Mem.head _)) rfl (fun _ => rfl) (kf_11_23 hR.2 (List.Mem.head _)) ?_
          refine l1 (n := 1) rfl rfl rfl (li_of y3) ?_
          refine b_ia rfl (kc_366 (fz := fz) hS).1 (Nat.le_of_ble_eq_true rfl) iv1 (fun q => ?_)
          replace h := h q
          refine b_iv (c := 353) (as := [zv v1, zv (gi M 366 (v1).toNat)]) (rest := []) rfl (by decide) (ko_11 hS (List.Mem.head _)) rfl rfl (Nat.le_of_ble_eq_true rfl) (fun hq => ?_)
          refine lx_mono (E_W_goIn_m hS hR iv1 (inr_gi _ _ _) h) ?_
          rintro _ _ ⟨M1, rfl, rfl, r1, h⟩
          refine l3 rfl rfl rfl ?_
          exact E_W_step_346 hS r1  h
        · replace h := h.2 c
          refine l1 (n := 1) rfl rfl rfl (la_of y2) ?_
          refine l1 (n := 1) rfl rfl rfl (li_of y3) ?_
          refine l1 (n := 1) rfl rfl rfl (la_of y2) ?_
          refine l_gr rfl (ko_11 hS (List.Mem.head _)) rfl (fun _ => rfl) (kf_11_22 hR.2 (List.Mem.head _)) ?_
          refine l1 (n := 1) rfl rfl rfl (li_of y3) ?_
          refine b_ia rfl (kc_365 (fz := fz) hS).1 (Nat.le_of_ble_eq_true rfl) iv1 (fun q => ?_)
          replace h := h q
          refine b_iv (c := 353) (as := [zv v1, zv (gi M 365 (v1).toNat)]) (rest := []) rfl (by decide) (ko_11 hS (List.Mem.head _)) rfl rfl (Nat.le_of_ble_eq_true rfl) (fun hq => ?_)
          refine lx_mono (E_W_goIn_m hS hR iv1 (inr_gi _ _ _) h) ?_
          rintro _ _ ⟨M2, rfl, rfl, r2, h⟩
          refine l3 rfl rfl rfl ?_
          exact E_W_step_346 hS r2  h
      obtain ⟨h1, h⟩ := h
      by_cases e2 : (gi M 360 (v1).toNat) = 2
      · replace h := h1 e2
        refine l_sw (pc' := 244) e2 rfl rfl rfl ?_
        refine l1 (n := 1) rfl rfl rfl (ll_of y1) ?_
        refine l1 (n := 1) rfl rfl rfl rfl ?_
        refine l_op (T := (lg_cmp s0 (Int64.ofNat 0))) rfl rfl rfl ?_
        refine l_if rfl (inr_ti _) (fun c => ?_) (fun c => ?_)
        · replace h := h.1 c
          refine l1 (n := 1) rfl rfl rfl (la_of y2) ?_
          refine l1 (n := 1) rfl rfl rfl (la_of y2) ?_
          refine l1 (n := 1) rfl rfl rfl (li_of y3) ?_
          refine b_iv (c := 353) (as := [zv v1]) (rest := [.ref 353]) rfl (by decide) (ko_11 hS (List.Mem.head _)) rfl rfl (Nat.le_of_ble_eq_true rfl) (fun hq => ?_)
          refine lx_mono (E_W_behind_m hS hR iv1 h) ?_
          rintro _ _ ⟨z3, M3, rfl, rfl, r3, iz3, h⟩
          refine l_pi rfl (ko_11 (fz := fz) hS (List.Mem.head _)) rfl (fun _ _ => rfl) (fun M4 e => ?_)
          replace h := h M4 e
          have r4 := r3.wi (Nat.le_of_ble_eq_true rfl) (Nat.le_of_ble_eq_true rfl) e
          refine l3 rfl rfl rfl ?_
          exact E_W_step_346 hS r4  h
        · replace h := h.2 c
          refine l1 (n := 1) rfl rfl rfl (la_of y2) ?_
          refine l1 (n := 1) rfl rfl rfl (li_of y3) ?_
          refine l1 (n := 1) rfl rfl rfl (la_of y2) ?_
          refine l_gr rfl (ko_11 hS (List.Mem.head _)) rfl (fun _ => rfl) (kf_11_22 hR.2 (List.Mem.head _)) ?_
          refine l1 (n := 1) rfl rfl rfl (li_of y3) ?_
          refine b_ia rfl (kc_365 (fz := fz) hS).1 (Nat.le_of_ble_eq_true rfl) iv1 (fun q => ?_)
          replace h := h q
          refine b_iv (c := 353) (as := [zv v1, zv (gi M 365 (v1).toNat)]) (rest := []) rfl (by decide) (ko_11 hS (List.Mem.head _)) rfl rfl (Nat.le_of_ble_eq_true rfl) (fun hq => ?_)
          refine lx_mono (E_W_goIn_m hS hR iv1 (inr_gi _ _ _) h) ?_
          rintro _ _ ⟨M5, rfl, rfl, r5, h⟩
          refine l3 rfl rfl rfl ?_
          exact E_W_step_346 hS r5  h
      obtain ⟨h1, h⟩ := h
      by_cases e3 : (gi M 360 (v1).toNat) = 3
      · replace h := h1 e3
        refine l_sw (pc' := 287) e3 rfl rfl rfl ?_
        refine l1 (n := 1) rfl rfl rfl (la_of y2) ?_
        refine l1 (n := 1) rfl rfl rfl (li_of y3) ?_
        refine b_iv (c := 353) (as := [zv v1]) (rest := []) rfl (by decide) (ko_11 hS (List.Mem.head _)) rfl rfl (Nat.le_of_ble_eq_true rfl) (fun hq => ?_)
        refine lx_mono (E_W_retryFrom_m hS hR iv1 h) ?_
        rintro _ _ ⟨z6, M6, rfl, rfl, r6, iz6, h⟩
        exact l_ri rfl rfl iz6 r6 h
      obtain ⟨h1, h⟩ := h
      by_cases e4 : (gi M 360 (v1).toNat) = 4
      · replace h := h1 e4
        refine l_sw (pc' := 276) e4 rfl rfl rfl ?_
        refine l1 (n := 1) rfl rfl rfl (la_of y2) ?_
        refine l1 (n := 1) rfl rfl rfl (ll_of y1) ?_
        refine l_pl rfl (ko_11 (fz := fz) hS (List.Mem.head _)) rfl (fun _ _ => rfl) (fun M7 e => ?_)
        replace h := h M7 e
        have r7 := hR.wl (Nat.le_of_ble_eq_true rfl) (Nat.le_of_ble_eq_true rfl) e
        refine l1 (n := 1) rfl rfl rfl (la_of y2) ?_
        refine l1 (n := 1) rfl rfl rfl (li_of y3) ?_
        refine b_iv (c := 353) (as := [zv v1]) (rest := []) rfl (by decide) (ko_11 hS (List.Mem.head _)) rfl rfl (Nat.le_of_ble_eq_true rfl) (fun hq => ?_)
        refine lx_mono (E_W_throwFrom_m hS r7 iv1 h) ?_
        rintro _ _ ⟨z8, M8, rfl, rfl, r8, iz8, h⟩
        exact l_ri rfl rfl iz8 r8 h
      obtain ⟨h1, h⟩ := h
      by_cases e9 : (gi M 360 (v1).toNat) = 9
      · replace h := h1 e9
        refine l_sw (pc' := 293) e9 rfl rfl rfl ?_
        refine l1 (n := 1) rfl rfl rfl (la_of y2) ?_
        refine l_gr rfl (ko_11 hS (List.Mem.head _)) rfl (fun _ => rfl) (kf_11_59 hR.2 (List.Mem.head _)) ?_
        refine l1 (n := 1) rfl rfl rfl (la_of y2) ?_
        refine l_gi rfl (ko_11 hS (List.Mem.head _)) rfl (fun _ => rfl) ?_
        refine l1 (n := 1) rfl rfl rfl (la_of y2) ?_
        refine l_gr rfl (ko_11 hS (List.Mem.head _)) rfl (fun _ => rfl) (kf_11_21 hR.2 (List.Mem.head _)) ?_
        refine l1 (n := 1) rfl rfl rfl (li_of y3) ?_
        refine b_ia rfl (kc_364 (fz := fz) hS).1 (Nat.le_of_ble_eq_true rfl) iv1 (fun q => ?_)
        replace h := h q
        refine b_is rfl (kc_393 (fz := fz) hS).1 (Nat.le_of_ble_eq_true rfl) (inr_gi _ _ _) (fun q M9 e => ?_)
        replace h := h q M9 e
        have r9 := hR.wi (Nat.le_of_ble_eq_true rfl) (Nat.le_of_ble_eq_true rfl) e
        refine l1 (n := 1) rfl rfl rfl (la_of y2) ?_
        refine l0 rfl rfl rfl ?_
        refine l_gi rfl (ko_11 hS (List.Mem.head _)) rfl (fun _ => rfl) ?_
        refine l1 (n := 1) rfl rfl rfl rfl ?_
        refine l_add rfl ?_
        refine l_pi rfl (ko_11 (fz := fz) hS (List.Mem.head _)) rfl (fun _ _ => rfl) (fun M10 e => ?_)
        replace h := h M10 e
        have r10 := r9.wi (Nat.le_of_ble_eq_true rfl) (Nat.le_of_ble_eq_true rfl) e
        refine l1 (n := 1) rfl rfl rfl (la_of y2) ?_
        refine l1 (n := 1) rfl rfl rfl (la_of y2) ?_
        refine l1 (n := 1) rfl rfl rfl (li_of y3) ?_
        refine b_iv (c := 353) (as := [zv v1]) (rest := [.ref 353]) rfl (by decide) (ko_11 hS (List.Mem.head _)) rfl rfl (Nat.le_of_ble_eq_true rfl) (fun hq => ?_)
        refine lx_mono (E_W_behind_m hS r10 iv1 h) ?_
        rintro _ _ ⟨z11, M11, rfl, rfl, r11, iz11, h⟩
        refine l_pi rfl (ko_11 (fz := fz) hS (List.Mem.head _)) rfl (fun _ _ => rfl) (fun M12 e => ?_)
        replace h := h M12 e
        have r12 := r11.wi (Nat.le_of_ble_eq_true rfl) (Nat.le_of_ble_eq_true rfl) e
        refine l3 rfl rfl rfl ?_
        exact E_W_step_346 hS r12  h
      obtain ⟨h1, h⟩ := h
      by_cases e20 : (gi M 360 (v1).toNat) = 20
      · replace h := h1 e20
        refine l_sw (pc' := 140) e20 rfl rfl rfl ?_
        refine l1 (n := 1) rfl rfl rfl (la_of y2) ?_
        refine l_gr rfl (ko_11 hS (List.Mem.head _)) rfl (fun _ => rfl) (kf_11_24 hR.2 (List.Mem.head _)) ?_
        refine l1 (n := 1) rfl rfl rfl (li_of y3) ?_
        refine b_ia rfl (kc_367 (fz := fz) hS).1 (Nat.le_of_ble_eq_true rfl) iv1 (fun q => ?_)
        replace h := h q
        refine l_bi rfl (by decide) ?_
        refine l_ic rfl (inr_gi _ _ _) ⟨by decide, by decide⟩ (fun c => ?_) (fun c => ?_)
        · replace h := h.1 c
          refine l1 (n := 1) rfl rfl rfl (la_of y2) ?_
          refine l_gr rfl (ko_11 hS (List.Mem.head _)) rfl (fun _ => rfl) (kf_11_56 hR.2 (List.Mem.head _)) ?_
          refine l1 (n := 1) rfl rfl rfl (la_of y2) ?_
          refine l_gr rfl (ko_11 hS (List.Mem.head _)) rfl (fun _ => rfl) (kf_11_24 hR.2 (List.Mem.head _)) ?_
          refine l1 (n := 1) rfl rfl rfl (li_of y3) ?_
          refine b_ia rfl (kc_367 (fz := fz) hS).1 (Nat.le_of_ble_eq_true rfl) iv1 (fun q => ?_)
          replace h := h q
          refine l1 (n := 1) rfl rfl rfl (ll_of y1) ?_
          refine b_ls rfl (kc_391 (fz := fz) hS).1 (Nat.le_of_ble_eq_true rfl) (inr_gi _ _ _) (fun q M13 e => ?_)
          replace h := h q M13 e
          have r13 := hR.wl (Nat.le_of_ble_eq_true rfl) (Nat.le_of_ble_eq_true rfl) e
          refine l1 (n := 1) rfl rfl rfl (la_of y2) ?_
          refine l1 (n := 1) rfl rfl rfl (la_of y2) ?_
          refine l_gi rfl (ko_11 hS (List.Mem.head _)) rfl (fun _ => rfl) ?_
          refine l1 (n := 1) rfl rfl rfl rfl ?_
          refine l1 (n := 1) rfl rfl rfl (la_of y2) ?_
          refine l_gr rfl (ko_11 hS (List.Mem.head _)) rfl (fun _ => rfl) (kf_11_24 r13.2 (List.Mem.head _)) ?_
          refine l1 (n := 1) rfl rfl rfl (li_of y3) ?_
          refine b_ia rfl (kc_367 (fz := fz) hS).1 (Nat.le_of_ble_eq_true rfl) iv1 (fun q => ?_)
          replace h := h q
          refine l_op (T := (Int32.ofInt 1 <<< (Int32.ofInt (gi M13 367 (v1).toNat) &&& 31))) rfl rfl rfl ?_
          refine l_op (T := (Int32.ofInt (gi M13 353 55) ||| Int32.ofInt (Int32.ofInt 1 <<< (Int32.ofInt (gi M13 367 (v1).toNat) &&& 31)).toInt)) rfl rfl rfl ?_
          refine l_pi rfl (ko_11 (fz := fz) hS (List.Mem.head _)) rfl (fun _ _ => rfl) (fun M14 e => ?_)
          replace h := h M14 e
          have r14 := r13.wi (Nat.le_of_ble_eq_true rfl) (Nat.le_of_ble_eq_true rfl) e
          exact E_W_step_198 hS r14 iv1 y2 y3 h
        · replace h := h.2 c
          refine l1 (n := 1) rfl rfl rfl (la_of y2) ?_
          refine l_gr rfl (ko_11 hS (List.Mem.head _)) rfl (fun _ => rfl) (kf_11_57 hR.2 (List.Mem.head _)) ?_
          refine l1 (n := 1) rfl rfl rfl (la_of y2) ?_
          refine l_gr rfl (ko_11 hS (List.Mem.head _)) rfl (fun _ => rfl) (kf_11_24 hR.2 (List.Mem.head _)) ?_
          refine l1 (n := 1) rfl rfl rfl (li_of y3) ?_
          refine b_ia rfl (kc_367 (fz := fz) hS).1 (Nat.le_of_ble_eq_true rfl) iv1 (fun q => ?_)
          replace h := h q
          refine l_bi rfl (by decide) ?_
          refine l_sub rfl ?_
          refine l1 (n := 1) rfl rfl rfl (ll_of y1) ?_
          obtain ⟨i1, h⟩ := h
          refine b_ls rfl (kc_392 (fz := fz) hS).1 (Nat.le_of_ble_eq_true rfl) i1 (fun q M15 e => ?_)
          replace h := h q M15 e
          have r15 := hR.wl (Nat.le_of_ble_eq_true rfl) (Nat.le_of_ble_eq_true rfl) e
          refine l3 rfl rfl rfl ?_
          exact E_W_step_198 hS r15 iv1 y2 y3 h
      replace h := h ⟨e0, e2, e3, e4, e9, e20⟩
      refine l_swl (t := 330) rfl ia (by simp only [List.tail_cons, rf_sw, if_neg (Ne.symm e0), if_neg (Ne.symm e2), if_neg (Ne.symm e3), if_neg (Ne.symm e4), if_neg (Ne.symm e9), if_neg (Ne.symm e20)]; rfl) ?_
      refine l1 (n := 1) rfl rfl rfl (la_of y2) ?_
      refine l1 (n := 1) rfl rfl rfl (li_of y3) ?_
      refine b_iv (c := 353) (as := [zv v1]) (rest := []) rfl (by decide) (ko_11 hS (List.Mem.head _)) rfl rfl (Nat.le_of_ble_eq_true rfl) (fun hq => ?_)
      refine lx_mono (E_W_keep_m hS hR iv1 h) ?_
      rintro _ _ ⟨M16, rfl, rfl, r16, h⟩
      refine l1 (n := 1) rfl rfl rfl (la_of y2) ?_
      refine l1 (n := 1) rfl rfl rfl (li_of y3) ?_
      refine l1 (n := 1) rfl rfl rfl (la_of y2) ?_
      refine l_gr rfl (ko_11 hS (List.Mem.head _)) rfl (fun _ => rfl) (kf_11_22 r16.2 (List.Mem.head _)) ?_
      refine l1 (n := 1) rfl rfl rfl (li_of y3) ?_
      refine b_ia rfl (kc_365 (fz := fz) hS).1 (Nat.le_of_ble_eq_true rfl) iv1 (fun q => ?_)
      replace h := h q
      refine b_iv (c := 353) (as := [zv v1, zv (gi M16 365 (v1).toNat)]) (rest := []) rfl (by decide) (ko_11 hS (List.Mem.head _)) rfl rfl (Nat.le_of_ble_eq_true rfl) (fun hq => ?_)
      refine lx_mono (E_W_goIn_m hS r16 iv1 (inr_gi _ _ _) h) ?_
      rintro _ _ ⟨M17, rfl, rfl, r17, h⟩
      exact E_W_step_346 hS r17  h
    · replace h := h.1 (Classical.not_not.mp c)
      refine l1 (n := 1) rfl rfl rfl (la_of y2) ?_
      refine l1 (n := 1) rfl rfl rfl (li_of y3) ?_
      refine b_iv (c := 353) (as := [zv v1]) (rest := []) rfl (by decide) (ko_11 hS (List.Mem.head _)) rfl rfl (Nat.le_of_ble_eq_true rfl) (fun hq => ?_)
      refine lx_mono (E_W_throwFrom_m hS hR iv1 h) ?_
      rintro _ _ ⟨z18, M18, rfl, rfl, r18, iz18, h⟩
      exact l_ri rfl rfl iz18 r18 h
  · replace h := h.1 (Classical.not_not.mp c)
    refine l1 (n := 1) rfl rfl rfl rfl ?_
    exact l_ri rfl rfl ⟨by decide, by decide⟩ hR h
def e_W_step_50 (v1 : Int) (M : rf_M) (K : Int → rf_M → Prop) : Prop := e_W_step_51 v1 (Int64.ofNat 0) M K
theorem E_W_step_50 {fz : Bool} {S : gS} {B : rf_M} {M : rf_M} {ls : rf_L} {n0 : Nat} {v1 : Int} {K : Int → rf_M → Prop} (hS : rl S) (hR : fl 353 406 B M) (iv1 : inr v1) (a0 : rf_ld ls 0 = some (.ref 353)) (a1 : rf_ld ls 1 = some (zv v1)) (h : e_W_step_50 v1 M K) : lx (cx0 fz) n0 162 50 ls [] (M, S) (vl_i 353 406 B S K) := by
  unfold e_W_step_50 at h
  refine l1 (n := 1) rfl rfl rfl rfl ?_
  exact E_W_step_51 hS hR iv1 a0 a1 h
def e_W_step (M : rf_M) (K : Int → rf_M → Prop) : Prop := (0 ≤ (gi M 353 60) → (∀ M1 : rf_M, M1 = wi M 353 65 0 → ((0 ≤ (gi M 353 60) ∧ (gi M 353 60) < 480 → (((gi M1 364 (gi M 353 60).toNat) < 0 → (e_W_step_50 (gi M 353 60) M1 K)) ∧ (¬ ((gi M1 364 (gi M 353 60).toNat) < 0) → ((0 ≤ (gi M 353 60) ∧ (gi M 353 60) < 480 → (((gi M1 360 (gi M 353 60).toNat) = 9 → (e_W_step_50 (gi M 353 60) M1 K)) ∧ (¬ ((gi M1 360 (gi M 353 60).toNat) = 9) → ((0 ≤ (gi M 353 60) ∧ (gi M 353 60) < 480 → (em_W_work (gi M1 364 (gi M 353 60).toNat) 0 M1 (fun (z2 : Int64) (M2 : rf_M) => e_W_step_51 (gi M 353 60) z2 M2 K)))))))))))))) ∧ (¬ (0 ≤ (gi M 353 60)) → (K 4 M))
theorem E_W_step {fz : Bool} {S : gS} {B : rf_M} {M : rf_M} {ls : rf_L} {n0 : Nat} {K : Int → rf_M → Prop} (hS : rl S) (hR : fl 353 406 B M) (a0 : rf_ld ls 0 = some (.ref 353)) (h : e_W_step M K) : lx (cx0 fz) n0 162 0 ls [] (M, S) (vl_i 353 406 B S K) := by
  unfold e_W_step at h
  refine l1 (n := 1) rfl rfl rfl (la_of a0) ?_
  refine l_gi rfl (ko_11 hS (List.Mem.head _)) rfl (fun _ => rfl) ?_
  refine l_s1 (n := 1) rfl rfl rfl rfl (fun ls y1 ho => ?_)
  have y2 := ho 0 _ (by decide) (fun q => by cases q.2) a0
  refine l1 (n := 1) rfl rfl rfl (li_of y1) ?_
  refine l_if rfl (inr_gi _ _ _) (fun c => ?_) (fun c => ?_)
  · replace h := h.1 c
    refine l1 (n := 1) rfl rfl rfl (la_of y2) ?_
    refine l1 (n := 1) rfl rfl rfl rfl ?_
    refine l_pi rfl (ko_11 (fz := fz) hS (List.Mem.head _)) rfl (fun _ _ => rfl) (fun M1 e => ?_)
    replace h := h M1 e
    have r1 := hR.wi (Nat.le_of_ble_eq_true rfl) (Nat.le_of_ble_eq_true rfl) e
    refine l1 (n := 1) rfl rfl rfl (la_of y2) ?_
    refine l_gr rfl (ko_11 hS (List.Mem.head _)) rfl (fun _ => rfl) (kf_11_21 r1.2 (List.Mem.head _)) ?_
    refine l1 (n := 1) rfl rfl rfl (li_of y1) ?_
    refine b_ia rfl (kc_364 (fz := fz) hS).1 (Nat.le_of_ble_eq_true rfl) (inr_gi _ _ _) (fun q => ?_)
    replace h := h q
    refine l_if rfl (inr_gi _ _ _) (fun c => ?_) (fun c => ?_)
    · replace h := h.1 c
      exact E_W_step_50 hS r1 (inr_gi _ _ _) y2 y1 h
    · replace h := h.2 c
      refine l1 (n := 1) rfl rfl rfl (la_of y2) ?_
      refine l_gr rfl (ko_11 hS (List.Mem.head _)) rfl (fun _ => rfl) (kf_11_17 r1.2 (List.Mem.head _)) ?_
      refine l1 (n := 1) rfl rfl rfl (li_of y1) ?_
      refine b_ia rfl (kc_360 (fz := fz) hS).1 (Nat.le_of_ble_eq_true rfl) (inr_gi _ _ _) (fun q => ?_)
      replace h := h q
      refine l_bi rfl (by decide) ?_
      refine l_ic rfl (inr_gi _ _ _) ⟨by decide, by decide⟩ (fun c => ?_) (fun c => ?_)
      · replace h := h.1 c
        exact E_W_step_50 hS r1 (inr_gi _ _ _) y2 y1 h
      · replace h := h.2 c
        refine l1 (n := 1) rfl rfl rfl (la_of y2) ?_
        refine l1 (n := 1) rfl rfl rfl (la_of y2) ?_
        refine l_gr rfl (ko_11 hS (List.Mem.head _)) rfl (fun _ => rfl) (kf_11_21 r1.2 (List.Mem.head _)) ?_
        refine l1 (n := 1) rfl rfl rfl (li_of y1) ?_
        refine b_ia rfl (kc_364 (fz := fz) hS).1 (Nat.le_of_ble_eq_true rfl) (inr_gi _ _ _) (fun q => ?_)
        replace h := h q
        refine l1 (n := 1) rfl rfl rfl rfl ?_
        refine b_iv (c := 353) (as := [zv (gi M1 364 (gi M 353 60).toNat), zv 0]) (rest := []) rfl (by decide) (ko_11 hS (List.Mem.head _)) rfl rfl (Nat.le_of_ble_eq_true rfl) (fun hq => ?_)
        refine lx_mono (E_W_work_m hS r1 (inr_gi _ _ _) ⟨by decide, by decide⟩ h) ?_
        rintro _ _ ⟨z2, M2, rfl, rfl, r2, h⟩
        refine l3 rfl rfl rfl ?_
        exact E_W_step_51 hS r2 (inr_gi _ _ _) y2 y1 h
  · replace h := h.2 c
    refine l1 (n := 1) rfl rfl rfl rfl ?_
    exact l_ri rfl rfl ⟨by decide, by decide⟩ hR h
def em_W_step (M : rf_M) (K : Int → rf_M → Prop) : Prop := e_W_step  M K
theorem E_W_step_m {fz : Bool} {S : gS} {B : rf_M} {M : rf_M} {n0 : Nat} {K : Int → rf_M → Prop} (hS : rl S) (hR : fl 353 406 B M) (h : em_W_step  M K) : lx (cx0 fz) n0 162 0 (lv_args 0 [.ref 353]) [] (M, S) (vl_i 353 406 B S K) :=
  E_W_step hS hR rfl h
def e_W_walkAnew_21b (v1 : Int) (v2 : Int) (M : rf_M) (b21 : Int → Int → rf_M → Prop) (K : rf_M → Prop) : Prop := (0 ≤ v1 ∧ v1 < 8 → (((gi M 383 (v1).toNat) ≤ v2 → (K M)) ∧ (¬ ((gi M 383 (v1).toNat) ≤ v2) → (em_W_step  M (fun (z1 : Int) (M1 : rf_M) => inr (v2 + 1) ∧ (b21 v1 (v2 + 1) M1))))))
theorem E_W_walkAnew_21b {fz : Bool} {S : gS} {B : rf_M} {M : rf_M} {ls : rf_L} {n0 : Nat} {v1 : Int} {v2 : Int} {b21 : Int → Int → rf_M → Prop} {K : rf_M → Prop} (hS : rl S) (hR : fl 353 406 B M) (iv1 : inr v1) (iv2 : inr v2) (a0 : rf_ld ls 0 = some (.ref 353)) (a1 : rf_ld ls 1 = some (zv v1)) (a2 : rf_ld ls 2 = some (zv v2)) (hb21 : ∀ n', n' < n0 → ∀ (v1 : Int) (v2 : Int) (M : rf_M) (ls : rf_L), fl 353 406 B M → inr v1 → inr v2 → rf_ld ls 0 = some (.ref 353) → rf_ld ls 1 = some (zv v1) → rf_ld ls 2 = some (zv v2) → b21 v1 v2 M → lx (cx0 fz) n' 159 21 ls [] (M, S) (vl_v 353 406 B S K)) (h : e_W_walkAnew_21b v1 v2 M b21 K) : lx (cx0 fz) n0 159 21 ls [] (M, S) (vl_v 353 406 B S K) := by
  unfold e_W_walkAnew_21b at h
  rcases Nat.eq_zero_or_pos n0 with e0 | hp
  · rw [e0]; exact lx_zero
  refine l1 (n := 1) rfl rfl rfl (li_of a2) ?_
  refine l1 (n := 1) rfl rfl rfl (la_of a0) ?_
  refine l_gr rfl (ko_11 hS (List.Mem.head _)) rfl (fun _ => rfl) (kf_11_46 hR.2 (List.Mem.head _)) ?_
  refine l1 (n := 1) rfl rfl rfl (li_of a1) ?_
  refine b_ia rfl (kc_383 (fz := fz) hS).1 (Nat.le_of_ble_eq_true rfl) iv1 (fun q => ?_)
  replace h := h q
  refine l_ic rfl iv2 (inr_gi _ _ _) (fun c => ?_) (fun c => ?_)
  · replace h := h.1 c
    exact l_rv rfl rfl hR h
  · replace h := h.2 c
    refine l1 (n := 1) rfl rfl rfl (la_of a0) ?_
    refine b_iv (c := 353) (as := []) (rest := []) rfl (by decide) (ko_11 hS (List.Mem.head _)) rfl rfl (Nat.le_of_ble_eq_true rfl) (fun hq => ?_)
    refine lx_mono (E_W_step_m hS hR h) ?_
    rintro _ _ ⟨z1, M1, rfl, rfl, r1, iz1, h⟩
    refine l_s1 (n := 1) rfl rfl rfl rfl (fun ls y1 ho => ?_)
    have y2 := ho 0 _ (by decide) (fun q => by cases q.2) a0
    have y3 := ho 1 _ (by decide) (fun q => by cases q.2) a1
    have y4 := ho 2 _ (by decide) (fun q => by cases q.2) a2
    refine l_ii rfl y4 (Nat.le_of_ble_eq_true rfl) (fun ls y5 ho => ?_)
    have y6 := ho 0 _ (by decide) (fun q => by cases q.2) y2
    have y7 := ho 1 _ (by decide) (fun q => by cases q.2) y3
    refine l3 rfl rfl rfl ?_
    obtain ⟨i1, h⟩ := h
    exact hb21 _ (by omega) _ _ _ _ r1 iv1 i1 y6 y7 y5 h
def e_W_walkAnew_21 (v1 : Int) (v2 : Int) (M : rf_M) (K : rf_M → Prop) : Prop := ∃ Inv : Int → Int → rf_M → Prop, Inv v1 v2 M ∧ ∀ (v1 : Int) (v2 : Int) (M : rf_M), inr v1 → inr v2 → Inv v1 v2 M → e_W_walkAnew_21b v1 v2 M Inv K
theorem E_W_walkAnew_21 {fz : Bool} {S : gS} {B : rf_M} {M : rf_M} {ls : rf_L} {n0 : Nat} {v1 : Int} {v2 : Int} {K : rf_M → Prop} (hS : rl S) (hR : fl 353 406 B M) (iv1 : inr v1) (iv2 : inr v2) (a0 : rf_ld ls 0 = some (.ref 353)) (a1 : rf_ld ls 1 = some (zv v1)) (a2 : rf_ld ls 2 = some (zv v2)) (h : e_W_walkAnew_21 v1 v2 M K) : lx (cx0 fz) n0 159 21 ls [] (M, S) (vl_v 353 406 B S K) := by
  obtain ⟨Inv, hm, hb⟩ := h
  induction n0 using Nat.strongRecOn generalizing ls M v1 v2 with
  | _ n0 ih =>
    refine E_W_walkAnew_21b hS hR iv1 iv2 a0 a1 a2 (fun n' hn' v1' v2' M' ls' hR' f0 f1 f2 f3 f4 q2 => ih n' hn' hR' f0 f1 f2 f3 f4 q2) (hb v1 v2 M iv1 iv2 hm)
def e_W_walkAnew (v1 : Int) (M : rf_M) (K : rf_M → Prop) : Prop := ∀ M1 : rf_M, M1 = wi M 353 42 0 → (em_W_bringRead v1 M1 (fun (M2 : rf_M) => em_W_firstOf v1 M2 (fun (z3 : Int) (M3 : rf_M) => em_W_beginWalk z3 M3 (fun (M4 : rf_M) => e_W_walkAnew_21 v1 0 M4 K))))
theorem E_W_walkAnew {fz : Bool} {S : gS} {B : rf_M} {M : rf_M} {ls : rf_L} {n0 : Nat} {v1 : Int} {K : rf_M → Prop} (hS : rl S) (hR : fl 353 406 B M) (iv1 : inr v1) (a0 : rf_ld ls 0 = some (.ref 353)) (a1 : rf_ld ls 1 = some (zv v1)) (h : e_W_walkAnew v1 M K) : lx (cx0 fz) n0 159 0 ls [] (M, S) (vl_v 353 406 B S K) := by
  unfold e_W_walkAnew at h
  refine l1 (n := 1) rfl rfl rfl (la_of a0) ?_
  refine l1 (n := 1) rfl rfl rfl rfl ?_
  refine l_pi rfl (ko_11 (fz := fz) hS (List.Mem.head _)) rfl (fun _ _ => rfl) (fun M1 e => ?_)
  replace h := h M1 e
  have r1 := hR.wi (Nat.le_of_ble_eq_true rfl) (Nat.le_of_ble_eq_true rfl) e
  refine l1 (n := 1) rfl rfl rfl (la_of a0) ?_
  refine l1 (n := 1) rfl rfl rfl (li_of a1) ?_
  refine b_iv (c := 353) (as := [zv v1]) (rest := []) rfl (by decide) (ko_11 hS (List.Mem.head _)) rfl rfl (Nat.le_of_ble_eq_true rfl) (fun hq => ?_)
  refine lx_mono (E_W_bringRead_m hS r1 iv1 h) ?_
  rintro _ _ ⟨M2, rfl, rfl, r2, h⟩
  refine l1 (n := 1) rfl rfl rfl (la_of a0) ?_
  refine l1 (n := 1) rfl rfl rfl (la_of a0) ?_
  refine l1 (n := 1) rfl rfl rfl (li_of a1) ?_
  refine b_iv (c := 353) (as := [zv v1]) (rest := [.ref 353]) rfl (by decide) (ko_11 hS (List.Mem.head _)) rfl rfl (Nat.le_of_ble_eq_true rfl) (fun hq => ?_)
  refine lx_mono (E_W_firstOf_m hS r2 iv1 h) ?_
  rintro _ _ ⟨z3, M3, rfl, rfl, r3, iz3, h⟩
  refine b_iv (c := 353) (as := [zv z3]) (rest := []) rfl (by decide) (ko_11 hS (List.Mem.head _)) rfl rfl (Nat.le_of_ble_eq_true rfl) (fun hq => ?_)
  refine lx_mono (E_W_beginWalk_m hS r3 iz3 h) ?_
  rintro _ _ ⟨M4, rfl, rfl, r4, h⟩
  refine l1 (n := 1) rfl rfl rfl rfl ?_
  refine l_s1 (n := 1) rfl rfl rfl rfl (fun ls y1 ho => ?_)
  have y2 := ho 0 _ (by decide) (fun q => by cases q.2) a0
  have y3 := ho 1 _ (by decide) (fun q => by cases q.2) a1
  exact E_W_walkAnew_21 hS r4 iv1 ⟨by decide, by decide⟩ y2 y3 y1 h
def em_W_walkAnew (x1 : Int) (M : rf_M) (K : rf_M → Prop) : Prop := e_W_walkAnew x1 M K
theorem E_W_walkAnew_m {fz : Bool} {S : gS} {B : rf_M} {M : rf_M} {n0 : Nat} {x1 : Int} {K : rf_M → Prop} (hS : rl S) (hR : fl 353 406 B M) (ix1 : inr x1) (h : em_W_walkAnew x1 M K) : lx (cx0 fz) n0 159 0 (lv_args 0 [.ref 353, zv x1]) [] (M, S) (vl_v 353 406 B S K) :=
  E_W_walkAnew hS hR ix1 rfl rfl h
def e_W_keepRead_12b (v1 : Int) (v2 : Int) (M : rf_M) (b12 : Int → Int → rf_M → Prop) (K : rf_M → Prop) : Prop := (16 ≤ v2 → (K M)) ∧ (¬ (16 ≤ v2) → ((0 ≤ v2 ∧ v2 < 16 → (inr ((16 * v1) + v2) ∧ ((0 ≤ ((16 * v1) + v2) ∧ ((16 * v1) + v2) < 128 → (∀ M1 : rf_M, M1 = wl M 387 ((16 * v1) + v2).toNat (gl M 389 (v2).toNat) → ((0 ≤ v2 ∧ v2 < 16 → (inr ((16 * v1) + v2) ∧ ((0 ≤ ((16 * v1) + v2) ∧ ((16 * v1) + v2) < 128 → (∀ M2 : rf_M, M2 = wi M1 388 ((16 * v1) + v2).toNat (gi M1 390 (v2).toNat) → (inr (v2 + 1) ∧ (b12 v1 (v2 + 1) M2)))))))))))))))
theorem E_W_keepRead_12b {fz : Bool} {S : gS} {B : rf_M} {M : rf_M} {ls : rf_L} {n0 : Nat} {v1 : Int} {v2 : Int} {b12 : Int → Int → rf_M → Prop} {K : rf_M → Prop} (hS : rl S) (hR : fl 353 406 B M) (iv1 : inr v1) (iv2 : inr v2) (a0 : rf_ld ls 0 = some (.ref 353)) (a1 : rf_ld ls 1 = some (zv v1)) (a2 : rf_ld ls 2 = some (zv v2)) (hb12 : ∀ n', n' < n0 → ∀ (v1 : Int) (v2 : Int) (M : rf_M) (ls : rf_L), fl 353 406 B M → inr v1 → inr v2 → rf_ld ls 0 = some (.ref 353) → rf_ld ls 1 = some (zv v1) → rf_ld ls 2 = some (zv v2) → b12 v1 v2 M → lx (cx0 fz) n' 173 12 ls [] (M, S) (vl_v 353 406 B S K)) (h : e_W_keepRead_12b v1 v2 M b12 K) : lx (cx0 fz) n0 173 12 ls [] (M, S) (vl_v 353 406 B S K) := by
  unfold e_W_keepRead_12b at h
  rcases Nat.eq_zero_or_pos n0 with e0 | hp
  · rw [e0]; exact lx_zero
  refine l1 (n := 1) rfl rfl rfl (li_of a2) ?_
  refine l_bi rfl (by decide) ?_
  refine l_ic rfl iv2 ⟨by decide, by decide⟩ (fun c => ?_) (fun c => ?_)
  · replace h := h.1 c
    exact l_rv rfl rfl hR h
  · replace h := h.2 c
    refine l1 (n := 1) rfl rfl rfl (la_of a0) ?_
    refine l_gr rfl (ko_11 hS (List.Mem.head _)) rfl (fun _ => rfl) (kf_11_50 hR.2 (List.Mem.head _)) ?_
    refine l_bi rfl (by decide) ?_
    refine l1 (n := 1) rfl rfl rfl (li_of a1) ?_
    refine l_mul rfl ?_
    refine l1 (n := 1) rfl rfl rfl (li_of a2) ?_
    refine l_add rfl ?_
    refine l1 (n := 1) rfl rfl rfl (la_of a0) ?_
    refine l_gr rfl (ko_11 hS (List.Mem.head _)) rfl (fun _ => rfl) (kf_11_53 hR.2 (List.Mem.head _)) ?_
    refine l1 (n := 1) rfl rfl rfl (li_of a2) ?_
    refine b_la rfl (kc_389 (fz := fz) hS).1 (Nat.le_of_ble_eq_true rfl) iv2 (fun q => ?_)
    replace h := h q
    obtain ⟨i1, h⟩ := h
    refine b_ls rfl (kc_387 (fz := fz) hS).1 (Nat.le_of_ble_eq_true rfl) i1 (fun q M1 e => ?_)
    replace h := h q M1 e
    have r1 := hR.wl (Nat.le_of_ble_eq_true rfl) (Nat.le_of_ble_eq_true rfl) e
    refine l1 (n := 1) rfl rfl rfl (la_of a0) ?_
    refine l_gr rfl (ko_11 hS (List.Mem.head _)) rfl (fun _ => rfl) (kf_11_51 r1.2 (List.Mem.head _)) ?_
    refine l_bi rfl (by decide) ?_
    refine l1 (n := 1) rfl rfl rfl (li_of a1) ?_
    refine l_mul rfl ?_
    refine l1 (n := 1) rfl rfl rfl (li_of a2) ?_
    refine l_add rfl ?_
    refine l1 (n := 1) rfl rfl rfl (la_of a0) ?_
    refine l_gr rfl (ko_11 hS (List.Mem.head _)) rfl (fun _ => rfl) (kf_11_54 r1.2 (List.Mem.head _)) ?_
    refine l1 (n := 1) rfl rfl rfl (li_of a2) ?_
    refine b_ia rfl (kc_390 (fz := fz) hS).1 (Nat.le_of_ble_eq_true rfl) iv2 (fun q => ?_)
    replace h := h q
    obtain ⟨i2, h⟩ := h
    refine b_is rfl (kc_388 (fz := fz) hS).1 (Nat.le_of_ble_eq_true rfl) i2 (fun q M2 e => ?_)
    replace h := h q M2 e
    have r2 := r1.wi (Nat.le_of_ble_eq_true rfl) (Nat.le_of_ble_eq_true rfl) e
    refine l_ii rfl a2 (Nat.le_of_ble_eq_true rfl) (fun ls y1 ho => ?_)
    have y2 := ho 0 _ (by decide) (fun q => by cases q.2) a0
    have y3 := ho 1 _ (by decide) (fun q => by cases q.2) a1
    refine l3 rfl rfl rfl ?_
    obtain ⟨i3, h⟩ := h
    exact hb12 _ (by omega) _ _ _ _ r2 iv1 i3 y2 y3 y1 h
def e_W_keepRead_12 (v1 : Int) (v2 : Int) (M : rf_M) (K : rf_M → Prop) : Prop := ∃ Inv : Int → Int → rf_M → Prop, Inv v1 v2 M ∧ ∀ (v1 : Int) (v2 : Int) (M : rf_M), inr v1 → inr v2 → Inv v1 v2 M → e_W_keepRead_12b v1 v2 M Inv K
theorem E_W_keepRead_12 {fz : Bool} {S : gS} {B : rf_M} {M : rf_M} {ls : rf_L} {n0 : Nat} {v1 : Int} {v2 : Int} {K : rf_M → Prop} (hS : rl S) (hR : fl 353 406 B M) (iv1 : inr v1) (iv2 : inr v2) (a0 : rf_ld ls 0 = some (.ref 353)) (a1 : rf_ld ls 1 = some (zv v1)) (a2 : rf_ld ls 2 = some (zv v2)) (h : e_W_keepRead_12 v1 v2 M K) : lx (cx0 fz) n0 173 12 ls [] (M, S) (vl_v 353 406 B S K) := by
  obtain ⟨Inv, hm, hb⟩ := h
  induction n0 using Nat.strongRecOn generalizing ls M v1 v2 with
  | _ n0 ih =>
    refine E_W_keepRead_12b hS hR iv1 iv2 a0 a1 a2 (fun n' hn' v1' v2' M' ls' hR' f0 f1 f2 f3 f4 q2 => ih n' hn' hR' f0 f1 f2 f3 f4 q2) (hb v1 v2 M iv1 iv2 hm)
def e_W_keepRead (v1 : Int) (M : rf_M) (K : rf_M → Prop) : Prop := (0 ≤ v1 ∧ v1 < 8 → (∀ M1 : rf_M, M1 = wi M 386 (v1).toNat (gi M 353 52) → (e_W_keepRead_12 v1 0 M1 K)))
theorem E_W_keepRead {fz : Bool} {S : gS} {B : rf_M} {M : rf_M} {ls : rf_L} {n0 : Nat} {v1 : Int} {K : rf_M → Prop} (hS : rl S) (hR : fl 353 406 B M) (iv1 : inr v1) (a0 : rf_ld ls 0 = some (.ref 353)) (a1 : rf_ld ls 1 = some (zv v1)) (h : e_W_keepRead v1 M K) : lx (cx0 fz) n0 173 0 ls [] (M, S) (vl_v 353 406 B S K) := by
  unfold e_W_keepRead at h
  refine l1 (n := 1) rfl rfl rfl (la_of a0) ?_
  refine l_gr rfl (ko_11 hS (List.Mem.head _)) rfl (fun _ => rfl) (kf_11_49 hR.2 (List.Mem.head _)) ?_
  refine l1 (n := 1) rfl rfl rfl (li_of a1) ?_
  refine l1 (n := 1) rfl rfl rfl (la_of a0) ?_
  refine l_gi rfl (ko_11 hS (List.Mem.head _)) rfl (fun _ => rfl) ?_
  refine b_is rfl (kc_386 (fz := fz) hS).1 (Nat.le_of_ble_eq_true rfl) iv1 (fun q M1 e => ?_)
  replace h := h q M1 e
  have r1 := hR.wi (Nat.le_of_ble_eq_true rfl) (Nat.le_of_ble_eq_true rfl) e
  refine l1 (n := 1) rfl rfl rfl rfl ?_
  refine l_s1 (n := 1) rfl rfl rfl rfl (fun ls y1 ho => ?_)
  have y2 := ho 0 _ (by decide) (fun q => by cases q.2) a0
  have y3 := ho 1 _ (by decide) (fun q => by cases q.2) a1
  exact E_W_keepRead_12 hS r1 iv1 ⟨by decide, by decide⟩ y2 y3 y1 h
def em_W_keepRead (x1 : Int) (M : rf_M) (K : rf_M → Prop) : Prop := e_W_keepRead x1 M K
theorem E_W_keepRead_m {fz : Bool} {S : gS} {B : rf_M} {M : rf_M} {n0 : Nat} {x1 : Int} {K : rf_M → Prop} (hS : rl S) (hR : fl 353 406 B M) (ix1 : inr x1) (h : em_W_keepRead x1 M K) : lx (cx0 fz) n0 173 0 (lv_args 0 [.ref 353, zv x1]) [] (M, S) (vl_v 353 406 B S K) :=
  E_W_keepRead hS hR ix1 rfl rfl h
def e_W_cutRun_60 (s1 : Int) (s2 : Int) (M : rf_M) (K : Int → rf_M → Prop) : Prop := (0 ≤ s1 ∧ s1 < 8 → (∀ M1 : rf_M, M1 = wi M 385 (s1).toNat (Int32.ofInt s2 &&& 1).toInt → (K 3 M1)))
theorem E_W_cutRun_60 {fz : Bool} {S : gS} {B : rf_M} {M : rf_M} {ls : rf_L} {n0 : Nat} {s1 : Int} {s2 : Int} {K : Int → rf_M → Prop} (hS : rl S) (hR : fl 353 406 B M) (is1 : inr s1) (is2 : inr s2) (h : e_W_cutRun_60 s1 s2 M K) : lx (cx0 fz) n0 174 60 ls [zv s2, zv s1, .ref 385] (M, S) (vl_i 353 406 B S K) := by
  unfold e_W_cutRun_60 at h
  refine b_zs rfl (kc_385 (fz := fz) hS).1 (Nat.le_of_ble_eq_true rfl) is1 (fun q M1 e => ?_)
  replace h := h q M1 e
  have r1 := hR.wi (Nat.le_of_ble_eq_true rfl) (Nat.le_of_ble_eq_true rfl) e
  refine l1 (n := 1) rfl rfl rfl rfl ?_
  exact l_ri rfl rfl ⟨by decide, by decide⟩ r1 h
def e_W_cutRun_55 (s1 : Int) (M : rf_M) (K : Int → rf_M → Prop) : Prop := e_W_cutRun_60 s1 1 M K
theorem E_W_cutRun_55 {fz : Bool} {S : gS} {B : rf_M} {M : rf_M} {ls : rf_L} {n0 : Nat} {s1 : Int} {K : Int → rf_M → Prop} (hS : rl S) (hR : fl 353 406 B M) (is1 : inr s1) (h : e_W_cutRun_55 s1 M K) : lx (cx0 fz) n0 174 55 ls [zv s1, .ref 385] (M, S) (vl_i 353 406 B S K) := by
  unfold e_W_cutRun_55 at h
  refine l1 (n := 1) rfl rfl rfl rfl ?_
  refine l3 rfl rfl rfl ?_
  exact E_W_cutRun_60 hS hR is1 ⟨by decide, by decide⟩ h
def e_W_cutRun (v1 : Int) (M : rf_M) (K : Int → rf_M → Prop) : Prop := (0 ≤ v1 ∧ v1 < 8 → (∀ M1 : rf_M, M1 = wi M 382 (v1).toNat 0 → ((0 ≤ v1 ∧ v1 < 8 → (∀ M2 : rf_M, M2 = wi M1 383 (v1).toNat 0 → ((0 ≤ v1 ∧ v1 < 8 → (∀ M3 : rf_M, M3 = wi M2 386 (v1).toNat 0 → ((0 ≤ v1 ∧ v1 < 8 → ((0 ≤ v1 ∧ v1 < 8 → (∀ M4 : rf_M, M4 = wi M3 384 (v1).toNat ((gi M3 384 (v1).toNat) + 1) → ((0 ≤ v1 ∧ v1 < 8 → (((gi M4 385 (v1).toNat) = 0 → ((0 ≤ v1 ∧ v1 < 8 → (((gi M4 384 (v1).toNat) < 4 → (e_W_cutRun_60 v1 0 M4 K)) ∧ (¬ ((gi M4 384 (v1).toNat) < 4) → (e_W_cutRun_55 v1 M4 K)))))) ∧ (¬ (gi M4 385 (v1).toNat) = 0 → (e_W_cutRun_55 v1 M4 K))))))))))))))))))
theorem E_W_cutRun {fz : Bool} {S : gS} {B : rf_M} {M : rf_M} {ls : rf_L} {n0 : Nat} {v1 : Int} {K : Int → rf_M → Prop} (hS : rl S) (hR : fl 353 406 B M) (iv1 : inr v1) (a0 : rf_ld ls 0 = some (.ref 353)) (a1 : rf_ld ls 1 = some (zv v1)) (h : e_W_cutRun v1 M K) : lx (cx0 fz) n0 174 0 ls [] (M, S) (vl_i 353 406 B S K) := by
  unfold e_W_cutRun at h
  refine l1 (n := 1) rfl rfl rfl (la_of a0) ?_
  refine l_gr rfl (ko_11 hS (List.Mem.head _)) rfl (fun _ => rfl) (kf_11_45 hR.2 (List.Mem.head _)) ?_
  refine l1 (n := 1) rfl rfl rfl (li_of a1) ?_
  refine l1 (n := 1) rfl rfl rfl rfl ?_
  refine b_is rfl (kc_382 (fz := fz) hS).1 (Nat.le_of_ble_eq_true rfl) iv1 (fun q M1 e => ?_)
  replace h := h q M1 e
  have r1 := hR.wi (Nat.le_of_ble_eq_true rfl) (Nat.le_of_ble_eq_true rfl) e
  refine l1 (n := 1) rfl rfl rfl (la_of a0) ?_
  refine l_gr rfl (ko_11 hS (List.Mem.head _)) rfl (fun _ => rfl) (kf_11_46 r1.2 (List.Mem.head _)) ?_
  refine l1 (n := 1) rfl rfl rfl (li_of a1) ?_
  refine l1 (n := 1) rfl rfl rfl rfl ?_
  refine b_is rfl (kc_383 (fz := fz) hS).1 (Nat.le_of_ble_eq_true rfl) iv1 (fun q M2 e => ?_)
  replace h := h q M2 e
  have r2 := r1.wi (Nat.le_of_ble_eq_true rfl) (Nat.le_of_ble_eq_true rfl) e
  refine l1 (n := 1) rfl rfl rfl (la_of a0) ?_
  refine l_gr rfl (ko_11 hS (List.Mem.head _)) rfl (fun _ => rfl) (kf_11_49 r2.2 (List.Mem.head _)) ?_
  refine l1 (n := 1) rfl rfl rfl (li_of a1) ?_
  refine l1 (n := 1) rfl rfl rfl rfl ?_
  refine b_is rfl (kc_386 (fz := fz) hS).1 (Nat.le_of_ble_eq_true rfl) iv1 (fun q M3 e => ?_)
  replace h := h q M3 e
  have r3 := r2.wi (Nat.le_of_ble_eq_true rfl) (Nat.le_of_ble_eq_true rfl) e
  refine l1 (n := 1) rfl rfl rfl (la_of a0) ?_
  refine l_gr rfl (ko_11 hS (List.Mem.head _)) rfl (fun _ => rfl) (kf_11_47 r3.2 (List.Mem.head _)) ?_
  refine l1 (n := 1) rfl rfl rfl (li_of a1) ?_
  refine l0 rfl rfl rfl ?_
  refine b_ia rfl (kc_384 (fz := fz) hS).1 (Nat.le_of_ble_eq_true rfl) iv1 (fun q => ?_)
  replace h := h q
  refine l1 (n := 1) rfl rfl rfl rfl ?_
  refine l_add rfl ?_
  refine b_is rfl (kc_384 (fz := fz) hS).1 (Nat.le_of_ble_eq_true rfl) iv1 (fun q M4 e => ?_)
  replace h := h q M4 e
  have r4 := r3.wi (Nat.le_of_ble_eq_true rfl) (Nat.le_of_ble_eq_true rfl) e
  refine l1 (n := 1) rfl rfl rfl (la_of a0) ?_
  refine l_gr rfl (ko_11 hS (List.Mem.head _)) rfl (fun _ => rfl) (kf_11_48 r4.2 (List.Mem.head _)) ?_
  refine l1 (n := 1) rfl rfl rfl (li_of a1) ?_
  refine l1 (n := 1) rfl rfl rfl (la_of a0) ?_
  refine l_gr rfl (ko_11 hS (List.Mem.head _)) rfl (fun _ => rfl) (kf_11_48 r4.2 (List.Mem.head _)) ?_
  refine l1 (n := 1) rfl rfl rfl (li_of a1) ?_
  refine b_za rfl (kc_385 (fz := fz) hS).1 (Nat.le_of_ble_eq_true rfl) iv1 (fun q => ?_)
  replace h := h q
  refine l_if rfl (inr_gi _ _ _) (fun c => ?_) (fun c => ?_)
  · replace h := h.2 c
    exact E_W_cutRun_55 hS r4 iv1 h
  · replace h := h.1 (Classical.not_not.mp c)
    refine l1 (n := 1) rfl rfl rfl (la_of a0) ?_
    refine l_gr rfl (ko_11 hS (List.Mem.head _)) rfl (fun _ => rfl) (kf_11_47 r4.2 (List.Mem.head _)) ?_
    refine l1 (n := 1) rfl rfl rfl (li_of a1) ?_
    refine b_ia rfl (kc_384 (fz := fz) hS).1 (Nat.le_of_ble_eq_true rfl) iv1 (fun q => ?_)
    replace h := h q
    refine l1 (n := 1) rfl rfl rfl rfl ?_
    refine l_ic rfl (inr_gi _ _ _) ⟨by decide, by decide⟩ (fun c => ?_) (fun c => ?_)
    · replace h := h.1 c
      refine l1 (n := 1) rfl rfl rfl rfl ?_
      exact E_W_cutRun_60 hS r4 iv1 ⟨by decide, by decide⟩ h
    · replace h := h.2 c
      exact E_W_cutRun_55 hS r4 iv1 h
def em_W_cutRun (x1 : Int) (M : rf_M) (K : Int → rf_M → Prop) : Prop := e_W_cutRun x1 M K
theorem E_W_cutRun_m {fz : Bool} {S : gS} {B : rf_M} {M : rf_M} {n0 : Nat} {x1 : Int} {K : Int → rf_M → Prop} (hS : rl S) (hR : fl 353 406 B M) (ix1 : inr x1) (h : em_W_cutRun x1 M K) : lx (cx0 fz) n0 174 0 (lv_args 0 [.ref 353, zv x1]) [] (M, S) (vl_i 353 406 B S K) :=
  E_W_cutRun hS hR ix1 rfl rfl h
def e_W_isHeld_33 (v1 : Int) (v3 : Int) (s0 : Int) (M : rf_M) (b4 : Int → Int → Int → rf_M → Prop) (K : Int → rf_M → Prop) : Prop := inr (v3 + 1) ∧ (b4 v1 s0 (v3 + 1) M)
theorem E_W_isHeld_33 {fz : Bool} {S : gS} {B : rf_M} {M : rf_M} {ls : rf_L} {n0 : Nat} {v1 : Int} {v3 : Int} {s0 : Int} {b4 : Int → Int → Int → rf_M → Prop} {K : Int → rf_M → Prop} (hS : rl S) (hR : fl 353 406 B M) (iv1 : inr v1) (iv3 : inr v3) (is0 : inr s0) (a0 : rf_ld ls 0 = some (.ref 353)) (a1 : rf_ld ls 1 = some (zv v1)) (a3 : rf_ld ls 3 = some (zv v3)) (hb4 : ∀ n', n' < n0 → ∀ (v1 : Int) (v2 : Int) (v3 : Int) (M : rf_M) (ls : rf_L), fl 353 406 B M → inr v1 → inr v2 → inr v3 → rf_ld ls 0 = some (.ref 353) → rf_ld ls 1 = some (zv v1) → rf_ld ls 2 = some (zv v2) → rf_ld ls 3 = some (zv v3) → b4 v1 v2 v3 M → lx (cx0 fz) n' 175 4 ls [] (M, S) (vl_i 353 406 B S K)) (h : e_W_isHeld_33 v1 v3 s0 M b4 K) : lx (cx0 fz) n0 175 33 ls [zv s0] (M, S) (vl_i 353 406 B S K) := by
  unfold e_W_isHeld_33 at h
  rcases Nat.eq_zero_or_pos n0 with e0 | hp
  · rw [e0]; exact lx_zero
  refine l_s1 (n := 1) rfl rfl rfl rfl (fun ls y1 ho => ?_)
  have y2 := ho 0 _ (by decide) (fun q => by cases q.2) a0
  have y3 := ho 1 _ (by decide) (fun q => by cases q.2) a1
  have y4 := ho 3 _ (by decide) (fun q => by cases q.2) a3
  refine l_ii rfl y4 (Nat.le_of_ble_eq_true rfl) (fun ls y5 ho => ?_)
  have y6 := ho 0 _ (by decide) (fun q => by cases q.2) y2
  have y7 := ho 1 _ (by decide) (fun q => by cases q.2) y3
  have y8 := ho 2 _ (by decide) (fun q => by cases q.2) y1
  refine l3 rfl rfl rfl ?_
  obtain ⟨i1, h⟩ := h
  exact hb4 _ (by omega) _ _ _ _ _ hR iv1 is0 i1 y6 y7 y8 y5 h
def e_W_isHeld_28 (v1 : Int) (v3 : Int) (M : rf_M) (b4 : Int → Int → Int → rf_M → Prop) (K : Int → rf_M → Prop) : Prop := e_W_isHeld_33 v1 v3 1 M b4 K
theorem E_W_isHeld_28 {fz : Bool} {S : gS} {B : rf_M} {M : rf_M} {ls : rf_L} {n0 : Nat} {v1 : Int} {v3 : Int} {b4 : Int → Int → Int → rf_M → Prop} {K : Int → rf_M → Prop} (hS : rl S) (hR : fl 353 406 B M) (iv1 : inr v1) (iv3 : inr v3) (a0 : rf_ld ls 0 = some (.ref 353)) (a1 : rf_ld ls 1 = some (zv v1)) (a3 : rf_ld ls 3 = some (zv v3)) (hb4 : ∀ n', n' < n0 → ∀ (v1 : Int) (v2 : Int) (v3 : Int) (M : rf_M) (ls : rf_L), fl 353 406 B M → inr v1 → inr v2 → inr v3 → rf_ld ls 0 = some (.ref 353) → rf_ld ls 1 = some (zv v1) → rf_ld ls 2 = some (zv v2) → rf_ld ls 3 = some (zv v3) → b4 v1 v2 v3 M → lx (cx0 fz) n' 175 4 ls [] (M, S) (vl_i 353 406 B S K)) (h : e_W_isHeld_28 v1 v3 M b4 K) : lx (cx0 fz) n0 175 28 ls [] (M, S) (vl_i 353 406 B S K) := by
  unfold e_W_isHeld_28 at h
  rcases Nat.eq_zero_or_pos n0 with e0 | hp
  · rw [e0]; exact lx_zero
  refine l1 (n := 1) rfl rfl rfl rfl ?_
  refine l3 rfl rfl rfl ?_
  exact E_W_isHeld_33 hS hR iv1 iv3 ⟨by decide, by decide⟩ a0 a1 a3 (fun n' hn' => hb4 n' (by omega)) h
def e_W_isHeld_32 (v1 : Int) (v3 : Int) (M : rf_M) (b4 : Int → Int → Int → rf_M → Prop) (K : Int → rf_M → Prop) : Prop := e_W_isHeld_33 v1 v3 0 M b4 K
theorem E_W_isHeld_32 {fz : Bool} {S : gS} {B : rf_M} {M : rf_M} {ls : rf_L} {n0 : Nat} {v1 : Int} {v3 : Int} {b4 : Int → Int → Int → rf_M → Prop} {K : Int → rf_M → Prop} (hS : rl S) (hR : fl 353 406 B M) (iv1 : inr v1) (iv3 : inr v3) (a0 : rf_ld ls 0 = some (.ref 353)) (a1 : rf_ld ls 1 = some (zv v1)) (a3 : rf_ld ls 3 = some (zv v3)) (hb4 : ∀ n', n' < n0 → ∀ (v1 : Int) (v2 : Int) (v3 : Int) (M : rf_M) (ls : rf_L), fl 353 406 B M → inr v1 → inr v2 → inr v3 → rf_ld ls 0 = some (.ref 353) → rf_ld ls 1 = some (zv v1) → rf_ld ls 2 = some (zv v2) → rf_ld ls 3 = some (zv v3) → b4 v1 v2 v3 M → lx (cx0 fz) n' 175 4 ls [] (M, S) (vl_i 353 406 B S K)) (h : e_W_isHeld_32 v1 v3 M b4 K) : lx (cx0 fz) n0 175 32 ls [] (M, S) (vl_i 353 406 B S K) := by
  unfold e_W_isHeld_32 at h
  rcases Nat.eq_zero_or_pos n0 with e0 | hp
  · rw [e0]; exact lx_zero
  refine l1 (n := 1) rfl rfl rfl rfl ?_
  exact E_W_isHeld_33 hS hR iv1 iv3 ⟨by decide, by decide⟩ a0 a1 a3 (fun n' hn' => hb4 n' (by omega)) h
def e_W_isHeld_58 (s0 : Int) (M : rf_M) (K : Int → rf_M → Prop) : Prop := (s0 = 0 ∨ s0 = 1) ∧ K s0 M
theorem E_W_isHeld_58 {fz : Bool} {S : gS} {B : rf_M} {M : rf_M} {ls : rf_L} {n0 : Nat} {s0 : Int} {K : Int → rf_M → Prop} (hS : rl S) (hR : fl 353 406 B M) (is0 : inr s0) (h : e_W_isHeld_58 s0 M K) : lx (cx0 fz) n0 175 58 ls [zv s0] (M, S) (vl_i 353 406 B S K) := by
  unfold e_W_isHeld_58 at h
  exact l_rb rfl rfl h.1 hR h.2
def e_W_isHeld_57 (M : rf_M) (K : Int → rf_M → Prop) : Prop := e_W_isHeld_58 0 M K
theorem E_W_isHeld_57 {fz : Bool} {S : gS} {B : rf_M} {M : rf_M} {ls : rf_L} {n0 : Nat} {K : Int → rf_M → Prop} (hS : rl S) (hR : fl 353 406 B M) (h : e_W_isHeld_57 M K) : lx (cx0 fz) n0 175 57 ls [] (M, S) (vl_i 353 406 B S K) := by
  unfold e_W_isHeld_57 at h
  refine l1 (n := 1) rfl rfl rfl rfl ?_
  exact E_W_isHeld_58 hS hR ⟨by decide, by decide⟩ h
def e_W_isHeld_4b (v1 : Int) (v2 : Int) (v3 : Int) (M : rf_M) (b4 : Int → Int → Int → rf_M → Prop) (K : Int → rf_M → Prop) : Prop := (8 ≤ v3 → ((v2 = 0 → (e_W_isHeld_57 M K)) ∧ (¬ (v2 = 0) → ((0 ≤ v1 ∧ v1 < 8 → (((gi M 385 (v1).toNat) = 0 → (e_W_isHeld_58 1 M K)) ∧ (¬ (gi M 385 (v1).toNat) = 0 → (e_W_isHeld_57 M K)))))))) ∧ (¬ (8 ≤ v3) → ((v2 = 0 → ((v3 = v1 → (e_W_isHeld_32 v1 v3 M b4 K)) ∧ (¬ (v3 = v1) → ((0 ≤ v3 ∧ v3 < 8 → (((gi M 385 (v3).toNat) = 0 → (e_W_isHeld_32 v1 v3 M b4 K)) ∧ (¬ ((gi M 385 (v3).toNat) = 0) → (e_W_isHeld_28 v1 v3 M b4 K)))))))) ∧ (¬ v2 = 0 → (e_W_isHeld_28 v1 v3 M b4 K))))
theorem E_W_isHeld_4b {fz : Bool} {S : gS} {B : rf_M} {M : rf_M} {ls : rf_L} {n0 : Nat} {v1 : Int} {v2 : Int} {v3 : Int} {b4 : Int → Int → Int → rf_M → Prop} {K : Int → rf_M → Prop} (hS : rl S) (hR : fl 353 406 B M) (iv1 : inr v1) (iv2 : inr v2) (iv3 : inr v3) (a0 : rf_ld ls 0 = some (.ref 353)) (a1 : rf_ld ls 1 = some (zv v1)) (a2 : rf_ld ls 2 = some (zv v2)) (a3 : rf_ld ls 3 = some (zv v3)) (hb4 : ∀ n', n' < n0 → ∀ (v1 : Int) (v2 : Int) (v3 : Int) (M : rf_M) (ls : rf_L), fl 353 406 B M → inr v1 → inr v2 → inr v3 → rf_ld ls 0 = some (.ref 353) → rf_ld ls 1 = some (zv v1) → rf_ld ls 2 = some (zv v2) → rf_ld ls 3 = some (zv v3) → b4 v1 v2 v3 M → lx (cx0 fz) n' 175 4 ls [] (M, S) (vl_i 353 406 B S K)) (h : e_W_isHeld_4b v1 v2 v3 M b4 K) : lx (cx0 fz) n0 175 4 ls [] (M, S) (vl_i 353 406 B S K) := by
  unfold e_W_isHeld_4b at h
  rcases Nat.eq_zero_or_pos n0 with e0 | hp
  · rw [e0]; exact lx_zero
  refine l1 (n := 1) rfl rfl rfl (li_of a3) ?_
  refine l_bi rfl (by decide) ?_
  refine l_ic rfl iv3 ⟨by decide, by decide⟩ (fun c => ?_) (fun c => ?_)
  · replace h := h.1 c
    refine l1 (n := 1) rfl rfl rfl (li_of a2) ?_
    refine l_if rfl iv2 (fun c => ?_) (fun c => ?_)
    · replace h := h.1 c
      exact E_W_isHeld_57 hS hR  h
    · replace h := h.2 c
      refine l1 (n := 1) rfl rfl rfl (la_of a0) ?_
      refine l_gr rfl (ko_11 hS (List.Mem.head _)) rfl (fun _ => rfl) (kf_11_48 hR.2 (List.Mem.head _)) ?_
      refine l1 (n := 1) rfl rfl rfl (li_of a1) ?_
      refine b_za rfl (kc_385 (fz := fz) hS).1 (Nat.le_of_ble_eq_true rfl) iv1 (fun q => ?_)
      replace h := h q
      refine l_if rfl (inr_gi _ _ _) (fun c => ?_) (fun c => ?_)
      · replace h := h.2 c
        exact E_W_isHeld_57 hS hR  h
      · replace h := h.1 (Classical.not_not.mp c)
        refine l1 (n := 1) rfl rfl rfl rfl ?_
        refine l3 rfl rfl rfl ?_
        exact E_W_isHeld_58 hS hR ⟨by decide, by decide⟩ h
  · replace h := h.2 c
    refine l1 (n := 1) rfl rfl rfl (li_of a2) ?_
    refine l_if rfl iv2 (fun c => ?_) (fun c => ?_)
    · replace h := h.2 c
      exact E_W_isHeld_28 hS hR iv1 iv3 a0 a1 a3 (fun n' hn' => hb4 n' (by omega)) h
    · replace h := h.1 (Classical.not_not.mp c)
      refine l1 (n := 1) rfl rfl rfl (li_of a3) ?_
      refine l1 (n := 1) rfl rfl rfl (li_of a1) ?_
      refine l_ic rfl iv3 iv1 (fun c => ?_) (fun c => ?_)
      · replace h := h.1 c
        exact E_W_isHeld_32 hS hR iv1 iv3 a0 a1 a3 (fun n' hn' => hb4 n' (by omega)) h
      · replace h := h.2 c
        refine l1 (n := 1) rfl rfl rfl (la_of a0) ?_
        refine l_gr rfl (ko_11 hS (List.Mem.head _)) rfl (fun _ => rfl) (kf_11_48 hR.2 (List.Mem.head _)) ?_
        refine l1 (n := 1) rfl rfl rfl (li_of a3) ?_
        refine b_za rfl (kc_385 (fz := fz) hS).1 (Nat.le_of_ble_eq_true rfl) iv3 (fun q => ?_)
        replace h := h q
        refine l_if rfl (inr_gi _ _ _) (fun c => ?_) (fun c => ?_)
        · replace h := h.1 c
          exact E_W_isHeld_32 hS hR iv1 iv3 a0 a1 a3 (fun n' hn' => hb4 n' (by omega)) h
        · replace h := h.2 c
          exact E_W_isHeld_28 hS hR iv1 iv3 a0 a1 a3 (fun n' hn' => hb4 n' (by omega)) h
def e_W_isHeld_4 (v1 : Int) (v2 : Int) (v3 : Int) (M : rf_M) (K : Int → rf_M → Prop) : Prop := ∃ Inv : Int → Int → Int → rf_M → Prop, Inv v1 v2 v3 M ∧ ∀ (v1 : Int) (v2 : Int) (v3 : Int) (M : rf_M), inr v1 → inr v2 → inr v3 → Inv v1 v2 v3 M → e_W_isHeld_4b v1 v2 v3 M Inv K
theorem E_W_isHeld_4 {fz : Bool} {S : gS} {B : rf_M} {M : rf_M} {ls : rf_L} {n0 : Nat} {v1 : Int} {v2 : Int} {v3 : Int} {K : Int → rf_M → Prop} (hS : rl S) (hR : fl 353 406 B M) (iv1 : inr v1) (iv2 : inr v2) (iv3 : inr v3) (a0 : rf_ld ls 0 = some (.ref 353)) (a1 : rf_ld ls 1 = some (zv v1)) (a2 : rf_ld ls 2 = some (zv v2)) (a3 : rf_ld ls 3 = some (zv v3)) (h : e_W_isHeld_4 v1 v2 v3 M K) : lx (cx0 fz) n0 175 4 ls [] (M, S) (vl_i 353 406 B S K) := by
  obtain ⟨Inv, hm, hb⟩ := h
  induction n0 using Nat.strongRecOn generalizing ls M v1 v2 v3 with
  | _ n0 ih =>
    refine E_W_isHeld_4b hS hR iv1 iv2 iv3 a0 a1 a2 a3 (fun n' hn' v1' v2' v3' M' ls' hR' f0 f1 f2 f3 f4 f5 f6 q2 => ih n' hn' hR' f0 f1 f2 f3 f4 f5 f6 q2) (hb v1 v2 v3 M iv1 iv2 iv3 hm)
def e_W_isHeld (v1 : Int) (M : rf_M) (K : Int → rf_M → Prop) : Prop := e_W_isHeld_4 v1 0 0 M K
theorem E_W_isHeld {fz : Bool} {S : gS} {B : rf_M} {M : rf_M} {ls : rf_L} {n0 : Nat} {v1 : Int} {K : Int → rf_M → Prop} (hS : rl S) (hR : fl 353 406 B M) (iv1 : inr v1) (a0 : rf_ld ls 0 = some (.ref 353)) (a1 : rf_ld ls 1 = some (zv v1)) (h : e_W_isHeld v1 M K) : lx (cx0 fz) n0 175 0 ls [] (M, S) (vl_i 353 406 B S K) := by
  unfold e_W_isHeld at h
  refine l1 (n := 1) rfl rfl rfl rfl ?_
  refine l_s1 (n := 1) rfl rfl rfl rfl (fun ls y1 ho => ?_)
  have y2 := ho 0 _ (by decide) (fun q => by cases q.2) a0
  have y3 := ho 1 _ (by decide) (fun q => by cases q.2) a1
  refine l1 (n := 1) rfl rfl rfl rfl ?_
  refine l_s1 (n := 1) rfl rfl rfl rfl (fun ls y4 ho => ?_)
  have y5 := ho 0 _ (by decide) (fun q => by cases q.2) y2
  have y6 := ho 1 _ (by decide) (fun q => by cases q.2) y3
  have y7 := ho 2 _ (by decide) (fun q => by cases q.2) y1
  exact E_W_isHeld_4 hS hR iv1 ⟨by decide, by decide⟩ ⟨by decide, by decide⟩ y5 y6 y7 y4 h
def em_W_isHeld (x1 : Int) (M : rf_M) (K : Int → rf_M → Prop) : Prop := e_W_isHeld x1 M K
theorem E_W_isHeld_m {fz : Bool} {S : gS} {B : rf_M} {M : rf_M} {n0 : Nat} {x1 : Int} {K : Int → rf_M → Prop} (hS : rl S) (hR : fl 353 406 B M) (ix1 : inr x1) (h : em_W_isHeld x1 M K) : lx (cx0 fz) n0 175 0 (lv_args 0 [.ref 353, zv x1]) [] (M, S) (vl_i 353 406 B S K) :=
  E_W_isHeld hS hR ix1 rfl rfl h
def e_W_addRow (v1 : Int) (v2 : Int) (v3 : Int) (v4 : Int) (v5 : Int) (v6 : Int64) (M : rf_M) (K : rf_M → Prop) : Prop := (0 ≤ (gi M 353 69) ∧ (gi M 353 69) < 300 → (∀ M1 : rf_M, M1 = wi M 400 (gi M 353 69).toNat v1 → ((0 ≤ (gi M1 353 69) ∧ (gi M1 353 69) < 300 → (∀ M2 : rf_M, M2 = wi M1 401 (gi M1 353 69).toNat v2 → ((0 ≤ (gi M2 353 69) ∧ (gi M2 353 69) < 300 → (∀ M3 : rf_M, M3 = wi M2 402 (gi M2 353 69).toNat v3 → ((0 ≤ (gi M3 353 69) ∧ (gi M3 353 69) < 300 → (∀ M4 : rf_M, M4 = wi M3 403 (gi M3 353 69).toNat v4 → ((0 ≤ (gi M4 353 69) ∧ (gi M4 353 69) < 300 → (∀ M5 : rf_M, M5 = wi M4 404 (gi M4 353 69).toNat v5 → ((0 ≤ (gi M5 353 69) ∧ (gi M5 353 69) < 300 → (∀ M6 : rf_M, M6 = wl M5 405 (gi M5 353 69).toNat v6 → (∀ M7 : rf_M, M7 = wi M6 353 69 ((gi M6 353 69) + 1) → (K M7)))))))))))))))))))
theorem E_W_addRow {fz : Bool} {S : gS} {B : rf_M} {M : rf_M} {ls : rf_L} {n0 : Nat} {v1 : Int} {v2 : Int} {v3 : Int} {v4 : Int} {v5 : Int} {v6 : Int64} {K : rf_M → Prop} (hS : rl S) (hR : fl 353 406 B M) (iv1 : inr v1) (iv2 : inr v2) (iv3 : inr v3) (iv4 : inr v4) (iv5 : inr v5) (a0 : rf_ld ls 0 = some (.ref 353)) (a1 : rf_ld ls 1 = some (zv v1)) (a2 : rf_ld ls 2 = some (zv v2)) (a3 : rf_ld ls 3 = some (zv v3)) (a4 : rf_ld ls 4 = some (zv v4)) (a5 : rf_ld ls 5 = some (zv v5)) (a6 : rf_ld ls 6 = some (.long v6)) (h : e_W_addRow v1 v2 v3 v4 v5 v6 M K) : lx (cx0 fz) n0 177 0 ls [] (M, S) (vl_v 353 406 B S K) := by
  unfold e_W_addRow at h
  refine l1 (n := 1) rfl rfl rfl (la_of a0) ?_
  refine l_gr rfl (ko_11 hS (List.Mem.head _)) rfl (fun _ => rfl) (kf_11_70 hR.2 (List.Mem.head _)) ?_
  refine l1 (n := 1) rfl rfl rfl (la_of a0) ?_
  refine l_gi rfl (ko_11 hS (List.Mem.head _)) rfl (fun _ => rfl) ?_
  refine l1 (n := 1) rfl rfl rfl (li_of a1) ?_
  refine b_is rfl (kc_400 (fz := fz) hS).1 (Nat.le_of_ble_eq_true rfl) (inr_gi _ _ _) (fun q M1 e => ?_)
  replace h := h q M1 e
  have r1 := hR.wi (Nat.le_of_ble_eq_true rfl) (Nat.le_of_ble_eq_true rfl) e
  refine l1 (n := 1) rfl rfl rfl (la_of a0) ?_
  refine l_gr rfl (ko_11 hS (List.Mem.head _)) rfl (fun _ => rfl) (kf_11_71 r1.2 (List.Mem.head _)) ?_
  refine l1 (n := 1) rfl rfl rfl (la_of a0) ?_
  refine l_gi rfl (ko_11 hS (List.Mem.head _)) rfl (fun _ => rfl) ?_
  refine l1 (n := 1) rfl rfl rfl (li_of a2) ?_
  refine b_is rfl (kc_401 (fz := fz) hS).1 (Nat.le_of_ble_eq_true rfl) (inr_gi _ _ _) (fun q M2 e => ?_)
  replace h := h q M2 e
  have r2 := r1.wi (Nat.le_of_ble_eq_true rfl) (Nat.le_of_ble_eq_true rfl) e
  refine l1 (n := 1) rfl rfl rfl (la_of a0) ?_
  refine l_gr rfl (ko_11 hS (List.Mem.head _)) rfl (fun _ => rfl) (kf_11_72 r2.2 (List.Mem.head _)) ?_
  refine l1 (n := 1) rfl rfl rfl (la_of a0) ?_
  refine l_gi rfl (ko_11 hS (List.Mem.head _)) rfl (fun _ => rfl) ?_
  refine l1 (n := 1) rfl rfl rfl (li_of a3) ?_
  refine b_is rfl (kc_402 (fz := fz) hS).1 (Nat.le_of_ble_eq_true rfl) (inr_gi _ _ _) (fun q M3 e => ?_)
  replace h := h q M3 e
  have r3 := r2.wi (Nat.le_of_ble_eq_true rfl) (Nat.le_of_ble_eq_true rfl) e
  refine l1 (n := 1) rfl rfl rfl (la_of a0) ?_
  refine l_gr rfl (ko_11 hS (List.Mem.head _)) rfl (fun _ => rfl) (kf_11_73 r3.2 (List.Mem.head _)) ?_
  refine l1 (n := 1) rfl rfl rfl (la_of a0) ?_
  refine l_gi rfl (ko_11 hS (List.Mem.head _)) rfl (fun _ => rfl) ?_
  refine l1 (n := 2) rfl rfl rfl (li_of a4) ?_
  refine b_is rfl (kc_403 (fz := fz) hS).1 (Nat.le_of_ble_eq_true rfl) (inr_gi _ _ _) (fun q M4 e => ?_)
  replace h := h q M4 e
  have r4 := r3.wi (Nat.le_of_ble_eq_true rfl) (Nat.le_of_ble_eq_true rfl) e
  refine l1 (n := 1) rfl rfl rfl (la_of a0) ?_
  refine l_gr rfl (ko_11 hS (List.Mem.head _)) rfl (fun _ => rfl) (kf_11_74 r4.2 (List.Mem.head _)) ?_
  refine l1 (n := 1) rfl rfl rfl (la_of a0) ?_
  refine l_gi rfl (ko_11 hS (List.Mem.head _)) rfl (fun _ => rfl) ?_
  refine l1 (n := 2) rfl rfl rfl (li_of a5) ?_
  refine b_is rfl (kc_404 (fz := fz) hS).1 (Nat.le_of_ble_eq_true rfl) (inr_gi _ _ _) (fun q M5 e => ?_)
  replace h := h q M5 e
  have r5 := r4.wi (Nat.le_of_ble_eq_true rfl) (Nat.le_of_ble_eq_true rfl) e
  refine l1 (n := 1) rfl rfl rfl (la_of a0) ?_
  refine l_gr rfl (ko_11 hS (List.Mem.head _)) rfl (fun _ => rfl) (kf_11_75 r5.2 (List.Mem.head _)) ?_
  refine l1 (n := 1) rfl rfl rfl (la_of a0) ?_
  refine l_gi rfl (ko_11 hS (List.Mem.head _)) rfl (fun _ => rfl) ?_
  refine l1 (n := 2) rfl rfl rfl (ll_of a6) ?_
  refine b_ls rfl (kc_405 (fz := fz) hS).1 (Nat.le_of_ble_eq_true rfl) (inr_gi _ _ _) (fun q M6 e => ?_)
  replace h := h q M6 e
  have r6 := r5.wl (Nat.le_of_ble_eq_true rfl) (Nat.le_of_ble_eq_true rfl) e
  refine l1 (n := 1) rfl rfl rfl (la_of a0) ?_
  refine l0 rfl rfl rfl ?_
  refine l_gi rfl (ko_11 hS (List.Mem.head _)) rfl (fun _ => rfl) ?_
  refine l1 (n := 1) rfl rfl rfl rfl ?_
  refine l_add rfl ?_
  refine l_pi rfl (ko_11 (fz := fz) hS (List.Mem.head _)) rfl (fun _ _ => rfl) (fun M7 e => ?_)
  replace h := h M7 e
  have r7 := r6.wi (Nat.le_of_ble_eq_true rfl) (Nat.le_of_ble_eq_true rfl) e
  exact l_rv rfl rfl r7 h
def em_W_addRow (x1 : Int) (x2 : Int) (x3 : Int) (x4 : Int) (x5 : Int) (x6 : Int64) (M : rf_M) (K : rf_M → Prop) : Prop := e_W_addRow x1 x2 x3 x4 x5 x6 M K
theorem E_W_addRow_m {fz : Bool} {S : gS} {B : rf_M} {M : rf_M} {n0 : Nat} {x1 : Int} {x2 : Int} {x3 : Int} {x4 : Int} {x5 : Int} {x6 : Int64} {K : rf_M → Prop} (hS : rl S) (hR : fl 353 406 B M) (ix1 : inr x1) (ix2 : inr x2) (ix3 : inr x3) (ix4 : inr x4) (ix5 : inr x5) (h : em_W_addRow x1 x2 x3 x4 x5 x6 M K) : lx (cx0 fz) n0 177 0 (lv_args 0 [.ref 353, zv x1, zv x2, zv x3, zv x4, zv x5, .long x6]) [] (M, S) (vl_v 353 406 B S K) :=
  E_W_addRow hS hR ix1 ix2 ix3 ix4 ix5 rfl rfl rfl rfl rfl rfl rfl h
def e_W_over_47b (v1 : Int) (v2 : Int) (M : rf_M) (b47 : Int → Int → rf_M → Prop) (K : rf_M → Prop) : Prop := (0 ≤ v1 ∧ v1 < 8 → (((gi M 381 (v1).toNat) ≤ v2 → (K M)) ∧ (¬ ((gi M 381 (v1).toNat) ≤ v2) → (inr (((16 * v1) + v2) + 1) ∧ ((0 ≤ (((16 * v1) + v2) + 1) ∧ (((16 * v1) + v2) + 1) < 128 → (inr ((16 * v1) + v2) ∧ ((0 ≤ ((16 * v1) + v2) ∧ ((16 * v1) + v2) < 128 → (∀ M1 : rf_M, M1 = wi M 380 ((16 * v1) + v2).toNat (gi M 380 (((16 * v1) + v2) + 1).toNat) → (inr (v2 + 1) ∧ (b47 v1 (v2 + 1) M1))))))))))))
theorem E_W_over_47b {fz : Bool} {S : gS} {B : rf_M} {M : rf_M} {ls : rf_L} {n0 : Nat} {v1 : Int} {v2 : Int} {b47 : Int → Int → rf_M → Prop} {K : rf_M → Prop} (hS : rl S) (hR : fl 353 406 B M) (iv1 : inr v1) (iv2 : inr v2) (a0 : rf_ld ls 0 = some (.ref 353)) (a1 : rf_ld ls 1 = some (zv v1)) (a2 : rf_ld ls 2 = some (zv v2)) (hb47 : ∀ n', n' < n0 → ∀ (v1 : Int) (v2 : Int) (M : rf_M) (ls : rf_L), fl 353 406 B M → inr v1 → inr v2 → rf_ld ls 0 = some (.ref 353) → rf_ld ls 1 = some (zv v1) → rf_ld ls 2 = some (zv v2) → b47 v1 v2 M → lx (cx0 fz) n' 178 47 ls [] (M, S) (vl_v 353 406 B S K)) (h : e_W_over_47b v1 v2 M b47 K) : lx (cx0 fz) n0 178 47 ls [] (M, S) (vl_v 353 406 B S K) := by
  unfold e_W_over_47b at h
  rcases Nat.eq_zero_or_pos n0 with e0 | hp
  · rw [e0]; exact lx_zero
  refine l1 (n := 1) rfl rfl rfl (li_of a2) ?_
  refine l1 (n := 1) rfl rfl rfl (la_of a0) ?_
  refine l_gr rfl (ko_11 hS (List.Mem.head _)) rfl (fun _ => rfl) (kf_11_44 hR.2 (List.Mem.head _)) ?_
  refine l1 (n := 1) rfl rfl rfl (li_of a1) ?_
  refine b_ia rfl (kc_381 (fz := fz) hS).1 (Nat.le_of_ble_eq_true rfl) iv1 (fun q => ?_)
  replace h := h q
  refine l_ic rfl iv2 (inr_gi _ _ _) (fun c => ?_) (fun c => ?_)
  · replace h := h.1 c
    exact l_rv rfl rfl hR h
  · replace h := h.2 c
    refine l1 (n := 1) rfl rfl rfl (la_of a0) ?_
    refine l_gr rfl (ko_11 hS (List.Mem.head _)) rfl (fun _ => rfl) (kf_11_43 hR.2 (List.Mem.head _)) ?_
    refine l_bi rfl (by decide) ?_
    refine l1 (n := 1) rfl rfl rfl (li_of a1) ?_
    refine l_mul rfl ?_
    refine l1 (n := 1) rfl rfl rfl (li_of a2) ?_
    refine l_add rfl ?_
    refine l1 (n := 1) rfl rfl rfl (la_of a0) ?_
    refine l_gr rfl (ko_11 hS (List.Mem.head _)) rfl (fun _ => rfl) (kf_11_43 hR.2 (List.Mem.head _)) ?_
    refine l_bi rfl (by decide) ?_
    refine l1 (n := 1) rfl rfl rfl (li_of a1) ?_
    refine l_mul rfl ?_
    refine l1 (n := 1) rfl rfl rfl (li_of a2) ?_
    refine l_add rfl ?_
    refine l1 (n := 1) rfl rfl rfl rfl ?_
    refine l_add rfl ?_
    obtain ⟨i1, h⟩ := h
    refine b_ia rfl (kc_380 (fz := fz) hS).1 (Nat.le_of_ble_eq_true rfl) i1 (fun q => ?_)
    replace h := h q
    obtain ⟨i2, h⟩ := h
    refine b_is rfl (kc_380 (fz := fz) hS).1 (Nat.le_of_ble_eq_true rfl) i2 (fun q M1 e => ?_)
    replace h := h q M1 e
    have r1 := hR.wi (Nat.le_of_ble_eq_true rfl) (Nat.le_of_ble_eq_true rfl) e
    refine l_ii rfl a2 (Nat.le_of_ble_eq_true rfl) (fun ls y1 ho => ?_)
    have y2 := ho 0 _ (by decide) (fun q => by cases q.2) a0
    have y3 := ho 1 _ (by decide) (fun q => by cases q.2) a1
    refine l3 rfl rfl rfl ?_
    obtain ⟨i3, h⟩ := h
    exact hb47 _ (by omega) _ _ _ _ r1 iv1 i3 y2 y3 y1 h
def e_W_over_47 (v1 : Int) (v2 : Int) (M : rf_M) (K : rf_M → Prop) : Prop := ∃ Inv : Int → Int → rf_M → Prop, Inv v1 v2 M ∧ ∀ (v1 : Int) (v2 : Int) (M : rf_M), inr v1 → inr v2 → Inv v1 v2 M → e_W_over_47b v1 v2 M Inv K
theorem E_W_over_47 {fz : Bool} {S : gS} {B : rf_M} {M : rf_M} {ls : rf_L} {n0 : Nat} {v1 : Int} {v2 : Int} {K : rf_M → Prop} (hS : rl S) (hR : fl 353 406 B M) (iv1 : inr v1) (iv2 : inr v2) (a0 : rf_ld ls 0 = some (.ref 353)) (a1 : rf_ld ls 1 = some (zv v1)) (a2 : rf_ld ls 2 = some (zv v2)) (h : e_W_over_47 v1 v2 M K) : lx (cx0 fz) n0 178 47 ls [] (M, S) (vl_v 353 406 B S K) := by
  obtain ⟨Inv, hm, hb⟩ := h
  induction n0 using Nat.strongRecOn generalizing ls M v1 v2 with
  | _ n0 ih =>
    refine E_W_over_47b hS hR iv1 iv2 a0 a1 a2 (fun n' hn' v1' v2' M' ls' hR' f0 f1 f2 f3 f4 q2 => ih n' hn' hR' f0 f1 f2 f3 f4 q2) (hb v1 v2 M iv1 iv2 hm)
def e_W_over (v1 : Int) (M : rf_M) (K : rf_M → Prop) : Prop := (0 ≤ v1 ∧ v1 < 8 → (∀ M1 : rf_M, M1 = wi M 382 (v1).toNat 0 → ((0 ≤ v1 ∧ v1 < 8 → (∀ M2 : rf_M, M2 = wi M1 383 (v1).toNat 0 → ((0 ≤ v1 ∧ v1 < 8 → (∀ M3 : rf_M, M3 = wi M2 386 (v1).toNat 0 → ((0 ≤ v1 ∧ v1 < 8 → (∀ M4 : rf_M, M4 = wi M3 384 (v1).toNat 0 → ((0 ≤ v1 ∧ v1 < 8 → (∀ M5 : rf_M, M5 = wi M4 385 (v1).toNat (Int32.ofInt 0 &&& 1).toInt → ((0 ≤ v1 ∧ v1 < 8 → ((0 ≤ v1 ∧ v1 < 8 → (∀ M6 : rf_M, M6 = wi M5 381 (v1).toNat ((gi M5 381 (v1).toNat) - 1) → (e_W_over_47 v1 0 M6 K))))))))))))))))))))
theorem E_W_over {fz : Bool} {S : gS} {B : rf_M} {M : rf_M} {ls : rf_L} {n0 : Nat} {v1 : Int} {K : rf_M → Prop} (hS : rl S) (hR : fl 353 406 B M) (iv1 : inr v1) (a0 : rf_ld ls 0 = some (.ref 353)) (a1 : rf_ld ls 1 = some (zv v1)) (h : e_W_over v1 M K) : lx (cx0 fz) n0 178 0 ls [] (M, S) (vl_v 353 406 B S K) := by
  unfold e_W_over at h
  refine l1 (n := 1) rfl rfl rfl (la_of a0) ?_
  refine l_gr rfl (ko_11 hS (List.Mem.head _)) rfl (fun _ => rfl) (kf_11_45 hR.2 (List.Mem.head _)) ?_
  refine l1 (n := 1) rfl rfl rfl (li_of a1) ?_
  refine l1 (n := 1) rfl rfl rfl rfl ?_
  refine b_is rfl (kc_382 (fz := fz) hS).1 (Nat.le_of_ble_eq_true rfl) iv1 (fun q M1 e => ?_)
  replace h := h q M1 e
  have r1 := hR.wi (Nat.le_of_ble_eq_true rfl) (Nat.le_of_ble_eq_true rfl) e
  refine l1 (n := 1) rfl rfl rfl (la_of a0) ?_
  refine l_gr rfl (ko_11 hS (List.Mem.head _)) rfl (fun _ => rfl) (kf_11_46 r1.2 (List.Mem.head _)) ?_
  refine l1 (n := 1) rfl rfl rfl (li_of a1) ?_
  refine l1 (n := 1) rfl rfl rfl rfl ?_
  refine b_is rfl (kc_383 (fz := fz) hS).1 (Nat.le_of_ble_eq_true rfl) iv1 (fun q M2 e => ?_)
  replace h := h q M2 e
  have r2 := r1.wi (Nat.le_of_ble_eq_true rfl) (Nat.le_of_ble_eq_true rfl) e
  refine l1 (n := 1) rfl rfl rfl (la_of a0) ?_
  refine l_gr rfl (ko_11 hS (List.Mem.head _)) rfl (fun _ => rfl) (kf_11_49 r2.2 (List.Mem.head _)) ?_
  refine l1 (n := 1) rfl rfl rfl (li_of a1) ?_
  refine l1 (n := 1) rfl rfl rfl rfl ?_
  refine b_is rfl (kc_386 (fz := fz) hS).1 (Nat.le_of_ble_eq_true rfl) iv1 (fun q M3 e => ?_)
  replace h := h q M3 e
  have r3 := r2.wi (Nat.le_of_ble_eq_true rfl) (Nat.le_of_ble_eq_true rfl) e
  refine l1 (n := 1) rfl rfl rfl (la_of a0) ?_
  refine l_gr rfl (ko_11 hS (List.Mem.head _)) rfl (fun _ => rfl) (kf_11_47 r3.2 (List.Mem.head _)) ?_
  refine l1 (n := 1) rfl rfl rfl (li_of a1) ?_
  refine l1 (n := 1) rfl rfl rfl rfl ?_
  refine b_is rfl (kc_384 (fz := fz) hS).1 (Nat.le_of_ble_eq_true rfl) iv1 (fun q M4 e => ?_)
  replace h := h q M4 e
  have r4 := r3.wi (Nat.le_of_ble_eq_true rfl) (Nat.le_of_ble_eq_true rfl) e
  refine l1 (n := 1) rfl rfl rfl (la_of a0) ?_
  refine l_gr rfl (ko_11 hS (List.Mem.head _)) rfl (fun _ => rfl) (kf_11_48 r4.2 (List.Mem.head _)) ?_
  refine l1 (n := 1) rfl rfl rfl (li_of a1) ?_
  refine l1 (n := 1) rfl rfl rfl rfl ?_
  refine b_zs rfl (kc_385 (fz := fz) hS).1 (Nat.le_of_ble_eq_true rfl) iv1 (fun q M5 e => ?_)
  replace h := h q M5 e
  have r5 := r4.wi (Nat.le_of_ble_eq_true rfl) (Nat.le_of_ble_eq_true rfl) e
  refine l1 (n := 1) rfl rfl rfl (la_of a0) ?_
  refine l_gr rfl (ko_11 hS (List.Mem.head _)) rfl (fun _ => rfl) (kf_11_44 r5.2 (List.Mem.head _)) ?_
  refine l1 (n := 1) rfl rfl rfl (li_of a1) ?_
  refine l0 rfl rfl rfl ?_
  refine b_ia rfl (kc_381 (fz := fz) hS).1 (Nat.le_of_ble_eq_true rfl) iv1 (fun q => ?_)
  replace h := h q
  refine l1 (n := 1) rfl rfl rfl rfl ?_
  refine l_sub rfl ?_
  refine b_is rfl (kc_381 (fz := fz) hS).1 (Nat.le_of_ble_eq_true rfl) iv1 (fun q M6 e => ?_)
  replace h := h q M6 e
  have r6 := r5.wi (Nat.le_of_ble_eq_true rfl) (Nat.le_of_ble_eq_true rfl) e
  refine l1 (n := 1) rfl rfl rfl rfl ?_
  refine l_s1 (n := 1) rfl rfl rfl rfl (fun ls y1 ho => ?_)
  have y2 := ho 0 _ (by decide) (fun q => by cases q.2) a0
  have y3 := ho 1 _ (by decide) (fun q => by cases q.2) a1
  exact E_W_over_47 hS r6 iv1 ⟨by decide, by decide⟩ y2 y3 y1 h
def em_W_over (x1 : Int) (M : rf_M) (K : rf_M → Prop) : Prop := e_W_over x1 M K
theorem E_W_over_m {fz : Bool} {S : gS} {B : rf_M} {M : rf_M} {n0 : Nat} {x1 : Int} {K : rf_M → Prop} (hS : rl S) (hR : fl 353 406 B M) (ix1 : inr x1) (h : em_W_over x1 M K) : lx (cx0 fz) n0 178 0 (lv_args 0 [.ref 353, zv x1]) [] (M, S) (vl_v 353 406 B S K) :=
  E_W_over hS hR ix1 rfl rfl h
def e_W_endThrown (v1 : Int) (v2 : Int64) (M : rf_M) (K : Int → rf_M → Prop) : Prop := ((gi M 353 69) = 300 → (K (-1) M)) ∧ (¬ (gi M 353 69) = 300 → (em_W_firstOf v1 M (fun (z1 : Int) (M1 : rf_M) => (0 ≤ v1 ∧ v1 < 8 → ((0 ≤ v1 ∧ v1 < 8 → (inr ((gi M1 383 (v1).toNat) + 1) ∧ (em_W_addRow 2 v1 z1 ((gi M1 383 (v1).toNat) + 1) (gi M1 384 (v1).toNat) v2 M1 (fun (M2 : rf_M) => em_W_over v1 M2 (fun (M3 : rf_M) => K 2 M3))))))))))
theorem E_W_endThrown {fz : Bool} {S : gS} {B : rf_M} {M : rf_M} {ls : rf_L} {n0 : Nat} {v1 : Int} {v2 : Int64} {K : Int → rf_M → Prop} (hS : rl S) (hR : fl 353 406 B M) (iv1 : inr v1) (a0 : rf_ld ls 0 = some (.ref 353)) (a1 : rf_ld ls 1 = some (zv v1)) (a2 : rf_ld ls 2 = some (.long v2)) (h : e_W_endThrown v1 v2 M K) : lx (cx0 fz) n0 176 0 ls [] (M, S) (vl_i 353 406 B S K) := by
  unfold e_W_endThrown at h
  refine l1 (n := 1) rfl rfl rfl (la_of a0) ?_
  refine l_gi rfl (ko_11 hS (List.Mem.head _)) rfl (fun _ => rfl) ?_
  refine l_si rfl (by decide) ?_
  refine l_ic rfl (inr_gi _ _ _) ⟨by decide, by decide⟩ (fun c => ?_) (fun c => ?_)
  · replace h := h.2 c
    refine l1 (n := 1) rfl rfl rfl (la_of a0) ?_
    refine l1 (n := 1) rfl rfl rfl rfl ?_
    refine l1 (n := 1) rfl rfl rfl (li_of a1) ?_
    refine l1 (n := 1) rfl rfl rfl (la_of a0) ?_
    refine l1 (n := 1) rfl rfl rfl (li_of a1) ?_
    refine b_iv (c := 353) (as := [zv v1]) (rest := [zv v1, zv 2, .ref 353]) rfl (by decide) (ko_11 hS (List.Mem.head _)) rfl rfl (Nat.le_of_ble_eq_true rfl) (fun hq => ?_)
    refine lx_mono (E_W_firstOf_m hS hR iv1 h) ?_
    rintro _ _ ⟨z1, M1, rfl, rfl, r1, iz1, h⟩
    refine l1 (n := 1) rfl rfl rfl (la_of a0) ?_
    refine l_gr rfl (ko_11 hS (List.Mem.head _)) rfl (fun _ => rfl) (kf_11_46 r1.2 (List.Mem.head _)) ?_
    refine l1 (n := 1) rfl rfl rfl (li_of a1) ?_
    refine b_ia rfl (kc_383 (fz := fz) hS).1 (Nat.le_of_ble_eq_true rfl) iv1 (fun q => ?_)
    replace h := h q
    refine l1 (n := 1) rfl rfl rfl rfl ?_
    refine l_add rfl ?_
    refine l1 (n := 1) rfl rfl rfl (la_of a0) ?_
    refine l_gr rfl (ko_11 hS (List.Mem.head _)) rfl (fun _ => rfl) (kf_11_47 r1.2 (List.Mem.head _)) ?_
    refine l1 (n := 1) rfl rfl rfl (li_of a1) ?_
    refine b_ia rfl (kc_384 (fz := fz) hS).1 (Nat.le_of_ble_eq_true rfl) iv1 (fun q => ?_)
    replace h := h q
    refine l1 (n := 1) rfl rfl rfl (ll_of a2) ?_
    obtain ⟨i1, h⟩ := h
    refine b_iv (c := 353) (as := [zv 2, zv v1, zv z1, zv ((gi M1 383 (v1).toNat) + 1), zv (gi M1 384 (v1).toNat), .long v2]) (rest := []) rfl (by decide) (ko_11 hS (List.Mem.head _)) rfl rfl (Nat.le_of_ble_eq_true rfl) (fun hq => ?_)
    refine lx_mono (E_W_addRow_m hS r1 ⟨by decide, by decide⟩ iv1 iz1 i1 (inr_gi _ _ _) h) ?_
    rintro _ _ ⟨M2, rfl, rfl, r2, h⟩
    refine l1 (n := 1) rfl rfl rfl (la_of a0) ?_
    refine l1 (n := 1) rfl rfl rfl (li_of a1) ?_
    refine b_iv (c := 353) (as := [zv v1]) (rest := []) rfl (by decide) (ko_11 hS (List.Mem.head _)) rfl rfl (Nat.le_of_ble_eq_true rfl) (fun hq => ?_)
    refine lx_mono (E_W_over_m hS r2 iv1 h) ?_
    rintro _ _ ⟨M3, rfl, rfl, r3, h⟩
    refine l1 (n := 1) rfl rfl rfl rfl ?_
    exact l_ri rfl rfl ⟨by decide, by decide⟩ r3 h
  · replace h := h.1 (Classical.not_not.mp c)
    refine l1 (n := 1) rfl rfl rfl rfl ?_
    exact l_ri rfl rfl ⟨by decide, by decide⟩ hR h
def em_W_endThrown (x1 : Int) (x2 : Int64) (M : rf_M) (K : Int → rf_M → Prop) : Prop := e_W_endThrown x1 x2 M K
theorem E_W_endThrown_m {fz : Bool} {S : gS} {B : rf_M} {M : rf_M} {n0 : Nat} {x1 : Int} {x2 : Int64} {K : Int → rf_M → Prop} (hS : rl S) (hR : fl 353 406 B M) (ix1 : inr x1) (h : em_W_endThrown x1 x2 M K) : lx (cx0 fz) n0 176 0 (lv_args 0 [.ref 353, zv x1, .long x2]) [] (M, S) (vl_i 353 406 B S K) :=
  E_W_endThrown hS hR ix1 rfl rfl rfl h
def e_W_holds_30 (s0 : Int) (M : rf_M) (K : Int → rf_M → Prop) : Prop := (s0 = 0 ∨ s0 = 1) ∧ K s0 M
theorem E_W_holds_30 {fz : Bool} {S : gS} {B : rf_M} {M : rf_M} {ls : rf_L} {n0 : Nat} {s0 : Int} {K : Int → rf_M → Prop} (hS : rl S) (hR : fl 353 406 B M) (is0 : inr s0) (h : e_W_holds_30 s0 M K) : lx (cx0 fz) n0 181 30 ls [zv s0] (M, S) (vl_i 353 406 B S K) := by
  unfold e_W_holds_30 at h
  exact l_rb rfl rfl h.1 hR h.2
def e_W_holds_29 (M : rf_M) (K : Int → rf_M → Prop) : Prop := e_W_holds_30 0 M K
theorem E_W_holds_29 {fz : Bool} {S : gS} {B : rf_M} {M : rf_M} {ls : rf_L} {n0 : Nat} {K : Int → rf_M → Prop} (hS : rl S) (hR : fl 353 406 B M) (h : e_W_holds_29 M K) : lx (cx0 fz) n0 181 29 ls [] (M, S) (vl_i 353 406 B S K) := by
  unfold e_W_holds_29 at h
  refine l1 (n := 1) rfl rfl rfl rfl ?_
  exact E_W_holds_30 hS hR ⟨by decide, by decide⟩ h
def e_W_holds (v1 : Int) (M : rf_M) (K : Int → rf_M → Prop) : Prop := ∀ M1 : rf_M, M1 = wi M 353 65 0 → (em_W_work v1 1 M1 (fun (z2 : Int64) (M2 : rf_M) => ((gi M2 353 65) = 0 → (((lg_cmp z2 (Int64.ofNat 0)).toInt = 0 → (e_W_holds_29 M2 K)) ∧ (¬ ((lg_cmp z2 (Int64.ofNat 0)).toInt = 0) → (e_W_holds_30 1 M2 K)))) ∧ (¬ (gi M2 353 65) = 0 → (e_W_holds_29 M2 K))))
theorem E_W_holds {fz : Bool} {S : gS} {B : rf_M} {M : rf_M} {ls : rf_L} {n0 : Nat} {v1 : Int} {K : Int → rf_M → Prop} (hS : rl S) (hR : fl 353 406 B M) (iv1 : inr v1) (a0 : rf_ld ls 0 = some (.ref 353)) (a1 : rf_ld ls 1 = some (zv v1)) (h : e_W_holds v1 M K) : lx (cx0 fz) n0 181 0 ls [] (M, S) (vl_i 353 406 B S K) := by
  unfold e_W_holds at h
  refine l1 (n := 1) rfl rfl rfl (la_of a0) ?_
  refine l1 (n := 1) rfl rfl rfl rfl ?_
  refine l_pi rfl (ko_11 (fz := fz) hS (List.Mem.head _)) rfl (fun _ _ => rfl) (fun M1 e => ?_)
  replace h := h M1 e
  have r1 := hR.wi (Nat.le_of_ble_eq_true rfl) (Nat.le_of_ble_eq_true rfl) e
  refine l1 (n := 1) rfl rfl rfl (la_of a0) ?_
  refine l1 (n := 1) rfl rfl rfl (li_of a1) ?_
  refine l1 (n := 1) rfl rfl rfl rfl ?_
  refine b_iv (c := 353) (as := [zv v1, zv 1]) (rest := []) rfl (by decide) (ko_11 hS (List.Mem.head _)) rfl rfl (Nat.le_of_ble_eq_true rfl) (fun hq => ?_)
  refine lx_mono (E_W_work_m hS r1 iv1 ⟨by decide, by decide⟩ h) ?_
  rintro _ _ ⟨z2, M2, rfl, rfl, r2, h⟩
  refine l_s2 (n := 1) rfl rfl rfl rfl (fun ls y1 ho => ?_)
  have y2 := ho 0 _ (by decide) (by decide) (fun q => by cases q.2) a0
  refine l1 (n := 1) rfl rfl rfl (la_of y2) ?_
  refine l_gi rfl (ko_11 hS (List.Mem.head _)) rfl (fun _ => rfl) ?_
  refine l_if rfl (inr_gi _ _ _) (fun c => ?_) (fun c => ?_)
  · replace h := h.2 c
    exact E_W_holds_29 hS r2  h
  · replace h := h.1 (Classical.not_not.mp c)
    refine l1 (n := 1) rfl rfl rfl (ll_of y1) ?_
    refine l1 (n := 1) rfl rfl rfl rfl ?_
    refine l_op (T := (lg_cmp z2 (Int64.ofNat 0))) rfl rfl rfl ?_
    refine l_if rfl (inr_ti _) (fun c => ?_) (fun c => ?_)
    · replace h := h.1 c
      exact E_W_holds_29 hS r2  h
    · replace h := h.2 c
      refine l1 (n := 1) rfl rfl rfl rfl ?_
      refine l3 rfl rfl rfl ?_
      exact E_W_holds_30 hS r2 ⟨by decide, by decide⟩ h
def em_W_holds (x1 : Int) (M : rf_M) (K : Int → rf_M → Prop) : Prop := e_W_holds x1 M K
theorem E_W_holds_m {fz : Bool} {S : gS} {B : rf_M} {M : rf_M} {n0 : Nat} {x1 : Int} {K : Int → rf_M → Prop} (hS : rl S) (hR : fl 353 406 B M) (ix1 : inr x1) (h : em_W_holds x1 M K) : lx (cx0 fz) n0 181 0 (lv_args 0 [.ref 353, zv x1]) [] (M, S) (vl_i 353 406 B S K) :=
  E_W_holds hS hR ix1 rfl rfl h
def e_W_rulesHold_46 (v1 : Int) (M : rf_M) (K : Int → rf_M → Prop) : Prop := (v1 = 0 ∨ v1 = 1) ∧ K v1 M
theorem E_W_rulesHold_46 {fz : Bool} {S : gS} {B : rf_M} {M : rf_M} {ls : rf_L} {n0 : Nat} {v1 : Int} {K : Int → rf_M → Prop} (hS : rl S) (hR : fl 353 406 B M) (iv1 : inr v1) (a1 : rf_ld ls 1 = some (zv v1)) (h : e_W_rulesHold_46 v1 M K) : lx (cx0 fz) n0 180 46 ls [] (M, S) (vl_i 353 406 B S K) := by
  unfold e_W_rulesHold_46 at h
  refine l1 (n := 1) rfl rfl rfl (li_of a1) ?_
  exact l_rb rfl rfl h.1 hR h.2
def e_W_rulesHold_4b (v1 : Int) (v2 : Int) (M : rf_M) (b4 : Int → Int → rf_M → Prop) (K : Int → rf_M → Prop) : Prop := (0 ≤ (gi M 353 42) ∧ (gi M 353 42) < 2 → (((gi M 378 (gi M 353 42).toNat) ≤ v2 → (e_W_rulesHold_46 v1 M K)) ∧ (¬ ((gi M 378 (gi M 353 42).toNat) ≤ v2) → ((v1 = 0 → (e_W_rulesHold_46 v1 M K)) ∧ (¬ (v1 = 0) → (inr ((32 * (gi M 353 42)) + v2) ∧ ((0 ≤ ((32 * (gi M 353 42)) + v2) ∧ ((32 * (gi M 353 42)) + v2) < 64 → (em_W_holds (gi M 379 ((32 * (gi M 353 42)) + v2).toNat) M (fun (z1 : Int) (M1 : rf_M) => inr (v2 + 1) ∧ (b4 z1 (v2 + 1) M1)))))))))))
theorem E_W_rulesHold_4b {fz : Bool} {S : gS} {B : rf_M} {M : rf_M} {ls : rf_L} {n0 : Nat} {v1 : Int} {v2 : Int} {b4 : Int → Int → rf_M → Prop} {K : Int → rf_M → Prop} (hS : rl S) (hR : fl 353 406 B M) (iv1 : inr v1) (iv2 : inr v2) (a0 : rf_ld ls 0 = some (.ref 353)) (a1 : rf_ld ls 1 = some (zv v1)) (a2 : rf_ld ls 2 = some (zv v2)) (hb4 : ∀ n', n' < n0 → ∀ (v1 : Int) (v2 : Int) (M : rf_M) (ls : rf_L), fl 353 406 B M → inr v1 → inr v2 → rf_ld ls 0 = some (.ref 353) → rf_ld ls 1 = some (zv v1) → rf_ld ls 2 = some (zv v2) → b4 v1 v2 M → lx (cx0 fz) n' 180 4 ls [] (M, S) (vl_i 353 406 B S K)) (h : e_W_rulesHold_4b v1 v2 M b4 K) : lx (cx0 fz) n0 180 4 ls [] (M, S) (vl_i 353 406 B S K) := by
  unfold e_W_rulesHold_4b at h
  rcases Nat.eq_zero_or_pos n0 with e0 | hp
  · rw [e0]; exact lx_zero
  refine l1 (n := 1) rfl rfl rfl (li_of a2) ?_
  refine l1 (n := 1) rfl rfl rfl (la_of a0) ?_
  refine l_gr rfl (ko_11 hS (List.Mem.head _)) rfl (fun _ => rfl) (kf_11_40 hR.2 (List.Mem.head _)) ?_
  refine l1 (n := 1) rfl rfl rfl (la_of a0) ?_
  refine l_gi rfl (ko_11 hS (List.Mem.head _)) rfl (fun _ => rfl) ?_
  refine b_ia rfl (kc_378 (fz := fz) hS).1 (Nat.le_of_ble_eq_true rfl) (inr_gi _ _ _) (fun q => ?_)
  replace h := h q
  refine l_ic rfl iv2 (inr_gi _ _ _) (fun c => ?_) (fun c => ?_)
  · replace h := h.1 c
    exact E_W_rulesHold_46 hS hR iv1 a1 h
  · replace h := h.2 c
    refine l1 (n := 1) rfl rfl rfl (li_of a1) ?_
    refine l_if rfl iv1 (fun c => ?_) (fun c => ?_)
    · replace h := h.1 c
      exact E_W_rulesHold_46 hS hR iv1 a1 h
    · replace h := h.2 c
      refine l1 (n := 1) rfl rfl rfl (la_of a0) ?_
      refine l1 (n := 1) rfl rfl rfl (la_of a0) ?_
      refine l_gr rfl (ko_11 hS (List.Mem.head _)) rfl (fun _ => rfl) (kf_11_41 hR.2 (List.Mem.head _)) ?_
      refine l_bi rfl (by decide) ?_
      refine l1 (n := 1) rfl rfl rfl (la_of a0) ?_
      refine l_gi rfl (ko_11 hS (List.Mem.head _)) rfl (fun _ => rfl) ?_
      refine l_mul rfl ?_
      refine l1 (n := 1) rfl rfl rfl (li_of a2) ?_
      refine l_add rfl ?_
      obtain ⟨i1, h⟩ := h
      refine b_ia rfl (kc_379 (fz := fz) hS).1 (Nat.le_of_ble_eq_true rfl) i1 (fun q => ?_)
      replace h := h q
      refine b_iv (c := 353) (as := [zv (gi M 379 ((32 * (gi M 353 42)) + v2).toNat)]) (rest := []) rfl (by decide) (ko_11 hS (List.Mem.head _)) rfl rfl (Nat.le_of_ble_eq_true rfl) (fun hq => ?_)
      refine lx_mono (E_W_holds_m hS hR (inr_gi _ _ _) h) ?_
      rintro _ _ ⟨z1, M1, rfl, rfl, r1, iz1, h⟩
      refine l_s1 (n := 1) rfl rfl rfl rfl (fun ls y1 ho => ?_)
      have y2 := ho 0 _ (by decide) (fun q => by cases q.2) a0
      have y3 := ho 2 _ (by decide) (fun q => by cases q.2) a2
      refine l_ii rfl y3 (Nat.le_of_ble_eq_true rfl) (fun ls y4 ho => ?_)
      have y5 := ho 0 _ (by decide) (fun q => by cases q.2) y2
      have y6 := ho 1 _ (by decide) (fun q => by cases q.2) y1
      refine l3 rfl rfl rfl ?_
      obtain ⟨i2, h⟩ := h
      exact hb4 _ (by omega) _ _ _ _ r1 iz1 i2 y5 y6 y4 h
def e_W_rulesHold_4 (v1 : Int) (v2 : Int) (M : rf_M) (K : Int → rf_M → Prop) : Prop := ∃ Inv : Int → Int → rf_M → Prop, Inv v1 v2 M ∧ ∀ (v1 : Int) (v2 : Int) (M : rf_M), inr v1 → inr v2 → Inv v1 v2 M → e_W_rulesHold_4b v1 v2 M Inv K
theorem E_W_rulesHold_4 {fz : Bool} {S : gS} {B : rf_M} {M : rf_M} {ls : rf_L} {n0 : Nat} {v1 : Int} {v2 : Int} {K : Int → rf_M → Prop} (hS : rl S) (hR : fl 353 406 B M) (iv1 : inr v1) (iv2 : inr v2) (a0 : rf_ld ls 0 = some (.ref 353)) (a1 : rf_ld ls 1 = some (zv v1)) (a2 : rf_ld ls 2 = some (zv v2)) (h : e_W_rulesHold_4 v1 v2 M K) : lx (cx0 fz) n0 180 4 ls [] (M, S) (vl_i 353 406 B S K) := by
  obtain ⟨Inv, hm, hb⟩ := h
  induction n0 using Nat.strongRecOn generalizing ls M v1 v2 with
  | _ n0 ih =>
    refine E_W_rulesHold_4b hS hR iv1 iv2 a0 a1 a2 (fun n' hn' v1' v2' M' ls' hR' f0 f1 f2 f3 f4 q2 => ih n' hn' hR' f0 f1 f2 f3 f4 q2) (hb v1 v2 M iv1 iv2 hm)
def e_W_rulesHold (M : rf_M) (K : Int → rf_M → Prop) : Prop := e_W_rulesHold_4 1 0 M K
theorem E_W_rulesHold {fz : Bool} {S : gS} {B : rf_M} {M : rf_M} {ls : rf_L} {n0 : Nat} {K : Int → rf_M → Prop} (hS : rl S) (hR : fl 353 406 B M) (a0 : rf_ld ls 0 = some (.ref 353)) (h : e_W_rulesHold M K) : lx (cx0 fz) n0 180 0 ls [] (M, S) (vl_i 353 406 B S K) := by
  unfold e_W_rulesHold at h
  refine l1 (n := 1) rfl rfl rfl rfl ?_
  refine l_s1 (n := 1) rfl rfl rfl rfl (fun ls y1 ho => ?_)
  have y2 := ho 0 _ (by decide) (fun q => by cases q.2) a0
  refine l1 (n := 1) rfl rfl rfl rfl ?_
  refine l_s1 (n := 1) rfl rfl rfl rfl (fun ls y3 ho => ?_)
  have y4 := ho 0 _ (by decide) (fun q => by cases q.2) y2
  have y5 := ho 1 _ (by decide) (fun q => by cases q.2) y1
  exact E_W_rulesHold_4 hS hR ⟨by decide, by decide⟩ ⟨by decide, by decide⟩ y4 y5 y3 h
def em_W_rulesHold (M : rf_M) (K : Int → rf_M → Prop) : Prop := e_W_rulesHold  M K
theorem E_W_rulesHold_m {fz : Bool} {S : gS} {B : rf_M} {M : rf_M} {n0 : Nat} {K : Int → rf_M → Prop} (hS : rl S) (hR : fl 353 406 B M) (h : em_W_rulesHold  M K) : lx (cx0 fz) n0 180 0 (lv_args 0 [.ref 353]) [] (M, S) (vl_i 353 406 B S K) :=
  E_W_rulesHold hS hR rfl h
def e_W_isWell_48 (v1 : Int) (s1 : Int) (s2 : Int64) (M : rf_M) (b2 : Int → rf_M → Prop) (K : Int → rf_M → Prop) : Prop := (0 ≤ s1 ∧ s1 < 16 → (∀ M1 : rf_M, M1 = wl M 399 (s1).toNat s2 → (inr (v1 + 1) ∧ (b2 (v1 + 1) M1))))
theorem E_W_isWell_48 {fz : Bool} {S : gS} {B : rf_M} {M : rf_M} {ls : rf_L} {n0 : Nat} {v1 : Int} {s1 : Int} {s2 : Int64} {b2 : Int → rf_M → Prop} {K : Int → rf_M → Prop} (hS : rl S) (hR : fl 353 406 B M) (iv1 : inr v1) (is1 : inr s1) (a0 : rf_ld ls 0 = some (.ref 353)) (a1 : rf_ld ls 1 = some (zv v1)) (hb2 : ∀ n', n' < n0 → ∀ (v1 : Int) (M : rf_M) (ls : rf_L), fl 353 406 B M → inr v1 → rf_ld ls 0 = some (.ref 353) → rf_ld ls 1 = some (zv v1) → b2 v1 M → lx (cx0 fz) n' 179 2 ls [] (M, S) (vl_i 353 406 B S K)) (h : e_W_isWell_48 v1 s1 s2 M b2 K) : lx (cx0 fz) n0 179 48 ls [.long s2, zv s1, .ref 399] (M, S) (vl_i 353 406 B S K) := by
  unfold e_W_isWell_48 at h
  rcases Nat.eq_zero_or_pos n0 with e0 | hp
  · rw [e0]; exact lx_zero
  refine b_ls rfl (kc_399 (fz := fz) hS).1 (Nat.le_of_ble_eq_true rfl) is1 (fun q M1 e => ?_)
  replace h := h q M1 e
  have r1 := hR.wl (Nat.le_of_ble_eq_true rfl) (Nat.le_of_ble_eq_true rfl) e
  refine l_ii rfl a1 (Nat.le_of_ble_eq_true rfl) (fun ls y1 ho => ?_)
  have y2 := ho 0 _ (by decide) (fun q => by cases q.2) a0
  refine l3 rfl rfl rfl ?_
  obtain ⟨i1, h⟩ := h
  exact hb2 _ (by omega) _ _ _ r1 i1 y2 y1 h
def e_W_isWell_119 (s0 : Int) (M : rf_M) (K : Int → rf_M → Prop) : Prop := (s0 = 0 ∨ s0 = 1) ∧ K s0 M
theorem E_W_isWell_119 {fz : Bool} {S : gS} {B : rf_M} {M : rf_M} {ls : rf_L} {n0 : Nat} {s0 : Int} {K : Int → rf_M → Prop} (hS : rl S) (hR : fl 353 406 B M) (is0 : inr s0) (h : e_W_isWell_119 s0 M K) : lx (cx0 fz) n0 179 119 ls [zv s0] (M, S) (vl_i 353 406 B S K) := by
  unfold e_W_isWell_119 at h
  exact l_rb rfl rfl h.1 hR h.2
def e_W_isWell_118 (M : rf_M) (K : Int → rf_M → Prop) : Prop := e_W_isWell_119 0 M K
theorem E_W_isWell_118 {fz : Bool} {S : gS} {B : rf_M} {M : rf_M} {ls : rf_L} {n0 : Nat} {K : Int → rf_M → Prop} (hS : rl S) (hR : fl 353 406 B M) (h : e_W_isWell_118 M K) : lx (cx0 fz) n0 179 118 ls [] (M, S) (vl_i 353 406 B S K) := by
  unfold e_W_isWell_118 at h
  refine l1 (n := 1) rfl rfl rfl rfl ?_
  exact E_W_isWell_119 hS hR ⟨by decide, by decide⟩ h
def e_W_isWell_91 (v1 : Int) (M : rf_M) (K : Int → rf_M → Prop) : Prop := (v1 = 0 → (e_W_isWell_118 M K)) ∧ (¬ (v1 = 0) → ((0 ≤ (gi M 353 42) ∧ (gi M 353 42) < 2 → (inr ((gi M 378 (gi M 353 42).toNat) + (gi M 353 58)) ∧ ((32 < ((gi M 378 (gi M 353 42).toNat) + (gi M 353 58)) → (e_W_isWell_118 M K)) ∧ (¬ (32 < ((gi M 378 (gi M 353 42).toNat) + (gi M 353 58))) → (e_W_isWell_119 1 M K)))))))
theorem E_W_isWell_91 {fz : Bool} {S : gS} {B : rf_M} {M : rf_M} {ls : rf_L} {n0 : Nat} {v1 : Int} {K : Int → rf_M → Prop} (hS : rl S) (hR : fl 353 406 B M) (iv1 : inr v1) (a0 : rf_ld ls 0 = some (.ref 353)) (a1 : rf_ld ls 1 = some (zv v1)) (h : e_W_isWell_91 v1 M K) : lx (cx0 fz) n0 179 91 ls [] (M, S) (vl_i 353 406 B S K) := by
  unfold e_W_isWell_91 at h
  refine l1 (n := 1) rfl rfl rfl (li_of a1) ?_
  refine l_if rfl iv1 (fun c => ?_) (fun c => ?_)
  · replace h := h.1 c
    exact E_W_isWell_118 hS hR  h
  · replace h := h.2 c
    refine l1 (n := 1) rfl rfl rfl (la_of a0) ?_
    refine l_gr rfl (ko_11 hS (List.Mem.head _)) rfl (fun _ => rfl) (kf_11_40 hR.2 (List.Mem.head _)) ?_
    refine l1 (n := 1) rfl rfl rfl (la_of a0) ?_
    refine l_gi rfl (ko_11 hS (List.Mem.head _)) rfl (fun _ => rfl) ?_
    refine b_ia rfl (kc_378 (fz := fz) hS).1 (Nat.le_of_ble_eq_true rfl) (inr_gi _ _ _) (fun q => ?_)
    replace h := h q
    refine l1 (n := 1) rfl rfl rfl (la_of a0) ?_
    refine l_gi rfl (ko_11 hS (List.Mem.head _)) rfl (fun _ => rfl) ?_
    refine l_add rfl ?_
    refine l_bi rfl (by decide) ?_
    obtain ⟨i1, h⟩ := h
    refine l_ic rfl i1 ⟨by decide, by decide⟩ (fun c => ?_) (fun c => ?_)
    · replace h := h.1 c
      exact E_W_isWell_118 hS hR  h
    · replace h := h.2 c
      refine l1 (n := 1) rfl rfl rfl rfl ?_
      refine l3 rfl rfl rfl ?_
      exact E_W_isWell_119 hS hR ⟨by decide, by decide⟩ h
def e_W_isWell_62b (v1 : Int) (v2 : Int) (M : rf_M) (b62 : Int → Int → rf_M → Prop) (K : Int → rf_M → Prop) : Prop := ((gi M 353 58) ≤ v2 → (e_W_isWell_91 v1 M K)) ∧ (¬ ((gi M 353 58) ≤ v2) → ((v1 = 0 → (e_W_isWell_91 v1 M K)) ∧ (¬ (v1 = 0) → ((0 ≤ v2 ∧ v2 < 400 → (em_W_holds (gi M 393 (v2).toNat) M (fun (z1 : Int) (M1 : rf_M) => inr (v2 + 1) ∧ (b62 z1 (v2 + 1) M1))))))))
theorem E_W_isWell_62b {fz : Bool} {S : gS} {B : rf_M} {M : rf_M} {ls : rf_L} {n0 : Nat} {v1 : Int} {v2 : Int} {b62 : Int → Int → rf_M → Prop} {K : Int → rf_M → Prop} (hS : rl S) (hR : fl 353 406 B M) (iv1 : inr v1) (iv2 : inr v2) (a0 : rf_ld ls 0 = some (.ref 353)) (a1 : rf_ld ls 1 = some (zv v1)) (a2 : rf_ld ls 2 = some (zv v2)) (hb62 : ∀ n', n' < n0 → ∀ (v1 : Int) (v2 : Int) (M : rf_M) (ls : rf_L), fl 353 406 B M → inr v1 → inr v2 → rf_ld ls 0 = some (.ref 353) → rf_ld ls 1 = some (zv v1) → rf_ld ls 2 = some (zv v2) → b62 v1 v2 M → lx (cx0 fz) n' 179 62 ls [] (M, S) (vl_i 353 406 B S K)) (h : e_W_isWell_62b v1 v2 M b62 K) : lx (cx0 fz) n0 179 62 ls [] (M, S) (vl_i 353 406 B S K) := by
  unfold e_W_isWell_62b at h
  rcases Nat.eq_zero_or_pos n0 with e0 | hp
  · rw [e0]; exact lx_zero
  refine l1 (n := 1) rfl rfl rfl (li_of a2) ?_
  refine l1 (n := 1) rfl rfl rfl (la_of a0) ?_
  refine l_gi rfl (ko_11 hS (List.Mem.head _)) rfl (fun _ => rfl) ?_
  refine l_ic rfl iv2 (inr_gi _ _ _) (fun c => ?_) (fun c => ?_)
  · replace h := h.1 c
    exact E_W_isWell_91 hS hR iv1 a0 a1 h
  · replace h := h.2 c
    refine l1 (n := 1) rfl rfl rfl (li_of a1) ?_
    refine l_if rfl iv1 (fun c => ?_) (fun c => ?_)
    · replace h := h.1 c
      exact E_W_isWell_91 hS hR iv1 a0 a1 h
    · replace h := h.2 c
      refine l1 (n := 1) rfl rfl rfl (la_of a0) ?_
      refine l1 (n := 1) rfl rfl rfl (la_of a0) ?_
      refine l_gr rfl (ko_11 hS (List.Mem.head _)) rfl (fun _ => rfl) (kf_11_59 hR.2 (List.Mem.head _)) ?_
      refine l1 (n := 1) rfl rfl rfl (li_of a2) ?_
      refine b_ia rfl (kc_393 (fz := fz) hS).1 (Nat.le_of_ble_eq_true rfl) iv2 (fun q => ?_)
      replace h := h q
      refine b_iv (c := 353) (as := [zv (gi M 393 (v2).toNat)]) (rest := []) rfl (by decide) (ko_11 hS (List.Mem.head _)) rfl rfl (Nat.le_of_ble_eq_true rfl) (fun hq => ?_)
      refine lx_mono (E_W_holds_m hS hR (inr_gi _ _ _) h) ?_
      rintro _ _ ⟨z1, M1, rfl, rfl, r1, iz1, h⟩
      refine l_s1 (n := 1) rfl rfl rfl rfl (fun ls y1 ho => ?_)
      have y2 := ho 0 _ (by decide) (fun q => by cases q.2) a0
      have y3 := ho 2 _ (by decide) (fun q => by cases q.2) a2
      refine l_ii rfl y3 (Nat.le_of_ble_eq_true rfl) (fun ls y4 ho => ?_)
      have y5 := ho 0 _ (by decide) (fun q => by cases q.2) y2
      have y6 := ho 1 _ (by decide) (fun q => by cases q.2) y1
      refine l3 rfl rfl rfl ?_
      obtain ⟨i1, h⟩ := h
      exact hb62 _ (by omega) _ _ _ _ r1 iz1 i1 y5 y6 y4 h
def e_W_isWell_62 (v1 : Int) (v2 : Int) (M : rf_M) (K : Int → rf_M → Prop) : Prop := ∃ Inv : Int → Int → rf_M → Prop, Inv v1 v2 M ∧ ∀ (v1 : Int) (v2 : Int) (M : rf_M), inr v1 → inr v2 → Inv v1 v2 M → e_W_isWell_62b v1 v2 M Inv K
theorem E_W_isWell_62 {fz : Bool} {S : gS} {B : rf_M} {M : rf_M} {ls : rf_L} {n0 : Nat} {v1 : Int} {v2 : Int} {K : Int → rf_M → Prop} (hS : rl S) (hR : fl 353 406 B M) (iv1 : inr v1) (iv2 : inr v2) (a0 : rf_ld ls 0 = some (.ref 353)) (a1 : rf_ld ls 1 = some (zv v1)) (a2 : rf_ld ls 2 = some (zv v2)) (h : e_W_isWell_62 v1 v2 M K) : lx (cx0 fz) n0 179 62 ls [] (M, S) (vl_i 353 406 B S K) := by
  obtain ⟨Inv, hm, hb⟩ := h
  induction n0 using Nat.strongRecOn generalizing ls M v1 v2 with
  | _ n0 ih =>
    refine E_W_isWell_62b hS hR iv1 iv2 a0 a1 a2 (fun n' hn' v1' v2' M' ls' hR' f0 f1 f2 f3 f4 q2 => ih n' hn' hR' f0 f1 f2 f3 f4 q2) (hb v1 v2 M iv1 iv2 hm)
def e_W_isWell_2b (v1 : Int) (M : rf_M) (b2 : Int → rf_M → Prop) (K : Int → rf_M → Prop) : Prop := (16 ≤ v1 → (em_W_rulesHold  M (fun (z1 : Int) (M1 : rf_M) => e_W_isWell_62 z1 0 M1 K))) ∧ (¬ (16 ≤ v1) → (((Int32.ofInt (Int32.ofInt (gi M 353 55) >>> (Int32.ofInt v1 &&& 31)).toInt &&& Int32.ofInt 1).toInt = 1 → ((0 ≤ v1 ∧ v1 < 16 → (e_W_isWell_48 v1 v1 (gl M 391 (v1).toNat) M b2 K)))) ∧ (¬ (Int32.ofInt (Int32.ofInt (gi M 353 55) >>> (Int32.ofInt v1 &&& 31)).toInt &&& Int32.ofInt 1).toInt = 1 → (inr ((16 * (gi M 353 42)) + v1) ∧ ((0 ≤ ((16 * (gi M 353 42)) + v1) ∧ ((16 * (gi M 353 42)) + v1) < 32 → (e_W_isWell_48 v1 v1 (gl M 376 ((16 * (gi M 353 42)) + v1).toNat) M b2 K)))))))
theorem E_W_isWell_2b {fz : Bool} {S : gS} {B : rf_M} {M : rf_M} {ls : rf_L} {n0 : Nat} {v1 : Int} {b2 : Int → rf_M → Prop} {K : Int → rf_M → Prop} (hS : rl S) (hR : fl 353 406 B M) (iv1 : inr v1) (a0 : rf_ld ls 0 = some (.ref 353)) (a1 : rf_ld ls 1 = some (zv v1)) (hb2 : ∀ n', n' < n0 → ∀ (v1 : Int) (M : rf_M) (ls : rf_L), fl 353 406 B M → inr v1 → rf_ld ls 0 = some (.ref 353) → rf_ld ls 1 = some (zv v1) → b2 v1 M → lx (cx0 fz) n' 179 2 ls [] (M, S) (vl_i 353 406 B S K)) (h : e_W_isWell_2b v1 M b2 K) : lx (cx0 fz) n0 179 2 ls [] (M, S) (vl_i 353 406 B S K) := by
  unfold e_W_isWell_2b at h
  rcases Nat.eq_zero_or_pos n0 with e0 | hp
  · rw [e0]; exact lx_zero
  refine l1 (n := 1) rfl rfl rfl (li_of a1) ?_
  refine l_bi rfl (by decide) ?_
  refine l_ic rfl iv1 ⟨by decide, by decide⟩ (fun c => ?_) (fun c => ?_)
  · replace h := h.1 c
    refine l1 (n := 1) rfl rfl rfl (la_of a0) ?_
    refine b_iv (c := 353) (as := []) (rest := []) rfl (by decide) (ko_11 hS (List.Mem.head _)) rfl rfl (Nat.le_of_ble_eq_true rfl) (fun hq => ?_)
    refine lx_mono (E_W_rulesHold_m hS hR h) ?_
    rintro _ _ ⟨z1, M1, rfl, rfl, r1, iz1, h⟩
    refine l_s1 (n := 1) rfl rfl rfl rfl (fun ls y1 ho => ?_)
    have y2 := ho 0 _ (by decide) (fun q => by cases q.2) a0
    refine l1 (n := 1) rfl rfl rfl rfl ?_
    refine l_s1 (n := 1) rfl rfl rfl rfl (fun ls y3 ho => ?_)
    have y4 := ho 0 _ (by decide) (fun q => by cases q.2) y2
    have y5 := ho 1 _ (by decide) (fun q => by cases q.2) y1
    exact E_W_isWell_62 hS r1 iz1 ⟨by decide, by decide⟩ y4 y5 y3 h
  · replace h := h.2 c
    refine l1 (n := 1) rfl rfl rfl (la_of a0) ?_
    refine l_gr rfl (ko_11 hS (List.Mem.head _)) rfl (fun _ => rfl) (kf_11_68 hR.2 (List.Mem.head _)) ?_
    refine l1 (n := 1) rfl rfl rfl (li_of a1) ?_
    refine l1 (n := 1) rfl rfl rfl (la_of a0) ?_
    refine l_gi rfl (ko_11 hS (List.Mem.head _)) rfl (fun _ => rfl) ?_
    refine l1 (n := 1) rfl rfl rfl (li_of a1) ?_
    refine l_op (T := (Int32.ofInt (gi M 353 55) >>> (Int32.ofInt v1 &&& 31))) rfl rfl rfl ?_
    refine l1 (n := 1) rfl rfl rfl rfl ?_
    refine l_op (T := (Int32.ofInt (Int32.ofInt (gi M 353 55) >>> (Int32.ofInt v1 &&& 31)).toInt &&& Int32.ofInt 1)) rfl rfl rfl ?_
    refine l1 (n := 1) rfl rfl rfl rfl ?_
    refine l_ic rfl (inr_ti _) ⟨by decide, by decide⟩ (fun c => ?_) (fun c => ?_)
    · replace h := h.2 c
      refine l1 (n := 1) rfl rfl rfl (la_of a0) ?_
      refine l_gr rfl (ko_11 hS (List.Mem.head _)) rfl (fun _ => rfl) (kf_11_38 hR.2 (List.Mem.head _)) ?_
      refine l_bi rfl (by decide) ?_
      refine l1 (n := 1) rfl rfl rfl (la_of a0) ?_
      refine l_gi rfl (ko_11 hS (List.Mem.head _)) rfl (fun _ => rfl) ?_
      refine l_mul rfl ?_
      refine l1 (n := 1) rfl rfl rfl (li_of a1) ?_
      refine l_add rfl ?_
      obtain ⟨i1, h⟩ := h
      refine b_la rfl (kc_376 (fz := fz) hS).1 (Nat.le_of_ble_eq_true rfl) i1 (fun q => ?_)
      replace h := h q
      exact E_W_isWell_48 hS hR iv1 iv1 a0 a1 (fun n' hn' => hb2 n' (by omega)) h
    · replace h := h.1 (Classical.not_not.mp c)
      refine l1 (n := 1) rfl rfl rfl (la_of a0) ?_
      refine l_gr rfl (ko_11 hS (List.Mem.head _)) rfl (fun _ => rfl) (kf_11_56 hR.2 (List.Mem.head _)) ?_
      refine l1 (n := 1) rfl rfl rfl (li_of a1) ?_
      refine b_la rfl (kc_391 (fz := fz) hS).1 (Nat.le_of_ble_eq_true rfl) iv1 (fun q => ?_)
      replace h := h q
      refine l3 rfl rfl rfl ?_
      exact E_W_isWell_48 hS hR iv1 iv1 a0 a1 (fun n' hn' => hb2 n' (by omega)) h
def e_W_isWell_2 (v1 : Int) (M : rf_M) (K : Int → rf_M → Prop) : Prop := ∃ Inv : Int → rf_M → Prop, Inv v1 M ∧ ∀ (v1 : Int) (M : rf_M), inr v1 → Inv v1 M → e_W_isWell_2b v1 M Inv K
theorem E_W_isWell_2 {fz : Bool} {S : gS} {B : rf_M} {M : rf_M} {ls : rf_L} {n0 : Nat} {v1 : Int} {K : Int → rf_M → Prop} (hS : rl S) (hR : fl 353 406 B M) (iv1 : inr v1) (a0 : rf_ld ls 0 = some (.ref 353)) (a1 : rf_ld ls 1 = some (zv v1)) (h : e_W_isWell_2 v1 M K) : lx (cx0 fz) n0 179 2 ls [] (M, S) (vl_i 353 406 B S K) := by
  obtain ⟨Inv, hm, hb⟩ := h
  induction n0 using Nat.strongRecOn generalizing ls M v1 with
  | _ n0 ih =>
    refine E_W_isWell_2b hS hR iv1 a0 a1 (fun n' hn' v1' M' ls' hR' f0 f1 f2 q2 => ih n' hn' hR' f0 f1 f2 q2) (hb v1 M iv1 hm)
def e_W_isWell (M : rf_M) (K : Int → rf_M → Prop) : Prop := e_W_isWell_2 0 M K
theorem E_W_isWell {fz : Bool} {S : gS} {B : rf_M} {M : rf_M} {ls : rf_L} {n0 : Nat} {K : Int → rf_M → Prop} (hS : rl S) (hR : fl 353 406 B M) (a0 : rf_ld ls 0 = some (.ref 353)) (h : e_W_isWell M K) : lx (cx0 fz) n0 179 0 ls [] (M, S) (vl_i 353 406 B S K) := by
  unfold e_W_isWell at h
  refine l1 (n := 1) rfl rfl rfl rfl ?_
  refine l_s1 (n := 1) rfl rfl rfl rfl (fun ls y1 ho => ?_)
  have y2 := ho 0 _ (by decide) (fun q => by cases q.2) a0
  exact E_W_isWell_2 hS hR ⟨by decide, by decide⟩ y2 y1 h
def em_W_isWell (M : rf_M) (K : Int → rf_M → Prop) : Prop := e_W_isWell  M K
theorem E_W_isWell_m {fz : Bool} {S : gS} {B : rf_M} {M : rf_M} {n0 : Nat} {K : Int → rf_M → Prop} (hS : rl S) (hR : fl 353 406 B M) (h : em_W_isWell  M K) : lx (cx0 fz) n0 179 0 (lv_args 0 [.ref 353]) [] (M, S) (vl_i 353 406 B S K) :=
  E_W_isWell hS hR rfl h
def e_W_bringIn_58 (v1 : Int) (M : rf_M) (b2 : Int → rf_M → Prop) (K : rf_M → Prop) : Prop := inr (v1 + 1) ∧ (b2 (v1 + 1) M)
theorem E_W_bringIn_58 {fz : Bool} {S : gS} {B : rf_M} {M : rf_M} {ls : rf_L} {n0 : Nat} {v1 : Int} {b2 : Int → rf_M → Prop} {K : rf_M → Prop} (hS : rl S) (hR : fl 353 406 B M) (iv1 : inr v1) (a0 : rf_ld ls 0 = some (.ref 353)) (a1 : rf_ld ls 1 = some (zv v1)) (hb2 : ∀ n', n' < n0 → ∀ (v1 : Int) (M : rf_M) (ls : rf_L), fl 353 406 B M → inr v1 → rf_ld ls 0 = some (.ref 353) → rf_ld ls 1 = some (zv v1) → b2 v1 M → lx (cx0 fz) n' 182 2 ls [] (M, S) (vl_v 353 406 B S K)) (h : e_W_bringIn_58 v1 M b2 K) : lx (cx0 fz) n0 182 58 ls [] (M, S) (vl_v 353 406 B S K) := by
  unfold e_W_bringIn_58 at h
  rcases Nat.eq_zero_or_pos n0 with e0 | hp
  · rw [e0]; exact lx_zero
  refine l_ii rfl a1 (Nat.le_of_ble_eq_true rfl) (fun ls y1 ho => ?_)
  have y2 := ho 0 _ (by decide) (fun q => by cases q.2) a0
  refine l3 rfl rfl rfl ?_
  obtain ⟨i1, h⟩ := h
  exact hb2 _ (by omega) _ _ _ hR i1 y2 y1 h
def e_W_bringIn_66b (v1 : Int) (M : rf_M) (b66 : Int → rf_M → Prop) (K : rf_M → Prop) : Prop := ((gi M 353 58) ≤ v1 → (K M)) ∧ (¬ ((gi M 353 58) ≤ v1) → ((0 ≤ (gi M 353 42) ∧ (gi M 353 42) < 2 → ((0 ≤ v1 ∧ v1 < 400 → (inr ((32 * (gi M 353 42)) + (gi M 378 (gi M 353 42).toNat)) ∧ ((0 ≤ ((32 * (gi M 353 42)) + (gi M 378 (gi M 353 42).toNat)) ∧ ((32 * (gi M 353 42)) + (gi M 378 (gi M 353 42).toNat)) < 64 → (∀ M1 : rf_M, M1 = wi M 379 ((32 * (gi M 353 42)) + (gi M 378 (gi M 353 42).toNat)).toNat (gi M 393 (v1).toNat) → ((0 ≤ (gi M1 353 42) ∧ (gi M1 353 42) < 2 → ((0 ≤ (gi M1 353 42) ∧ (gi M1 353 42) < 2 → (∀ M2 : rf_M, M2 = wi M1 378 (gi M1 353 42).toNat ((gi M1 378 (gi M1 353 42).toNat) + 1) → (inr (v1 + 1) ∧ (b66 (v1 + 1) M2))))))))))))))))
theorem E_W_bringIn_66b {fz : Bool} {S : gS} {B : rf_M} {M : rf_M} {ls : rf_L} {n0 : Nat} {v1 : Int} {b66 : Int → rf_M → Prop} {K : rf_M → Prop} (hS : rl S) (hR : fl 353 406 B M) (iv1 : inr v1) (a0 : rf_ld ls 0 = some (.ref 353)) (a1 : rf_ld ls 1 = some (zv v1)) (hb66 : ∀ n', n' < n0 → ∀ (v1 : Int) (M : rf_M) (ls : rf_L), fl 353 406 B M → inr v1 → rf_ld ls 0 = some (.ref 353) → rf_ld ls 1 = some (zv v1) → b66 v1 M → lx (cx0 fz) n' 182 66 ls [] (M, S) (vl_v 353 406 B S K)) (h : e_W_bringIn_66b v1 M b66 K) : lx (cx0 fz) n0 182 66 ls [] (M, S) (vl_v 353 406 B S K) := by
  unfold e_W_bringIn_66b at h
  rcases Nat.eq_zero_or_pos n0 with e0 | hp
  · rw [e0]; exact lx_zero
  refine l1 (n := 1) rfl rfl rfl (li_of a1) ?_
  refine l1 (n := 1) rfl rfl rfl (la_of a0) ?_
  refine l_gi rfl (ko_11 hS (List.Mem.head _)) rfl (fun _ => rfl) ?_
  refine l_ic rfl iv1 (inr_gi _ _ _) (fun c => ?_) (fun c => ?_)
  · replace h := h.1 c
    exact l_rv rfl rfl hR h
  · replace h := h.2 c
    refine l1 (n := 1) rfl rfl rfl (la_of a0) ?_
    refine l_gr rfl (ko_11 hS (List.Mem.head _)) rfl (fun _ => rfl) (kf_11_41 hR.2 (List.Mem.head _)) ?_
    refine l_bi rfl (by decide) ?_
    refine l1 (n := 1) rfl rfl rfl (la_of a0) ?_
    refine l_gi rfl (ko_11 hS (List.Mem.head _)) rfl (fun _ => rfl) ?_
    refine l_mul rfl ?_
    refine l1 (n := 1) rfl rfl rfl (la_of a0) ?_
    refine l_gr rfl (ko_11 hS (List.Mem.head _)) rfl (fun _ => rfl) (kf_11_40 hR.2 (List.Mem.head _)) ?_
    refine l1 (n := 1) rfl rfl rfl (la_of a0) ?_
    refine l_gi rfl (ko_11 hS (List.Mem.head _)) rfl (fun _ => rfl) ?_
    refine b_ia rfl (kc_378 (fz := fz) hS).1 (Nat.le_of_ble_eq_true rfl) (inr_gi _ _ _) (fun q => ?_)
    replace h := h q
    refine l_add rfl ?_
    refine l1 (n := 1) rfl rfl rfl (la_of a0) ?_
    refine l_gr rfl (ko_11 hS (List.Mem.head _)) rfl (fun _ => rfl) (kf_11_59 hR.2 (List.Mem.head _)) ?_
    refine l1 (n := 1) rfl rfl rfl (li_of a1) ?_
    refine b_ia rfl (kc_393 (fz := fz) hS).1 (Nat.le_of_ble_eq_true rfl) iv1 (fun q => ?_)
    replace h := h q
    obtain ⟨i1, h⟩ := h
    refine b_is rfl (kc_379 (fz := fz) hS).1 (Nat.le_of_ble_eq_true rfl) i1 (fun q M1 e => ?_)
    replace h := h q M1 e
    have r1 := hR.wi (Nat.le_of_ble_eq_true rfl) (Nat.le_of_ble_eq_true rfl) e
    refine l1 (n := 1) rfl rfl rfl (la_of a0) ?_
    refine l_gr rfl (ko_11 hS (List.Mem.head _)) rfl (fun _ => rfl) (kf_11_40 r1.2 (List.Mem.head _)) ?_
    refine l1 (n := 1) rfl rfl rfl (la_of a0) ?_
    refine l_gi rfl (ko_11 hS (List.Mem.head _)) rfl (fun _ => rfl) ?_
    refine l0 rfl rfl rfl ?_
    refine b_ia rfl (kc_378 (fz := fz) hS).1 (Nat.le_of_ble_eq_true rfl) (inr_gi _ _ _) (fun q => ?_)
    replace h := h q
    refine l1 (n := 1) rfl rfl rfl rfl ?_
    refine l_add rfl ?_
    refine b_is rfl (kc_378 (fz := fz) hS).1 (Nat.le_of_ble_eq_true rfl) (inr_gi _ _ _) (fun q M2 e => ?_)
    replace h := h q M2 e
    have r2 := r1.wi (Nat.le_of_ble_eq_true rfl) (Nat.le_of_ble_eq_true rfl) e
    refine l_ii rfl a1 (Nat.le_of_ble_eq_true rfl) (fun ls y1 ho => ?_)
    have y2 := ho 0 _ (by decide) (fun q => by cases q.2) a0
    refine l3 rfl rfl rfl ?_
    obtain ⟨i2, h⟩ := h
    exact hb66 _ (by omega) _ _ _ r2 i2 y2 y1 h
def e_W_bringIn_66 (v1 : Int) (M : rf_M) (K : rf_M → Prop) : Prop := ∃ Inv : Int → rf_M → Prop, Inv v1 M ∧ ∀ (v1 : Int) (M : rf_M), inr v1 → Inv v1 M → e_W_bringIn_66b v1 M Inv K
theorem E_W_bringIn_66 {fz : Bool} {S : gS} {B : rf_M} {M : rf_M} {ls : rf_L} {n0 : Nat} {v1 : Int} {K : rf_M → Prop} (hS : rl S) (hR : fl 353 406 B M) (iv1 : inr v1) (a0 : rf_ld ls 0 = some (.ref 353)) (a1 : rf_ld ls 1 = some (zv v1)) (h : e_W_bringIn_66 v1 M K) : lx (cx0 fz) n0 182 66 ls [] (M, S) (vl_v 353 406 B S K) := by
  obtain ⟨Inv, hm, hb⟩ := h
  induction n0 using Nat.strongRecOn generalizing ls M v1 with
  | _ n0 ih =>
    refine E_W_bringIn_66b hS hR iv1 a0 a1 (fun n' hn' v1' M' ls' hR' f0 f1 f2 q2 => ih n' hn' hR' f0 f1 f2 q2) (hb v1 M iv1 hm)
def e_W_bringIn_2b (v1 : Int) (M : rf_M) (b2 : Int → rf_M → Prop) (K : rf_M → Prop) : Prop := (16 ≤ v1 → (e_W_bringIn_66 0 M K)) ∧ (¬ (16 ≤ v1) → (((Int32.ofInt (Int32.ofInt (gi M 353 55) >>> (Int32.ofInt v1 &&& 31)).toInt &&& Int32.ofInt 1).toInt = 1 → ((0 ≤ v1 ∧ v1 < 16 → (inr ((16 * (gi M 353 42)) + v1) ∧ ((0 ≤ ((16 * (gi M 353 42)) + v1) ∧ ((16 * (gi M 353 42)) + v1) < 32 → (∀ M1 : rf_M, M1 = wl M 376 ((16 * (gi M 353 42)) + v1).toNat (gl M 391 (v1).toNat) → (inr ((16 * (gi M1 353 42)) + v1) ∧ ((0 ≤ ((16 * (gi M1 353 42)) + v1) ∧ ((16 * (gi M1 353 42)) + v1) < 32 → ((0 ≤ ((16 * (gi M1 353 42)) + v1) ∧ ((16 * (gi M1 353 42)) + v1) < 32 → (∀ M2 : rf_M, M2 = wi M1 377 ((16 * (gi M1 353 42)) + v1).toNat ((gi M1 377 ((16 * (gi M1 353 42)) + v1).toNat) + 1) → (e_W_bringIn_58 v1 M2 b2 K)))))))))))))) ∧ (¬ (Int32.ofInt (Int32.ofInt (gi M 353 55) >>> (Int32.ofInt v1 &&& 31)).toInt &&& Int32.ofInt 1).toInt = 1 → (e_W_bringIn_58 v1 M b2 K))))
theorem E_W_bringIn_2b {fz : Bool} {S : gS} {B : rf_M} {M : rf_M} {ls : rf_L} {n0 : Nat} {v1 : Int} {b2 : Int → rf_M → Prop} {K : rf_M → Prop} (hS : rl S) (hR : fl 353 406 B M) (iv1 : inr v1) (a0 : rf_ld ls 0 = some (.ref 353)) (a1 : rf_ld ls 1 = some (zv v1)) (hb2 : ∀ n', n' < n0 → ∀ (v1 : Int) (M : rf_M) (ls : rf_L), fl 353 406 B M → inr v1 → rf_ld ls 0 = some (.ref 353) → rf_ld ls 1 = some (zv v1) → b2 v1 M → lx (cx0 fz) n' 182 2 ls [] (M, S) (vl_v 353 406 B S K)) (h : e_W_bringIn_2b v1 M b2 K) : lx (cx0 fz) n0 182 2 ls [] (M, S) (vl_v 353 406 B S K) := by
  unfold e_W_bringIn_2b at h
  rcases Nat.eq_zero_or_pos n0 with e0 | hp
  · rw [e0]; exact lx_zero
  refine l1 (n := 1) rfl rfl rfl (li_of a1) ?_
  refine l_bi rfl (by decide) ?_
  refine l_ic rfl iv1 ⟨by decide, by decide⟩ (fun c => ?_) (fun c => ?_)
  · replace h := h.1 c
    refine l1 (n := 1) rfl rfl rfl rfl ?_
    refine l_s1 (n := 1) rfl rfl rfl rfl (fun ls y1 ho => ?_)
    have y2 := ho 0 _ (by decide) (fun q => by cases q.2) a0
    exact E_W_bringIn_66 hS hR ⟨by decide, by decide⟩ y2 y1 h
  · replace h := h.2 c
    refine l1 (n := 1) rfl rfl rfl (la_of a0) ?_
    refine l_gi rfl (ko_11 hS (List.Mem.head _)) rfl (fun _ => rfl) ?_
    refine l1 (n := 1) rfl rfl rfl (li_of a1) ?_
    refine l_op (T := (Int32.ofInt (gi M 353 55) >>> (Int32.ofInt v1 &&& 31))) rfl rfl rfl ?_
    refine l1 (n := 1) rfl rfl rfl rfl ?_
    refine l_op (T := (Int32.ofInt (Int32.ofInt (gi M 353 55) >>> (Int32.ofInt v1 &&& 31)).toInt &&& Int32.ofInt 1)) rfl rfl rfl ?_
    refine l1 (n := 1) rfl rfl rfl rfl ?_
    refine l_ic rfl (inr_ti _) ⟨by decide, by decide⟩ (fun c => ?_) (fun c => ?_)
    · replace h := h.2 c
      exact E_W_bringIn_58 hS hR iv1 a0 a1 (fun n' hn' => hb2 n' (by omega)) h
    · replace h := h.1 (Classical.not_not.mp c)
      refine l1 (n := 1) rfl rfl rfl (la_of a0) ?_
      refine l_gr rfl (ko_11 hS (List.Mem.head _)) rfl (fun _ => rfl) (kf_11_38 hR.2 (List.Mem.head _)) ?_
      refine l_bi rfl (by decide) ?_
      refine l1 (n := 1) rfl rfl rfl (la_of a0) ?_
      refine l_gi rfl (ko_11 hS (List.Mem.head _)) rfl (fun _ => rfl) ?_
      refine l_mul rfl ?_
      refine l1 (n := 1) rfl rfl rfl (li_of a1) ?_
      refine l_add rfl ?_
      refine l1 (n := 1) rfl rfl rfl (la_of a0) ?_
      refine l_gr rfl (ko_11 hS (List.Mem.head _)) rfl (fun _ => rfl) (kf_11_56 hR.2 (List.Mem.head _)) ?_
      refine l1 (n := 1) rfl rfl rfl (li_of a1) ?_
      refine b_la rfl (kc_391 (fz := fz) hS).1 (Nat.le_of_ble_eq_true rfl) iv1 (fun q => ?_)
      replace h := h q
      obtain ⟨i1, h⟩ := h
      refine b_ls rfl (kc_376 (fz := fz) hS).1 (Nat.le_of_ble_eq_true rfl) i1 (fun q M1 e => ?_)
      replace h := h q M1 e
      have r1 := hR.wl (Nat.le_of_ble_eq_true rfl) (Nat.le_of_ble_eq_true rfl) e
      refine l1 (n := 1) rfl rfl rfl (la_of a0) ?_
      refine l_gr rfl (ko_11 hS (List.Mem.head _)) rfl (fun _ => rfl) (kf_11_39 r1.2 (List.Mem.head _)) ?_
      refine l_bi rfl (by decide) ?_
      refine l1 (n := 1) rfl rfl rfl (la_of a0) ?_
      refine l_gi rfl (ko_11 hS (List.Mem.head _)) rfl (fun _ => rfl) ?_
      refine l_mul rfl ?_
      refine l1 (n := 1) rfl rfl rfl (li_of a1) ?_
      refine l_add rfl ?_
      refine l0 rfl rfl rfl ?_
      obtain ⟨i2, h⟩ := h
      refine b_ia rfl (kc_377 (fz := fz) hS).1 (Nat.le_of_ble_eq_true rfl) i2 (fun q => ?_)
      replace h := h q
      refine l1 (n := 1) rfl rfl rfl rfl ?_
      refine l_add rfl ?_
      refine b_is rfl (kc_377 (fz := fz) hS).1 (Nat.le_of_ble_eq_true rfl) i2 (fun q M2 e => ?_)
      replace h := h q M2 e
      have r2 := r1.wi (Nat.le_of_ble_eq_true rfl) (Nat.le_of_ble_eq_true rfl) e
      exact E_W_bringIn_58 hS r2 iv1 a0 a1 (fun n' hn' => hb2 n' (by omega)) h
def e_W_bringIn_2 (v1 : Int) (M : rf_M) (K : rf_M → Prop) : Prop := ∃ Inv : Int → rf_M → Prop, Inv v1 M ∧ ∀ (v1 : Int) (M : rf_M), inr v1 → Inv v1 M → e_W_bringIn_2b v1 M Inv K
theorem E_W_bringIn_2 {fz : Bool} {S : gS} {B : rf_M} {M : rf_M} {ls : rf_L} {n0 : Nat} {v1 : Int} {K : rf_M → Prop} (hS : rl S) (hR : fl 353 406 B M) (iv1 : inr v1) (a0 : rf_ld ls 0 = some (.ref 353)) (a1 : rf_ld ls 1 = some (zv v1)) (h : e_W_bringIn_2 v1 M K) : lx (cx0 fz) n0 182 2 ls [] (M, S) (vl_v 353 406 B S K) := by
  obtain ⟨Inv, hm, hb⟩ := h
  induction n0 using Nat.strongRecOn generalizing ls M v1 with
  | _ n0 ih =>
    refine E_W_bringIn_2b hS hR iv1 a0 a1 (fun n' hn' v1' M' ls' hR' f0 f1 f2 q2 => ih n' hn' hR' f0 f1 f2 q2) (hb v1 M iv1 hm)
def e_W_bringIn (M : rf_M) (K : rf_M → Prop) : Prop := e_W_bringIn_2 0 M K
theorem E_W_bringIn {fz : Bool} {S : gS} {B : rf_M} {M : rf_M} {ls : rf_L} {n0 : Nat} {K : rf_M → Prop} (hS : rl S) (hR : fl 353 406 B M) (a0 : rf_ld ls 0 = some (.ref 353)) (h : e_W_bringIn M K) : lx (cx0 fz) n0 182 0 ls [] (M, S) (vl_v 353 406 B S K) := by
  unfold e_W_bringIn at h
  refine l1 (n := 1) rfl rfl rfl rfl ?_
  refine l_s1 (n := 1) rfl rfl rfl rfl (fun ls y1 ho => ?_)
  have y2 := ho 0 _ (by decide) (fun q => by cases q.2) a0
  exact E_W_bringIn_2 hS hR ⟨by decide, by decide⟩ y2 y1 h
def em_W_bringIn (M : rf_M) (K : rf_M → Prop) : Prop := e_W_bringIn  M K
theorem E_W_bringIn_m {fz : Bool} {S : gS} {B : rf_M} {M : rf_M} {n0 : Nat} {K : rf_M → Prop} (hS : rl S) (hR : fl 353 406 B M) (h : em_W_bringIn  M K) : lx (cx0 fz) n0 182 0 (lv_args 0 [.ref 353]) [] (M, S) (vl_v 353 406 B S K) :=
  E_W_bringIn hS hR rfl h
def e_W_turnOf_144 (v1 : Int) (M : rf_M) (K : Int → rf_M → Prop) : Prop := em_W_cutRun v1 M (fun (z1 : Int) (M1 : rf_M) => K z1 M1)
theorem E_W_turnOf_144 {fz : Bool} {S : gS} {B : rf_M} {M : rf_M} {ls : rf_L} {n0 : Nat} {v1 : Int} {K : Int → rf_M → Prop} (hS : rl S) (hR : fl 353 406 B M) (iv1 : inr v1) (a0 : rf_ld ls 0 = some (.ref 353)) (a1 : rf_ld ls 1 = some (zv v1)) (h : e_W_turnOf_144 v1 M K) : lx (cx0 fz) n0 156 144 ls [] (M, S) (vl_i 353 406 B S K) := by
  unfold e_W_turnOf_144 at h
  refine l1 (n := 1) rfl rfl rfl (la_of a0) ?_
  refine l1 (n := 1) rfl rfl rfl (li_of a1) ?_
  refine b_iv (c := 353) (as := [zv v1]) (rest := []) rfl (by decide) (ko_11 hS (List.Mem.head _)) rfl rfl (Nat.le_of_ble_eq_true rfl) (fun hq => ?_)
  refine lx_mono (E_W_cutRun_m hS hR iv1 h) ?_
  rintro _ _ ⟨z1, M1, rfl, rfl, r1, iz1, h⟩
  exact l_ri rfl rfl iz1 r1 h
def e_W_turnOf_111 (v1 : Int) (v2 : Int) (M : rf_M) (K : Int → rf_M → Prop) : Prop := (v2 = 0 → ((0 ≤ v1 ∧ v1 < 8 → ((0 ≤ v1 ∧ v1 < 8 → (∀ M14 : rf_M, M14 = wi M 383 (v1).toNat ((gi M 383 (v1).toNat) + 1) → (em_W_keepRead v1 M14 (fun (M15 : rf_M) => K 0 M15)))))))) ∧ (¬ v2 = 0 → ((v2 = 1 → (e_W_turnOf_144 v1 M K)) ∧ (¬ (v2 = 1) → (em_W_isChanged  M (fun (z1 : Int) (M1 : rf_M) => (z1 = 0 → ((v2 = 3 → ((0 ≤ v1 ∧ v1 < 8 → (∀ M10 : rf_M, M10 = wi M1 382 (v1).toNat 2 → ((0 ≤ v1 ∧ v1 < 8 → (∀ M11 : rf_M, M11 = wi M10 383 (v1).toNat 0 → ((0 ≤ v1 ∧ v1 < 8 → (∀ M12 : rf_M, M12 = wi M11 385 (v1).toNat (Int32.ofInt 0 &&& 1).toInt → (em_W_keepRead v1 M12 (fun (M13 : rf_M) => K 4 M13)))))))))))) ∧ (¬ v2 = 3 → (em_W_isHeld v1 M1 (fun (z2 : Int) (M2 : rf_M) => (z2 = 0 → ((v2 = 2 → (em_W_endThrown v1 (gl M2 353 66) M2 (fun (z9 : Int) (M9 : rf_M) => K z9 M9))) ∧ (¬ v2 = 2 → (em_W_isWell  M2 (fun (z3 : Int) (M3 : rf_M) => (z3 = 0 → (em_W_endThrown v1 (Int64.ofNat 18446744073709551614) M3 (fun (z8 : Int) (M8 : rf_M) => K z8 M8))) ∧ (¬ z3 = 0 → (((gi M3 353 69) = 300 → (K (-1) M3)) ∧ (¬ (gi M3 353 69) = 300 → (em_W_bringIn  M3 (fun (M4 : rf_M) => em_W_firstOf v1 M4 (fun (z5 : Int) (M5 : rf_M) => (0 ≤ v1 ∧ v1 < 8 → ((0 ≤ v1 ∧ v1 < 8 → (inr ((gi M5 383 (v1).toNat) + 1) ∧ (em_W_addRow 1 v1 z5 ((gi M5 383 (v1).toNat) + 1) (gi M5 384 (v1).toNat) (Int64.ofNat 0) M5 (fun (M6 : rf_M) => em_W_over v1 M6 (fun (M7 : rf_M) => K 1 M7)))))))))))))))))) ∧ (¬ (z2 = 0) → (K 6 M2))))))) ∧ (¬ (z1 = 0) → (e_W_turnOf_144 v1 M1 K)))))))
theorem E_W_turnOf_111 {fz : Bool} {S : gS} {B : rf_M} {M : rf_M} {ls : rf_L} {n0 : Nat} {v1 : Int} {v2 : Int} {K : Int → rf_M → Prop} (hS : rl S) (hR : fl 353 406 B M) (iv1 : inr v1) (iv2 : inr v2) (a0 : rf_ld ls 0 = some (.ref 353)) (a1 : rf_ld ls 1 = some (zv v1)) (a2 : rf_ld ls 2 = some (zv v2)) (h : e_W_turnOf_111 v1 v2 M K) : lx (cx0 fz) n0 156 111 ls [] (M, S) (vl_i 353 406 B S K) := by
  unfold e_W_turnOf_111 at h
  refine l1 (n := 1) rfl rfl rfl (li_of a2) ?_
  refine l_if rfl iv2 (fun c => ?_) (fun c => ?_)
  · replace h := h.2 c
    refine l1 (n := 1) rfl rfl rfl (li_of a2) ?_
    refine l1 (n := 1) rfl rfl rfl rfl ?_
    refine l_ic rfl iv2 ⟨by decide, by decide⟩ (fun c => ?_) (fun c => ?_)
    · replace h := h.1 c
      exact E_W_turnOf_144 hS hR iv1 a0 a1 h
    · replace h := h.2 c
      refine l1 (n := 1) rfl rfl rfl (la_of a0) ?_
      refine b_iv (c := 353) (as := []) (rest := []) rfl (by decide) (ko_11 hS (List.Mem.head _)) rfl rfl (Nat.le_of_ble_eq_true rfl) (fun hq => ?_)
      refine lx_mono (E_W_isChanged_m hS hR h) ?_
      rintro _ _ ⟨z1, M1, rfl, rfl, r1, iz1, h⟩
      refine l_if rfl iz1 (fun c => ?_) (fun c => ?_)
      · replace h := h.1 c
        refine l1 (n := 1) rfl rfl rfl (li_of a2) ?_
        refine l1 (n := 1) rfl rfl rfl rfl ?_
        refine l_ic rfl iv2 ⟨by decide, by decide⟩ (fun c => ?_) (fun c => ?_)
        · replace h := h.2 c
          refine l1 (n := 1) rfl rfl rfl (la_of a0) ?_
          refine l1 (n := 1) rfl rfl rfl (li_of a1) ?_
          refine b_iv (c := 353) (as := [zv v1]) (rest := []) rfl (by decide) (ko_11 hS (List.Mem.head _)) rfl rfl (Nat.le_of_ble_eq_true rfl) (fun hq => ?_)
          refine lx_mono (E_W_isHeld_m hS r1 iv1 h) ?_
          rintro _ _ ⟨z2, M2, rfl, rfl, r2, iz2, h⟩
          refine l_if rfl iz2 (fun c => ?_) (fun c => ?_)
          · replace h := h.1 c
            refine l1 (n := 1) rfl rfl rfl (li_of a2) ?_
            refine l1 (n := 1) rfl rfl rfl rfl ?_
            refine l_ic rfl iv2 ⟨by decide, by decide⟩ (fun c => ?_) (fun c => ?_)
            · replace h := h.2 c
              refine l1 (n := 1) rfl rfl rfl (la_of a0) ?_
              refine b_iv (c := 353) (as := []) (rest := []) rfl (by decide) (ko_11 hS (List.Mem.head _)) rfl rfl (Nat.le_of_ble_eq_true rfl) (fun hq => ?_)
              refine lx_mono (E_W_isWell_m hS r2 h) ?_
              rintro _ _ ⟨z3, M3, rfl, rfl, r3, iz3, h⟩
              refine l_if rfl iz3 (fun c => ?_) (fun c => ?_)
              · replace h := h.2 c
                refine l1 (n := 1) rfl rfl rfl (la_of a0) ?_
                refine l_gi rfl (ko_11 hS (List.Mem.head _)) rfl (fun _ => rfl) ?_
                refine l_si rfl (by decide) ?_
                refine l_ic rfl (inr_gi _ _ _) ⟨by decide, by decide⟩ (fun c => ?_) (fun c => ?_)
                · replace h := h.2 c
                  refine l1 (n := 1) rfl rfl rfl (la_of a0) ?_
                  refine b_iv (c := 353) (as := []) (rest := []) rfl (by decide) (ko_11 hS (List.Mem.head _)) rfl rfl (Nat.le_of_ble_eq_true rfl) (fun hq => ?_)
                  refine lx_mono (E_W_bringIn_m hS r3 h) ?_
                  rintro _ _ ⟨M4, rfl, rfl, r4, h⟩
                  refine l1 (n := 1) rfl rfl rfl (la_of a0) ?_
                  refine l1 (n := 1) rfl rfl rfl rfl ?_
                  refine l1 (n := 1) rfl rfl rfl (li_of a1) ?_
                  refine l1 (n := 1) rfl rfl rfl (la_of a0) ?_
                  refine l1 (n := 1) rfl rfl rfl (li_of a1) ?_
                  refine b_iv (c := 353) (as := [zv v1]) (rest := [zv v1, zv 1, .ref 353]) rfl (by decide) (ko_11 hS (List.Mem.head _)) rfl rfl (Nat.le_of_ble_eq_true rfl) (fun hq => ?_)
                  refine lx_mono (E_W_firstOf_m hS r4 iv1 h) ?_
                  rintro _ _ ⟨z5, M5, rfl, rfl, r5, iz5, h⟩
                  refine l1 (n := 1) rfl rfl rfl (la_of a0) ?_
                  refine l_gr rfl (ko_11 hS (List.Mem.head _)) rfl (fun _ => rfl) (kf_11_46 r5.2 (List.Mem.head _)) ?_
                  refine l1 (n := 1) rfl rfl rfl (li_of a1) ?_
                  refine b_ia rfl (kc_383 (fz := fz) hS).1 (Nat.le_of_ble_eq_true rfl) iv1 (fun q => ?_)
                  replace h := h q
                  refine l1 (n := 1) rfl rfl rfl rfl ?_
                  refine l_add rfl ?_
                  refine l1 (n := 1) rfl rfl rfl (la_of a0) ?_
                  refine l_gr rfl (ko_11 hS (List.Mem.head _)) rfl (fun _ => rfl) (kf_11_47 r5.2 (List.Mem.head _)) ?_
                  refine l1 (n := 1) rfl rfl rfl (li_of a1) ?_
                  refine b_ia rfl (kc_384 (fz := fz) hS).1 (Nat.le_of_ble_eq_true rfl) iv1 (fun q => ?_)
                  replace h := h q
                  refine l1 (n := 1) rfl rfl rfl rfl ?_
                  obtain ⟨i1, h⟩ := h
                  refine b_iv (c := 353) (as := [zv 1, zv v1, zv z5, zv ((gi M5 383 (v1).toNat) + 1), zv (gi M5 384 (v1).toNat), .long (Int64.ofNat 0)]) (rest := []) rfl (by decide) (ko_11 hS (List.Mem.head _)) rfl rfl (Nat.le_of_ble_eq_true rfl) (fun hq => ?_)
                  refine lx_mono (E_W_addRow_m hS r5 ⟨by decide, by decide⟩ iv1 iz5 i1 (inr_gi _ _ _) h) ?_
                  rintro _ _ ⟨M6, rfl, rfl, r6, h⟩
                  refine l1 (n := 1) rfl rfl rfl (la_of a0) ?_
                  refine l1 (n := 1) rfl rfl rfl (li_of a1) ?_
                  refine b_iv (c := 353) (as := [zv v1]) (rest := []) rfl (by decide) (ko_11 hS (List.Mem.head _)) rfl rfl (Nat.le_of_ble_eq_true rfl) (fun hq => ?_)
                  refine lx_mono (E_W_over_m hS r6 iv1 h) ?_
                  rintro _ _ ⟨M7, rfl, rfl, r7, h⟩
                  refine l1 (n := 1) rfl rfl rfl rfl ?_
                  exact l_ri rfl rfl ⟨by decide, by decide⟩ r7 h
                · replace h := h.1 (Classical.not_not.mp c)
                  refine l1 (n := 1) rfl rfl rfl rfl ?_
                  exact l_ri rfl rfl ⟨by decide, by decide⟩ r3 h
              · replace h := h.1 (Classical.not_not.mp c)
                refine l1 (n := 1) rfl rfl rfl (la_of a0) ?_
                refine l1 (n := 1) rfl rfl rfl (li_of a1) ?_
                refine l7 (n := 3) rfl rfl rfl rfl ?_
                refine b_iv (c := 353) (as := [zv v1, .long (Int64.ofNat 18446744073709551614)]) (rest := []) rfl (by decide) (ko_11 hS (List.Mem.head _)) rfl rfl (Nat.le_of_ble_eq_true rfl) (fun hq => ?_)
                refine lx_mono (E_W_endThrown_m hS r3 iv1 h) ?_
                rintro _ _ ⟨z8, M8, rfl, rfl, r8, iz8, h⟩
                exact l_ri rfl rfl iz8 r8 h
            · replace h := h.1 (Classical.not_not.mp c)
              refine l1 (n := 1) rfl rfl rfl (la_of a0) ?_
              refine l1 (n := 1) rfl rfl rfl (li_of a1) ?_
              refine l1 (n := 1) rfl rfl rfl (la_of a0) ?_
              refine l_gl rfl (ko_11 hS (List.Mem.head _)) rfl (fun _ => rfl) ?_
              refine b_iv (c := 353) (as := [zv v1, .long (gl M2 353 66)]) (rest := []) rfl (by decide) (ko_11 hS (List.Mem.head _)) rfl rfl (Nat.le_of_ble_eq_true rfl) (fun hq => ?_)
              refine lx_mono (E_W_endThrown_m hS r2 iv1 h) ?_
              rintro _ _ ⟨z9, M9, rfl, rfl, r9, iz9, h⟩
              exact l_ri rfl rfl iz9 r9 h
          · replace h := h.2 c
            refine l_bi rfl (by decide) ?_
            exact l_ri rfl rfl ⟨by decide, by decide⟩ r2 h
        · replace h := h.1 (Classical.not_not.mp c)
          refine l1 (n := 1) rfl rfl rfl (la_of a0) ?_
          refine l_gr rfl (ko_11 hS (List.Mem.head _)) rfl (fun _ => rfl) (kf_11_45 r1.2 (List.Mem.head _)) ?_
          refine l1 (n := 1) rfl rfl rfl (li_of a1) ?_
          refine l1 (n := 1) rfl rfl rfl rfl ?_
          refine b_is rfl (kc_382 (fz := fz) hS).1 (Nat.le_of_ble_eq_true rfl) iv1 (fun q M10 e => ?_)
          replace h := h q M10 e
          have r10 := r1.wi (Nat.le_of_ble_eq_true rfl) (Nat.le_of_ble_eq_true rfl) e
          refine l1 (n := 1) rfl rfl rfl (la_of a0) ?_
          refine l_gr rfl (ko_11 hS (List.Mem.head _)) rfl (fun _ => rfl) (kf_11_46 r10.2 (List.Mem.head _)) ?_
          refine l1 (n := 1) rfl rfl rfl (li_of a1) ?_
          refine l1 (n := 1) rfl rfl rfl rfl ?_
          refine b_is rfl (kc_383 (fz := fz) hS).1 (Nat.le_of_ble_eq_true rfl) iv1 (fun q M11 e => ?_)
          replace h := h q M11 e
          have r11 := r10.wi (Nat.le_of_ble_eq_true rfl) (Nat.le_of_ble_eq_true rfl) e
          refine l1 (n := 1) rfl rfl rfl (la_of a0) ?_
          refine l_gr rfl (ko_11 hS (List.Mem.head _)) rfl (fun _ => rfl) (kf_11_48 r11.2 (List.Mem.head _)) ?_
          refine l1 (n := 1) rfl rfl rfl (li_of a1) ?_
          refine l1 (n := 1) rfl rfl rfl rfl ?_
          refine b_zs rfl (kc_385 (fz := fz) hS).1 (Nat.le_of_ble_eq_true rfl) iv1 (fun q M12 e => ?_)
          replace h := h q M12 e
          have r12 := r11.wi (Nat.le_of_ble_eq_true rfl) (Nat.le_of_ble_eq_true rfl) e
          refine l1 (n := 1) rfl rfl rfl (la_of a0) ?_
          refine l1 (n := 1) rfl rfl rfl (li_of a1) ?_
          refine b_iv (c := 353) (as := [zv v1]) (rest := []) rfl (by decide) (ko_11 hS (List.Mem.head _)) rfl rfl (Nat.le_of_ble_eq_true rfl) (fun hq => ?_)
          refine lx_mono (E_W_keepRead_m hS r12 iv1 h) ?_
          rintro _ _ ⟨M13, rfl, rfl, r13, h⟩
          refine l1 (n := 1) rfl rfl rfl rfl ?_
          exact l_ri rfl rfl ⟨by decide, by decide⟩ r13 h
      · replace h := h.2 c
        exact E_W_turnOf_144 hS r1 iv1 a0 a1 h
  · replace h := h.1 (Classical.not_not.mp c)
    refine l1 (n := 1) rfl rfl rfl (la_of a0) ?_
    refine l_gr rfl (ko_11 hS (List.Mem.head _)) rfl (fun _ => rfl) (kf_11_46 hR.2 (List.Mem.head _)) ?_
    refine l1 (n := 1) rfl rfl rfl (li_of a1) ?_
    refine l0 rfl rfl rfl ?_
    refine b_ia rfl (kc_383 (fz := fz) hS).1 (Nat.le_of_ble_eq_true rfl) iv1 (fun q => ?_)
    replace h := h q
    refine l1 (n := 1) rfl rfl rfl rfl ?_
    refine l_add rfl ?_
    refine b_is rfl (kc_383 (fz := fz) hS).1 (Nat.le_of_ble_eq_true rfl) iv1 (fun q M14 e => ?_)
    replace h := h q M14 e
    have r14 := hR.wi (Nat.le_of_ble_eq_true rfl) (Nat.le_of_ble_eq_true rfl) e
    refine l1 (n := 1) rfl rfl rfl (la_of a0) ?_
    refine l1 (n := 1) rfl rfl rfl (li_of a1) ?_
    refine b_iv (c := 353) (as := [zv v1]) (rest := []) rfl (by decide) (ko_11 hS (List.Mem.head _)) rfl rfl (Nat.le_of_ble_eq_true rfl) (fun hq => ?_)
    refine lx_mono (E_W_keepRead_m hS r14 iv1 h) ?_
    rintro _ _ ⟨M15, rfl, rfl, r15, h⟩
    refine l1 (n := 1) rfl rfl rfl rfl ?_
    exact l_ri rfl rfl ⟨by decide, by decide⟩ r15 h
def e_W_turnOf_77 (v1 : Int) (M : rf_M) (K : Int → rf_M → Prop) : Prop := em_W_walkAnew v1 M (fun (M1 : rf_M) => (0 ≤ v1 ∧ v1 < 8 → (((gi M1 383 (v1).toNat) = 300 → (∀ M3 : rf_M, M3 = wl M1 353 66 (Int64.ofNat 18446744073709551613) → (e_W_turnOf_111 v1 2 M3 K))) ∧ (¬ (gi M1 383 (v1).toNat) = 300 → (em_W_step  M1 (fun (z2 : Int) (M2 : rf_M) => e_W_turnOf_111 v1 z2 M2 K))))))
theorem E_W_turnOf_77 {fz : Bool} {S : gS} {B : rf_M} {M : rf_M} {ls : rf_L} {n0 : Nat} {v1 : Int} {K : Int → rf_M → Prop} (hS : rl S) (hR : fl 353 406 B M) (iv1 : inr v1) (a0 : rf_ld ls 0 = some (.ref 353)) (a1 : rf_ld ls 1 = some (zv v1)) (h : e_W_turnOf_77 v1 M K) : lx (cx0 fz) n0 156 77 ls [] (M, S) (vl_i 353 406 B S K) := by
  unfold e_W_turnOf_77 at h
  refine l1 (n := 1) rfl rfl rfl (la_of a0) ?_
  refine l1 (n := 1) rfl rfl rfl (li_of a1) ?_
  refine b_iv (c := 353) (as := [zv v1]) (rest := []) rfl (by decide) (ko_11 hS (List.Mem.head _)) rfl rfl (Nat.le_of_ble_eq_true rfl) (fun hq => ?_)
  refine lx_mono (E_W_walkAnew_m hS hR iv1 h) ?_
  rintro _ _ ⟨M1, rfl, rfl, r1, h⟩
  refine l1 (n := 1) rfl rfl rfl (la_of a0) ?_
  refine l_gr rfl (ko_11 hS (List.Mem.head _)) rfl (fun _ => rfl) (kf_11_46 r1.2 (List.Mem.head _)) ?_
  refine l1 (n := 1) rfl rfl rfl (li_of a1) ?_
  refine b_ia rfl (kc_383 (fz := fz) hS).1 (Nat.le_of_ble_eq_true rfl) iv1 (fun q => ?_)
  replace h := h q
  refine l_si rfl (by decide) ?_
  refine l_ic rfl (inr_gi _ _ _) ⟨by decide, by decide⟩ (fun c => ?_) (fun c => ?_)
  · replace h := h.2 c
    refine l1 (n := 1) rfl rfl rfl (la_of a0) ?_
    refine b_iv (c := 353) (as := []) (rest := []) rfl (by decide) (ko_11 hS (List.Mem.head _)) rfl rfl (Nat.le_of_ble_eq_true rfl) (fun hq => ?_)
    refine lx_mono (E_W_step_m hS r1 h) ?_
    rintro _ _ ⟨z2, M2, rfl, rfl, r2, iz2, h⟩
    refine l_s1 (n := 1) rfl rfl rfl rfl (fun ls y1 ho => ?_)
    have y2 := ho 0 _ (by decide) (fun q => by cases q.2) a0
    have y3 := ho 1 _ (by decide) (fun q => by cases q.2) a1
    exact E_W_turnOf_111 hS r2 iv1 iz2 y2 y3 y1 h
  · replace h := h.1 (Classical.not_not.mp c)
    refine l1 (n := 1) rfl rfl rfl rfl ?_
    refine l_s1 (n := 1) rfl rfl rfl rfl (fun ls y4 ho => ?_)
    have y5 := ho 0 _ (by decide) (fun q => by cases q.2) a0
    have y6 := ho 1 _ (by decide) (fun q => by cases q.2) a1
    refine l1 (n := 1) rfl rfl rfl (la_of y5) ?_
    refine l7 (n := 3) rfl rfl rfl rfl ?_
    refine l_pl rfl (ko_11 (fz := fz) hS (List.Mem.head _)) rfl (fun _ _ => rfl) (fun M3 e => ?_)
    replace h := h M3 e
    have r3 := r1.wl (Nat.le_of_ble_eq_true rfl) (Nat.le_of_ble_eq_true rfl) e
    refine l3 rfl rfl rfl ?_
    exact E_W_turnOf_111 hS r3 iv1 ⟨by decide, by decide⟩ y5 y6 y4 h
def e_W_turnOf_47 (v1 : Int) (M : rf_M) (K : Int → rf_M → Prop) : Prop := (0 ≤ v1 ∧ v1 < 8 → (((gi M 382 (v1).toNat) = 0 → ((0 ≤ v1 ∧ v1 < 8 → (∀ M1 : rf_M, M1 = wi M 382 (v1).toNat 1 → ((0 ≤ v1 ∧ v1 < 8 → (∀ M2 : rf_M, M2 = wi M1 383 (v1).toNat 0 → ((0 ≤ v1 ∧ v1 < 8 → (∀ M3 : rf_M, M3 = wi M2 386 (v1).toNat 0 → (e_W_turnOf_77 v1 M3 K))))))))))) ∧ (¬ (gi M 382 (v1).toNat) = 0 → (e_W_turnOf_77 v1 M K))))
theorem E_W_turnOf_47 {fz : Bool} {S : gS} {B : rf_M} {M : rf_M} {ls : rf_L} {n0 : Nat} {v1 : Int} {K : Int → rf_M → Prop} (hS : rl S) (hR : fl 353 406 B M) (iv1 : inr v1) (a0 : rf_ld ls 0 = some (.ref 353)) (a1 : rf_ld ls 1 = some (zv v1)) (h : e_W_turnOf_47 v1 M K) : lx (cx0 fz) n0 156 47 ls [] (M, S) (vl_i 353 406 B S K) := by
  unfold e_W_turnOf_47 at h
  refine l1 (n := 1) rfl rfl rfl (la_of a0) ?_
  refine l_gr rfl (ko_11 hS (List.Mem.head _)) rfl (fun _ => rfl) (kf_11_45 hR.2 (List.Mem.head _)) ?_
  refine l1 (n := 1) rfl rfl rfl (li_of a1) ?_
  refine b_ia rfl (kc_382 (fz := fz) hS).1 (Nat.le_of_ble_eq_true rfl) iv1 (fun q => ?_)
  replace h := h q
  refine l_if rfl (inr_gi _ _ _) (fun c => ?_) (fun c => ?_)
  · replace h := h.2 c
    exact E_W_turnOf_77 hS hR iv1 a0 a1 h
  · replace h := h.1 (Classical.not_not.mp c)
    refine l1 (n := 1) rfl rfl rfl (la_of a0) ?_
    refine l_gr rfl (ko_11 hS (List.Mem.head _)) rfl (fun _ => rfl) (kf_11_45 hR.2 (List.Mem.head _)) ?_
    refine l1 (n := 1) rfl rfl rfl (li_of a1) ?_
    refine l1 (n := 1) rfl rfl rfl rfl ?_
    refine b_is rfl (kc_382 (fz := fz) hS).1 (Nat.le_of_ble_eq_true rfl) iv1 (fun q M1 e => ?_)
    replace h := h q M1 e
    have r1 := hR.wi (Nat.le_of_ble_eq_true rfl) (Nat.le_of_ble_eq_true rfl) e
    refine l1 (n := 1) rfl rfl rfl (la_of a0) ?_
    refine l_gr rfl (ko_11 hS (List.Mem.head _)) rfl (fun _ => rfl) (kf_11_46 r1.2 (List.Mem.head _)) ?_
    refine l1 (n := 1) rfl rfl rfl (li_of a1) ?_
    refine l1 (n := 1) rfl rfl rfl rfl ?_
    refine b_is rfl (kc_383 (fz := fz) hS).1 (Nat.le_of_ble_eq_true rfl) iv1 (fun q M2 e => ?_)
    replace h := h q M2 e
    have r2 := r1.wi (Nat.le_of_ble_eq_true rfl) (Nat.le_of_ble_eq_true rfl) e
    refine l1 (n := 1) rfl rfl rfl (la_of a0) ?_
    refine l_gr rfl (ko_11 hS (List.Mem.head _)) rfl (fun _ => rfl) (kf_11_49 r2.2 (List.Mem.head _)) ?_
    refine l1 (n := 1) rfl rfl rfl (li_of a1) ?_
    refine l1 (n := 1) rfl rfl rfl rfl ?_
    refine b_is rfl (kc_386 (fz := fz) hS).1 (Nat.le_of_ble_eq_true rfl) iv1 (fun q M3 e => ?_)
    replace h := h q M3 e
    have r3 := r2.wi (Nat.le_of_ble_eq_true rfl) (Nat.le_of_ble_eq_true rfl) e
    exact E_W_turnOf_77 hS r3 iv1 a0 a1 h
def e_W_turnOf (v1 : Int) (M : rf_M) (K : Int → rf_M → Prop) : Prop := (0 ≤ v1 ∧ v1 < 8 → (((gi M 381 (v1).toNat) = 0 → (K 5 M)) ∧ (¬ (gi M 381 (v1).toNat) = 0 → ((0 ≤ v1 ∧ v1 < 8 → (((gi M 382 (v1).toNat) = 2 → (∀ M1 : rf_M, M1 = wi M 353 42 0 → (em_W_bringRead v1 M1 (fun (M2 : rf_M) => em_W_isChanged  M2 (fun (z3 : Int) (M3 : rf_M) => (z3 = 0 → (K 4 M3)) ∧ (¬ z3 = 0 → ((0 ≤ v1 ∧ v1 < 8 → (∀ M4 : rf_M, M4 = wi M3 382 (v1).toNat 0 → (e_W_turnOf_47 v1 M4 K)))))))))) ∧ (¬ (gi M 382 (v1).toNat) = 2 → (e_W_turnOf_47 v1 M K))))))))
theorem E_W_turnOf {fz : Bool} {S : gS} {B : rf_M} {M : rf_M} {ls : rf_L} {n0 : Nat} {v1 : Int} {K : Int → rf_M → Prop} (hS : rl S) (hR : fl 353 406 B M) (iv1 : inr v1) (a0 : rf_ld ls 0 = some (.ref 353)) (a1 : rf_ld ls 1 = some (zv v1)) (h : e_W_turnOf v1 M K) : lx (cx0 fz) n0 156 0 ls [] (M, S) (vl_i 353 406 B S K) := by
  unfold e_W_turnOf at h
  refine l1 (n := 1) rfl rfl rfl (la_of a0) ?_
  refine l_gr rfl (ko_11 hS (List.Mem.head _)) rfl (fun _ => rfl) (kf_11_44 hR.2 (List.Mem.head _)) ?_
  refine l1 (n := 1) rfl rfl rfl (li_of a1) ?_
  refine b_ia rfl (kc_381 (fz := fz) hS).1 (Nat.le_of_ble_eq_true rfl) iv1 (fun q => ?_)
  replace h := h q
  refine l_if rfl (inr_gi _ _ _) (fun c => ?_) (fun c => ?_)
  · replace h := h.2 c
    refine l1 (n := 1) rfl rfl rfl (la_of a0) ?_
    refine l_gr rfl (ko_11 hS (List.Mem.head _)) rfl (fun _ => rfl) (kf_11_45 hR.2 (List.Mem.head _)) ?_
    refine l1 (n := 1) rfl rfl rfl (li_of a1) ?_
    refine b_ia rfl (kc_382 (fz := fz) hS).1 (Nat.le_of_ble_eq_true rfl) iv1 (fun q => ?_)
    replace h := h q
    refine l1 (n := 1) rfl rfl rfl rfl ?_
    refine l_ic rfl (inr_gi _ _ _) ⟨by decide, by decide⟩ (fun c => ?_) (fun c => ?_)
    · replace h := h.2 c
      exact E_W_turnOf_47 hS hR iv1 a0 a1 h
    · replace h := h.1 (Classical.not_not.mp c)
      refine l1 (n := 1) rfl rfl rfl (la_of a0) ?_
      refine l1 (n := 1) rfl rfl rfl rfl ?_
      refine l_pi rfl (ko_11 (fz := fz) hS (List.Mem.head _)) rfl (fun _ _ => rfl) (fun M1 e => ?_)
      replace h := h M1 e
      have r1 := hR.wi (Nat.le_of_ble_eq_true rfl) (Nat.le_of_ble_eq_true rfl) e
      refine l1 (n := 1) rfl rfl rfl (la_of a0) ?_
      refine l1 (n := 1) rfl rfl rfl (li_of a1) ?_
      refine b_iv (c := 353) (as := [zv v1]) (rest := []) rfl (by decide) (ko_11 hS (List.Mem.head _)) rfl rfl (Nat.le_of_ble_eq_true rfl) (fun hq => ?_)
      refine lx_mono (E_W_bringRead_m hS r1 iv1 h) ?_
      rintro _ _ ⟨M2, rfl, rfl, r2, h⟩
      refine l1 (n := 1) rfl rfl rfl (la_of a0) ?_
      refine b_iv (c := 353) (as := []) (rest := []) rfl (by decide) (ko_11 hS (List.Mem.head _)) rfl rfl (Nat.le_of_ble_eq_true rfl) (fun hq => ?_)
      refine lx_mono (E_W_isChanged_m hS r2 h) ?_
      rintro _ _ ⟨z3, M3, rfl, rfl, r3, iz3, h⟩
      refine l_if rfl iz3 (fun c => ?_) (fun c => ?_)
      · replace h := h.2 c
        refine l1 (n := 1) rfl rfl rfl (la_of a0) ?_
        refine l_gr rfl (ko_11 hS (List.Mem.head _)) rfl (fun _ => rfl) (kf_11_45 r3.2 (List.Mem.head _)) ?_
        refine l1 (n := 1) rfl rfl rfl (li_of a1) ?_
        refine l1 (n := 1) rfl rfl rfl rfl ?_
        refine b_is rfl (kc_382 (fz := fz) hS).1 (Nat.le_of_ble_eq_true rfl) iv1 (fun q M4 e => ?_)
        replace h := h q M4 e
        have r4 := r3.wi (Nat.le_of_ble_eq_true rfl) (Nat.le_of_ble_eq_true rfl) e
        exact E_W_turnOf_47 hS r4 iv1 a0 a1 h
      · replace h := h.1 (Classical.not_not.mp c)
        refine l1 (n := 1) rfl rfl rfl rfl ?_
        exact l_ri rfl rfl ⟨by decide, by decide⟩ r3 h
  · replace h := h.1 (Classical.not_not.mp c)
    refine l1 (n := 1) rfl rfl rfl rfl ?_
    exact l_ri rfl rfl ⟨by decide, by decide⟩ hR h
def em_W_turnOf (x1 : Int) (M : rf_M) (K : Int → rf_M → Prop) : Prop := e_W_turnOf x1 M K
theorem E_W_turnOf_m {fz : Bool} {S : gS} {B : rf_M} {M : rf_M} {n0 : Nat} {x1 : Int} {K : Int → rf_M → Prop} (hS : rl S) (hR : fl 353 406 B M) (ix1 : inr x1) (h : em_W_turnOf x1 M K) : lx (cx0 fz) n0 156 0 (lv_args 0 [.ref 353, zv x1]) [] (M, S) (vl_i 353 406 B S K) :=
  E_W_turnOf hS hR ix1 rfl rfl h
def e_W_turn_22 (s0 : Int) (M : rf_M) (K : Int → rf_M → Prop) : Prop := K s0 M
theorem E_W_turn_22 {fz : Bool} {S : gS} {B : rf_M} {M : rf_M} {ls : rf_L} {n0 : Nat} {s0 : Int} {K : Int → rf_M → Prop} (hS : rl S) (hR : fl 353 406 B M) (is0 : inr s0) (h : e_W_turn_22 s0 M K) : lx (cx0 fz) n0 154 22 ls [zv s0] (M, S) (vl_i 353 406 B S K) := by
  unfold e_W_turn_22 at h
  exact l_ri rfl rfl is0 hR h
def e_W_turn (v1 : Int) (M : rf_M) (K : Int → rf_M → Prop) : Prop := ∀ M1 : rf_M, M1 = wi M 353 0 0 → (em_W_isClient v1 M1 (fun (z2 : Int) (M2 : rf_M) => (z2 = 0 → (e_W_turn_22 (-1) M2 K)) ∧ (¬ (z2 = 0) → (em_W_turnOf v1 M2 (fun (z3 : Int) (M3 : rf_M) => e_W_turn_22 z3 M3 K)))))
theorem E_W_turn {fz : Bool} {S : gS} {B : rf_M} {M : rf_M} {ls : rf_L} {n0 : Nat} {v1 : Int} {K : Int → rf_M → Prop} (hS : rl S) (hR : fl 353 406 B M) (iv1 : inr v1) (a0 : rf_ld ls 0 = some (.ref 353)) (a1 : rf_ld ls 1 = some (zv v1)) (h : e_W_turn v1 M K) : lx (cx0 fz) n0 154 0 ls [] (M, S) (vl_i 353 406 B S K) := by
  unfold e_W_turn at h
  refine l1 (n := 1) rfl rfl rfl (la_of a0) ?_
  refine l1 (n := 1) rfl rfl rfl rfl ?_
  refine l_pi rfl (ko_11 (fz := fz) hS (List.Mem.head _)) rfl (fun _ _ => rfl) (fun M1 e => ?_)
  replace h := h M1 e
  have r1 := hR.wi (Nat.le_of_ble_eq_true rfl) (Nat.le_of_ble_eq_true rfl) e
  refine l1 (n := 1) rfl rfl rfl (la_of a0) ?_
  refine l1 (n := 1) rfl rfl rfl (li_of a1) ?_
  refine b_iv (c := 353) (as := [zv v1]) (rest := []) rfl (by decide) (ko_11 hS (List.Mem.head _)) rfl rfl (Nat.le_of_ble_eq_true rfl) (fun hq => ?_)
  refine lx_mono (E_W_isClient_m hS r1 iv1 h) ?_
  rintro _ _ ⟨z2, M2, rfl, rfl, r2, iz2, h⟩
  refine l_if rfl iz2 (fun c => ?_) (fun c => ?_)
  · replace h := h.1 c
    refine l1 (n := 1) rfl rfl rfl rfl ?_
    exact E_W_turn_22 hS r2 ⟨by decide, by decide⟩ h
  · replace h := h.2 c
    refine l1 (n := 1) rfl rfl rfl (la_of a0) ?_
    refine l1 (n := 1) rfl rfl rfl (li_of a1) ?_
    refine b_iv (c := 353) (as := [zv v1]) (rest := []) rfl (by decide) (ko_11 hS (List.Mem.head _)) rfl rfl (Nat.le_of_ble_eq_true rfl) (fun hq => ?_)
    refine lx_mono (E_W_turnOf_m hS r2 iv1 h) ?_
    rintro _ _ ⟨z3, M3, rfl, rfl, r3, iz3, h⟩
    refine l3 rfl rfl rfl ?_
    exact E_W_turn_22 hS r3 iz3 h
def em_W_turn (x1 : Int) (M : rf_M) (K : Int → rf_M → Prop) : Prop := e_W_turn x1 M K
theorem E_W_turn_m {fz : Bool} {S : gS} {B : rf_M} {M : rf_M} {n0 : Nat} {x1 : Int} {K : Int → rf_M → Prop} (hS : rl S) (hR : fl 353 406 B M) (ix1 : inr x1) (h : em_W_turn x1 M K) : lx (cx0 fz) n0 154 0 (lv_args 0 [.ref 353, zv x1]) [] (M, S) (vl_i 353 406 B S K) :=
  E_W_turn hS hR ix1 rfl rfl h
def e_W_play_16 (M : rf_M) (K : Int → rf_M → Prop) : Prop := K (-1) M
theorem E_W_play_16 {fz : Bool} {S : gS} {B : rf_M} {M : rf_M} {ls : rf_L} {n0 : Nat} {K : Int → rf_M → Prop} (hS : rl S) (hR : fl 353 406 B M) (h : e_W_play_16 M K) : lx (cx0 fz) n0 183 16 ls [] (M, S) (vl_i 353 406 B S K) := by
  unfold e_W_play_16 at h
  refine l1 (n := 1) rfl rfl rfl rfl ?_
  exact l_ri rfl rfl ⟨by decide, by decide⟩ hR h
def e_W_play_66 (v3 : Int) (v4 : Int64) (v7 : Int) (s0 : Int) (s1 : Int) (M : rf_M) (b27 : Int → Int64 → Int → Int → rf_M → Prop) (K : Int → rf_M → Prop) : Prop := inr (s0 + s1) ∧ (inr (v7 + 1) ∧ (b27 v3 v4 (s0 + s1) (v7 + 1) M))
theorem E_W_play_66 {fz : Bool} {S : gS} {B : rf_M} {M : rf_M} {ls : rf_L} {n0 : Nat} {v3 : Int} {v4 : Int64} {v7 : Int} {s0 : Int} {s1 : Int} {b27 : Int → Int64 → Int → Int → rf_M → Prop} {K : Int → rf_M → Prop} (hS : rl S) (hR : fl 353 406 B M) (iv3 : inr v3) (iv7 : inr v7) (is0 : inr s0) (is1 : inr s1) (a0 : rf_ld ls 0 = some (.ref 353)) (a3 : rf_ld ls 3 = some (zv v3)) (a4 : rf_ld ls 4 = some (.long v4)) (a7 : rf_ld ls 7 = some (zv v7)) (hb27 : ∀ n', n' < n0 → ∀ (v3 : Int) (v4 : Int64) (v6 : Int) (v7 : Int) (M : rf_M) (ls : rf_L), fl 353 406 B M → inr v3 → inr v6 → inr v7 → rf_ld ls 0 = some (.ref 353) → rf_ld ls 3 = some (zv v3) → rf_ld ls 4 = some (.long v4) → rf_ld ls 6 = some (zv v6) → rf_ld ls 7 = some (zv v7) → b27 v3 v4 v6 v7 M → lx (cx0 fz) n' 183 27 ls [] (M, S) (vl_i 353 406 B S K)) (h : e_W_play_66 v3 v4 v7 s0 s1 M b27 K) : lx (cx0 fz) n0 183 66 ls [zv s1, zv s0] (M, S) (vl_i 353 406 B S K) := by
  unfold e_W_play_66 at h
  rcases Nat.eq_zero_or_pos n0 with e0 | hp
  · rw [e0]; exact lx_zero
  refine l_add rfl ?_
  refine l_s1 (n := 2) rfl rfl rfl rfl (fun ls y1 ho => ?_)
  have y2 := ho 0 _ (by decide) (fun q => by cases q.2) a0
  have y3 := ho 3 _ (by decide) (fun q => by cases q.2) a3
  have y4 := ho 4 _ (by decide) (fun q => absurd q.1 (by decide)) a4
  have y5 := ho 7 _ (by decide) (fun q => by cases q.2) a7
  refine l_ii rfl y5 (Nat.le_of_ble_eq_true rfl) (fun ls y6 ho => ?_)
  have y7 := ho 0 _ (by decide) (fun q => by cases q.2) y2
  have y8 := ho 3 _ (by decide) (fun q => by cases q.2) y3
  have y9 := ho 4 _ (by decide) (fun q => absurd q.1 (by decide)) y4
  have y10 := ho 6 _ (by decide) (fun q => by cases q.2) y1
  refine l3 rfl rfl rfl ?_
  obtain ⟨i1, h⟩ := h
  obtain ⟨i2, h⟩ := h
  exact hb27 _ (by omega) _ _ _ _ _ _ hR iv3 i1 i2 y7 y8 y9 y10 y6 h
def e_W_play_27b (v3 : Int) (v4 : Int64) (v6 : Int) (v7 : Int) (M : rf_M) (b27 : Int → Int64 → Int → Int → rf_M → Prop) (K : Int → rf_M → Prop) : Prop := (v3 ≤ v7 → (K v6 M)) ∧ (¬ (v3 ≤ v7) → (em_W_turnOf ((((v4 * (Int64.ofNat 6364136223846793005)) + (Int64.ofNat 1442695040888963407)).toUInt64 >>> ((Int32.ofInt 61).toInt64.toUInt64 &&& Int64.toUInt64 63)).toInt64).toInt32.toInt M (fun (z1 : Int) (M1 : rf_M) => (z1 = 1 → (e_W_play_66 v3 ((v4 * (Int64.ofNat 6364136223846793005)) + (Int64.ofNat 1442695040888963407)) v7 v6 1 M1 b27 K)) ∧ (¬ z1 = 1 → (e_W_play_66 v3 ((v4 * (Int64.ofNat 6364136223846793005)) + (Int64.ofNat 1442695040888963407)) v7 v6 0 M1 b27 K)))))
theorem E_W_play_27b {fz : Bool} {S : gS} {B : rf_M} {M : rf_M} {ls : rf_L} {n0 : Nat} {v3 : Int} {v4 : Int64} {v6 : Int} {v7 : Int} {b27 : Int → Int64 → Int → Int → rf_M → Prop} {K : Int → rf_M → Prop} (hS : rl S) (hR : fl 353 406 B M) (iv3 : inr v3) (iv6 : inr v6) (iv7 : inr v7) (a0 : rf_ld ls 0 = some (.ref 353)) (a3 : rf_ld ls 3 = some (zv v3)) (a4 : rf_ld ls 4 = some (.long v4)) (a6 : rf_ld ls 6 = some (zv v6)) (a7 : rf_ld ls 7 = some (zv v7)) (hb27 : ∀ n', n' < n0 → ∀ (v3 : Int) (v4 : Int64) (v6 : Int) (v7 : Int) (M : rf_M) (ls : rf_L), fl 353 406 B M → inr v3 → inr v6 → inr v7 → rf_ld ls 0 = some (.ref 353) → rf_ld ls 3 = some (zv v3) → rf_ld ls 4 = some (.long v4) → rf_ld ls 6 = some (zv v6) → rf_ld ls 7 = some (zv v7) → b27 v3 v4 v6 v7 M → lx (cx0 fz) n' 183 27 ls [] (M, S) (vl_i 353 406 B S K)) (h : e_W_play_27b v3 v4 v6 v7 M b27 K) : lx (cx0 fz) n0 183 27 ls [] (M, S) (vl_i 353 406 B S K) := by
  unfold e_W_play_27b at h
  rcases Nat.eq_zero_or_pos n0 with e0 | hp
  · rw [e0]; exact lx_zero
  refine l1 (n := 2) rfl rfl rfl (li_of a7) ?_
  refine l1 (n := 1) rfl rfl rfl (li_of a3) ?_
  refine l_ic rfl iv7 iv3 (fun c => ?_) (fun c => ?_)
  · replace h := h.1 c
    refine l1 (n := 2) rfl rfl rfl (li_of a6) ?_
    exact l_ri rfl rfl iv6 hR h
  · replace h := h.2 c
    refine l1 (n := 2) rfl rfl rfl (ll_of a4) ?_
    refine l7 (n := 3) rfl rfl rfl rfl ?_
    refine l0 rfl rfl rfl ?_
    refine l7 (n := 3) rfl rfl rfl rfl ?_
    refine l0 rfl rfl rfl ?_
    refine l_s2 (n := 2) rfl rfl rfl rfl (fun ls y1 ho => ?_)
    have y2 := ho 0 _ (by decide) (by decide) (fun q => by cases q.2) a0
    have y3 := ho 3 _ (by decide) (by decide) (fun q => by cases q.2) a3
    have y4 := ho 6 _ (by decide) (by decide) (fun q => by cases q.2) a6
    have y5 := ho 7 _ (by decide) (by decide) (fun q => by cases q.2) a7
    refine l1 (n := 2) rfl rfl rfl (li_of y4) ?_
    refine l1 (n := 1) rfl rfl rfl (la_of y2) ?_
    refine l1 (n := 2) rfl rfl rfl (ll_of y1) ?_
    refine l_bi rfl (by decide) ?_
    refine l0 rfl rfl rfl ?_
    refine l_op (T := ((((v4 * (Int64.ofNat 6364136223846793005)) + (Int64.ofNat 1442695040888963407)).toUInt64 >>> ((Int32.ofInt 61).toInt64.toUInt64 &&& Int64.toUInt64 63)).toInt64).toInt32) rfl rfl rfl ?_
    refine b_iv (c := 353) (as := [zv ((((v4 * (Int64.ofNat 6364136223846793005)) + (Int64.ofNat 1442695040888963407)).toUInt64 >>> ((Int32.ofInt 61).toInt64.toUInt64 &&& Int64.toUInt64 63)).toInt64).toInt32.toInt]) (rest := [zv v6]) rfl (by decide) (ko_11 hS (List.Mem.head _)) rfl rfl (Nat.le_of_ble_eq_true rfl) (fun hq => ?_)
    refine lx_mono (E_W_turnOf_m hS hR (inr_ti _) h) ?_
    rintro _ _ ⟨z1, M1, rfl, rfl, r1, iz1, h⟩
    refine l1 (n := 1) rfl rfl rfl rfl ?_
    refine l_ic rfl iz1 ⟨by decide, by decide⟩ (fun c => ?_) (fun c => ?_)
    · replace h := h.2 c
      refine l1 (n := 1) rfl rfl rfl rfl ?_
      exact E_W_play_66 hS r1 iv3 iv7 iv6 ⟨by decide, by decide⟩ y2 y3 y1 y5 (fun n' hn' => hb27 n' (by omega)) h
    · replace h := h.1 (Classical.not_not.mp c)
      refine l1 (n := 1) rfl rfl rfl rfl ?_
      refine l3 rfl rfl rfl ?_
      exact E_W_play_66 hS r1 iv3 iv7 iv6 ⟨by decide, by decide⟩ y2 y3 y1 y5 (fun n' hn' => hb27 n' (by omega)) h
def e_W_play_27 (v3 : Int) (v4 : Int64) (v6 : Int) (v7 : Int) (M : rf_M) (K : Int → rf_M → Prop) : Prop := ∃ Inv : Int → Int64 → Int → Int → rf_M → Prop, Inv v3 v4 v6 v7 M ∧ ∀ (v3 : Int) (v4 : Int64) (v6 : Int) (v7 : Int) (M : rf_M), inr v3 → inr v6 → inr v7 → Inv v3 v4 v6 v7 M → e_W_play_27b v3 v4 v6 v7 M Inv K
theorem E_W_play_27 {fz : Bool} {S : gS} {B : rf_M} {M : rf_M} {ls : rf_L} {n0 : Nat} {v3 : Int} {v4 : Int64} {v6 : Int} {v7 : Int} {K : Int → rf_M → Prop} (hS : rl S) (hR : fl 353 406 B M) (iv3 : inr v3) (iv6 : inr v6) (iv7 : inr v7) (a0 : rf_ld ls 0 = some (.ref 353)) (a3 : rf_ld ls 3 = some (zv v3)) (a4 : rf_ld ls 4 = some (.long v4)) (a6 : rf_ld ls 6 = some (zv v6)) (a7 : rf_ld ls 7 = some (zv v7)) (h : e_W_play_27 v3 v4 v6 v7 M K) : lx (cx0 fz) n0 183 27 ls [] (M, S) (vl_i 353 406 B S K) := by
  obtain ⟨Inv, hm, hb⟩ := h
  induction n0 using Nat.strongRecOn generalizing ls M v3 v4 v6 v7 with
  | _ n0 ih =>
    refine E_W_play_27b hS hR iv3 iv6 iv7 a0 a3 a4 a6 a7 (fun n' hn' v3' v4' v6' v7' M' ls' hR' f0 f1 f2 f3 f4 f5 f6 f7 q2 => ih n' hn' hR' f0 f1 f2 f3 f4 f5 f6 f7 q2) (hb v3 v4 v6 v7 M iv3 iv6 iv7 hm)
def e_W_play (v1 : Int64) (v3 : Int) (M : rf_M) (K : Int → rf_M → Prop) : Prop := ∀ M1 : rf_M, M1 = wi M 353 0 0 → ((v3 < 0 → (e_W_play_16 M1 K)) ∧ (¬ (v3 < 0) → ((v3 ≤ 2000 → (e_W_play_27 v3 v1 0 0 M1 K)) ∧ (¬ (v3 ≤ 2000) → (e_W_play_16 M1 K)))))
theorem E_W_play {fz : Bool} {S : gS} {B : rf_M} {M : rf_M} {ls : rf_L} {n0 : Nat} {v1 : Int64} {v3 : Int} {K : Int → rf_M → Prop} (hS : rl S) (hR : fl 353 406 B M) (iv3 : inr v3) (a0 : rf_ld ls 0 = some (.ref 353)) (a1 : rf_ld ls 1 = some (.long v1)) (a3 : rf_ld ls 3 = some (zv v3)) (h : e_W_play v1 v3 M K) : lx (cx0 fz) n0 183 0 ls [] (M, S) (vl_i 353 406 B S K) := by
  unfold e_W_play at h
  refine l1 (n := 1) rfl rfl rfl (la_of a0) ?_
  refine l1 (n := 1) rfl rfl rfl rfl ?_
  refine l_pi rfl (ko_11 (fz := fz) hS (List.Mem.head _)) rfl (fun _ _ => rfl) (fun M1 e => ?_)
  replace h := h M1 e
  have r1 := hR.wi (Nat.le_of_ble_eq_true rfl) (Nat.le_of_ble_eq_true rfl) e
  refine l1 (n := 1) rfl rfl rfl (li_of a3) ?_
  refine l_if rfl iv3 (fun c => ?_) (fun c => ?_)
  · replace h := h.1 c
    exact E_W_play_16 hS r1  h
  · replace h := h.2 c
    refine l1 (n := 1) rfl rfl rfl (li_of a3) ?_
    refine l_si rfl (by decide) ?_
    refine l_ic rfl iv3 ⟨by decide, by decide⟩ (fun c => ?_) (fun c => ?_)
    · replace h := h.1 c
      refine l1 (n := 1) rfl rfl rfl (ll_of a1) ?_
      refine l_s2 (n := 2) rfl rfl rfl rfl (fun ls y1 ho => ?_)
      have y2 := ho 0 _ (by decide) (by decide) (fun q => by cases q.2) a0
      have y3 := ho 3 _ (by decide) (by decide) (fun q => by cases q.2) a3
      refine l1 (n := 1) rfl rfl rfl rfl ?_
      refine l_s1 (n := 2) rfl rfl rfl rfl (fun ls y4 ho => ?_)
      have y5 := ho 0 _ (by decide) (fun q => by cases q.2) y2
      have y6 := ho 3 _ (by decide) (fun q => by cases q.2) y3
      have y7 := ho 4 _ (by decide) (fun q => absurd q.1 (by decide)) y1
      refine l1 (n := 1) rfl rfl rfl rfl ?_
      refine l_s1 (n := 2) rfl rfl rfl rfl (fun ls y8 ho => ?_)
      have y9 := ho 0 _ (by decide) (fun q => by cases q.2) y5
      have y10 := ho 3 _ (by decide) (fun q => by cases q.2) y6
      have y11 := ho 4 _ (by decide) (fun q => absurd q.1 (by decide)) y7
      have y12 := ho 6 _ (by decide) (fun q => by cases q.2) y4
      exact E_W_play_27 hS r1 iv3 ⟨by decide, by decide⟩ ⟨by decide, by decide⟩ y9 y10 y11 y12 y8 h
    · replace h := h.2 c
      exact E_W_play_16 hS r1  h
def em_W_play (x1 : Int64) (x2 : Int) (M : rf_M) (K : Int → rf_M → Prop) : Prop := e_W_play x1 x2 M K
theorem E_W_play_m {fz : Bool} {S : gS} {B : rf_M} {M : rf_M} {n0 : Nat} {x1 : Int64} {x2 : Int} {K : Int → rf_M → Prop} (hS : rl S) (hR : fl 353 406 B M) (ix2 : inr x2) (h : em_W_play x1 x2 M K) : lx (cx0 fz) n0 183 0 (lv_args 0 [.ref 353, .long x1, zv x2]) [] (M, S) (vl_i 353 406 B S K) :=
  E_W_play hS hR ix2 rfl rfl rfl h
def e_W_put_25 (M : rf_M) (K : Int → rf_M → Prop) : Prop := K (-1) M
theorem E_W_put_25 {fz : Bool} {S : gS} {B : rf_M} {M : rf_M} {ls : rf_L} {n0 : Nat} {K : Int → rf_M → Prop} (hS : rl S) (hR : fl 353 406 B M) (h : e_W_put_25 M K) : lx (cx0 fz) n0 184 25 ls [] (M, S) (vl_i 353 406 B S K) := by
  unfold e_W_put_25 at h
  refine l1 (n := 1) rfl rfl rfl rfl ?_
  exact l_ri rfl rfl ⟨by decide, by decide⟩ hR h
def e_W_put_65 (v1 : Int) (v2 : Int64) (v4 : Int) (s1 : Int) (s2 : Int64) (M : rf_M) (b35 : Int → Int64 → Int → rf_M → Prop) (K : Int → rf_M → Prop) : Prop := (0 ≤ s1 ∧ s1 < 16 → (∀ M1 : rf_M, M1 = wl M 399 (s1).toNat s2 → (inr (v4 + 1) ∧ (b35 v1 v2 (v4 + 1) M1))))
theorem E_W_put_65 {fz : Bool} {S : gS} {B : rf_M} {M : rf_M} {ls : rf_L} {n0 : Nat} {v1 : Int} {v2 : Int64} {v4 : Int} {s1 : Int} {s2 : Int64} {b35 : Int → Int64 → Int → rf_M → Prop} {K : Int → rf_M → Prop} (hS : rl S) (hR : fl 353 406 B M) (iv1 : inr v1) (iv4 : inr v4) (is1 : inr s1) (a0 : rf_ld ls 0 = some (.ref 353)) (a1 : rf_ld ls 1 = some (zv v1)) (a2 : rf_ld ls 2 = some (.long v2)) (a4 : rf_ld ls 4 = some (zv v4)) (hb35 : ∀ n', n' < n0 → ∀ (v1 : Int) (v2 : Int64) (v4 : Int) (M : rf_M) (ls : rf_L), fl 353 406 B M → inr v1 → inr v4 → rf_ld ls 0 = some (.ref 353) → rf_ld ls 1 = some (zv v1) → rf_ld ls 2 = some (.long v2) → rf_ld ls 4 = some (zv v4) → b35 v1 v2 v4 M → lx (cx0 fz) n' 184 35 ls [] (M, S) (vl_i 353 406 B S K)) (h : e_W_put_65 v1 v2 v4 s1 s2 M b35 K) : lx (cx0 fz) n0 184 65 ls [.long s2, zv s1, .ref 399] (M, S) (vl_i 353 406 B S K) := by
  unfold e_W_put_65 at h
  rcases Nat.eq_zero_or_pos n0 with e0 | hp
  · rw [e0]; exact lx_zero
  refine b_ls rfl (kc_399 (fz := fz) hS).1 (Nat.le_of_ble_eq_true rfl) is1 (fun q M1 e => ?_)
  replace h := h q M1 e
  have r1 := hR.wl (Nat.le_of_ble_eq_true rfl) (Nat.le_of_ble_eq_true rfl) e
  refine l_ii rfl a4 (Nat.le_of_ble_eq_true rfl) (fun ls y1 ho => ?_)
  have y2 := ho 0 _ (by decide) (fun q => by cases q.2) a0
  have y3 := ho 1 _ (by decide) (fun q => by cases q.2) a1
  have y4 := ho 2 _ (by decide) (fun q => absurd q.1 (by decide)) a2
  refine l3 rfl rfl rfl ?_
  obtain ⟨i1, h⟩ := h
  exact hb35 _ (by omega) _ _ _ _ _ r1 iv1 i1 y2 y3 y4 y1 h
def e_W_put_35b (v1 : Int) (v2 : Int64) (v4 : Int) (M : rf_M) (b35 : Int → Int64 → Int → rf_M → Prop) (K : Int → rf_M → Prop) : Prop := (16 ≤ v4 → (em_W_rulesHold  M (fun (z1 : Int) (M1 : rf_M) => (z1 = 0 → (K (-2) M1)) ∧ (¬ z1 = 0 → ((0 ≤ v1 ∧ v1 < 32 → (∀ M2 : rf_M, M2 = wl M1 376 (v1).toNat v2 → ((0 ≤ v1 ∧ v1 < 32 → ((0 ≤ v1 ∧ v1 < 32 → (∀ M3 : rf_M, M3 = wi M2 377 (v1).toNat ((gi M2 377 (v1).toNat) + 1) → (em_W_addRow 0 (-1) v1 0 0 v2 M3 (fun (M4 : rf_M) => (0 ≤ v1 ∧ v1 < 32 → (K (gi M4 377 (v1).toNat) M4)))))))))))))))) ∧ (¬ (16 ≤ v4) → ((v4 = v1 → (e_W_put_65 v1 v2 v4 v4 v2 M b35 K)) ∧ (¬ v4 = v1 → ((0 ≤ v4 ∧ v4 < 32 → (e_W_put_65 v1 v2 v4 v4 (gl M 376 (v4).toNat) M b35 K))))))
theorem E_W_put_35b {fz : Bool} {S : gS} {B : rf_M} {M : rf_M} {ls : rf_L} {n0 : Nat} {v1 : Int} {v2 : Int64} {v4 : Int} {b35 : Int → Int64 → Int → rf_M → Prop} {K : Int → rf_M → Prop} (hS : rl S) (hR : fl 353 406 B M) (iv1 : inr v1) (iv4 : inr v4) (a0 : rf_ld ls 0 = some (.ref 353)) (a1 : rf_ld ls 1 = some (zv v1)) (a2 : rf_ld ls 2 = some (.long v2)) (a4 : rf_ld ls 4 = some (zv v4)) (hb35 : ∀ n', n' < n0 → ∀ (v1 : Int) (v2 : Int64) (v4 : Int) (M : rf_M) (ls : rf_L), fl 353 406 B M → inr v1 → inr v4 → rf_ld ls 0 = some (.ref 353) → rf_ld ls 1 = some (zv v1) → rf_ld ls 2 = some (.long v2) → rf_ld ls 4 = some (zv v4) → b35 v1 v2 v4 M → lx (cx0 fz) n' 184 35 ls [] (M, S) (vl_i 353 406 B S K)) (h : e_W_put_35b v1 v2 v4 M b35 K) : lx (cx0 fz) n0 184 35 ls [] (M, S) (vl_i 353 406 B S K) := by
  unfold e_W_put_35b at h
  rcases Nat.eq_zero_or_pos n0 with e0 | hp
  · rw [e0]; exact lx_zero
  refine l1 (n := 2) rfl rfl rfl (li_of a4) ?_
  refine l_bi rfl (by decide) ?_
  refine l_ic rfl iv4 ⟨by decide, by decide⟩ (fun c => ?_) (fun c => ?_)
  · replace h := h.1 c
    refine l1 (n := 1) rfl rfl rfl (la_of a0) ?_
    refine b_iv (c := 353) (as := []) (rest := []) rfl (by decide) (ko_11 hS (List.Mem.head _)) rfl rfl (Nat.le_of_ble_eq_true rfl) (fun hq => ?_)
    refine lx_mono (E_W_rulesHold_m hS hR h) ?_
    rintro _ _ ⟨z1, M1, rfl, rfl, r1, iz1, h⟩
    refine l_if rfl iz1 (fun c => ?_) (fun c => ?_)
    · replace h := h.2 c
      refine l1 (n := 1) rfl rfl rfl (la_of a0) ?_
      refine l_gr rfl (ko_11 hS (List.Mem.head _)) rfl (fun _ => rfl) (kf_11_38 r1.2 (List.Mem.head _)) ?_
      refine l1 (n := 1) rfl rfl rfl (li_of a1) ?_
      refine l1 (n := 1) rfl rfl rfl (ll_of a2) ?_
      refine b_ls rfl (kc_376 (fz := fz) hS).1 (Nat.le_of_ble_eq_true rfl) iv1 (fun q M2 e => ?_)
      replace h := h q M2 e
      have r2 := r1.wl (Nat.le_of_ble_eq_true rfl) (Nat.le_of_ble_eq_true rfl) e
      refine l1 (n := 1) rfl rfl rfl (la_of a0) ?_
      refine l_gr rfl (ko_11 hS (List.Mem.head _)) rfl (fun _ => rfl) (kf_11_39 r2.2 (List.Mem.head _)) ?_
      refine l1 (n := 1) rfl rfl rfl (li_of a1) ?_
      refine l0 rfl rfl rfl ?_
      refine b_ia rfl (kc_377 (fz := fz) hS).1 (Nat.le_of_ble_eq_true rfl) iv1 (fun q => ?_)
      replace h := h q
      refine l1 (n := 1) rfl rfl rfl rfl ?_
      refine l_add rfl ?_
      refine b_is rfl (kc_377 (fz := fz) hS).1 (Nat.le_of_ble_eq_true rfl) iv1 (fun q M3 e => ?_)
      replace h := h q M3 e
      have r3 := r2.wi (Nat.le_of_ble_eq_true rfl) (Nat.le_of_ble_eq_true rfl) e
      refine l1 (n := 1) rfl rfl rfl (la_of a0) ?_
      refine l1 (n := 1) rfl rfl rfl rfl ?_
      refine l1 (n := 1) rfl rfl rfl rfl ?_
      refine l1 (n := 1) rfl rfl rfl (li_of a1) ?_
      refine l1 (n := 1) rfl rfl rfl rfl ?_
      refine l1 (n := 1) rfl rfl rfl rfl ?_
      refine l1 (n := 1) rfl rfl rfl (ll_of a2) ?_
      refine b_iv (c := 353) (as := [zv 0, zv (-1), zv v1, zv 0, zv 0, .long v2]) (rest := []) rfl (by decide) (ko_11 hS (List.Mem.head _)) rfl rfl (Nat.le_of_ble_eq_true rfl) (fun hq => ?_)
      refine lx_mono (E_W_addRow_m hS r3 ⟨by decide, by decide⟩ ⟨by decide, by decide⟩ iv1 ⟨by decide, by decide⟩ ⟨by decide, by decide⟩ h) ?_
      rintro _ _ ⟨M4, rfl, rfl, r4, h⟩
      refine l1 (n := 1) rfl rfl rfl (la_of a0) ?_
      refine l_gr rfl (ko_11 hS (List.Mem.head _)) rfl (fun _ => rfl) (kf_11_39 r4.2 (List.Mem.head _)) ?_
      refine l1 (n := 1) rfl rfl rfl (li_of a1) ?_
      refine b_ia rfl (kc_377 (fz := fz) hS).1 (Nat.le_of_ble_eq_true rfl) iv1 (fun q => ?_)
      replace h := h q
      exact l_ri rfl rfl (inr_gi _ _ _) r4 h
    · replace h := h.1 (Classical.not_not.mp c)
      refine l_bi rfl (by decide) ?_
      exact l_ri rfl rfl ⟨by decide, by decide⟩ r1 h
  · replace h := h.2 c
    refine l1 (n := 1) rfl rfl rfl (la_of a0) ?_
    refine l_gr rfl (ko_11 hS (List.Mem.head _)) rfl (fun _ => rfl) (kf_11_68 hR.2 (List.Mem.head _)) ?_
    refine l1 (n := 2) rfl rfl rfl (li_of a4) ?_
    refine l1 (n := 2) rfl rfl rfl (li_of a4) ?_
    refine l1 (n := 1) rfl rfl rfl (li_of a1) ?_
    refine l_ic rfl iv4 iv1 (fun c => ?_) (fun c => ?_)
    · replace h := h.2 c
      refine l1 (n := 1) rfl rfl rfl (la_of a0) ?_
      refine l_gr rfl (ko_11 hS (List.Mem.head _)) rfl (fun _ => rfl) (kf_11_38 hR.2 (List.Mem.head _)) ?_
      refine l1 (n := 2) rfl rfl rfl (li_of a4) ?_
      refine b_la rfl (kc_376 (fz := fz) hS).1 (Nat.le_of_ble_eq_true rfl) iv4 (fun q => ?_)
      replace h := h q
      exact E_W_put_65 hS hR iv1 iv4 iv4 a0 a1 a2 a4 (fun n' hn' => hb35 n' (by omega)) h
    · replace h := h.1 (Classical.not_not.mp c)
      refine l1 (n := 1) rfl rfl rfl (ll_of a2) ?_
      refine l3 rfl rfl rfl ?_
      exact E_W_put_65 hS hR iv1 iv4 iv4 a0 a1 a2 a4 (fun n' hn' => hb35 n' (by omega)) h
def e_W_put_35 (v1 : Int) (v2 : Int64) (v4 : Int) (M : rf_M) (K : Int → rf_M → Prop) : Prop := ∃ Inv : Int → Int64 → Int → rf_M → Prop, Inv v1 v2 v4 M ∧ ∀ (v1 : Int) (v2 : Int64) (v4 : Int) (M : rf_M), inr v1 → inr v4 → Inv v1 v2 v4 M → e_W_put_35b v1 v2 v4 M Inv K
theorem E_W_put_35 {fz : Bool} {S : gS} {B : rf_M} {M : rf_M} {ls : rf_L} {n0 : Nat} {v1 : Int} {v2 : Int64} {v4 : Int} {K : Int → rf_M → Prop} (hS : rl S) (hR : fl 353 406 B M) (iv1 : inr v1) (iv4 : inr v4) (a0 : rf_ld ls 0 = some (.ref 353)) (a1 : rf_ld ls 1 = some (zv v1)) (a2 : rf_ld ls 2 = some (.long v2)) (a4 : rf_ld ls 4 = some (zv v4)) (h : e_W_put_35 v1 v2 v4 M K) : lx (cx0 fz) n0 184 35 ls [] (M, S) (vl_i 353 406 B S K) := by
  obtain ⟨Inv, hm, hb⟩ := h
  induction n0 using Nat.strongRecOn generalizing ls M v1 v2 v4 with
  | _ n0 ih =>
    refine E_W_put_35b hS hR iv1 iv4 a0 a1 a2 a4 (fun n' hn' v1' v2' v4' M' ls' hR' f0 f1 f2 f3 f4 f5 q2 => ih n' hn' hR' f0 f1 f2 f3 f4 f5 q2) (hb v1 v2 v4 M iv1 iv4 hm)
def e_W_put (v1 : Int) (v2 : Int64) (M : rf_M) (K : Int → rf_M → Prop) : Prop := ∀ M1 : rf_M, M1 = wi M 353 0 0 → ((v1 < 0 → (e_W_put_25 M1 K)) ∧ (¬ (v1 < 0) → ((16 ≤ v1 → (e_W_put_25 M1 K)) ∧ (¬ (16 ≤ v1) → (((gi M1 353 69) = 300 → (e_W_put_25 M1 K)) ∧ (¬ (gi M1 353 69) = 300 → (∀ M2 : rf_M, M2 = wi M1 353 42 0 → (e_W_put_35 v1 v2 0 M2 K))))))))
theorem E_W_put {fz : Bool} {S : gS} {B : rf_M} {M : rf_M} {ls : rf_L} {n0 : Nat} {v1 : Int} {v2 : Int64} {K : Int → rf_M → Prop} (hS : rl S) (hR : fl 353 406 B M) (iv1 : inr v1) (a0 : rf_ld ls 0 = some (.ref 353)) (a1 : rf_ld ls 1 = some (zv v1)) (a2 : rf_ld ls 2 = some (.long v2)) (h : e_W_put v1 v2 M K) : lx (cx0 fz) n0 184 0 ls [] (M, S) (vl_i 353 406 B S K) := by
  unfold e_W_put at h
  refine l1 (n := 1) rfl rfl rfl (la_of a0) ?_
  refine l1 (n := 1) rfl rfl rfl rfl ?_
  refine l_pi rfl (ko_11 (fz := fz) hS (List.Mem.head _)) rfl (fun _ _ => rfl) (fun M1 e => ?_)
  replace h := h M1 e
  have r1 := hR.wi (Nat.le_of_ble_eq_true rfl) (Nat.le_of_ble_eq_true rfl) e
  refine l1 (n := 1) rfl rfl rfl (li_of a1) ?_
  refine l_if rfl iv1 (fun c => ?_) (fun c => ?_)
  · replace h := h.1 c
    exact E_W_put_25 hS r1  h
  · replace h := h.2 c
    refine l1 (n := 1) rfl rfl rfl (li_of a1) ?_
    refine l_bi rfl (by decide) ?_
    refine l_ic rfl iv1 ⟨by decide, by decide⟩ (fun c => ?_) (fun c => ?_)
    · replace h := h.1 c
      exact E_W_put_25 hS r1  h
    · replace h := h.2 c
      refine l1 (n := 1) rfl rfl rfl (la_of a0) ?_
      refine l_gi rfl (ko_11 hS (List.Mem.head _)) rfl (fun _ => rfl) ?_
      refine l_si rfl (by decide) ?_
      refine l_ic rfl (inr_gi _ _ _) ⟨by decide, by decide⟩ (fun c => ?_) (fun c => ?_)
      · replace h := h.2 c
        refine l1 (n := 1) rfl rfl rfl (la_of a0) ?_
        refine l1 (n := 1) rfl rfl rfl rfl ?_
        refine l_pi rfl (ko_11 (fz := fz) hS (List.Mem.head _)) rfl (fun _ _ => rfl) (fun M2 e => ?_)
        replace h := h M2 e
        have r2 := r1.wi (Nat.le_of_ble_eq_true rfl) (Nat.le_of_ble_eq_true rfl) e
        refine l1 (n := 1) rfl rfl rfl rfl ?_
        refine l_s1 (n := 2) rfl rfl rfl rfl (fun ls y1 ho => ?_)
        have y2 := ho 0 _ (by decide) (fun q => by cases q.2) a0
        have y3 := ho 1 _ (by decide) (fun q => by cases q.2) a1
        have y4 := ho 2 _ (by decide) (fun q => absurd q.1 (by decide)) a2
        exact E_W_put_35 hS r2 iv1 ⟨by decide, by decide⟩ y2 y3 y4 y1 h
      · replace h := h.1 (Classical.not_not.mp c)
        exact E_W_put_25 hS r1  h
def em_W_put (x1 : Int) (x2 : Int64) (M : rf_M) (K : Int → rf_M → Prop) : Prop := e_W_put x1 x2 M K
theorem E_W_put_m {fz : Bool} {S : gS} {B : rf_M} {M : rf_M} {n0 : Nat} {x1 : Int} {x2 : Int64} {K : Int → rf_M → Prop} (hS : rl S) (hR : fl 353 406 B M) (ix1 : inr x1) (h : em_W_put x1 x2 M K) : lx (cx0 fz) n0 184 0 (lv_args 0 [.ref 353, zv x1, .long x2]) [] (M, S) (vl_i 353 406 B S K) :=
  E_W_put hS hR ix1 rfl rfl rfl h
def e_W_cell_25 (s0 : Int64) (M : rf_M) (K : Int64 → rf_M → Prop) : Prop := K s0 M
theorem E_W_cell_25 {fz : Bool} {S : gS} {B : rf_M} {M : rf_M} {ls : rf_L} {n0 : Nat} {s0 : Int64} {K : Int64 → rf_M → Prop} (hS : rl S) (hR : fl 353 406 B M) (h : e_W_cell_25 s0 M K) : lx (cx0 fz) n0 185 25 ls [.long s0] (M, S) (vl_l 353 406 B S K) := by
  unfold e_W_cell_25 at h
  exact l_rl rfl rfl hR h
def e_W_cell_15 (M : rf_M) (K : Int64 → rf_M → Prop) : Prop := e_W_cell_25 (Int64.ofNat 0) M K
theorem E_W_cell_15 {fz : Bool} {S : gS} {B : rf_M} {M : rf_M} {ls : rf_L} {n0 : Nat} {K : Int64 → rf_M → Prop} (hS : rl S) (hR : fl 353 406 B M) (h : e_W_cell_15 M K) : lx (cx0 fz) n0 185 15 ls [] (M, S) (vl_l 353 406 B S K) := by
  unfold e_W_cell_15 at h
  refine l1 (n := 1) rfl rfl rfl rfl ?_
  refine l3 rfl rfl rfl ?_
  exact E_W_cell_25 hS hR  h
def e_W_cell (v1 : Int) (M : rf_M) (K : Int64 → rf_M → Prop) : Prop := ∀ M1 : rf_M, M1 = wi M 353 0 0 → ((v1 < 0 → (e_W_cell_15 M1 K)) ∧ (¬ (v1 < 0) → ((v1 < 16 → ((0 ≤ v1 ∧ v1 < 32 → (e_W_cell_25 (gl M1 376 (v1).toNat) M1 K)))) ∧ (¬ (v1 < 16) → (e_W_cell_15 M1 K)))))
theorem E_W_cell {fz : Bool} {S : gS} {B : rf_M} {M : rf_M} {ls : rf_L} {n0 : Nat} {v1 : Int} {K : Int64 → rf_M → Prop} (hS : rl S) (hR : fl 353 406 B M) (iv1 : inr v1) (a0 : rf_ld ls 0 = some (.ref 353)) (a1 : rf_ld ls 1 = some (zv v1)) (h : e_W_cell v1 M K) : lx (cx0 fz) n0 185 0 ls [] (M, S) (vl_l 353 406 B S K) := by
  unfold e_W_cell at h
  refine l1 (n := 1) rfl rfl rfl (la_of a0) ?_
  refine l1 (n := 1) rfl rfl rfl rfl ?_
  refine l_pi rfl (ko_11 (fz := fz) hS (List.Mem.head _)) rfl (fun _ _ => rfl) (fun M1 e => ?_)
  replace h := h M1 e
  have r1 := hR.wi (Nat.le_of_ble_eq_true rfl) (Nat.le_of_ble_eq_true rfl) e
  refine l1 (n := 1) rfl rfl rfl (li_of a1) ?_
  refine l_if rfl iv1 (fun c => ?_) (fun c => ?_)
  · replace h := h.1 c
    exact E_W_cell_15 hS r1  h
  · replace h := h.2 c
    refine l1 (n := 1) rfl rfl rfl (li_of a1) ?_
    refine l_bi rfl (by decide) ?_
    refine l_ic rfl iv1 ⟨by decide, by decide⟩ (fun c => ?_) (fun c => ?_)
    · replace h := h.1 c
      refine l1 (n := 1) rfl rfl rfl (la_of a0) ?_
      refine l_gr rfl (ko_11 hS (List.Mem.head _)) rfl (fun _ => rfl) (kf_11_38 r1.2 (List.Mem.head _)) ?_
      refine l1 (n := 1) rfl rfl rfl (li_of a1) ?_
      refine b_la rfl (kc_376 (fz := fz) hS).1 (Nat.le_of_ble_eq_true rfl) iv1 (fun q => ?_)
      replace h := h q
      exact E_W_cell_25 hS r1  h
    · replace h := h.2 c
      exact E_W_cell_15 hS r1  h
def em_W_cell (x1 : Int) (M : rf_M) (K : Int64 → rf_M → Prop) : Prop := e_W_cell x1 M K
theorem E_W_cell_m {fz : Bool} {S : gS} {B : rf_M} {M : rf_M} {n0 : Nat} {x1 : Int} {K : Int64 → rf_M → Prop} (hS : rl S) (hR : fl 353 406 B M) (ix1 : inr x1) (h : em_W_cell x1 M K) : lx (cx0 fz) n0 185 0 (lv_args 0 [.ref 353, zv x1]) [] (M, S) (vl_l 353 406 B S K) :=
  E_W_cell hS hR ix1 rfl rfl h
def e_W_version_25 (s0 : Int) (M : rf_M) (K : Int → rf_M → Prop) : Prop := K s0 M
theorem E_W_version_25 {fz : Bool} {S : gS} {B : rf_M} {M : rf_M} {ls : rf_L} {n0 : Nat} {s0 : Int} {K : Int → rf_M → Prop} (hS : rl S) (hR : fl 353 406 B M) (is0 : inr s0) (h : e_W_version_25 s0 M K) : lx (cx0 fz) n0 186 25 ls [zv s0] (M, S) (vl_i 353 406 B S K) := by
  unfold e_W_version_25 at h
  exact l_ri rfl rfl is0 hR h
def e_W_version_15 (M : rf_M) (K : Int → rf_M → Prop) : Prop := e_W_version_25 (-1) M K
theorem E_W_version_15 {fz : Bool} {S : gS} {B : rf_M} {M : rf_M} {ls : rf_L} {n0 : Nat} {K : Int → rf_M → Prop} (hS : rl S) (hR : fl 353 406 B M) (h : e_W_version_15 M K) : lx (cx0 fz) n0 186 15 ls [] (M, S) (vl_i 353 406 B S K) := by
  unfold e_W_version_15 at h
  refine l1 (n := 1) rfl rfl rfl rfl ?_
  refine l3 rfl rfl rfl ?_
  exact E_W_version_25 hS hR ⟨by decide, by decide⟩ h
def e_W_version (v1 : Int) (M : rf_M) (K : Int → rf_M → Prop) : Prop := ∀ M1 : rf_M, M1 = wi M 353 0 0 → ((v1 < 0 → (e_W_version_15 M1 K)) ∧ (¬ (v1 < 0) → ((v1 < 16 → ((0 ≤ v1 ∧ v1 < 32 → (e_W_version_25 (gi M1 377 (v1).toNat) M1 K)))) ∧ (¬ (v1 < 16) → (e_W_version_15 M1 K)))))
theorem E_W_version {fz : Bool} {S : gS} {B : rf_M} {M : rf_M} {ls : rf_L} {n0 : Nat} {v1 : Int} {K : Int → rf_M → Prop} (hS : rl S) (hR : fl 353 406 B M) (iv1 : inr v1) (a0 : rf_ld ls 0 = some (.ref 353)) (a1 : rf_ld ls 1 = some (zv v1)) (h : e_W_version v1 M K) : lx (cx0 fz) n0 186 0 ls [] (M, S) (vl_i 353 406 B S K) := by
  unfold e_W_version at h
  refine l1 (n := 1) rfl rfl rfl (la_of a0) ?_
  refine l1 (n := 1) rfl rfl rfl rfl ?_
  refine l_pi rfl (ko_11 (fz := fz) hS (List.Mem.head _)) rfl (fun _ _ => rfl) (fun M1 e => ?_)
  replace h := h M1 e
  have r1 := hR.wi (Nat.le_of_ble_eq_true rfl) (Nat.le_of_ble_eq_true rfl) e
  refine l1 (n := 1) rfl rfl rfl (li_of a1) ?_
  refine l_if rfl iv1 (fun c => ?_) (fun c => ?_)
  · replace h := h.1 c
    exact E_W_version_15 hS r1  h
  · replace h := h.2 c
    refine l1 (n := 1) rfl rfl rfl (li_of a1) ?_
    refine l_bi rfl (by decide) ?_
    refine l_ic rfl iv1 ⟨by decide, by decide⟩ (fun c => ?_) (fun c => ?_)
    · replace h := h.1 c
      refine l1 (n := 1) rfl rfl rfl (la_of a0) ?_
      refine l_gr rfl (ko_11 hS (List.Mem.head _)) rfl (fun _ => rfl) (kf_11_39 r1.2 (List.Mem.head _)) ?_
      refine l1 (n := 1) rfl rfl rfl (li_of a1) ?_
      refine b_ia rfl (kc_377 (fz := fz) hS).1 (Nat.le_of_ble_eq_true rfl) iv1 (fun q => ?_)
      replace h := h q
      exact E_W_version_25 hS r1 (inr_gi _ _ _) h
    · replace h := h.2 c
      exact E_W_version_15 hS r1  h
def em_W_version (x1 : Int) (M : rf_M) (K : Int → rf_M → Prop) : Prop := e_W_version x1 M K
theorem E_W_version_m {fz : Bool} {S : gS} {B : rf_M} {M : rf_M} {n0 : Nat} {x1 : Int} {K : Int → rf_M → Prop} (hS : rl S) (hR : fl 353 406 B M) (ix1 : inr x1) (h : em_W_version x1 M K) : lx (cx0 fz) n0 186 0 (lv_args 0 [.ref 353, zv x1]) [] (M, S) (vl_i 353 406 B S K) :=
  E_W_version hS hR ix1 rfl rfl h
def e_W_add_36 (M : rf_M) (K : Int → rf_M → Prop) : Prop := K (-1) M
theorem E_W_add_36 {fz : Bool} {S : gS} {B : rf_M} {M : rf_M} {ls : rf_L} {n0 : Nat} {K : Int → rf_M → Prop} (hS : rl S) (hR : fl 353 406 B M) (h : e_W_add_36 M K) : lx (cx0 fz) n0 187 36 ls [] (M, S) (vl_i 353 406 B S K) := by
  unfold e_W_add_36 at h
  refine l1 (n := 1) rfl rfl rfl rfl ?_
  exact l_ri rfl rfl ⟨by decide, by decide⟩ hR h
def e_W_add (v1 : Int) (v2 : Int) (M : rf_M) (K : Int → rf_M → Prop) : Prop := ∀ M1 : rf_M, M1 = wi M 353 0 0 → (em_W_isClient v1 M1 (fun (z2 : Int) (M2 : rf_M) => (z2 = 0 → (e_W_add_36 M2 K)) ∧ (¬ (z2 = 0) → ((v2 < 0 → (e_W_add_36 M2 K)) ∧ (¬ (v2 < 0) → (((gi M2 353 11) ≤ v2 → (e_W_add_36 M2 K)) ∧ (¬ ((gi M2 353 11) ≤ v2) → ((0 ≤ v1 ∧ v1 < 8 → (((gi M2 381 (v1).toNat) = 16 → (e_W_add_36 M2 K)) ∧ (¬ (gi M2 381 (v1).toNat) = 16 → ((0 ≤ v1 ∧ v1 < 8 → (inr ((16 * v1) + (gi M2 381 (v1).toNat)) ∧ ((0 ≤ ((16 * v1) + (gi M2 381 (v1).toNat)) ∧ ((16 * v1) + (gi M2 381 (v1).toNat)) < 128 → (∀ M3 : rf_M, M3 = wi M2 380 ((16 * v1) + (gi M2 381 (v1).toNat)).toNat v2 → ((0 ≤ v1 ∧ v1 < 8 → ((0 ≤ v1 ∧ v1 < 8 → (∀ M4 : rf_M, M4 = wi M3 381 (v1).toNat ((gi M3 381 (v1).toNat) + 1) → ((0 ≤ v1 ∧ v1 < 8 → (K (gi M4 381 (v1).toNat) M4)))))))))))))))))))))))))
theorem E_W_add {fz : Bool} {S : gS} {B : rf_M} {M : rf_M} {ls : rf_L} {n0 : Nat} {v1 : Int} {v2 : Int} {K : Int → rf_M → Prop} (hS : rl S) (hR : fl 353 406 B M) (iv1 : inr v1) (iv2 : inr v2) (a0 : rf_ld ls 0 = some (.ref 353)) (a1 : rf_ld ls 1 = some (zv v1)) (a2 : rf_ld ls 2 = some (zv v2)) (h : e_W_add v1 v2 M K) : lx (cx0 fz) n0 187 0 ls [] (M, S) (vl_i 353 406 B S K) := by
  unfold e_W_add at h
  refine l1 (n := 1) rfl rfl rfl (la_of a0) ?_
  refine l1 (n := 1) rfl rfl rfl rfl ?_
  refine l_pi rfl (ko_11 (fz := fz) hS (List.Mem.head _)) rfl (fun _ _ => rfl) (fun M1 e => ?_)
  replace h := h M1 e
  have r1 := hR.wi (Nat.le_of_ble_eq_true rfl) (Nat.le_of_ble_eq_true rfl) e
  refine l1 (n := 1) rfl rfl rfl (la_of a0) ?_
  refine l1 (n := 1) rfl rfl rfl (li_of a1) ?_
  refine b_iv (c := 353) (as := [zv v1]) (rest := []) rfl (by decide) (ko_11 hS (List.Mem.head _)) rfl rfl (Nat.le_of_ble_eq_true rfl) (fun hq => ?_)
  refine lx_mono (E_W_isClient_m hS r1 iv1 h) ?_
  rintro _ _ ⟨z2, M2, rfl, rfl, r2, iz2, h⟩
  refine l_if rfl iz2 (fun c => ?_) (fun c => ?_)
  · replace h := h.1 c
    exact E_W_add_36 hS r2  h
  · replace h := h.2 c
    refine l1 (n := 1) rfl rfl rfl (li_of a2) ?_
    refine l_if rfl iv2 (fun c => ?_) (fun c => ?_)
    · replace h := h.1 c
      exact E_W_add_36 hS r2  h
    · replace h := h.2 c
      refine l1 (n := 1) rfl rfl rfl (li_of a2) ?_
      refine l1 (n := 1) rfl rfl rfl (la_of a0) ?_
      refine l_gi rfl (ko_11 hS (List.Mem.head _)) rfl (fun _ => rfl) ?_
      refine l_ic rfl iv2 (inr_gi _ _ _) (fun c => ?_) (fun c => ?_)
      · replace h := h.1 c
        exact E_W_add_36 hS r2  h
      · replace h := h.2 c
        refine l1 (n := 1) rfl rfl rfl (la_of a0) ?_
        refine l_gr rfl (ko_11 hS (List.Mem.head _)) rfl (fun _ => rfl) (kf_11_44 r2.2 (List.Mem.head _)) ?_
        refine l1 (n := 1) rfl rfl rfl (li_of a1) ?_
        refine b_ia rfl (kc_381 (fz := fz) hS).1 (Nat.le_of_ble_eq_true rfl) iv1 (fun q => ?_)
        replace h := h q
        refine l_bi rfl (by decide) ?_
        refine l_ic rfl (inr_gi _ _ _) ⟨by decide, by decide⟩ (fun c => ?_) (fun c => ?_)
        · replace h := h.2 c
          refine l1 (n := 1) rfl rfl rfl (la_of a0) ?_
          refine l_gr rfl (ko_11 hS (List.Mem.head _)) rfl (fun _ => rfl) (kf_11_43 r2.2 (List.Mem.head _)) ?_
          refine l_bi rfl (by decide) ?_
          refine l1 (n := 1) rfl rfl rfl (li_of a1) ?_
          refine l_mul rfl ?_
          refine l1 (n := 1) rfl rfl rfl (la_of a0) ?_
          refine l_gr rfl (ko_11 hS (List.Mem.head _)) rfl (fun _ => rfl) (kf_11_44 r2.2 (List.Mem.head _)) ?_
          refine l1 (n := 1) rfl rfl rfl (li_of a1) ?_
          refine b_ia rfl (kc_381 (fz := fz) hS).1 (Nat.le_of_ble_eq_true rfl) iv1 (fun q => ?_)
          replace h := h q
          refine l_add rfl ?_
          refine l1 (n := 1) rfl rfl rfl (li_of a2) ?_
          obtain ⟨i1, h⟩ := h
          refine b_is rfl (kc_380 (fz := fz) hS).1 (Nat.le_of_ble_eq_true rfl) i1 (fun q M3 e => ?_)
          replace h := h q M3 e
          have r3 := r2.wi (Nat.le_of_ble_eq_true rfl) (Nat.le_of_ble_eq_true rfl) e
          refine l1 (n := 1) rfl rfl rfl (la_of a0) ?_
          refine l_gr rfl (ko_11 hS (List.Mem.head _)) rfl (fun _ => rfl) (kf_11_44 r3.2 (List.Mem.head _)) ?_
          refine l1 (n := 1) rfl rfl rfl (li_of a1) ?_
          refine l0 rfl rfl rfl ?_
          refine b_ia rfl (kc_381 (fz := fz) hS).1 (Nat.le_of_ble_eq_true rfl) iv1 (fun q => ?_)
          replace h := h q
          refine l1 (n := 1) rfl rfl rfl rfl ?_
          refine l_add rfl ?_
          refine b_is rfl (kc_381 (fz := fz) hS).1 (Nat.le_of_ble_eq_true rfl) iv1 (fun q M4 e => ?_)
          replace h := h q M4 e
          have r4 := r3.wi (Nat.le_of_ble_eq_true rfl) (Nat.le_of_ble_eq_true rfl) e
          refine l1 (n := 1) rfl rfl rfl (la_of a0) ?_
          refine l_gr rfl (ko_11 hS (List.Mem.head _)) rfl (fun _ => rfl) (kf_11_44 r4.2 (List.Mem.head _)) ?_
          refine l1 (n := 1) rfl rfl rfl (li_of a1) ?_
          refine b_ia rfl (kc_381 (fz := fz) hS).1 (Nat.le_of_ble_eq_true rfl) iv1 (fun q => ?_)
          replace h := h q
          exact l_ri rfl rfl (inr_gi _ _ _) r4 h
        · replace h := h.1 (Classical.not_not.mp c)
          exact E_W_add_36 hS r2  h
def em_W_add (x1 : Int) (x2 : Int) (M : rf_M) (K : Int → rf_M → Prop) : Prop := e_W_add x1 x2 M K
theorem E_W_add_m {fz : Bool} {S : gS} {B : rf_M} {M : rf_M} {n0 : Nat} {x1 : Int} {x2 : Int} {K : Int → rf_M → Prop} (hS : rl S) (hR : fl 353 406 B M) (ix1 : inr x1) (ix2 : inr x2) (h : em_W_add x1 x2 M K) : lx (cx0 fz) n0 187 0 (lv_args 0 [.ref 353, zv x1, zv x2]) [] (M, S) (vl_i 353 406 B S K) :=
  E_W_add hS hR ix1 ix2 rfl rfl rfl h
def e_W_sees_23 (M : rf_M) (K : Int64 → rf_M → Prop) : Prop := K (Int64.ofNat 0) M
theorem E_W_sees_23 {fz : Bool} {S : gS} {B : rf_M} {M : rf_M} {ls : rf_L} {n0 : Nat} {K : Int64 → rf_M → Prop} (hS : rl S) (hR : fl 353 406 B M) (h : e_W_sees_23 M K) : lx (cx0 fz) n0 189 23 ls [] (M, S) (vl_l 353 406 B S K) := by
  unfold e_W_sees_23 at h
  refine l1 (n := 1) rfl rfl rfl rfl ?_
  exact l_rl rfl rfl hR h
def e_W_sees_60 (s0 : Int64) (M : rf_M) (K : Int64 → rf_M → Prop) : Prop := K s0 M
theorem E_W_sees_60 {fz : Bool} {S : gS} {B : rf_M} {M : rf_M} {ls : rf_L} {n0 : Nat} {s0 : Int64} {K : Int64 → rf_M → Prop} (hS : rl S) (hR : fl 353 406 B M) (h : e_W_sees_60 s0 M K) : lx (cx0 fz) n0 189 60 ls [.long s0] (M, S) (vl_l 353 406 B S K) := by
  unfold e_W_sees_60 at h
  exact l_rl rfl rfl hR h
def e_W_sees_44 (v2 : Int) (M : rf_M) (K : Int64 → rf_M → Prop) : Prop := (16 ≤ v2 → (e_W_sees_60 (Int64.ofNat 0) M K)) ∧ (¬ (16 ≤ v2) → ((0 ≤ v2 ∧ v2 < 32 → (e_W_sees_60 (gl M 376 (v2).toNat) M K))))
theorem E_W_sees_44 {fz : Bool} {S : gS} {B : rf_M} {M : rf_M} {ls : rf_L} {n0 : Nat} {v2 : Int} {K : Int64 → rf_M → Prop} (hS : rl S) (hR : fl 353 406 B M) (iv2 : inr v2) (a0 : rf_ld ls 0 = some (.ref 353)) (a2 : rf_ld ls 2 = some (zv v2)) (h : e_W_sees_44 v2 M K) : lx (cx0 fz) n0 189 44 ls [] (M, S) (vl_l 353 406 B S K) := by
  unfold e_W_sees_44 at h
  refine l1 (n := 1) rfl rfl rfl (li_of a2) ?_
  refine l_bi rfl (by decide) ?_
  refine l_ic rfl iv2 ⟨by decide, by decide⟩ (fun c => ?_) (fun c => ?_)
  · replace h := h.1 c
    refine l1 (n := 1) rfl rfl rfl rfl ?_
    exact E_W_sees_60 hS hR  h
  · replace h := h.2 c
    refine l1 (n := 1) rfl rfl rfl (la_of a0) ?_
    refine l_gr rfl (ko_11 hS (List.Mem.head _)) rfl (fun _ => rfl) (kf_11_38 hR.2 (List.Mem.head _)) ?_
    refine l1 (n := 1) rfl rfl rfl (li_of a2) ?_
    refine b_la rfl (kc_376 (fz := fz) hS).1 (Nat.le_of_ble_eq_true rfl) iv2 (fun q => ?_)
    replace h := h q
    refine l3 rfl rfl rfl ?_
    exact E_W_sees_60 hS hR  h
def e_W_sees_130 (s0 : Int64) (M : rf_M) (K : Int64 → rf_M → Prop) : Prop := K s0 M
theorem E_W_sees_130 {fz : Bool} {S : gS} {B : rf_M} {M : rf_M} {ls : rf_L} {n0 : Nat} {s0 : Int64} {K : Int64 → rf_M → Prop} (hS : rl S) (hR : fl 353 406 B M) (h : e_W_sees_130 s0 M K) : lx (cx0 fz) n0 189 130 ls [.long s0] (M, S) (vl_l 353 406 B S K) := by
  unfold e_W_sees_130 at h
  exact l_rl rfl rfl hR h
def e_W_sees (v1 : Int) (v2 : Int) (M : rf_M) (K : Int64 → rf_M → Prop) : Prop := ∀ M1 : rf_M, M1 = wi M 353 0 0 → (em_W_isClient v1 M1 (fun (z2 : Int) (M2 : rf_M) => (z2 = 0 → (e_W_sees_23 M2 K)) ∧ (¬ (z2 = 0) → ((v2 < 0 → (e_W_sees_23 M2 K)) ∧ (¬ (v2 < 0) → ((v2 ≤ 25 → ((0 ≤ v1 ∧ v1 < 8 → (((gi M2 381 (v1).toNat) = 0 → (e_W_sees_44 v2 M2 K)) ∧ (¬ ((gi M2 381 (v1).toNat) = 0) → ((0 ≤ v1 ∧ v1 < 8 → (((gi M2 382 (v1).toNat) = 1 → (em_W_walkAnew v1 M2 (fun (M3 : rf_M) => (v2 < 16 → (((Int32.ofInt (Int32.ofInt (gi M3 353 55) >>> (Int32.ofInt v2 &&& 31)).toInt &&& Int32.ofInt 1).toInt = 1 → ((0 ≤ v2 ∧ v2 < 16 → (e_W_sees_130 (gl M3 391 (v2).toNat) M3 K)))) ∧ (¬ (Int32.ofInt (Int32.ofInt (gi M3 353 55) >>> (Int32.ofInt v2 &&& 31)).toInt &&& Int32.ofInt 1).toInt = 1 → (((Int32.ofInt (Int32.ofInt (gi M3 353 52) >>> (Int32.ofInt v2 &&& 31)).toInt &&& Int32.ofInt 1).toInt = 1 → ((0 ≤ v2 ∧ v2 < 16 → (e_W_sees_130 (gl M3 389 (v2).toNat) M3 K)))) ∧ (¬ (Int32.ofInt (Int32.ofInt (gi M3 353 52) >>> (Int32.ofInt v2 &&& 31)).toInt &&& Int32.ofInt 1).toInt = 1 → ((0 ≤ v2 ∧ v2 < 32 → (e_W_sees_130 (gl M3 376 (v2).toNat) M3 K)))))))) ∧ (¬ (v2 < 16) → (inr (v2 - 16) ∧ ((0 ≤ (v2 - 16) ∧ (v2 - 16) < 10 → (K (gl M3 392 (v2 - 16).toNat) M3)))))))) ∧ (¬ ((gi M2 382 (v1).toNat) = 1) → (e_W_sees_44 v2 M2 K)))))))))) ∧ (¬ (v2 ≤ 25) → (e_W_sees_23 M2 K))))))))
theorem E_W_sees {fz : Bool} {S : gS} {B : rf_M} {M : rf_M} {ls : rf_L} {n0 : Nat} {v1 : Int} {v2 : Int} {K : Int64 → rf_M → Prop} (hS : rl S) (hR : fl 353 406 B M) (iv1 : inr v1) (iv2 : inr v2) (a0 : rf_ld ls 0 = some (.ref 353)) (a1 : rf_ld ls 1 = some (zv v1)) (a2 : rf_ld ls 2 = some (zv v2)) (h : e_W_sees v1 v2 M K) : lx (cx0 fz) n0 189 0 ls [] (M, S) (vl_l 353 406 B S K) := by
  unfold e_W_sees at h
  refine l1 (n := 1) rfl rfl rfl (la_of a0) ?_
  refine l1 (n := 1) rfl rfl rfl rfl ?_
  refine l_pi rfl (ko_11 (fz := fz) hS (List.Mem.head _)) rfl (fun _ _ => rfl) (fun M1 e => ?_)
  replace h := h M1 e
  have r1 := hR.wi (Nat.le_of_ble_eq_true rfl) (Nat.le_of_ble_eq_true rfl) e
  refine l1 (n := 1) rfl rfl rfl (la_of a0) ?_
  refine l1 (n := 1) rfl rfl rfl (li_of a1) ?_
  refine b_iv (c := 353) (as := [zv v1]) (rest := []) rfl (by decide) (ko_11 hS (List.Mem.head _)) rfl rfl (Nat.le_of_ble_eq_true rfl) (fun hq => ?_)
  refine lx_mono (E_W_isClient_m hS r1 iv1 h) ?_
  rintro _ _ ⟨z2, M2, rfl, rfl, r2, iz2, h⟩
  refine l_if rfl iz2 (fun c => ?_) (fun c => ?_)
  · replace h := h.1 c
    exact E_W_sees_23 hS r2  h
  · replace h := h.2 c
    refine l1 (n := 1) rfl rfl rfl (li_of a2) ?_
    refine l_if rfl iv2 (fun c => ?_) (fun c => ?_)
    · replace h := h.1 c
      exact E_W_sees_23 hS r2  h
    · replace h := h.2 c
      refine l1 (n := 1) rfl rfl rfl (li_of a2) ?_
      refine l_bi rfl (by decide) ?_
      refine l_ic rfl iv2 ⟨by decide, by decide⟩ (fun c => ?_) (fun c => ?_)
      · replace h := h.1 c
        refine l1 (n := 1) rfl rfl rfl (la_of a0) ?_
        refine l_gr rfl (ko_11 hS (List.Mem.head _)) rfl (fun _ => rfl) (kf_11_44 r2.2 (List.Mem.head _)) ?_
        refine l1 (n := 1) rfl rfl rfl (li_of a1) ?_
        refine b_ia rfl (kc_381 (fz := fz) hS).1 (Nat.le_of_ble_eq_true rfl) iv1 (fun q => ?_)
        replace h := h q
        refine l_if rfl (inr_gi _ _ _) (fun c => ?_) (fun c => ?_)
        · replace h := h.1 c
          exact E_W_sees_44 hS r2 iv2 a0 a2 h
        · replace h := h.2 c
          refine l1 (n := 1) rfl rfl rfl (la_of a0) ?_
          refine l_gr rfl (ko_11 hS (List.Mem.head _)) rfl (fun _ => rfl) (kf_11_45 r2.2 (List.Mem.head _)) ?_
          refine l1 (n := 1) rfl rfl rfl (li_of a1) ?_
          refine b_ia rfl (kc_382 (fz := fz) hS).1 (Nat.le_of_ble_eq_true rfl) iv1 (fun q => ?_)
          replace h := h q
          refine l1 (n := 1) rfl rfl rfl rfl ?_
          refine l_ic rfl (inr_gi _ _ _) ⟨by decide, by decide⟩ (fun c => ?_) (fun c => ?_)
          · replace h := h.1 c
            refine l1 (n := 1) rfl rfl rfl (la_of a0) ?_
            refine l1 (n := 1) rfl rfl rfl (li_of a1) ?_
            refine b_iv (c := 353) (as := [zv v1]) (rest := []) rfl (by decide) (ko_11 hS (List.Mem.head _)) rfl rfl (Nat.le_of_ble_eq_true rfl) (fun hq => ?_)
            refine lx_mono (E_W_walkAnew_m hS r2 iv1 h) ?_
            rintro _ _ ⟨M3, rfl, rfl, r3, h⟩
            refine l1 (n := 1) rfl rfl rfl (li_of a2) ?_
            refine l_bi rfl (by decide) ?_
            refine l_ic rfl iv2 ⟨by decide, by decide⟩ (fun c => ?_) (fun c => ?_)
            · replace h := h.1 c
              refine l1 (n := 1) rfl rfl rfl (la_of a0) ?_
              refine l_gi rfl (ko_11 hS (List.Mem.head _)) rfl (fun _ => rfl) ?_
              refine l1 (n := 1) rfl rfl rfl (li_of a2) ?_
              refine l_op (T := (Int32.ofInt (gi M3 353 55) >>> (Int32.ofInt v2 &&& 31))) rfl rfl rfl ?_
              refine l1 (n := 1) rfl rfl rfl rfl ?_
              refine l_op (T := (Int32.ofInt (Int32.ofInt (gi M3 353 55) >>> (Int32.ofInt v2 &&& 31)).toInt &&& Int32.ofInt 1)) rfl rfl rfl ?_
              refine l1 (n := 1) rfl rfl rfl rfl ?_
              refine l_ic rfl (inr_ti _) ⟨by decide, by decide⟩ (fun c => ?_) (fun c => ?_)
              · replace h := h.2 c
                refine l1 (n := 1) rfl rfl rfl (la_of a0) ?_
                refine l_gi rfl (ko_11 hS (List.Mem.head _)) rfl (fun _ => rfl) ?_
                refine l1 (n := 1) rfl rfl rfl (li_of a2) ?_
                refine l_op (T := (Int32.ofInt (gi M3 353 52) >>> (Int32.ofInt v2 &&& 31))) rfl rfl rfl ?_
                refine l1 (n := 1) rfl rfl rfl rfl ?_
                refine l_op (T := (Int32.ofInt (Int32.ofInt (gi M3 353 52) >>> (Int32.ofInt v2 &&& 31)).toInt &&& Int32.ofInt 1)) rfl rfl rfl ?_
                refine l1 (n := 1) rfl rfl rfl rfl ?_
                refine l_ic rfl (inr_ti _) ⟨by decide, by decide⟩ (fun c => ?_) (fun c => ?_)
                · replace h := h.2 c
                  refine l1 (n := 1) rfl rfl rfl (la_of a0) ?_
                  refine l_gr rfl (ko_11 hS (List.Mem.head _)) rfl (fun _ => rfl) (kf_11_38 r3.2 (List.Mem.head _)) ?_
                  refine l1 (n := 1) rfl rfl rfl (li_of a2) ?_
                  refine b_la rfl (kc_376 (fz := fz) hS).1 (Nat.le_of_ble_eq_true rfl) iv2 (fun q => ?_)
                  replace h := h q
                  exact E_W_sees_130 hS r3  h
                · replace h := h.1 (Classical.not_not.mp c)
                  refine l1 (n := 1) rfl rfl rfl (la_of a0) ?_
                  refine l_gr rfl (ko_11 hS (List.Mem.head _)) rfl (fun _ => rfl) (kf_11_53 r3.2 (List.Mem.head _)) ?_
                  refine l1 (n := 1) rfl rfl rfl (li_of a2) ?_
                  refine b_la rfl (kc_389 (fz := fz) hS).1 (Nat.le_of_ble_eq_true rfl) iv2 (fun q => ?_)
                  replace h := h q
                  refine l3 rfl rfl rfl ?_
                  exact E_W_sees_130 hS r3  h
              · replace h := h.1 (Classical.not_not.mp c)
                refine l1 (n := 1) rfl rfl rfl (la_of a0) ?_
                refine l_gr rfl (ko_11 hS (List.Mem.head _)) rfl (fun _ => rfl) (kf_11_56 r3.2 (List.Mem.head _)) ?_
                refine l1 (n := 1) rfl rfl rfl (li_of a2) ?_
                refine b_la rfl (kc_391 (fz := fz) hS).1 (Nat.le_of_ble_eq_true rfl) iv2 (fun q => ?_)
                replace h := h q
                refine l3 rfl rfl rfl ?_
                exact E_W_sees_130 hS r3  h
            · replace h := h.2 c
              refine l1 (n := 1) rfl rfl rfl (la_of a0) ?_
              refine l_gr rfl (ko_11 hS (List.Mem.head _)) rfl (fun _ => rfl) (kf_11_57 r3.2 (List.Mem.head _)) ?_
              refine l1 (n := 1) rfl rfl rfl (li_of a2) ?_
              refine l_bi rfl (by decide) ?_
              refine l_sub rfl ?_
              obtain ⟨i1, h⟩ := h
              refine b_la rfl (kc_392 (fz := fz) hS).1 (Nat.le_of_ble_eq_true rfl) i1 (fun q => ?_)
              replace h := h q
              exact l_rl rfl rfl r3 h
          · replace h := h.2 c
            exact E_W_sees_44 hS r2 iv2 a0 a2 h
      · replace h := h.2 c
        exact E_W_sees_23 hS r2  h
def em_W_sees (x1 : Int) (x2 : Int) (M : rf_M) (K : Int64 → rf_M → Prop) : Prop := e_W_sees x1 x2 M K
theorem E_W_sees_m {fz : Bool} {S : gS} {B : rf_M} {M : rf_M} {n0 : Nat} {x1 : Int} {x2 : Int} {K : Int64 → rf_M → Prop} (hS : rl S) (hR : fl 353 406 B M) (ix1 : inr x1) (ix2 : inr x2) (h : em_W_sees x1 x2 M K) : lx (cx0 fz) n0 189 0 (lv_args 0 [.ref 353, zv x1, zv x2]) [] (M, S) (vl_l 353 406 B S K) :=
  E_W_sees hS hR ix1 ix2 rfl rfl rfl h
def e_W_rules (M : rf_M) (K : Int → rf_M → Prop) : Prop := ∀ M1 : rf_M, M1 = wi M 353 0 0 → ((0 ≤ (0 : Int) ∧ (0 : Int) < 2 → (K (gi M1 378 0) M1)))
theorem E_W_rules {fz : Bool} {S : gS} {B : rf_M} {M : rf_M} {ls : rf_L} {n0 : Nat} {K : Int → rf_M → Prop} (hS : rl S) (hR : fl 353 406 B M) (a0 : rf_ld ls 0 = some (.ref 353)) (h : e_W_rules M K) : lx (cx0 fz) n0 190 0 ls [] (M, S) (vl_i 353 406 B S K) := by
  unfold e_W_rules at h
  refine l1 (n := 1) rfl rfl rfl (la_of a0) ?_
  refine l1 (n := 1) rfl rfl rfl rfl ?_
  refine l_pi rfl (ko_11 (fz := fz) hS (List.Mem.head _)) rfl (fun _ _ => rfl) (fun M1 e => ?_)
  replace h := h M1 e
  have r1 := hR.wi (Nat.le_of_ble_eq_true rfl) (Nat.le_of_ble_eq_true rfl) e
  refine l1 (n := 1) rfl rfl rfl (la_of a0) ?_
  refine l_gr rfl (ko_11 hS (List.Mem.head _)) rfl (fun _ => rfl) (kf_11_40 r1.2 (List.Mem.head _)) ?_
  refine l1 (n := 1) rfl rfl rfl rfl ?_
  refine b_ia rfl (kc_378 (fz := fz) hS).1 (Nat.le_of_ble_eq_true rfl) ⟨by decide, by decide⟩ (fun q => ?_)
  replace h := h q
  exact l_ri rfl rfl (inr_gi _ _ _) r1 h
def em_W_rules (M : rf_M) (K : Int → rf_M → Prop) : Prop := e_W_rules  M K
theorem E_W_rules_m {fz : Bool} {S : gS} {B : rf_M} {M : rf_M} {n0 : Nat} {K : Int → rf_M → Prop} (hS : rl S) (hR : fl 353 406 B M) (h : em_W_rules  M K) : lx (cx0 fz) n0 190 0 (lv_args 0 [.ref 353]) [] (M, S) (vl_i 353 406 B S K) :=
  E_W_rules hS hR rfl h
def e_W_rows (M : rf_M) (K : Int → rf_M → Prop) : Prop := ∀ M1 : rf_M, M1 = wi M 353 0 0 → (K (gi M1 353 69) M1)
theorem E_W_rows {fz : Bool} {S : gS} {B : rf_M} {M : rf_M} {ls : rf_L} {n0 : Nat} {K : Int → rf_M → Prop} (hS : rl S) (hR : fl 353 406 B M) (a0 : rf_ld ls 0 = some (.ref 353)) (h : e_W_rows M K) : lx (cx0 fz) n0 191 0 ls [] (M, S) (vl_i 353 406 B S K) := by
  unfold e_W_rows at h
  refine l1 (n := 1) rfl rfl rfl (la_of a0) ?_
  refine l1 (n := 1) rfl rfl rfl rfl ?_
  refine l_pi rfl (ko_11 (fz := fz) hS (List.Mem.head _)) rfl (fun _ _ => rfl) (fun M1 e => ?_)
  replace h := h M1 e
  have r1 := hR.wi (Nat.le_of_ble_eq_true rfl) (Nat.le_of_ble_eq_true rfl) e
  refine l1 (n := 1) rfl rfl rfl (la_of a0) ?_
  refine l_gi rfl (ko_11 hS (List.Mem.head _)) rfl (fun _ => rfl) ?_
  exact l_ri rfl rfl (inr_gi _ _ _) r1 h
def em_W_rows (M : rf_M) (K : Int → rf_M → Prop) : Prop := e_W_rows  M K
theorem E_W_rows_m {fz : Bool} {S : gS} {B : rf_M} {M : rf_M} {n0 : Nat} {K : Int → rf_M → Prop} (hS : rl S) (hR : fl 353 406 B M) (h : em_W_rows  M K) : lx (cx0 fz) n0 191 0 (lv_args 0 [.ref 353]) [] (M, S) (vl_i 353 406 B S K) :=
  E_W_rows hS hR rfl h
def e_W_row_17 (M : rf_M) (K : Int → rf_M → Prop) : Prop := K (-1) M
theorem E_W_row_17 {fz : Bool} {S : gS} {B : rf_M} {M : rf_M} {ls : rf_L} {n0 : Nat} {K : Int → rf_M → Prop} (hS : rl S) (hR : fl 353 406 B M) (h : e_W_row_17 M K) : lx (cx0 fz) n0 192 17 ls [] (M, S) (vl_i 353 406 B S K) := by
  unfold e_W_row_17 at h
  refine l1 (n := 1) rfl rfl rfl rfl ?_
  exact l_ri rfl rfl ⟨by decide, by decide⟩ hR h
def e_W_row_89 (s0 : Int) (M : rf_M) (K : Int → rf_M → Prop) : Prop := K s0 M
theorem E_W_row_89 {fz : Bool} {S : gS} {B : rf_M} {M : rf_M} {ls : rf_L} {n0 : Nat} {s0 : Int} {K : Int → rf_M → Prop} (hS : rl S) (hR : fl 353 406 B M) (is0 : inr s0) (h : e_W_row_89 s0 M K) : lx (cx0 fz) n0 192 89 ls [zv s0] (M, S) (vl_i 353 406 B S K) := by
  unfold e_W_row_89 at h
  exact l_ri rfl rfl is0 hR h
def e_W_row (v1 : Int) (v2 : Int) (M : rf_M) (K : Int → rf_M → Prop) : Prop := ∀ M1 : rf_M, M1 = wi M 353 0 0 → ((v1 < 0 → (e_W_row_17 M1 K)) ∧ (¬ (v1 < 0) → ((v1 < (gi M1 353 69) → ((v2 = 0 → ((0 ≤ v1 ∧ v1 < 300 → (e_W_row_89 (gi M1 400 (v1).toNat) M1 K)))) ∧ (¬ v2 = 0 → ((v2 = 1 → ((0 ≤ v1 ∧ v1 < 300 → (e_W_row_89 (gi M1 401 (v1).toNat) M1 K)))) ∧ (¬ v2 = 1 → ((v2 = 2 → ((0 ≤ v1 ∧ v1 < 300 → (e_W_row_89 (gi M1 402 (v1).toNat) M1 K)))) ∧ (¬ v2 = 2 → ((v2 = 3 → ((0 ≤ v1 ∧ v1 < 300 → (e_W_row_89 (gi M1 403 (v1).toNat) M1 K)))) ∧ (¬ v2 = 3 → ((v2 = 4 → ((0 ≤ v1 ∧ v1 < 300 → (e_W_row_89 (gi M1 404 (v1).toNat) M1 K)))) ∧ (¬ v2 = 4 → (e_W_row_89 (-1) M1 K)))))))))))) ∧ (¬ (v1 < (gi M1 353 69)) → (e_W_row_17 M1 K)))))
theorem E_W_row {fz : Bool} {S : gS} {B : rf_M} {M : rf_M} {ls : rf_L} {n0 : Nat} {v1 : Int} {v2 : Int} {K : Int → rf_M → Prop} (hS : rl S) (hR : fl 353 406 B M) (iv1 : inr v1) (iv2 : inr v2) (a0 : rf_ld ls 0 = some (.ref 353)) (a1 : rf_ld ls 1 = some (zv v1)) (a2 : rf_ld ls 2 = some (zv v2)) (h : e_W_row v1 v2 M K) : lx (cx0 fz) n0 192 0 ls [] (M, S) (vl_i 353 406 B S K) := by
  unfold e_W_row at h
  refine l1 (n := 1) rfl rfl rfl (la_of a0) ?_
  refine l1 (n := 1) rfl rfl rfl rfl ?_
  refine l_pi rfl (ko_11 (fz := fz) hS (List.Mem.head _)) rfl (fun _ _ => rfl) (fun M1 e => ?_)
  replace h := h M1 e
  have r1 := hR.wi (Nat.le_of_ble_eq_true rfl) (Nat.le_of_ble_eq_true rfl) e
  refine l1 (n := 1) rfl rfl rfl (li_of a1) ?_
  refine l_if rfl iv1 (fun c => ?_) (fun c => ?_)
  · replace h := h.1 c
    exact E_W_row_17 hS r1  h
  · replace h := h.2 c
    refine l1 (n := 1) rfl rfl rfl (li_of a1) ?_
    refine l1 (n := 1) rfl rfl rfl (la_of a0) ?_
    refine l_gi rfl (ko_11 hS (List.Mem.head _)) rfl (fun _ => rfl) ?_
    refine l_ic rfl iv1 (inr_gi _ _ _) (fun c => ?_) (fun c => ?_)
    · replace h := h.1 c
      refine l1 (n := 1) rfl rfl rfl (li_of a2) ?_
      refine l_if rfl iv2 (fun c => ?_) (fun c => ?_)
      · replace h := h.2 c
        refine l1 (n := 1) rfl rfl rfl (li_of a2) ?_
        refine l1 (n := 1) rfl rfl rfl rfl ?_
        refine l_ic rfl iv2 ⟨by decide, by decide⟩ (fun c => ?_) (fun c => ?_)
        · replace h := h.2 c
          refine l1 (n := 1) rfl rfl rfl (li_of a2) ?_
          refine l1 (n := 1) rfl rfl rfl rfl ?_
          refine l_ic rfl iv2 ⟨by decide, by decide⟩ (fun c => ?_) (fun c => ?_)
          · replace h := h.2 c
            refine l1 (n := 1) rfl rfl rfl (li_of a2) ?_
            refine l1 (n := 1) rfl rfl rfl rfl ?_
            refine l_ic rfl iv2 ⟨by decide, by decide⟩ (fun c => ?_) (fun c => ?_)
            · replace h := h.2 c
              refine l1 (n := 1) rfl rfl rfl (li_of a2) ?_
              refine l1 (n := 1) rfl rfl rfl rfl ?_
              refine l_ic rfl iv2 ⟨by decide, by decide⟩ (fun c => ?_) (fun c => ?_)
              · replace h := h.2 c
                refine l1 (n := 1) rfl rfl rfl rfl ?_
                exact E_W_row_89 hS r1 ⟨by decide, by decide⟩ h
              · replace h := h.1 (Classical.not_not.mp c)
                refine l1 (n := 1) rfl rfl rfl (la_of a0) ?_
                refine l_gr rfl (ko_11 hS (List.Mem.head _)) rfl (fun _ => rfl) (kf_11_74 r1.2 (List.Mem.head _)) ?_
                refine l1 (n := 1) rfl rfl rfl (li_of a1) ?_
                refine b_ia rfl (kc_404 (fz := fz) hS).1 (Nat.le_of_ble_eq_true rfl) iv1 (fun q => ?_)
                replace h := h q
                refine l3 rfl rfl rfl ?_
                exact E_W_row_89 hS r1 (inr_gi _ _ _) h
            · replace h := h.1 (Classical.not_not.mp c)
              refine l1 (n := 1) rfl rfl rfl (la_of a0) ?_
              refine l_gr rfl (ko_11 hS (List.Mem.head _)) rfl (fun _ => rfl) (kf_11_73 r1.2 (List.Mem.head _)) ?_
              refine l1 (n := 1) rfl rfl rfl (li_of a1) ?_
              refine b_ia rfl (kc_403 (fz := fz) hS).1 (Nat.le_of_ble_eq_true rfl) iv1 (fun q => ?_)
              replace h := h q
              refine l3 rfl rfl rfl ?_
              exact E_W_row_89 hS r1 (inr_gi _ _ _) h
          · replace h := h.1 (Classical.not_not.mp c)
            refine l1 (n := 1) rfl rfl rfl (la_of a0) ?_
            refine l_gr rfl (ko_11 hS (List.Mem.head _)) rfl (fun _ => rfl) (kf_11_72 r1.2 (List.Mem.head _)) ?_
            refine l1 (n := 1) rfl rfl rfl (li_of a1) ?_
            refine b_ia rfl (kc_402 (fz := fz) hS).1 (Nat.le_of_ble_eq_true rfl) iv1 (fun q => ?_)
            replace h := h q
            refine l3 rfl rfl rfl ?_
            exact E_W_row_89 hS r1 (inr_gi _ _ _) h
        · replace h := h.1 (Classical.not_not.mp c)
          refine l1 (n := 1) rfl rfl rfl (la_of a0) ?_
          refine l_gr rfl (ko_11 hS (List.Mem.head _)) rfl (fun _ => rfl) (kf_11_71 r1.2 (List.Mem.head _)) ?_
          refine l1 (n := 1) rfl rfl rfl (li_of a1) ?_
          refine b_ia rfl (kc_401 (fz := fz) hS).1 (Nat.le_of_ble_eq_true rfl) iv1 (fun q => ?_)
          replace h := h q
          refine l3 rfl rfl rfl ?_
          exact E_W_row_89 hS r1 (inr_gi _ _ _) h
      · replace h := h.1 (Classical.not_not.mp c)
        refine l1 (n := 1) rfl rfl rfl (la_of a0) ?_
        refine l_gr rfl (ko_11 hS (List.Mem.head _)) rfl (fun _ => rfl) (kf_11_70 r1.2 (List.Mem.head _)) ?_
        refine l1 (n := 1) rfl rfl rfl (li_of a1) ?_
        refine b_ia rfl (kc_400 (fz := fz) hS).1 (Nat.le_of_ble_eq_true rfl) iv1 (fun q => ?_)
        replace h := h q
        refine l3 rfl rfl rfl ?_
        exact E_W_row_89 hS r1 (inr_gi _ _ _) h
    · replace h := h.2 c
      exact E_W_row_17 hS r1  h
def em_W_row (x1 : Int) (x2 : Int) (M : rf_M) (K : Int → rf_M → Prop) : Prop := e_W_row x1 x2 M K
theorem E_W_row_m {fz : Bool} {S : gS} {B : rf_M} {M : rf_M} {n0 : Nat} {x1 : Int} {x2 : Int} {K : Int → rf_M → Prop} (hS : rl S) (hR : fl 353 406 B M) (ix1 : inr x1) (ix2 : inr x2) (h : em_W_row x1 x2 M K) : lx (cx0 fz) n0 192 0 (lv_args 0 [.ref 353, zv x1, zv x2]) [] (M, S) (vl_i 353 406 B S K) :=
  E_W_row hS hR ix1 ix2 rfl rfl rfl h
def e_W_value_27 (s0 : Int64) (M : rf_M) (K : Int64 → rf_M → Prop) : Prop := K s0 M
theorem E_W_value_27 {fz : Bool} {S : gS} {B : rf_M} {M : rf_M} {ls : rf_L} {n0 : Nat} {s0 : Int64} {K : Int64 → rf_M → Prop} (hS : rl S) (hR : fl 353 406 B M) (h : e_W_value_27 s0 M K) : lx (cx0 fz) n0 193 27 ls [.long s0] (M, S) (vl_l 353 406 B S K) := by
  unfold e_W_value_27 at h
  exact l_rl rfl rfl hR h
def e_W_value_17 (M : rf_M) (K : Int64 → rf_M → Prop) : Prop := e_W_value_27 (Int64.ofNat 0) M K
theorem E_W_value_17 {fz : Bool} {S : gS} {B : rf_M} {M : rf_M} {ls : rf_L} {n0 : Nat} {K : Int64 → rf_M → Prop} (hS : rl S) (hR : fl 353 406 B M) (h : e_W_value_17 M K) : lx (cx0 fz) n0 193 17 ls [] (M, S) (vl_l 353 406 B S K) := by
  unfold e_W_value_17 at h
  refine l1 (n := 1) rfl rfl rfl rfl ?_
  refine l3 rfl rfl rfl ?_
  exact E_W_value_27 hS hR  h
def e_W_value (v1 : Int) (M : rf_M) (K : Int64 → rf_M → Prop) : Prop := ∀ M1 : rf_M, M1 = wi M 353 0 0 → ((v1 < 0 → (e_W_value_17 M1 K)) ∧ (¬ (v1 < 0) → ((v1 < (gi M1 353 69) → ((0 ≤ v1 ∧ v1 < 300 → (e_W_value_27 (gl M1 405 (v1).toNat) M1 K)))) ∧ (¬ (v1 < (gi M1 353 69)) → (e_W_value_17 M1 K)))))
theorem E_W_value {fz : Bool} {S : gS} {B : rf_M} {M : rf_M} {ls : rf_L} {n0 : Nat} {v1 : Int} {K : Int64 → rf_M → Prop} (hS : rl S) (hR : fl 353 406 B M) (iv1 : inr v1) (a0 : rf_ld ls 0 = some (.ref 353)) (a1 : rf_ld ls 1 = some (zv v1)) (h : e_W_value v1 M K) : lx (cx0 fz) n0 193 0 ls [] (M, S) (vl_l 353 406 B S K) := by
  unfold e_W_value at h
  refine l1 (n := 1) rfl rfl rfl (la_of a0) ?_
  refine l1 (n := 1) rfl rfl rfl rfl ?_
  refine l_pi rfl (ko_11 (fz := fz) hS (List.Mem.head _)) rfl (fun _ _ => rfl) (fun M1 e => ?_)
  replace h := h M1 e
  have r1 := hR.wi (Nat.le_of_ble_eq_true rfl) (Nat.le_of_ble_eq_true rfl) e
  refine l1 (n := 1) rfl rfl rfl (li_of a1) ?_
  refine l_if rfl iv1 (fun c => ?_) (fun c => ?_)
  · replace h := h.1 c
    exact E_W_value_17 hS r1  h
  · replace h := h.2 c
    refine l1 (n := 1) rfl rfl rfl (li_of a1) ?_
    refine l1 (n := 1) rfl rfl rfl (la_of a0) ?_
    refine l_gi rfl (ko_11 hS (List.Mem.head _)) rfl (fun _ => rfl) ?_
    refine l_ic rfl iv1 (inr_gi _ _ _) (fun c => ?_) (fun c => ?_)
    · replace h := h.1 c
      refine l1 (n := 1) rfl rfl rfl (la_of a0) ?_
      refine l_gr rfl (ko_11 hS (List.Mem.head _)) rfl (fun _ => rfl) (kf_11_75 r1.2 (List.Mem.head _)) ?_
      refine l1 (n := 1) rfl rfl rfl (li_of a1) ?_
      refine b_la rfl (kc_405 (fz := fz) hS).1 (Nat.le_of_ble_eq_true rfl) iv1 (fun q => ?_)
      replace h := h q
      exact E_W_value_27 hS r1  h
    · replace h := h.2 c
      exact E_W_value_17 hS r1  h
def em_W_value (x1 : Int) (M : rf_M) (K : Int64 → rf_M → Prop) : Prop := e_W_value x1 M K
theorem E_W_value_m {fz : Bool} {S : gS} {B : rf_M} {M : rf_M} {n0 : Nat} {x1 : Int} {K : Int64 → rf_M → Prop} (hS : rl S) (hR : fl 353 406 B M) (ix1 : inr x1) (h : em_W_value x1 M K) : lx (cx0 fz) n0 193 0 (lv_args 0 [.ref 353, zv x1]) [] (M, S) (vl_l 353 406 B S K) :=
  E_W_value hS hR ix1 rfl rfl h
def e_W_beginRun (v1 : Int) (M : rf_M) (K : rf_M → Prop) : Prop := ∀ M1 : rf_M, M1 = wi M 353 52 0 → (em_W_beginWalk v1 M1 (fun (M2 : rf_M) => K M2))
theorem E_W_beginRun {fz : Bool} {S : gS} {B : rf_M} {M : rf_M} {ls : rf_L} {n0 : Nat} {v1 : Int} {K : rf_M → Prop} (hS : rl S) (hR : fl 353 406 B M) (iv1 : inr v1) (a0 : rf_ld ls 0 = some (.ref 353)) (a1 : rf_ld ls 1 = some (zv v1)) (h : e_W_beginRun v1 M K) : lx (cx0 fz) n0 196 0 ls [] (M, S) (vl_v 353 406 B S K) := by
  unfold e_W_beginRun at h
  refine l1 (n := 1) rfl rfl rfl (la_of a0) ?_
  refine l1 (n := 1) rfl rfl rfl rfl ?_
  refine l_pi rfl (ko_11 (fz := fz) hS (List.Mem.head _)) rfl (fun _ _ => rfl) (fun M1 e => ?_)
  replace h := h M1 e
  have r1 := hR.wi (Nat.le_of_ble_eq_true rfl) (Nat.le_of_ble_eq_true rfl) e
  refine l1 (n := 1) rfl rfl rfl (la_of a0) ?_
  refine l1 (n := 1) rfl rfl rfl (li_of a1) ?_
  refine b_iv (c := 353) (as := [zv v1]) (rest := []) rfl (by decide) (ko_11 hS (List.Mem.head _)) rfl rfl (Nat.le_of_ble_eq_true rfl) (fun hq => ?_)
  refine lx_mono (E_W_beginWalk_m hS r1 iv1 h) ?_
  rintro _ _ ⟨M2, rfl, rfl, r2, h⟩
  exact l_rv rfl rfl r2 h
def em_W_beginRun (x1 : Int) (M : rf_M) (K : rf_M → Prop) : Prop := e_W_beginRun x1 M K
theorem E_W_beginRun_m {fz : Bool} {S : gS} {B : rf_M} {M : rf_M} {n0 : Nat} {x1 : Int} {K : rf_M → Prop} (hS : rl S) (hR : fl 353 406 B M) (ix1 : inr x1) (h : em_W_beginRun x1 M K) : lx (cx0 fz) n0 196 0 (lv_args 0 [.ref 353, zv x1]) [] (M, S) (vl_v 353 406 B S K) :=
  E_W_beginRun hS hR ix1 rfl rfl h
def e_W_comesToSame_220 (s0 : Int) (M : rf_M) (K : Int → rf_M → Prop) : Prop := (s0 = 0 ∨ s0 = 1) ∧ K s0 M
theorem E_W_comesToSame_220 {fz : Bool} {S : gS} {B : rf_M} {M : rf_M} {ls : rf_L} {n0 : Nat} {s0 : Int} {K : Int → rf_M → Prop} (hS : rl S) (hR : fl 353 406 B M) (is0 : inr s0) (h : e_W_comesToSame_220 s0 M K) : lx (cx0 fz) n0 195 220 ls [zv s0] (M, S) (vl_i 353 406 B S K) := by
  unfold e_W_comesToSame_220 at h
  exact l_rb rfl rfl h.1 hR h.2
def e_W_comesToSame_215 (M : rf_M) (K : Int → rf_M → Prop) : Prop := e_W_comesToSame_220 1 M K
theorem E_W_comesToSame_215 {fz : Bool} {S : gS} {B : rf_M} {M : rf_M} {ls : rf_L} {n0 : Nat} {K : Int → rf_M → Prop} (hS : rl S) (hR : fl 353 406 B M) (h : e_W_comesToSame_215 M K) : lx (cx0 fz) n0 195 215 ls [] (M, S) (vl_i 353 406 B S K) := by
  unfold e_W_comesToSame_215 at h
  refine l1 (n := 1) rfl rfl rfl rfl ?_
  refine l3 rfl rfl rfl ?_
  exact E_W_comesToSame_220 hS hR ⟨by decide, by decide⟩ h
def e_W_comesToSame_219 (M : rf_M) (K : Int → rf_M → Prop) : Prop := e_W_comesToSame_220 0 M K
theorem E_W_comesToSame_219 {fz : Bool} {S : gS} {B : rf_M} {M : rf_M} {ls : rf_L} {n0 : Nat} {K : Int → rf_M → Prop} (hS : rl S) (hR : fl 353 406 B M) (h : e_W_comesToSame_219 M K) : lx (cx0 fz) n0 195 219 ls [] (M, S) (vl_i 353 406 B S K) := by
  unfold e_W_comesToSame_219 at h
  refine l1 (n := 1) rfl rfl rfl rfl ?_
  exact E_W_comesToSame_220 hS hR ⟨by decide, by decide⟩ h
def e_W_comesToSame_165 (v1 : Int) (v2 : Int) (v4 : Int) (v5 : Int64) (M : rf_M) (K : Int → rf_M → Prop) : Prop := (0 ≤ v1 ∧ v1 < 300 → ((v2 = (gi M 403 (v1).toNat) → ((v4 = 0 → ((0 ≤ v1 ∧ v1 < 300 → (((gi M 400 (v1).toNat) = 1 → (e_W_comesToSame_215 M K)) ∧ (¬ (gi M 400 (v1).toNat) = 1 → (e_W_comesToSame_219 M K)))))) ∧ (¬ (v4 = 0) → ((0 ≤ v1 ∧ v1 < 300 → (((gi M 400 (v1).toNat) = 2 → ((0 ≤ v1 ∧ v1 < 300 → (((lg_cmp (gl M 405 (v1).toNat) v5).toInt = 0 → (e_W_comesToSame_215 M K)) ∧ (¬ (lg_cmp (gl M 405 (v1).toNat) v5).toInt = 0 → (e_W_comesToSame_219 M K)))))) ∧ (¬ (gi M 400 (v1).toNat) = 2 → (e_W_comesToSame_219 M K)))))))) ∧ (¬ v2 = (gi M 403 (v1).toNat) → (e_W_comesToSame_219 M K))))
theorem E_W_comesToSame_165 {fz : Bool} {S : gS} {B : rf_M} {M : rf_M} {ls : rf_L} {n0 : Nat} {v1 : Int} {v2 : Int} {v4 : Int} {v5 : Int64} {K : Int → rf_M → Prop} (hS : rl S) (hR : fl 353 406 B M) (iv1 : inr v1) (iv2 : inr v2) (iv4 : inr v4) (a0 : rf_ld ls 0 = some (.ref 353)) (a1 : rf_ld ls 1 = some (zv v1)) (a2 : rf_ld ls 2 = some (zv v2)) (a4 : rf_ld ls 4 = some (zv v4)) (a5 : rf_ld ls 5 = some (.long v5)) (h : e_W_comesToSame_165 v1 v2 v4 v5 M K) : lx (cx0 fz) n0 195 165 ls [] (M, S) (vl_i 353 406 B S K) := by
  unfold e_W_comesToSame_165 at h
  refine l1 (n := 1) rfl rfl rfl (li_of a2) ?_
  refine l1 (n := 1) rfl rfl rfl (la_of a0) ?_
  refine l_gr rfl (ko_11 hS (List.Mem.head _)) rfl (fun _ => rfl) (kf_11_73 hR.2 (List.Mem.head _)) ?_
  refine l1 (n := 1) rfl rfl rfl (li_of a1) ?_
  refine b_ia rfl (kc_403 (fz := fz) hS).1 (Nat.le_of_ble_eq_true rfl) iv1 (fun q => ?_)
  replace h := h q
  refine l_ic rfl iv2 (inr_gi _ _ _) (fun c => ?_) (fun c => ?_)
  · replace h := h.2 c
    exact E_W_comesToSame_219 hS hR  h
  · replace h := h.1 (Classical.not_not.mp c)
    refine l1 (n := 2) rfl rfl rfl (li_of a4) ?_
    refine l_if rfl iv4 (fun c => ?_) (fun c => ?_)
    · replace h := h.1 c
      refine l1 (n := 1) rfl rfl rfl (la_of a0) ?_
      refine l_gr rfl (ko_11 hS (List.Mem.head _)) rfl (fun _ => rfl) (kf_11_70 hR.2 (List.Mem.head _)) ?_
      refine l1 (n := 1) rfl rfl rfl (li_of a1) ?_
      refine b_ia rfl (kc_400 (fz := fz) hS).1 (Nat.le_of_ble_eq_true rfl) iv1 (fun q => ?_)
      replace h := h q
      refine l1 (n := 1) rfl rfl rfl rfl ?_
      refine l_ic rfl (inr_gi _ _ _) ⟨by decide, by decide⟩ (fun c => ?_) (fun c => ?_)
      · replace h := h.2 c
        exact E_W_comesToSame_219 hS hR  h
      · replace h := h.1 (Classical.not_not.mp c)
        exact E_W_comesToSame_215 hS hR  h
    · replace h := h.2 c
      refine l1 (n := 1) rfl rfl rfl (la_of a0) ?_
      refine l_gr rfl (ko_11 hS (List.Mem.head _)) rfl (fun _ => rfl) (kf_11_70 hR.2 (List.Mem.head _)) ?_
      refine l1 (n := 1) rfl rfl rfl (li_of a1) ?_
      refine b_ia rfl (kc_400 (fz := fz) hS).1 (Nat.le_of_ble_eq_true rfl) iv1 (fun q => ?_)
      replace h := h q
      refine l1 (n := 1) rfl rfl rfl rfl ?_
      refine l_ic rfl (inr_gi _ _ _) ⟨by decide, by decide⟩ (fun c => ?_) (fun c => ?_)
      · replace h := h.2 c
        exact E_W_comesToSame_219 hS hR  h
      · replace h := h.1 (Classical.not_not.mp c)
        refine l1 (n := 1) rfl rfl rfl (la_of a0) ?_
        refine l_gr rfl (ko_11 hS (List.Mem.head _)) rfl (fun _ => rfl) (kf_11_75 hR.2 (List.Mem.head _)) ?_
        refine l1 (n := 1) rfl rfl rfl (li_of a1) ?_
        refine b_la rfl (kc_405 (fz := fz) hS).1 (Nat.le_of_ble_eq_true rfl) iv1 (fun q => ?_)
        replace h := h q
        refine l1 (n := 2) rfl rfl rfl (ll_of a5) ?_
        refine l_op (T := (lg_cmp (gl M 405 (v1).toNat) v5)) rfl rfl rfl ?_
        refine l_if rfl (inr_ti _) (fun c => ?_) (fun c => ?_)
        · replace h := h.2 c
          exact E_W_comesToSame_219 hS hR  h
        · replace h := h.1 (Classical.not_not.mp c)
          refine l3 rfl rfl rfl ?_
          exact E_W_comesToSame_215 hS hR  h
def e_W_comesToSame_156 (v1 : Int) (v2 : Int) (v4 : Int) (v5 : Int64) (M : rf_M) (K : Int → rf_M → Prop) : Prop := (v4 = 0 → (em_W_bringIn  M (fun (M1 : rf_M) => e_W_comesToSame_165 v1 v2 v4 v5 M1 K))) ∧ (¬ v4 = 0 → (e_W_comesToSame_165 v1 v2 v4 v5 M K))
theorem E_W_comesToSame_156 {fz : Bool} {S : gS} {B : rf_M} {M : rf_M} {ls : rf_L} {n0 : Nat} {v1 : Int} {v2 : Int} {v4 : Int} {v5 : Int64} {K : Int → rf_M → Prop} (hS : rl S) (hR : fl 353 406 B M) (iv1 : inr v1) (iv2 : inr v2) (iv4 : inr v4) (a0 : rf_ld ls 0 = some (.ref 353)) (a1 : rf_ld ls 1 = some (zv v1)) (a2 : rf_ld ls 2 = some (zv v2)) (a4 : rf_ld ls 4 = some (zv v4)) (a5 : rf_ld ls 5 = some (.long v5)) (h : e_W_comesToSame_156 v1 v2 v4 v5 M K) : lx (cx0 fz) n0 195 156 ls [] (M, S) (vl_i 353 406 B S K) := by
  unfold e_W_comesToSame_156 at h
  refine l1 (n := 2) rfl rfl rfl (li_of a4) ?_
  refine l_if rfl iv4 (fun c => ?_) (fun c => ?_)
  · replace h := h.2 c
    exact E_W_comesToSame_165 hS hR iv1 iv2 iv4 a0 a1 a2 a4 a5 h
  · replace h := h.1 (Classical.not_not.mp c)
    refine l1 (n := 1) rfl rfl rfl (la_of a0) ?_
    refine b_iv (c := 353) (as := []) (rest := []) rfl (by decide) (ko_11 hS (List.Mem.head _)) rfl rfl (Nat.le_of_ble_eq_true rfl) (fun hq => ?_)
    refine lx_mono (E_W_bringIn_m hS hR h) ?_
    rintro _ _ ⟨M1, rfl, rfl, r1, h⟩
    exact E_W_comesToSame_165 hS r1 iv1 iv2 iv4 a0 a1 a2 a4 a5 h
def e_W_comesToSame_154 (M : rf_M) (K : Int → rf_M → Prop) : Prop := K 0 M
theorem E_W_comesToSame_154 {fz : Bool} {S : gS} {B : rf_M} {M : rf_M} {ls : rf_L} {n0 : Nat} {K : Int → rf_M → Prop} (hS : rl S) (hR : fl 353 406 B M) (h : e_W_comesToSame_154 M K) : lx (cx0 fz) n0 195 154 ls [] (M, S) (vl_i 353 406 B S K) := by
  unfold e_W_comesToSame_154 at h
  refine l1 (n := 1) rfl rfl rfl rfl ?_
  exact l_rb rfl rfl (Or.inl rfl) hR h
def e_W_comesToSame_144 (v1 : Int) (v2 : Int) (v3 : Int) (v4 : Int) (v5 : Int64) (M : rf_M) (K : Int → rf_M → Prop) : Prop := (v3 = 3 → (e_W_comesToSame_154 M K)) ∧ (¬ (v3 = 3) → ((v3 = 1 → (e_W_comesToSame_154 M K)) ∧ (¬ v3 = 1 → (e_W_comesToSame_156 v1 v2 v4 v5 M K))))
theorem E_W_comesToSame_144 {fz : Bool} {S : gS} {B : rf_M} {M : rf_M} {ls : rf_L} {n0 : Nat} {v1 : Int} {v2 : Int} {v3 : Int} {v4 : Int} {v5 : Int64} {K : Int → rf_M → Prop} (hS : rl S) (hR : fl 353 406 B M) (iv1 : inr v1) (iv2 : inr v2) (iv3 : inr v3) (iv4 : inr v4) (a0 : rf_ld ls 0 = some (.ref 353)) (a1 : rf_ld ls 1 = some (zv v1)) (a2 : rf_ld ls 2 = some (zv v2)) (a3 : rf_ld ls 3 = some (zv v3)) (a4 : rf_ld ls 4 = some (zv v4)) (a5 : rf_ld ls 5 = some (.long v5)) (h : e_W_comesToSame_144 v1 v2 v3 v4 v5 M K) : lx (cx0 fz) n0 195 144 ls [] (M, S) (vl_i 353 406 B S K) := by
  unfold e_W_comesToSame_144 at h
  refine l1 (n := 1) rfl rfl rfl (li_of a3) ?_
  refine l1 (n := 1) rfl rfl rfl rfl ?_
  refine l_ic rfl iv3 ⟨by decide, by decide⟩ (fun c => ?_) (fun c => ?_)
  · replace h := h.1 c
    exact E_W_comesToSame_154 hS hR  h
  · replace h := h.2 c
    refine l1 (n := 1) rfl rfl rfl (li_of a3) ?_
    refine l1 (n := 1) rfl rfl rfl rfl ?_
    refine l_ic rfl iv3 ⟨by decide, by decide⟩ (fun c => ?_) (fun c => ?_)
    · replace h := h.2 c
      exact E_W_comesToSame_156 hS hR iv1 iv2 iv4 a0 a1 a2 a4 a5 h
    · replace h := h.1 (Classical.not_not.mp c)
      exact E_W_comesToSame_154 hS hR  h
def e_W_comesToSame_95 (v1 : Int) (v2 : Int) (v3 : Int) (s0 : Int) (M : rf_M) (K : Int → rf_M → Prop) : Prop := (v3 = 0 → (inr (v2 + 1) ∧ (e_W_comesToSame_156 v1 (v2 + 1) 1 (Int64.ofNat 18446744073709551613) M K))) ∧ (¬ v3 = 0 → ((v3 = 4 → (em_W_isWell  M (fun (z1 : Int) (M1 : rf_M) => (z1 = 0 → (e_W_comesToSame_156 v1 v2 1 (Int64.ofNat 18446744073709551614) M1 K)) ∧ (¬ z1 = 0 → (e_W_comesToSame_144 v1 v2 v3 s0 (gl M 353 66) M1 K))))) ∧ (¬ v3 = 4 → (e_W_comesToSame_144 v1 v2 v3 s0 (gl M 353 66) M K))))
theorem E_W_comesToSame_95 {fz : Bool} {S : gS} {B : rf_M} {M : rf_M} {ls : rf_L} {n0 : Nat} {v1 : Int} {v2 : Int} {v3 : Int} {s0 : Int} {K : Int → rf_M → Prop} (hS : rl S) (hR : fl 353 406 B M) (iv1 : inr v1) (iv2 : inr v2) (iv3 : inr v3) (is0 : inr s0) (a0 : rf_ld ls 0 = some (.ref 353)) (a1 : rf_ld ls 1 = some (zv v1)) (a2 : rf_ld ls 2 = some (zv v2)) (a3 : rf_ld ls 3 = some (zv v3)) (h : e_W_comesToSame_95 v1 v2 v3 s0 M K) : lx (cx0 fz) n0 195 95 ls [zv s0] (M, S) (vl_i 353 406 B S K) := by
  unfold e_W_comesToSame_95 at h
  refine l_s1 (n := 2) rfl rfl rfl rfl (fun ls y1 ho => ?_)
  have y2 := ho 0 _ (by decide) (fun q => by cases q.2) a0
  have y3 := ho 1 _ (by decide) (fun q => by cases q.2) a1
  have y4 := ho 2 _ (by decide) (fun q => by cases q.2) a2
  have y5 := ho 3 _ (by decide) (fun q => by cases q.2) a3
  refine l1 (n := 1) rfl rfl rfl (la_of y2) ?_
  refine l_gl rfl (ko_11 hS (List.Mem.head _)) rfl (fun _ => rfl) ?_
  refine l_s2 (n := 2) rfl rfl rfl rfl (fun ls y6 ho => ?_)
  have y7 := ho 0 _ (by decide) (by decide) (fun q => by cases q.2) y2
  have y8 := ho 1 _ (by decide) (by decide) (fun q => by cases q.2) y3
  have y9 := ho 2 _ (by decide) (by decide) (fun q => by cases q.2) y4
  have y10 := ho 3 _ (by decide) (by decide) (fun q => by cases q.2) y5
  have y11 := ho 4 _ (by decide) (by decide) (fun q => by cases q.2) y1
  refine l1 (n := 1) rfl rfl rfl (li_of y10) ?_
  refine l_if rfl iv3 (fun c => ?_) (fun c => ?_)
  · replace h := h.2 c
    refine l1 (n := 1) rfl rfl rfl (li_of y10) ?_
    refine l1 (n := 1) rfl rfl rfl rfl ?_
    refine l_ic rfl iv3 ⟨by decide, by decide⟩ (fun c => ?_) (fun c => ?_)
    · replace h := h.2 c
      exact E_W_comesToSame_144 hS hR iv1 iv2 iv3 is0 y7 y8 y9 y10 y11 y6 h
    · replace h := h.1 (Classical.not_not.mp c)
      refine l1 (n := 1) rfl rfl rfl (la_of y7) ?_
      refine b_iv (c := 353) (as := []) (rest := []) rfl (by decide) (ko_11 hS (List.Mem.head _)) rfl rfl (Nat.le_of_ble_eq_true rfl) (fun hq => ?_)
      refine lx_mono (E_W_isWell_m hS hR h) ?_
      rintro _ _ ⟨z1, M1, rfl, rfl, r1, iz1, h⟩
      refine l_if rfl iz1 (fun c => ?_) (fun c => ?_)
      · replace h := h.2 c
        exact E_W_comesToSame_144 hS r1 iv1 iv2 iv3 is0 y7 y8 y9 y10 y11 y6 h
      · replace h := h.1 (Classical.not_not.mp c)
        refine l1 (n := 1) rfl rfl rfl rfl ?_
        refine l_s1 (n := 2) rfl rfl rfl rfl (fun ls y12 ho => ?_)
        have y13 := ho 0 _ (by decide) (fun q => by cases q.2) y7
        have y14 := ho 1 _ (by decide) (fun q => by cases q.2) y8
        have y15 := ho 2 _ (by decide) (fun q => by cases q.2) y9
        refine l7 (n := 3) rfl rfl rfl rfl ?_
        refine l_s2 (n := 2) rfl rfl rfl rfl (fun ls y16 ho => ?_)
        have y17 := ho 0 _ (by decide) (by decide) (fun q => by cases q.2) y13
        have y18 := ho 1 _ (by decide) (by decide) (fun q => by cases q.2) y14
        have y19 := ho 2 _ (by decide) (by decide) (fun q => by cases q.2) y15
        have y20 := ho 4 _ (by decide) (by decide) (fun q => by cases q.2) y12
        refine l3 rfl rfl rfl ?_
        exact E_W_comesToSame_156 hS r1 iv1 iv2 ⟨by decide, by decide⟩ y17 y18 y19 y20 y16 h
  · replace h := h.1 (Classical.not_not.mp c)
    refine l1 (n := 1) rfl rfl rfl rfl ?_
    refine l_s1 (n := 2) rfl rfl rfl rfl (fun ls y21 ho => ?_)
    have y22 := ho 0 _ (by decide) (fun q => by cases q.2) y7
    have y23 := ho 1 _ (by decide) (fun q => by cases q.2) y8
    have y24 := ho 2 _ (by decide) (fun q => by cases q.2) y9
    refine l7 (n := 3) rfl rfl rfl rfl ?_
    refine l_s2 (n := 2) rfl rfl rfl rfl (fun ls y25 ho => ?_)
    have y26 := ho 0 _ (by decide) (by decide) (fun q => by cases q.2) y22
    have y27 := ho 1 _ (by decide) (by decide) (fun q => by cases q.2) y23
    have y28 := ho 2 _ (by decide) (by decide) (fun q => by cases q.2) y24
    have y29 := ho 4 _ (by decide) (by decide) (fun q => by cases q.2) y21
    refine l_ii rfl y28 (Nat.le_of_ble_eq_true rfl) (fun ls y30 ho => ?_)
    have y31 := ho 0 _ (by decide) (fun q => by cases q.2) y26
    have y32 := ho 1 _ (by decide) (fun q => by cases q.2) y27
    have y33 := ho 4 _ (by decide) (fun q => by cases q.2) y29
    have y34 := ho 5 _ (by decide) (fun q => absurd q.1 (by decide)) y25
    refine l3 rfl rfl rfl ?_
    obtain ⟨i1, h⟩ := h
    exact E_W_comesToSame_156 hS hR iv1 i1 ⟨by decide, by decide⟩ y31 y32 y30 y33 y34 h
def e_W_comesToSame_85 (v1 : Int) (v2 : Int) (v3 : Int) (M : rf_M) (K : Int → rf_M → Prop) : Prop := (v3 = 2 → (e_W_comesToSame_95 v1 v2 v3 1 M K)) ∧ (¬ v3 = 2 → (e_W_comesToSame_95 v1 v2 v3 0 M K))
theorem E_W_comesToSame_85 {fz : Bool} {S : gS} {B : rf_M} {M : rf_M} {ls : rf_L} {n0 : Nat} {v1 : Int} {v2 : Int} {v3 : Int} {K : Int → rf_M → Prop} (hS : rl S) (hR : fl 353 406 B M) (iv1 : inr v1) (iv2 : inr v2) (iv3 : inr v3) (a0 : rf_ld ls 0 = some (.ref 353)) (a1 : rf_ld ls 1 = some (zv v1)) (a2 : rf_ld ls 2 = some (zv v2)) (a3 : rf_ld ls 3 = some (zv v3)) (h : e_W_comesToSame_85 v1 v2 v3 M K) : lx (cx0 fz) n0 195 85 ls [] (M, S) (vl_i 353 406 B S K) := by
  unfold e_W_comesToSame_85 at h
  refine l1 (n := 1) rfl rfl rfl (li_of a3) ?_
  refine l1 (n := 1) rfl rfl rfl rfl ?_
  refine l_ic rfl iv3 ⟨by decide, by decide⟩ (fun c => ?_) (fun c => ?_)
  · replace h := h.2 c
    refine l1 (n := 1) rfl rfl rfl rfl ?_
    exact E_W_comesToSame_95 hS hR iv1 iv2 iv3 ⟨by decide, by decide⟩ a0 a1 a2 a3 h
  · replace h := h.1 (Classical.not_not.mp c)
    refine l1 (n := 1) rfl rfl rfl rfl ?_
    refine l3 rfl rfl rfl ?_
    exact E_W_comesToSame_95 hS hR iv1 iv2 iv3 ⟨by decide, by decide⟩ a0 a1 a2 a3 h
def e_W_comesToSame_63b (v1 : Int) (v2 : Int) (v3 : Int) (M : rf_M) (b63 : Int → Int → Int → rf_M → Prop) (K : Int → rf_M → Prop) : Prop := (v3 = 0 → ((300 ≤ v2 → (e_W_comesToSame_85 v1 v2 v3 M K)) ∧ (¬ (300 ≤ v2) → (em_W_step  M (fun (z1 : Int) (M1 : rf_M) => inr (v2 + 1) ∧ (b63 v1 (v2 + 1) z1 M1)))))) ∧ (¬ v3 = 0 → (e_W_comesToSame_85 v1 v2 v3 M K))
theorem E_W_comesToSame_63b {fz : Bool} {S : gS} {B : rf_M} {M : rf_M} {ls : rf_L} {n0 : Nat} {v1 : Int} {v2 : Int} {v3 : Int} {b63 : Int → Int → Int → rf_M → Prop} {K : Int → rf_M → Prop} (hS : rl S) (hR : fl 353 406 B M) (iv1 : inr v1) (iv2 : inr v2) (iv3 : inr v3) (a0 : rf_ld ls 0 = some (.ref 353)) (a1 : rf_ld ls 1 = some (zv v1)) (a2 : rf_ld ls 2 = some (zv v2)) (a3 : rf_ld ls 3 = some (zv v3)) (hb63 : ∀ n', n' < n0 → ∀ (v1 : Int) (v2 : Int) (v3 : Int) (M : rf_M) (ls : rf_L), fl 353 406 B M → inr v1 → inr v2 → inr v3 → rf_ld ls 0 = some (.ref 353) → rf_ld ls 1 = some (zv v1) → rf_ld ls 2 = some (zv v2) → rf_ld ls 3 = some (zv v3) → b63 v1 v2 v3 M → lx (cx0 fz) n' 195 63 ls [] (M, S) (vl_i 353 406 B S K)) (h : e_W_comesToSame_63b v1 v2 v3 M b63 K) : lx (cx0 fz) n0 195 63 ls [] (M, S) (vl_i 353 406 B S K) := by
  unfold e_W_comesToSame_63b at h
  rcases Nat.eq_zero_or_pos n0 with e0 | hp
  · rw [e0]; exact lx_zero
  refine l1 (n := 1) rfl rfl rfl (li_of a3) ?_
  refine l_if rfl iv3 (fun c => ?_) (fun c => ?_)
  · replace h := h.2 c
    exact E_W_comesToSame_85 hS hR iv1 iv2 iv3 a0 a1 a2 a3 h
  · replace h := h.1 (Classical.not_not.mp c)
    refine l1 (n := 1) rfl rfl rfl (li_of a2) ?_
    refine l_si rfl (by decide) ?_
    refine l_ic rfl iv2 ⟨by decide, by decide⟩ (fun c => ?_) (fun c => ?_)
    · replace h := h.1 c
      exact E_W_comesToSame_85 hS hR iv1 iv2 iv3 a0 a1 a2 a3 h
    · replace h := h.2 c
      refine l1 (n := 1) rfl rfl rfl (la_of a0) ?_
      refine b_iv (c := 353) (as := []) (rest := []) rfl (by decide) (ko_11 hS (List.Mem.head _)) rfl rfl (Nat.le_of_ble_eq_true rfl) (fun hq => ?_)
      refine lx_mono (E_W_step_m hS hR h) ?_
      rintro _ _ ⟨z1, M1, rfl, rfl, r1, iz1, h⟩
      refine l_s1 (n := 1) rfl rfl rfl rfl (fun ls y1 ho => ?_)
      have y2 := ho 0 _ (by decide) (fun q => by cases q.2) a0
      have y3 := ho 1 _ (by decide) (fun q => by cases q.2) a1
      have y4 := ho 2 _ (by decide) (fun q => by cases q.2) a2
      refine l_ii rfl y4 (Nat.le_of_ble_eq_true rfl) (fun ls y5 ho => ?_)
      have y6 := ho 0 _ (by decide) (fun q => by cases q.2) y2
      have y7 := ho 1 _ (by decide) (fun q => by cases q.2) y3
      have y8 := ho 3 _ (by decide) (fun q => by cases q.2) y1
      refine l3 rfl rfl rfl ?_
      obtain ⟨i1, h⟩ := h
      exact hb63 _ (by omega) _ _ _ _ _ r1 iv1 i1 iz1 y6 y7 y5 y8 h
def e_W_comesToSame_63 (v1 : Int) (v2 : Int) (v3 : Int) (M : rf_M) (K : Int → rf_M → Prop) : Prop := ∃ Inv : Int → Int → Int → rf_M → Prop, Inv v1 v2 v3 M ∧ ∀ (v1 : Int) (v2 : Int) (v3 : Int) (M : rf_M), inr v1 → inr v2 → inr v3 → Inv v1 v2 v3 M → e_W_comesToSame_63b v1 v2 v3 M Inv K
theorem E_W_comesToSame_63 {fz : Bool} {S : gS} {B : rf_M} {M : rf_M} {ls : rf_L} {n0 : Nat} {v1 : Int} {v2 : Int} {v3 : Int} {K : Int → rf_M → Prop} (hS : rl S) (hR : fl 353 406 B M) (iv1 : inr v1) (iv2 : inr v2) (iv3 : inr v3) (a0 : rf_ld ls 0 = some (.ref 353)) (a1 : rf_ld ls 1 = some (zv v1)) (a2 : rf_ld ls 2 = some (zv v2)) (a3 : rf_ld ls 3 = some (zv v3)) (h : e_W_comesToSame_63 v1 v2 v3 M K) : lx (cx0 fz) n0 195 63 ls [] (M, S) (vl_i 353 406 B S K) := by
  obtain ⟨Inv, hm, hb⟩ := h
  induction n0 using Nat.strongRecOn generalizing ls M v1 v2 v3 with
  | _ n0 ih =>
    refine E_W_comesToSame_63b hS hR iv1 iv2 iv3 a0 a1 a2 a3 (fun n' hn' v1' v2' v3' M' ls' hR' f0 f1 f2 f3 f4 f5 f6 q2 => ih n' hn' hR' f0 f1 f2 f3 f4 f5 f6 q2) (hb v1 v2 v3 M iv1 iv2 iv3 hm)
def e_W_comesToSame (v1 : Int) (M : rf_M) (K : Int → rf_M → Prop) : Prop := (0 ≤ v1 ∧ v1 < 300 → (((gi M 400 (v1).toNat) = 0 → ((0 ≤ v1 ∧ v1 < 300 → ((0 ≤ v1 ∧ v1 < 300 → (inr (16 + (gi M 402 (v1).toNat)) ∧ ((0 ≤ (16 + (gi M 402 (v1).toNat)) ∧ (16 + (gi M 402 (v1).toNat)) < 32 → (∀ M2 : rf_M, M2 = wl M 376 (16 + (gi M 402 (v1).toNat)).toNat (gl M 405 (v1).toNat) → ((0 ≤ v1 ∧ v1 < 300 → (inr (16 + (gi M2 402 (v1).toNat)) ∧ ((0 ≤ (16 + (gi M2 402 (v1).toNat)) ∧ (16 + (gi M2 402 (v1).toNat)) < 32 → ((0 ≤ (16 + (gi M2 402 (v1).toNat)) ∧ (16 + (gi M2 402 (v1).toNat)) < 32 → (∀ M3 : rf_M, M3 = wi M2 377 (16 + (gi M2 402 (v1).toNat)).toNat ((gi M2 377 (16 + (gi M2 402 (v1).toNat)).toNat) + 1) → (K 1 M3)))))))))))))))))) ∧ (¬ (gi M 400 (v1).toNat) = 0 → ((0 ≤ v1 ∧ v1 < 300 → (em_W_beginRun (gi M 402 (v1).toNat) M (fun (M1 : rf_M) => e_W_comesToSame_63 v1 0 0 M1 K)))))))
theorem E_W_comesToSame {fz : Bool} {S : gS} {B : rf_M} {M : rf_M} {ls : rf_L} {n0 : Nat} {v1 : Int} {K : Int → rf_M → Prop} (hS : rl S) (hR : fl 353 406 B M) (iv1 : inr v1) (a0 : rf_ld ls 0 = some (.ref 353)) (a1 : rf_ld ls 1 = some (zv v1)) (h : e_W_comesToSame v1 M K) : lx (cx0 fz) n0 195 0 ls [] (M, S) (vl_i 353 406 B S K) := by
  unfold e_W_comesToSame at h
  refine l1 (n := 1) rfl rfl rfl (la_of a0) ?_
  refine l_gr rfl (ko_11 hS (List.Mem.head _)) rfl (fun _ => rfl) (kf_11_70 hR.2 (List.Mem.head _)) ?_
  refine l1 (n := 1) rfl rfl rfl (li_of a1) ?_
  refine b_ia rfl (kc_400 (fz := fz) hS).1 (Nat.le_of_ble_eq_true rfl) iv1 (fun q => ?_)
  replace h := h q
  refine l_if rfl (inr_gi _ _ _) (fun c => ?_) (fun c => ?_)
  · replace h := h.2 c
    refine l1 (n := 1) rfl rfl rfl (la_of a0) ?_
    refine l1 (n := 1) rfl rfl rfl (la_of a0) ?_
    refine l_gr rfl (ko_11 hS (List.Mem.head _)) rfl (fun _ => rfl) (kf_11_72 hR.2 (List.Mem.head _)) ?_
    refine l1 (n := 1) rfl rfl rfl (li_of a1) ?_
    refine b_ia rfl (kc_402 (fz := fz) hS).1 (Nat.le_of_ble_eq_true rfl) iv1 (fun q => ?_)
    replace h := h q
    refine b_iv (c := 353) (as := [zv (gi M 402 (v1).toNat)]) (rest := []) rfl (by decide) (ko_11 hS (List.Mem.head _)) rfl rfl (Nat.le_of_ble_eq_true rfl) (fun hq => ?_)
    refine lx_mono (E_W_beginRun_m hS hR (inr_gi _ _ _) h) ?_
    rintro _ _ ⟨M1, rfl, rfl, r1, h⟩
    refine l1 (n := 1) rfl rfl rfl rfl ?_
    refine l_s1 (n := 1) rfl rfl rfl rfl (fun ls y1 ho => ?_)
    have y2 := ho 0 _ (by decide) (fun q => by cases q.2) a0
    have y3 := ho 1 _ (by decide) (fun q => by cases q.2) a1
    refine l1 (n := 1) rfl rfl rfl rfl ?_
    refine l_s1 (n := 1) rfl rfl rfl rfl (fun ls y4 ho => ?_)
    have y5 := ho 0 _ (by decide) (fun q => by cases q.2) y2
    have y6 := ho 1 _ (by decide) (fun q => by cases q.2) y3
    have y7 := ho 2 _ (by decide) (fun q => by cases q.2) y1
    exact E_W_comesToSame_63 hS r1 iv1 ⟨by decide, by decide⟩ ⟨by decide, by decide⟩ y5 y6 y7 y4 h
  · replace h := h.1 (Classical.not_not.mp c)
    refine l1 (n := 1) rfl rfl rfl (la_of a0) ?_
    refine l_gr rfl (ko_11 hS (List.Mem.head _)) rfl (fun _ => rfl) (kf_11_38 hR.2 (List.Mem.head _)) ?_
    refine l_bi rfl (by decide) ?_
    refine l1 (n := 1) rfl rfl rfl (la_of a0) ?_
    refine l_gr rfl (ko_11 hS (List.Mem.head _)) rfl (fun _ => rfl) (kf_11_72 hR.2 (List.Mem.head _)) ?_
    refine l1 (n := 1) rfl rfl rfl (li_of a1) ?_
    refine b_ia rfl (kc_402 (fz := fz) hS).1 (Nat.le_of_ble_eq_true rfl) iv1 (fun q => ?_)
    replace h := h q
    refine l_add rfl ?_
    refine l1 (n := 1) rfl rfl rfl (la_of a0) ?_
    refine l_gr rfl (ko_11 hS (List.Mem.head _)) rfl (fun _ => rfl) (kf_11_75 hR.2 (List.Mem.head _)) ?_
    refine l1 (n := 1) rfl rfl rfl (li_of a1) ?_
    refine b_la rfl (kc_405 (fz := fz) hS).1 (Nat.le_of_ble_eq_true rfl) iv1 (fun q => ?_)
    replace h := h q
    obtain ⟨i1, h⟩ := h
    refine b_ls rfl (kc_376 (fz := fz) hS).1 (Nat.le_of_ble_eq_true rfl) i1 (fun q M2 e => ?_)
    replace h := h q M2 e
    have r2 := hR.wl (Nat.le_of_ble_eq_true rfl) (Nat.le_of_ble_eq_true rfl) e
    refine l1 (n := 1) rfl rfl rfl (la_of a0) ?_
    refine l_gr rfl (ko_11 hS (List.Mem.head _)) rfl (fun _ => rfl) (kf_11_39 r2.2 (List.Mem.head _)) ?_
    refine l_bi rfl (by decide) ?_
    refine l1 (n := 1) rfl rfl rfl (la_of a0) ?_
    refine l_gr rfl (ko_11 hS (List.Mem.head _)) rfl (fun _ => rfl) (kf_11_72 r2.2 (List.Mem.head _)) ?_
    refine l1 (n := 1) rfl rfl rfl (li_of a1) ?_
    refine b_ia rfl (kc_402 (fz := fz) hS).1 (Nat.le_of_ble_eq_true rfl) iv1 (fun q => ?_)
    replace h := h q
    refine l_add rfl ?_
    refine l0 rfl rfl rfl ?_
    obtain ⟨i2, h⟩ := h
    refine b_ia rfl (kc_377 (fz := fz) hS).1 (Nat.le_of_ble_eq_true rfl) i2 (fun q => ?_)
    replace h := h q
    refine l1 (n := 1) rfl rfl rfl rfl ?_
    refine l_add rfl ?_
    refine b_is rfl (kc_377 (fz := fz) hS).1 (Nat.le_of_ble_eq_true rfl) i2 (fun q M3 e => ?_)
    replace h := h q M3 e
    have r3 := r2.wi (Nat.le_of_ble_eq_true rfl) (Nat.le_of_ble_eq_true rfl) e
    refine l1 (n := 1) rfl rfl rfl rfl ?_
    exact l_rb rfl rfl (Or.inr rfl) r3 h
def em_W_comesToSame (x1 : Int) (M : rf_M) (K : Int → rf_M → Prop) : Prop := e_W_comesToSame x1 M K
theorem E_W_comesToSame_m {fz : Bool} {S : gS} {B : rf_M} {M : rf_M} {n0 : Nat} {x1 : Int} {K : Int → rf_M → Prop} (hS : rl S) (hR : fl 353 406 B M) (ix1 : inr x1) (h : em_W_comesToSame x1 M K) : lx (cx0 fz) n0 195 0 (lv_args 0 [.ref 353, zv x1]) [] (M, S) (vl_i 353 406 B S K) :=
  E_W_comesToSame hS hR ix1 rfl rfl h
def e_W_replays_133 (v2 : Int) (s0 : Int) (M : rf_M) (b81 : Int → Int → rf_M → Prop) (K : Int → rf_M → Prop) : Prop := inr (v2 + 1) ∧ (b81 s0 (v2 + 1) M)
theorem E_W_replays_133 {fz : Bool} {S : gS} {B : rf_M} {M : rf_M} {ls : rf_L} {n0 : Nat} {v2 : Int} {s0 : Int} {b81 : Int → Int → rf_M → Prop} {K : Int → rf_M → Prop} (hS : rl S) (hR : fl 353 406 B M) (iv2 : inr v2) (is0 : inr s0) (a0 : rf_ld ls 0 = some (.ref 353)) (a2 : rf_ld ls 2 = some (zv v2)) (hb81 : ∀ n', n' < n0 → ∀ (v1 : Int) (v2 : Int) (M : rf_M) (ls : rf_L), fl 353 406 B M → inr v1 → inr v2 → rf_ld ls 0 = some (.ref 353) → rf_ld ls 1 = some (zv v1) → rf_ld ls 2 = some (zv v2) → b81 v1 v2 M → lx (cx0 fz) n' 194 81 ls [] (M, S) (vl_i 353 406 B S K)) (h : e_W_replays_133 v2 s0 M b81 K) : lx (cx0 fz) n0 194 133 ls [zv s0] (M, S) (vl_i 353 406 B S K) := by
  unfold e_W_replays_133 at h
  rcases Nat.eq_zero_or_pos n0 with e0 | hp
  · rw [e0]; exact lx_zero
  refine l_s1 (n := 1) rfl rfl rfl rfl (fun ls y1 ho => ?_)
  have y2 := ho 0 _ (by decide) (fun q => by cases q.2) a0
  have y3 := ho 2 _ (by decide) (fun q => by cases q.2) a2
  refine l_ii rfl y3 (Nat.le_of_ble_eq_true rfl) (fun ls y4 ho => ?_)
  have y5 := ho 0 _ (by decide) (fun q => by cases q.2) y2
  have y6 := ho 1 _ (by decide) (fun q => by cases q.2) y1
  refine l3 rfl rfl rfl ?_
  obtain ⟨i1, h⟩ := h
  exact hb81 _ (by omega) _ _ _ _ hR is0 i1 y5 y6 y4 h
def e_W_replays_132 (v2 : Int) (M : rf_M) (b81 : Int → Int → rf_M → Prop) (K : Int → rf_M → Prop) : Prop := e_W_replays_133 v2 0 M b81 K
theorem E_W_replays_132 {fz : Bool} {S : gS} {B : rf_M} {M : rf_M} {ls : rf_L} {n0 : Nat} {v2 : Int} {b81 : Int → Int → rf_M → Prop} {K : Int → rf_M → Prop} (hS : rl S) (hR : fl 353 406 B M) (iv2 : inr v2) (a0 : rf_ld ls 0 = some (.ref 353)) (a2 : rf_ld ls 2 = some (zv v2)) (hb81 : ∀ n', n' < n0 → ∀ (v1 : Int) (v2 : Int) (M : rf_M) (ls : rf_L), fl 353 406 B M → inr v1 → inr v2 → rf_ld ls 0 = some (.ref 353) → rf_ld ls 1 = some (zv v1) → rf_ld ls 2 = some (zv v2) → b81 v1 v2 M → lx (cx0 fz) n' 194 81 ls [] (M, S) (vl_i 353 406 B S K)) (h : e_W_replays_132 v2 M b81 K) : lx (cx0 fz) n0 194 132 ls [] (M, S) (vl_i 353 406 B S K) := by
  unfold e_W_replays_132 at h
  rcases Nat.eq_zero_or_pos n0 with e0 | hp
  · rw [e0]; exact lx_zero
  refine l1 (n := 1) rfl rfl rfl rfl ?_
  exact E_W_replays_133 hS hR iv2 ⟨by decide, by decide⟩ a0 a2 (fun n' hn' => hb81 n' (by omega)) h
def e_W_replays_204 (v2 : Int) (s0 : Int) (M : rf_M) (b167 : Int → Int → rf_M → Prop) (K : Int → rf_M → Prop) : Prop := inr (v2 + 1) ∧ (b167 s0 (v2 + 1) M)
theorem E_W_replays_204 {fz : Bool} {S : gS} {B : rf_M} {M : rf_M} {ls : rf_L} {n0 : Nat} {v2 : Int} {s0 : Int} {b167 : Int → Int → rf_M → Prop} {K : Int → rf_M → Prop} (hS : rl S) (hR : fl 353 406 B M) (iv2 : inr v2) (is0 : inr s0) (a0 : rf_ld ls 0 = some (.ref 353)) (a2 : rf_ld ls 2 = some (zv v2)) (hb167 : ∀ n', n' < n0 → ∀ (v1 : Int) (v2 : Int) (M : rf_M) (ls : rf_L), fl 353 406 B M → inr v1 → inr v2 → rf_ld ls 0 = some (.ref 353) → rf_ld ls 1 = some (zv v1) → rf_ld ls 2 = some (zv v2) → b167 v1 v2 M → lx (cx0 fz) n' 194 167 ls [] (M, S) (vl_i 353 406 B S K)) (h : e_W_replays_204 v2 s0 M b167 K) : lx (cx0 fz) n0 194 204 ls [zv s0] (M, S) (vl_i 353 406 B S K) := by
  unfold e_W_replays_204 at h
  rcases Nat.eq_zero_or_pos n0 with e0 | hp
  · rw [e0]; exact lx_zero
  refine l_s1 (n := 1) rfl rfl rfl rfl (fun ls y1 ho => ?_)
  have y2 := ho 0 _ (by decide) (fun q => by cases q.2) a0
  have y3 := ho 2 _ (by decide) (fun q => by cases q.2) a2
  refine l_ii rfl y3 (Nat.le_of_ble_eq_true rfl) (fun ls y4 ho => ?_)
  have y5 := ho 0 _ (by decide) (fun q => by cases q.2) y2
  have y6 := ho 1 _ (by decide) (fun q => by cases q.2) y1
  refine l3 rfl rfl rfl ?_
  obtain ⟨i1, h⟩ := h
  exact hb167 _ (by omega) _ _ _ _ hR is0 i1 y5 y6 y4 h
def e_W_replays_225 (s0 : Int) (M : rf_M) (K : Int → rf_M → Prop) : Prop := K s0 M
theorem E_W_replays_225 {fz : Bool} {S : gS} {B : rf_M} {M : rf_M} {ls : rf_L} {n0 : Nat} {s0 : Int} {K : Int → rf_M → Prop} (hS : rl S) (hR : fl 353 406 B M) (is0 : inr s0) (h : e_W_replays_225 s0 M K) : lx (cx0 fz) n0 194 225 ls [zv s0] (M, S) (vl_i 353 406 B S K) := by
  unfold e_W_replays_225 at h
  exact l_ri rfl rfl is0 hR h
def e_W_replays_211 (v1 : Int) (M : rf_M) (K : Int → rf_M → Prop) : Prop := ∀ M1 : rf_M, M1 = wi M 353 42 0 → ((v1 = 0 → (e_W_replays_225 0 M1 K)) ∧ (¬ (v1 = 0) → (e_W_replays_225 1 M1 K)))
theorem E_W_replays_211 {fz : Bool} {S : gS} {B : rf_M} {M : rf_M} {ls : rf_L} {n0 : Nat} {v1 : Int} {K : Int → rf_M → Prop} (hS : rl S) (hR : fl 353 406 B M) (iv1 : inr v1) (a0 : rf_ld ls 0 = some (.ref 353)) (a1 : rf_ld ls 1 = some (zv v1)) (h : e_W_replays_211 v1 M K) : lx (cx0 fz) n0 194 211 ls [] (M, S) (vl_i 353 406 B S K) := by
  unfold e_W_replays_211 at h
  refine l1 (n := 1) rfl rfl rfl (la_of a0) ?_
  refine l1 (n := 1) rfl rfl rfl rfl ?_
  refine l_pi rfl (ko_11 (fz := fz) hS (List.Mem.head _)) rfl (fun _ _ => rfl) (fun M1 e => ?_)
  replace h := h M1 e
  have r1 := hR.wi (Nat.le_of_ble_eq_true rfl) (Nat.le_of_ble_eq_true rfl) e
  refine l1 (n := 1) rfl rfl rfl (li_of a1) ?_
  refine l_if rfl iv1 (fun c => ?_) (fun c => ?_)
  · replace h := h.1 c
    refine l1 (n := 1) rfl rfl rfl rfl ?_
    exact E_W_replays_225 hS r1 ⟨by decide, by decide⟩ h
  · replace h := h.2 c
    refine l1 (n := 1) rfl rfl rfl rfl ?_
    refine l3 rfl rfl rfl ?_
    exact E_W_replays_225 hS r1 ⟨by decide, by decide⟩ h
def e_W_replays_167b (v1 : Int) (v2 : Int) (M : rf_M) (b167 : Int → Int → rf_M → Prop) (K : Int → rf_M → Prop) : Prop := (0 ≤ (0 : Int) ∧ (0 : Int) < 2 → (((gi M 378 0) ≤ v2 → (e_W_replays_211 v1 M K)) ∧ (¬ ((gi M 378 0) ≤ v2) → ((v1 = 0 → (e_W_replays_211 v1 M K)) ∧ (¬ (v1 = 0) → ((0 ≤ v2 ∧ v2 < 64 → (inr (32 + v2) ∧ ((0 ≤ (32 + v2) ∧ (32 + v2) < 64 → (((gi M 379 (v2).toNat) = (gi M 379 (32 + v2).toNat) → (e_W_replays_204 v2 1 M b167 K)) ∧ (¬ (gi M 379 (v2).toNat) = (gi M 379 (32 + v2).toNat) → (e_W_replays_204 v2 0 M b167 K)))))))))))))
theorem E_W_replays_167b {fz : Bool} {S : gS} {B : rf_M} {M : rf_M} {ls : rf_L} {n0 : Nat} {v1 : Int} {v2 : Int} {b167 : Int → Int → rf_M → Prop} {K : Int → rf_M → Prop} (hS : rl S) (hR : fl 353 406 B M) (iv1 : inr v1) (iv2 : inr v2) (a0 : rf_ld ls 0 = some (.ref 353)) (a1 : rf_ld ls 1 = some (zv v1)) (a2 : rf_ld ls 2 = some (zv v2)) (hb167 : ∀ n', n' < n0 → ∀ (v1 : Int) (v2 : Int) (M : rf_M) (ls : rf_L), fl 353 406 B M → inr v1 → inr v2 → rf_ld ls 0 = some (.ref 353) → rf_ld ls 1 = some (zv v1) → rf_ld ls 2 = some (zv v2) → b167 v1 v2 M → lx (cx0 fz) n' 194 167 ls [] (M, S) (vl_i 353 406 B S K)) (h : e_W_replays_167b v1 v2 M b167 K) : lx (cx0 fz) n0 194 167 ls [] (M, S) (vl_i 353 406 B S K) := by
  unfold e_W_replays_167b at h
  rcases Nat.eq_zero_or_pos n0 with e0 | hp
  · rw [e0]; exact lx_zero
  refine l1 (n := 1) rfl rfl rfl (li_of a2) ?_
  refine l1 (n := 1) rfl rfl rfl (la_of a0) ?_
  refine l_gr rfl (ko_11 hS (List.Mem.head _)) rfl (fun _ => rfl) (kf_11_40 hR.2 (List.Mem.head _)) ?_
  refine l1 (n := 1) rfl rfl rfl rfl ?_
  refine b_ia rfl (kc_378 (fz := fz) hS).1 (Nat.le_of_ble_eq_true rfl) ⟨by decide, by decide⟩ (fun q => ?_)
  replace h := h q
  refine l_ic rfl iv2 (inr_gi _ _ _) (fun c => ?_) (fun c => ?_)
  · replace h := h.1 c
    exact E_W_replays_211 hS hR iv1 a0 a1 h
  · replace h := h.2 c
    refine l1 (n := 1) rfl rfl rfl (li_of a1) ?_
    refine l_if rfl iv1 (fun c => ?_) (fun c => ?_)
    · replace h := h.1 c
      exact E_W_replays_211 hS hR iv1 a0 a1 h
    · replace h := h.2 c
      refine l1 (n := 1) rfl rfl rfl (la_of a0) ?_
      refine l_gr rfl (ko_11 hS (List.Mem.head _)) rfl (fun _ => rfl) (kf_11_41 hR.2 (List.Mem.head _)) ?_
      refine l1 (n := 1) rfl rfl rfl (li_of a2) ?_
      refine b_ia rfl (kc_379 (fz := fz) hS).1 (Nat.le_of_ble_eq_true rfl) iv2 (fun q => ?_)
      replace h := h q
      refine l1 (n := 1) rfl rfl rfl (la_of a0) ?_
      refine l_gr rfl (ko_11 hS (List.Mem.head _)) rfl (fun _ => rfl) (kf_11_41 hR.2 (List.Mem.head _)) ?_
      refine l_bi rfl (by decide) ?_
      refine l1 (n := 1) rfl rfl rfl (li_of a2) ?_
      refine l_add rfl ?_
      obtain ⟨i1, h⟩ := h
      refine b_ia rfl (kc_379 (fz := fz) hS).1 (Nat.le_of_ble_eq_true rfl) i1 (fun q => ?_)
      replace h := h q
      refine l_ic rfl (inr_gi _ _ _) (inr_gi _ _ _) (fun c => ?_) (fun c => ?_)
      · replace h := h.2 c
        refine l1 (n := 1) rfl rfl rfl rfl ?_
        exact E_W_replays_204 hS hR iv2 ⟨by decide, by decide⟩ a0 a2 (fun n' hn' => hb167 n' (by omega)) h
      · replace h := h.1 (Classical.not_not.mp c)
        refine l1 (n := 1) rfl rfl rfl rfl ?_
        refine l3 rfl rfl rfl ?_
        exact E_W_replays_204 hS hR iv2 ⟨by decide, by decide⟩ a0 a2 (fun n' hn' => hb167 n' (by omega)) h
def e_W_replays_167 (v1 : Int) (v2 : Int) (M : rf_M) (K : Int → rf_M → Prop) : Prop := ∃ Inv : Int → Int → rf_M → Prop, Inv v1 v2 M ∧ ∀ (v1 : Int) (v2 : Int) (M : rf_M), inr v1 → inr v2 → Inv v1 v2 M → e_W_replays_167b v1 v2 M Inv K
theorem E_W_replays_167 {fz : Bool} {S : gS} {B : rf_M} {M : rf_M} {ls : rf_L} {n0 : Nat} {v1 : Int} {v2 : Int} {K : Int → rf_M → Prop} (hS : rl S) (hR : fl 353 406 B M) (iv1 : inr v1) (iv2 : inr v2) (a0 : rf_ld ls 0 = some (.ref 353)) (a1 : rf_ld ls 1 = some (zv v1)) (a2 : rf_ld ls 2 = some (zv v2)) (h : e_W_replays_167 v1 v2 M K) : lx (cx0 fz) n0 194 167 ls [] (M, S) (vl_i 353 406 B S K) := by
  obtain ⟨Inv, hm, hb⟩ := h
  induction n0 using Nat.strongRecOn generalizing ls M v1 v2 with
  | _ n0 ih =>
    refine E_W_replays_167b hS hR iv1 iv2 a0 a1 a2 (fun n' hn' v1' v2' M' ls' hR' f0 f1 f2 f3 f4 q2 => ih n' hn' hR' f0 f1 f2 f3 f4 q2) (hb v1 v2 M iv1 iv2 hm)
def e_W_replays_164 (s0 : Int) (M : rf_M) (K : Int → rf_M → Prop) : Prop := e_W_replays_167 s0 0 M K
theorem E_W_replays_164 {fz : Bool} {S : gS} {B : rf_M} {M : rf_M} {ls : rf_L} {n0 : Nat} {s0 : Int} {K : Int → rf_M → Prop} (hS : rl S) (hR : fl 353 406 B M) (is0 : inr s0) (a0 : rf_ld ls 0 = some (.ref 353)) (h : e_W_replays_164 s0 M K) : lx (cx0 fz) n0 194 164 ls [zv s0] (M, S) (vl_i 353 406 B S K) := by
  unfold e_W_replays_164 at h
  refine l_s1 (n := 1) rfl rfl rfl rfl (fun ls y1 ho => ?_)
  have y2 := ho 0 _ (by decide) (fun q => by cases q.2) a0
  refine l1 (n := 1) rfl rfl rfl rfl ?_
  refine l_s1 (n := 1) rfl rfl rfl rfl (fun ls y3 ho => ?_)
  have y4 := ho 0 _ (by decide) (fun q => by cases q.2) y2
  have y5 := ho 1 _ (by decide) (fun q => by cases q.2) y1
  exact E_W_replays_167 hS hR is0 ⟨by decide, by decide⟩ y4 y5 y3 h
def e_W_replays_163 (M : rf_M) (K : Int → rf_M → Prop) : Prop := e_W_replays_164 0 M K
theorem E_W_replays_163 {fz : Bool} {S : gS} {B : rf_M} {M : rf_M} {ls : rf_L} {n0 : Nat} {K : Int → rf_M → Prop} (hS : rl S) (hR : fl 353 406 B M) (a0 : rf_ld ls 0 = some (.ref 353)) (h : e_W_replays_163 M K) : lx (cx0 fz) n0 194 163 ls [] (M, S) (vl_i 353 406 B S K) := by
  unfold e_W_replays_163 at h
  refine l1 (n := 1) rfl rfl rfl rfl ?_
  exact E_W_replays_164 hS hR ⟨by decide, by decide⟩ a0 h
def e_W_replays_140 (v1 : Int) (M : rf_M) (K : Int → rf_M → Prop) : Prop := (v1 = 0 → (e_W_replays_163 M K)) ∧ (¬ (v1 = 0) → ((0 ≤ (0 : Int) ∧ (0 : Int) < 2 → ((0 ≤ (1 : Int) ∧ (1 : Int) < 2 → (((gi M 378 0) = (gi M 378 1) → (e_W_replays_164 1 M K)) ∧ (¬ (gi M 378 0) = (gi M 378 1) → (e_W_replays_163 M K))))))))
theorem E_W_replays_140 {fz : Bool} {S : gS} {B : rf_M} {M : rf_M} {ls : rf_L} {n0 : Nat} {v1 : Int} {K : Int → rf_M → Prop} (hS : rl S) (hR : fl 353 406 B M) (iv1 : inr v1) (a0 : rf_ld ls 0 = some (.ref 353)) (a1 : rf_ld ls 1 = some (zv v1)) (h : e_W_replays_140 v1 M K) : lx (cx0 fz) n0 194 140 ls [] (M, S) (vl_i 353 406 B S K) := by
  unfold e_W_replays_140 at h
  refine l1 (n := 1) rfl rfl rfl (li_of a1) ?_
  refine l_if rfl iv1 (fun c => ?_) (fun c => ?_)
  · replace h := h.1 c
    exact E_W_replays_163 hS hR a0 h
  · replace h := h.2 c
    refine l1 (n := 1) rfl rfl rfl (la_of a0) ?_
    refine l_gr rfl (ko_11 hS (List.Mem.head _)) rfl (fun _ => rfl) (kf_11_40 hR.2 (List.Mem.head _)) ?_
    refine l1 (n := 1) rfl rfl rfl rfl ?_
    refine b_ia rfl (kc_378 (fz := fz) hS).1 (Nat.le_of_ble_eq_true rfl) ⟨by decide, by decide⟩ (fun q => ?_)
    replace h := h q
    refine l1 (n := 1) rfl rfl rfl (la_of a0) ?_
    refine l_gr rfl (ko_11 hS (List.Mem.head _)) rfl (fun _ => rfl) (kf_11_40 hR.2 (List.Mem.head _)) ?_
    refine l1 (n := 1) rfl rfl rfl rfl ?_
    refine b_ia rfl (kc_378 (fz := fz) hS).1 (Nat.le_of_ble_eq_true rfl) ⟨by decide, by decide⟩ (fun q => ?_)
    replace h := h q
    refine l_ic rfl (inr_gi _ _ _) (inr_gi _ _ _) (fun c => ?_) (fun c => ?_)
    · replace h := h.2 c
      exact E_W_replays_163 hS hR a0 h
    · replace h := h.1 (Classical.not_not.mp c)
      refine l1 (n := 1) rfl rfl rfl rfl ?_
      refine l3 rfl rfl rfl ?_
      exact E_W_replays_164 hS hR ⟨by decide, by decide⟩ a0 h
def e_W_replays_81b (v1 : Int) (v2 : Int) (M : rf_M) (b81 : Int → Int → rf_M → Prop) (K : Int → rf_M → Prop) : Prop := (16 ≤ v2 → (e_W_replays_140 v1 M K)) ∧ (¬ (16 ≤ v2) → ((v1 = 0 → (e_W_replays_140 v1 M K)) ∧ (¬ (v1 = 0) → ((0 ≤ v2 ∧ v2 < 32 → (inr (16 + v2) ∧ ((0 ≤ (16 + v2) ∧ (16 + v2) < 32 → (((lg_cmp (gl M 376 (v2).toNat) (gl M 376 (16 + v2).toNat)).toInt = 0 → ((0 ≤ v2 ∧ v2 < 32 → (inr (16 + v2) ∧ ((0 ≤ (16 + v2) ∧ (16 + v2) < 32 → (((gi M 377 (v2).toNat) = (gi M 377 (16 + v2).toNat) → (e_W_replays_133 v2 1 M b81 K)) ∧ (¬ (gi M 377 (v2).toNat) = (gi M 377 (16 + v2).toNat) → (e_W_replays_132 v2 M b81 K))))))))) ∧ (¬ (lg_cmp (gl M 376 (v2).toNat) (gl M 376 (16 + v2).toNat)).toInt = 0 → (e_W_replays_132 v2 M b81 K)))))))))))
theorem E_W_replays_81b {fz : Bool} {S : gS} {B : rf_M} {M : rf_M} {ls : rf_L} {n0 : Nat} {v1 : Int} {v2 : Int} {b81 : Int → Int → rf_M → Prop} {K : Int → rf_M → Prop} (hS : rl S) (hR : fl 353 406 B M) (iv1 : inr v1) (iv2 : inr v2) (a0 : rf_ld ls 0 = some (.ref 353)) (a1 : rf_ld ls 1 = some (zv v1)) (a2 : rf_ld ls 2 = some (zv v2)) (hb81 : ∀ n', n' < n0 → ∀ (v1 : Int) (v2 : Int) (M : rf_M) (ls : rf_L), fl 353 406 B M → inr v1 → inr v2 → rf_ld ls 0 = some (.ref 353) → rf_ld ls 1 = some (zv v1) → rf_ld ls 2 = some (zv v2) → b81 v1 v2 M → lx (cx0 fz) n' 194 81 ls [] (M, S) (vl_i 353 406 B S K)) (h : e_W_replays_81b v1 v2 M b81 K) : lx (cx0 fz) n0 194 81 ls [] (M, S) (vl_i 353 406 B S K) := by
  unfold e_W_replays_81b at h
  rcases Nat.eq_zero_or_pos n0 with e0 | hp
  · rw [e0]; exact lx_zero
  refine l1 (n := 1) rfl rfl rfl (li_of a2) ?_
  refine l_bi rfl (by decide) ?_
  refine l_ic rfl iv2 ⟨by decide, by decide⟩ (fun c => ?_) (fun c => ?_)
  · replace h := h.1 c
    exact E_W_replays_140 hS hR iv1 a0 a1 h
  · replace h := h.2 c
    refine l1 (n := 1) rfl rfl rfl (li_of a1) ?_
    refine l_if rfl iv1 (fun c => ?_) (fun c => ?_)
    · replace h := h.1 c
      exact E_W_replays_140 hS hR iv1 a0 a1 h
    · replace h := h.2 c
      refine l1 (n := 1) rfl rfl rfl (la_of a0) ?_
      refine l_gr rfl (ko_11 hS (List.Mem.head _)) rfl (fun _ => rfl) (kf_11_38 hR.2 (List.Mem.head _)) ?_
      refine l1 (n := 1) rfl rfl rfl (li_of a2) ?_
      refine b_la rfl (kc_376 (fz := fz) hS).1 (Nat.le_of_ble_eq_true rfl) iv2 (fun q => ?_)
      replace h := h q
      refine l1 (n := 1) rfl rfl rfl (la_of a0) ?_
      refine l_gr rfl (ko_11 hS (List.Mem.head _)) rfl (fun _ => rfl) (kf_11_38 hR.2 (List.Mem.head _)) ?_
      refine l_bi rfl (by decide) ?_
      refine l1 (n := 1) rfl rfl rfl (li_of a2) ?_
      refine l_add rfl ?_
      obtain ⟨i1, h⟩ := h
      refine b_la rfl (kc_376 (fz := fz) hS).1 (Nat.le_of_ble_eq_true rfl) i1 (fun q => ?_)
      replace h := h q
      refine l_op (T := (lg_cmp (gl M 376 (v2).toNat) (gl M 376 (16 + v2).toNat))) rfl rfl rfl ?_
      refine l_if rfl (inr_ti _) (fun c => ?_) (fun c => ?_)
      · replace h := h.2 c
        exact E_W_replays_132 hS hR iv2 a0 a2 (fun n' hn' => hb81 n' (by omega)) h
      · replace h := h.1 (Classical.not_not.mp c)
        refine l1 (n := 1) rfl rfl rfl (la_of a0) ?_
        refine l_gr rfl (ko_11 hS (List.Mem.head _)) rfl (fun _ => rfl) (kf_11_39 hR.2 (List.Mem.head _)) ?_
        refine l1 (n := 1) rfl rfl rfl (li_of a2) ?_
        refine b_ia rfl (kc_377 (fz := fz) hS).1 (Nat.le_of_ble_eq_true rfl) iv2 (fun q => ?_)
        replace h := h q
        refine l1 (n := 1) rfl rfl rfl (la_of a0) ?_
        refine l_gr rfl (ko_11 hS (List.Mem.head _)) rfl (fun _ => rfl) (kf_11_39 hR.2 (List.Mem.head _)) ?_
        refine l_bi rfl (by decide) ?_
        refine l1 (n := 1) rfl rfl rfl (li_of a2) ?_
        refine l_add rfl ?_
        obtain ⟨i2, h⟩ := h
        refine b_ia rfl (kc_377 (fz := fz) hS).1 (Nat.le_of_ble_eq_true rfl) i2 (fun q => ?_)
        replace h := h q
        refine l_ic rfl (inr_gi _ _ _) (inr_gi _ _ _) (fun c => ?_) (fun c => ?_)
        · replace h := h.2 c
          exact E_W_replays_132 hS hR iv2 a0 a2 (fun n' hn' => hb81 n' (by omega)) h
        · replace h := h.1 (Classical.not_not.mp c)
          refine l1 (n := 1) rfl rfl rfl rfl ?_
          refine l3 rfl rfl rfl ?_
          exact E_W_replays_133 hS hR iv2 ⟨by decide, by decide⟩ a0 a2 (fun n' hn' => hb81 n' (by omega)) h
def e_W_replays_81 (v1 : Int) (v2 : Int) (M : rf_M) (K : Int → rf_M → Prop) : Prop := ∃ Inv : Int → Int → rf_M → Prop, Inv v1 v2 M ∧ ∀ (v1 : Int) (v2 : Int) (M : rf_M), inr v1 → inr v2 → Inv v1 v2 M → e_W_replays_81b v1 v2 M Inv K
theorem E_W_replays_81 {fz : Bool} {S : gS} {B : rf_M} {M : rf_M} {ls : rf_L} {n0 : Nat} {v1 : Int} {v2 : Int} {K : Int → rf_M → Prop} (hS : rl S) (hR : fl 353 406 B M) (iv1 : inr v1) (iv2 : inr v2) (a0 : rf_ld ls 0 = some (.ref 353)) (a1 : rf_ld ls 1 = some (zv v1)) (a2 : rf_ld ls 2 = some (zv v2)) (h : e_W_replays_81 v1 v2 M K) : lx (cx0 fz) n0 194 81 ls [] (M, S) (vl_i 353 406 B S K) := by
  obtain ⟨Inv, hm, hb⟩ := h
  induction n0 using Nat.strongRecOn generalizing ls M v1 v2 with
  | _ n0 ih =>
    refine E_W_replays_81b hS hR iv1 iv2 a0 a1 a2 (fun n' hn' v1' v2' M' ls' hR' f0 f1 f2 f3 f4 q2 => ih n' hn' hR' f0 f1 f2 f3 f4 q2) (hb v1 v2 M iv1 iv2 hm)
def e_W_replays_79 (v1 : Int) (M : rf_M) (K : Int → rf_M → Prop) : Prop := e_W_replays_81 v1 0 M K
theorem E_W_replays_79 {fz : Bool} {S : gS} {B : rf_M} {M : rf_M} {ls : rf_L} {n0 : Nat} {v1 : Int} {K : Int → rf_M → Prop} (hS : rl S) (hR : fl 353 406 B M) (iv1 : inr v1) (a0 : rf_ld ls 0 = some (.ref 353)) (a1 : rf_ld ls 1 = some (zv v1)) (h : e_W_replays_79 v1 M K) : lx (cx0 fz) n0 194 79 ls [] (M, S) (vl_i 353 406 B S K) := by
  unfold e_W_replays_79 at h
  refine l1 (n := 1) rfl rfl rfl rfl ?_
  refine l_s1 (n := 1) rfl rfl rfl rfl (fun ls y1 ho => ?_)
  have y2 := ho 0 _ (by decide) (fun q => by cases q.2) a0
  have y3 := ho 1 _ (by decide) (fun q => by cases q.2) a1
  exact E_W_replays_81 hS hR iv1 ⟨by decide, by decide⟩ y2 y3 y1 h
def e_W_replays_55b (v1 : Int) (v2 : Int) (M : rf_M) (b55 : Int → Int → rf_M → Prop) (K : Int → rf_M → Prop) : Prop := ((gi M 353 69) ≤ v2 → (e_W_replays_79 v1 M K)) ∧ (¬ ((gi M 353 69) ≤ v2) → ((v1 = 0 → (e_W_replays_79 v1 M K)) ∧ (¬ (v1 = 0) → (em_W_comesToSame v2 M (fun (z1 : Int) (M1 : rf_M) => inr (v2 + 1) ∧ (b55 z1 (v2 + 1) M1))))))
theorem E_W_replays_55b {fz : Bool} {S : gS} {B : rf_M} {M : rf_M} {ls : rf_L} {n0 : Nat} {v1 : Int} {v2 : Int} {b55 : Int → Int → rf_M → Prop} {K : Int → rf_M → Prop} (hS : rl S) (hR : fl 353 406 B M) (iv1 : inr v1) (iv2 : inr v2) (a0 : rf_ld ls 0 = some (.ref 353)) (a1 : rf_ld ls 1 = some (zv v1)) (a2 : rf_ld ls 2 = some (zv v2)) (hb55 : ∀ n', n' < n0 → ∀ (v1 : Int) (v2 : Int) (M : rf_M) (ls : rf_L), fl 353 406 B M → inr v1 → inr v2 → rf_ld ls 0 = some (.ref 353) → rf_ld ls 1 = some (zv v1) → rf_ld ls 2 = some (zv v2) → b55 v1 v2 M → lx (cx0 fz) n' 194 55 ls [] (M, S) (vl_i 353 406 B S K)) (h : e_W_replays_55b v1 v2 M b55 K) : lx (cx0 fz) n0 194 55 ls [] (M, S) (vl_i 353 406 B S K) := by
  unfold e_W_replays_55b at h
  rcases Nat.eq_zero_or_pos n0 with e0 | hp
  · rw [e0]; exact lx_zero
  refine l1 (n := 1) rfl rfl rfl (li_of a2) ?_
  refine l1 (n := 1) rfl rfl rfl (la_of a0) ?_
  refine l_gi rfl (ko_11 hS (List.Mem.head _)) rfl (fun _ => rfl) ?_
  refine l_ic rfl iv2 (inr_gi _ _ _) (fun c => ?_) (fun c => ?_)
  · replace h := h.1 c
    exact E_W_replays_79 hS hR iv1 a0 a1 h
  · replace h := h.2 c
    refine l1 (n := 1) rfl rfl rfl (li_of a1) ?_
    refine l_if rfl iv1 (fun c => ?_) (fun c => ?_)
    · replace h := h.1 c
      exact E_W_replays_79 hS hR iv1 a0 a1 h
    · replace h := h.2 c
      refine l1 (n := 1) rfl rfl rfl (la_of a0) ?_
      refine l1 (n := 1) rfl rfl rfl (li_of a2) ?_
      refine b_iv (c := 353) (as := [zv v2]) (rest := []) rfl (by decide) (ko_11 hS (List.Mem.head _)) rfl rfl (Nat.le_of_ble_eq_true rfl) (fun hq => ?_)
      refine lx_mono (E_W_comesToSame_m hS hR iv2 h) ?_
      rintro _ _ ⟨z1, M1, rfl, rfl, r1, iz1, h⟩
      refine l_s1 (n := 1) rfl rfl rfl rfl (fun ls y1 ho => ?_)
      have y2 := ho 0 _ (by decide) (fun q => by cases q.2) a0
      have y3 := ho 2 _ (by decide) (fun q => by cases q.2) a2
      refine l_ii rfl y3 (Nat.le_of_ble_eq_true rfl) (fun ls y4 ho => ?_)
      have y5 := ho 0 _ (by decide) (fun q => by cases q.2) y2
      have y6 := ho 1 _ (by decide) (fun q => by cases q.2) y1
      refine l3 rfl rfl rfl ?_
      obtain ⟨i1, h⟩ := h
      exact hb55 _ (by omega) _ _ _ _ r1 iz1 i1 y5 y6 y4 h
def e_W_replays_55 (v1 : Int) (v2 : Int) (M : rf_M) (K : Int → rf_M → Prop) : Prop := ∃ Inv : Int → Int → rf_M → Prop, Inv v1 v2 M ∧ ∀ (v1 : Int) (v2 : Int) (M : rf_M), inr v1 → inr v2 → Inv v1 v2 M → e_W_replays_55b v1 v2 M Inv K
theorem E_W_replays_55 {fz : Bool} {S : gS} {B : rf_M} {M : rf_M} {ls : rf_L} {n0 : Nat} {v1 : Int} {v2 : Int} {K : Int → rf_M → Prop} (hS : rl S) (hR : fl 353 406 B M) (iv1 : inr v1) (iv2 : inr v2) (a0 : rf_ld ls 0 = some (.ref 353)) (a1 : rf_ld ls 1 = some (zv v1)) (a2 : rf_ld ls 2 = some (zv v2)) (h : e_W_replays_55 v1 v2 M K) : lx (cx0 fz) n0 194 55 ls [] (M, S) (vl_i 353 406 B S K) := by
  obtain ⟨Inv, hm, hb⟩ := h
  induction n0 using Nat.strongRecOn generalizing ls M v1 v2 with
  | _ n0 ih =>
    refine E_W_replays_55b hS hR iv1 iv2 a0 a1 a2 (fun n' hn' v1' v2' M' ls' hR' f0 f1 f2 f3 f4 q2 => ih n' hn' hR' f0 f1 f2 f3 f4 q2) (hb v1 v2 M iv1 iv2 hm)
def e_W_replays_7b (v1 : Int) (M : rf_M) (b7 : Int → rf_M → Prop) (K : Int → rf_M → Prop) : Prop := (16 ≤ v1 → ((0 ≤ (1 : Int) ∧ (1 : Int) < 2 → (∀ M1 : rf_M, M1 = wi M 378 1 0 → (∀ M2 : rf_M, M2 = wi M1 353 42 1 → (e_W_replays_55 1 0 M2 K)))))) ∧ (¬ (16 ≤ v1) → (inr (16 + v1) ∧ ((0 ≤ (16 + v1) ∧ (16 + v1) < 32 → (∀ M3 : rf_M, M3 = wl M 376 (16 + v1).toNat (Int64.ofNat 0) → (inr (16 + v1) ∧ ((0 ≤ (16 + v1) ∧ (16 + v1) < 32 → (∀ M4 : rf_M, M4 = wi M3 377 (16 + v1).toNat 0 → (inr (v1 + 1) ∧ (b7 (v1 + 1) M4)))))))))))
theorem E_W_replays_7b {fz : Bool} {S : gS} {B : rf_M} {M : rf_M} {ls : rf_L} {n0 : Nat} {v1 : Int} {b7 : Int → rf_M → Prop} {K : Int → rf_M → Prop} (hS : rl S) (hR : fl 353 406 B M) (iv1 : inr v1) (a0 : rf_ld ls 0 = some (.ref 353)) (a1 : rf_ld ls 1 = some (zv v1)) (hb7 : ∀ n', n' < n0 → ∀ (v1 : Int) (M : rf_M) (ls : rf_L), fl 353 406 B M → inr v1 → rf_ld ls 0 = some (.ref 353) → rf_ld ls 1 = some (zv v1) → b7 v1 M → lx (cx0 fz) n' 194 7 ls [] (M, S) (vl_i 353 406 B S K)) (h : e_W_replays_7b v1 M b7 K) : lx (cx0 fz) n0 194 7 ls [] (M, S) (vl_i 353 406 B S K) := by
  unfold e_W_replays_7b at h
  rcases Nat.eq_zero_or_pos n0 with e0 | hp
  · rw [e0]; exact lx_zero
  refine l1 (n := 1) rfl rfl rfl (li_of a1) ?_
  refine l_bi rfl (by decide) ?_
  refine l_ic rfl iv1 ⟨by decide, by decide⟩ (fun c => ?_) (fun c => ?_)
  · replace h := h.1 c
    refine l1 (n := 1) rfl rfl rfl (la_of a0) ?_
    refine l_gr rfl (ko_11 hS (List.Mem.head _)) rfl (fun _ => rfl) (kf_11_40 hR.2 (List.Mem.head _)) ?_
    refine l1 (n := 1) rfl rfl rfl rfl ?_
    refine l1 (n := 1) rfl rfl rfl rfl ?_
    refine b_is rfl (kc_378 (fz := fz) hS).1 (Nat.le_of_ble_eq_true rfl) ⟨by decide, by decide⟩ (fun q M1 e => ?_)
    replace h := h q M1 e
    have r1 := hR.wi (Nat.le_of_ble_eq_true rfl) (Nat.le_of_ble_eq_true rfl) e
    refine l1 (n := 1) rfl rfl rfl (la_of a0) ?_
    refine l1 (n := 1) rfl rfl rfl rfl ?_
    refine l_pi rfl (ko_11 (fz := fz) hS (List.Mem.head _)) rfl (fun _ _ => rfl) (fun M2 e => ?_)
    replace h := h M2 e
    have r2 := r1.wi (Nat.le_of_ble_eq_true rfl) (Nat.le_of_ble_eq_true rfl) e
    refine l1 (n := 1) rfl rfl rfl rfl ?_
    refine l_s1 (n := 1) rfl rfl rfl rfl (fun ls y1 ho => ?_)
    have y2 := ho 0 _ (by decide) (fun q => by cases q.2) a0
    refine l1 (n := 1) rfl rfl rfl rfl ?_
    refine l_s1 (n := 1) rfl rfl rfl rfl (fun ls y3 ho => ?_)
    have y4 := ho 0 _ (by decide) (fun q => by cases q.2) y2
    have y5 := ho 1 _ (by decide) (fun q => by cases q.2) y1
    exact E_W_replays_55 hS r2 ⟨by decide, by decide⟩ ⟨by decide, by decide⟩ y4 y5 y3 h
  · replace h := h.2 c
    refine l1 (n := 1) rfl rfl rfl (la_of a0) ?_
    refine l_gr rfl (ko_11 hS (List.Mem.head _)) rfl (fun _ => rfl) (kf_11_38 hR.2 (List.Mem.head _)) ?_
    refine l_bi rfl (by decide) ?_
    refine l1 (n := 1) rfl rfl rfl (li_of a1) ?_
    refine l_add rfl ?_
    refine l1 (n := 1) rfl rfl rfl rfl ?_
    obtain ⟨i1, h⟩ := h
    refine b_ls rfl (kc_376 (fz := fz) hS).1 (Nat.le_of_ble_eq_true rfl) i1 (fun q M3 e => ?_)
    replace h := h q M3 e
    have r3 := hR.wl (Nat.le_of_ble_eq_true rfl) (Nat.le_of_ble_eq_true rfl) e
    refine l1 (n := 1) rfl rfl rfl (la_of a0) ?_
    refine l_gr rfl (ko_11 hS (List.Mem.head _)) rfl (fun _ => rfl) (kf_11_39 r3.2 (List.Mem.head _)) ?_
    refine l_bi rfl (by decide) ?_
    refine l1 (n := 1) rfl rfl rfl (li_of a1) ?_
    refine l_add rfl ?_
    refine l1 (n := 1) rfl rfl rfl rfl ?_
    obtain ⟨i2, h⟩ := h
    refine b_is rfl (kc_377 (fz := fz) hS).1 (Nat.le_of_ble_eq_true rfl) i2 (fun q M4 e => ?_)
    replace h := h q M4 e
    have r4 := r3.wi (Nat.le_of_ble_eq_true rfl) (Nat.le_of_ble_eq_true rfl) e
    refine l_ii rfl a1 (Nat.le_of_ble_eq_true rfl) (fun ls y6 ho => ?_)
    have y7 := ho 0 _ (by decide) (fun q => by cases q.2) a0
    refine l3 rfl rfl rfl ?_
    obtain ⟨i3, h⟩ := h
    exact hb7 _ (by omega) _ _ _ r4 i3 y7 y6 h
def e_W_replays_7 (v1 : Int) (M : rf_M) (K : Int → rf_M → Prop) : Prop := ∃ Inv : Int → rf_M → Prop, Inv v1 M ∧ ∀ (v1 : Int) (M : rf_M), inr v1 → Inv v1 M → e_W_replays_7b v1 M Inv K
theorem E_W_replays_7 {fz : Bool} {S : gS} {B : rf_M} {M : rf_M} {ls : rf_L} {n0 : Nat} {v1 : Int} {K : Int → rf_M → Prop} (hS : rl S) (hR : fl 353 406 B M) (iv1 : inr v1) (a0 : rf_ld ls 0 = some (.ref 353)) (a1 : rf_ld ls 1 = some (zv v1)) (h : e_W_replays_7 v1 M K) : lx (cx0 fz) n0 194 7 ls [] (M, S) (vl_i 353 406 B S K) := by
  obtain ⟨Inv, hm, hb⟩ := h
  induction n0 using Nat.strongRecOn generalizing ls M v1 with
  | _ n0 ih =>
    refine E_W_replays_7b hS hR iv1 a0 a1 (fun n' hn' v1' M' ls' hR' f0 f1 f2 q2 => ih n' hn' hR' f0 f1 f2 q2) (hb v1 M iv1 hm)
def e_W_replays (M : rf_M) (K : Int → rf_M → Prop) : Prop := ∀ M1 : rf_M, M1 = wi M 353 0 0 → (e_W_replays_7 0 M1 K)
theorem E_W_replays {fz : Bool} {S : gS} {B : rf_M} {M : rf_M} {ls : rf_L} {n0 : Nat} {K : Int → rf_M → Prop} (hS : rl S) (hR : fl 353 406 B M) (a0 : rf_ld ls 0 = some (.ref 353)) (h : e_W_replays M K) : lx (cx0 fz) n0 194 0 ls [] (M, S) (vl_i 353 406 B S K) := by
  unfold e_W_replays at h
  refine l1 (n := 1) rfl rfl rfl (la_of a0) ?_
  refine l1 (n := 1) rfl rfl rfl rfl ?_
  refine l_pi rfl (ko_11 (fz := fz) hS (List.Mem.head _)) rfl (fun _ _ => rfl) (fun M1 e => ?_)
  replace h := h M1 e
  have r1 := hR.wi (Nat.le_of_ble_eq_true rfl) (Nat.le_of_ble_eq_true rfl) e
  refine l1 (n := 1) rfl rfl rfl rfl ?_
  refine l_s1 (n := 1) rfl rfl rfl rfl (fun ls y1 ho => ?_)
  have y2 := ho 0 _ (by decide) (fun q => by cases q.2) a0
  exact E_W_replays_7 hS r1 ⟨by decide, by decide⟩ y2 y1 h
def em_W_replays (M : rf_M) (K : Int → rf_M → Prop) : Prop := e_W_replays  M K
theorem E_W_replays_m {fz : Bool} {S : gS} {B : rf_M} {M : rf_M} {n0 : Nat} {K : Int → rf_M → Prop} (hS : rl S) (hR : fl 353 406 B M) (h : em_W_replays  M K) : lx (cx0 fz) n0 194 0 (lv_args 0 [.ref 353]) [] (M, S) (vl_i 353 406 B S K) :=
  E_W_replays hS hR rfl h
def e_W_clear_52b (v1 : Int) (v2 : Int) (M : rf_M) (b52 : Int → Int → rf_M → Prop) (K : Int → rf_M → Prop) : Prop := (8 ≤ v2 → (K v1 M)) ∧ (¬ (8 ≤ v2) → ((0 ≤ v2 ∧ v2 < 8 → (∀ M1 : rf_M, M1 = wi M 381 (v2).toNat 0 → ((0 ≤ v2 ∧ v2 < 8 → (∀ M2 : rf_M, M2 = wi M1 382 (v2).toNat 0 → ((0 ≤ v2 ∧ v2 < 8 → (∀ M3 : rf_M, M3 = wi M2 383 (v2).toNat 0 → ((0 ≤ v2 ∧ v2 < 8 → (∀ M4 : rf_M, M4 = wi M3 384 (v2).toNat 0 → ((0 ≤ v2 ∧ v2 < 8 → (∀ M5 : rf_M, M5 = wi M4 385 (v2).toNat (Int32.ofInt 0 &&& 1).toInt → ((0 ≤ v2 ∧ v2 < 8 → (∀ M6 : rf_M, M6 = wi M5 386 (v2).toNat 0 → (inr (v2 + 1) ∧ (b52 v1 (v2 + 1) M6)))))))))))))))))))))
theorem E_W_clear_52b {fz : Bool} {S : gS} {B : rf_M} {M : rf_M} {ls : rf_L} {n0 : Nat} {v1 : Int} {v2 : Int} {b52 : Int → Int → rf_M → Prop} {K : Int → rf_M → Prop} (hS : rl S) (hR : fl 353 406 B M) (iv1 : inr v1) (iv2 : inr v2) (a0 : rf_ld ls 0 = some (.ref 353)) (a1 : rf_ld ls 1 = some (zv v1)) (a2 : rf_ld ls 2 = some (zv v2)) (hb52 : ∀ n', n' < n0 → ∀ (v1 : Int) (v2 : Int) (M : rf_M) (ls : rf_L), fl 353 406 B M → inr v1 → inr v2 → rf_ld ls 0 = some (.ref 353) → rf_ld ls 1 = some (zv v1) → rf_ld ls 2 = some (zv v2) → b52 v1 v2 M → lx (cx0 fz) n' 197 52 ls [] (M, S) (vl_i 353 406 B S K)) (h : e_W_clear_52b v1 v2 M b52 K) : lx (cx0 fz) n0 197 52 ls [] (M, S) (vl_i 353 406 B S K) := by
  unfold e_W_clear_52b at h
  rcases Nat.eq_zero_or_pos n0 with e0 | hp
  · rw [e0]; exact lx_zero
  refine l1 (n := 1) rfl rfl rfl (li_of a2) ?_
  refine l_bi rfl (by decide) ?_
  refine l_ic rfl iv2 ⟨by decide, by decide⟩ (fun c => ?_) (fun c => ?_)
  · replace h := h.1 c
    refine l1 (n := 1) rfl rfl rfl (li_of a1) ?_
    exact l_ri rfl rfl iv1 hR h
  · replace h := h.2 c
    refine l1 (n := 1) rfl rfl rfl (la_of a0) ?_
    refine l_gr rfl (ko_11 hS (List.Mem.head _)) rfl (fun _ => rfl) (kf_11_44 hR.2 (List.Mem.head _)) ?_
    refine l1 (n := 1) rfl rfl rfl (li_of a2) ?_
    refine l1 (n := 1) rfl rfl rfl rfl ?_
    refine b_is rfl (kc_381 (fz := fz) hS).1 (Nat.le_of_ble_eq_true rfl) iv2 (fun q M1 e => ?_)
    replace h := h q M1 e
    have r1 := hR.wi (Nat.le_of_ble_eq_true rfl) (Nat.le_of_ble_eq_true rfl) e
    refine l1 (n := 1) rfl rfl rfl (la_of a0) ?_
    refine l_gr rfl (ko_11 hS (List.Mem.head _)) rfl (fun _ => rfl) (kf_11_45 r1.2 (List.Mem.head _)) ?_
    refine l1 (n := 1) rfl rfl rfl (li_of a2) ?_
    refine l1 (n := 1) rfl rfl rfl rfl ?_
    refine b_is rfl (kc_382 (fz := fz) hS).1 (Nat.le_of_ble_eq_true rfl) iv2 (fun q M2 e => ?_)
    replace h := h q M2 e
    have r2 := r1.wi (Nat.le_of_ble_eq_true rfl) (Nat.le_of_ble_eq_true rfl) e
    refine l1 (n := 1) rfl rfl rfl (la_of a0) ?_
    refine l_gr rfl (ko_11 hS (List.Mem.head _)) rfl (fun _ => rfl) (kf_11_46 r2.2 (List.Mem.head _)) ?_
    refine l1 (n := 1) rfl rfl rfl (li_of a2) ?_
    refine l1 (n := 1) rfl rfl rfl rfl ?_
    refine b_is rfl (kc_383 (fz := fz) hS).1 (Nat.le_of_ble_eq_true rfl) iv2 (fun q M3 e => ?_)
    replace h := h q M3 e
    have r3 := r2.wi (Nat.le_of_ble_eq_true rfl) (Nat.le_of_ble_eq_true rfl) e
    refine l1 (n := 1) rfl rfl rfl (la_of a0) ?_
    refine l_gr rfl (ko_11 hS (List.Mem.head _)) rfl (fun _ => rfl) (kf_11_47 r3.2 (List.Mem.head _)) ?_
    refine l1 (n := 1) rfl rfl rfl (li_of a2) ?_
    refine l1 (n := 1) rfl rfl rfl rfl ?_
    refine b_is rfl (kc_384 (fz := fz) hS).1 (Nat.le_of_ble_eq_true rfl) iv2 (fun q M4 e => ?_)
    replace h := h q M4 e
    have r4 := r3.wi (Nat.le_of_ble_eq_true rfl) (Nat.le_of_ble_eq_true rfl) e
    refine l1 (n := 1) rfl rfl rfl (la_of a0) ?_
    refine l_gr rfl (ko_11 hS (List.Mem.head _)) rfl (fun _ => rfl) (kf_11_48 r4.2 (List.Mem.head _)) ?_
    refine l1 (n := 1) rfl rfl rfl (li_of a2) ?_
    refine l1 (n := 1) rfl rfl rfl rfl ?_
    refine b_zs rfl (kc_385 (fz := fz) hS).1 (Nat.le_of_ble_eq_true rfl) iv2 (fun q M5 e => ?_)
    replace h := h q M5 e
    have r5 := r4.wi (Nat.le_of_ble_eq_true rfl) (Nat.le_of_ble_eq_true rfl) e
    refine l1 (n := 1) rfl rfl rfl (la_of a0) ?_
    refine l_gr rfl (ko_11 hS (List.Mem.head _)) rfl (fun _ => rfl) (kf_11_49 r5.2 (List.Mem.head _)) ?_
    refine l1 (n := 1) rfl rfl rfl (li_of a2) ?_
    refine l1 (n := 1) rfl rfl rfl rfl ?_
    refine b_is rfl (kc_386 (fz := fz) hS).1 (Nat.le_of_ble_eq_true rfl) iv2 (fun q M6 e => ?_)
    replace h := h q M6 e
    have r6 := r5.wi (Nat.le_of_ble_eq_true rfl) (Nat.le_of_ble_eq_true rfl) e
    refine l_ii rfl a2 (Nat.le_of_ble_eq_true rfl) (fun ls y1 ho => ?_)
    have y2 := ho 0 _ (by decide) (fun q => by cases q.2) a0
    have y3 := ho 1 _ (by decide) (fun q => by cases q.2) a1
    refine l3 rfl rfl rfl ?_
    obtain ⟨i1, h⟩ := h
    exact hb52 _ (by omega) _ _ _ _ r6 iv1 i1 y2 y3 y1 h
def e_W_clear_52 (v1 : Int) (v2 : Int) (M : rf_M) (K : Int → rf_M → Prop) : Prop := ∃ Inv : Int → Int → rf_M → Prop, Inv v1 v2 M ∧ ∀ (v1 : Int) (v2 : Int) (M : rf_M), inr v1 → inr v2 → Inv v1 v2 M → e_W_clear_52b v1 v2 M Inv K
theorem E_W_clear_52 {fz : Bool} {S : gS} {B : rf_M} {M : rf_M} {ls : rf_L} {n0 : Nat} {v1 : Int} {v2 : Int} {K : Int → rf_M → Prop} (hS : rl S) (hR : fl 353 406 B M) (iv1 : inr v1) (iv2 : inr v2) (a0 : rf_ld ls 0 = some (.ref 353)) (a1 : rf_ld ls 1 = some (zv v1)) (a2 : rf_ld ls 2 = some (zv v2)) (h : e_W_clear_52 v1 v2 M K) : lx (cx0 fz) n0 197 52 ls [] (M, S) (vl_i 353 406 B S K) := by
  obtain ⟨Inv, hm, hb⟩ := h
  induction n0 using Nat.strongRecOn generalizing ls M v1 v2 with
  | _ n0 ih =>
    refine E_W_clear_52b hS hR iv1 iv2 a0 a1 a2 (fun n' hn' v1' v2' M' ls' hR' f0 f1 f2 f3 f4 q2 => ih n' hn' hR' f0 f1 f2 f3 f4 q2) (hb v1 v2 M iv1 iv2 hm)
def e_W_clear_24b (v1 : Int) (v2 : Int) (M : rf_M) (b24 : Int → Int → rf_M → Prop) (K : Int → rf_M → Prop) : Prop := (16 ≤ v2 → (e_W_clear_52 v1 0 M K)) ∧ (¬ (16 ≤ v2) → ((0 ≤ v2 ∧ v2 < 32 → (∀ M1 : rf_M, M1 = wl M 376 (v2).toNat (Int64.ofNat 0) → ((0 ≤ v2 ∧ v2 < 32 → (∀ M2 : rf_M, M2 = wi M1 377 (v2).toNat 0 → (inr (v2 + 1) ∧ (b24 v1 (v2 + 1) M2)))))))))
theorem E_W_clear_24b {fz : Bool} {S : gS} {B : rf_M} {M : rf_M} {ls : rf_L} {n0 : Nat} {v1 : Int} {v2 : Int} {b24 : Int → Int → rf_M → Prop} {K : Int → rf_M → Prop} (hS : rl S) (hR : fl 353 406 B M) (iv1 : inr v1) (iv2 : inr v2) (a0 : rf_ld ls 0 = some (.ref 353)) (a1 : rf_ld ls 1 = some (zv v1)) (a2 : rf_ld ls 2 = some (zv v2)) (hb24 : ∀ n', n' < n0 → ∀ (v1 : Int) (v2 : Int) (M : rf_M) (ls : rf_L), fl 353 406 B M → inr v1 → inr v2 → rf_ld ls 0 = some (.ref 353) → rf_ld ls 1 = some (zv v1) → rf_ld ls 2 = some (zv v2) → b24 v1 v2 M → lx (cx0 fz) n' 197 24 ls [] (M, S) (vl_i 353 406 B S K)) (h : e_W_clear_24b v1 v2 M b24 K) : lx (cx0 fz) n0 197 24 ls [] (M, S) (vl_i 353 406 B S K) := by
  unfold e_W_clear_24b at h
  rcases Nat.eq_zero_or_pos n0 with e0 | hp
  · rw [e0]; exact lx_zero
  refine l1 (n := 1) rfl rfl rfl (li_of a2) ?_
  refine l_bi rfl (by decide) ?_
  refine l_ic rfl iv2 ⟨by decide, by decide⟩ (fun c => ?_) (fun c => ?_)
  · replace h := h.1 c
    refine l1 (n := 1) rfl rfl rfl rfl ?_
    refine l_s1 (n := 1) rfl rfl rfl rfl (fun ls y1 ho => ?_)
    have y2 := ho 0 _ (by decide) (fun q => by cases q.2) a0
    have y3 := ho 1 _ (by decide) (fun q => by cases q.2) a1
    exact E_W_clear_52 hS hR iv1 ⟨by decide, by decide⟩ y2 y3 y1 h
  · replace h := h.2 c
    refine l1 (n := 1) rfl rfl rfl (la_of a0) ?_
    refine l_gr rfl (ko_11 hS (List.Mem.head _)) rfl (fun _ => rfl) (kf_11_38 hR.2 (List.Mem.head _)) ?_
    refine l1 (n := 1) rfl rfl rfl (li_of a2) ?_
    refine l1 (n := 1) rfl rfl rfl rfl ?_
    refine b_ls rfl (kc_376 (fz := fz) hS).1 (Nat.le_of_ble_eq_true rfl) iv2 (fun q M1 e => ?_)
    replace h := h q M1 e
    have r1 := hR.wl (Nat.le_of_ble_eq_true rfl) (Nat.le_of_ble_eq_true rfl) e
    refine l1 (n := 1) rfl rfl rfl (la_of a0) ?_
    refine l_gr rfl (ko_11 hS (List.Mem.head _)) rfl (fun _ => rfl) (kf_11_39 r1.2 (List.Mem.head _)) ?_
    refine l1 (n := 1) rfl rfl rfl (li_of a2) ?_
    refine l1 (n := 1) rfl rfl rfl rfl ?_
    refine b_is rfl (kc_377 (fz := fz) hS).1 (Nat.le_of_ble_eq_true rfl) iv2 (fun q M2 e => ?_)
    replace h := h q M2 e
    have r2 := r1.wi (Nat.le_of_ble_eq_true rfl) (Nat.le_of_ble_eq_true rfl) e
    refine l_ii rfl a2 (Nat.le_of_ble_eq_true rfl) (fun ls y4 ho => ?_)
    have y5 := ho 0 _ (by decide) (fun q => by cases q.2) a0
    have y6 := ho 1 _ (by decide) (fun q => by cases q.2) a1
    refine l3 rfl rfl rfl ?_
    obtain ⟨i1, h⟩ := h
    exact hb24 _ (by omega) _ _ _ _ r2 iv1 i1 y5 y6 y4 h
def e_W_clear_24 (v1 : Int) (v2 : Int) (M : rf_M) (K : Int → rf_M → Prop) : Prop := ∃ Inv : Int → Int → rf_M → Prop, Inv v1 v2 M ∧ ∀ (v1 : Int) (v2 : Int) (M : rf_M), inr v1 → inr v2 → Inv v1 v2 M → e_W_clear_24b v1 v2 M Inv K
theorem E_W_clear_24 {fz : Bool} {S : gS} {B : rf_M} {M : rf_M} {ls : rf_L} {n0 : Nat} {v1 : Int} {v2 : Int} {K : Int → rf_M → Prop} (hS : rl S) (hR : fl 353 406 B M) (iv1 : inr v1) (iv2 : inr v2) (a0 : rf_ld ls 0 = some (.ref 353)) (a1 : rf_ld ls 1 = some (zv v1)) (a2 : rf_ld ls 2 = some (zv v2)) (h : e_W_clear_24 v1 v2 M K) : lx (cx0 fz) n0 197 24 ls [] (M, S) (vl_i 353 406 B S K) := by
  obtain ⟨Inv, hm, hb⟩ := h
  induction n0 using Nat.strongRecOn generalizing ls M v1 v2 with
  | _ n0 ih =>
    refine E_W_clear_24b hS hR iv1 iv2 a0 a1 a2 (fun n' hn' v1' v2' M' ls' hR' f0 f1 f2 f3 f4 q2 => ih n' hn' hR' f0 f1 f2 f3 f4 q2) (hb v1 v2 M iv1 iv2 hm)
def e_W_clear (M : rf_M) (K : Int → rf_M → Prop) : Prop := ∀ M1 : rf_M, M1 = wi M 353 0 0 → (∀ M2 : rf_M, M2 = wi M1 353 69 0 → ((0 ≤ (0 : Int) ∧ (0 : Int) < 2 → (∀ M3 : rf_M, M3 = wi M2 378 0 0 → (e_W_clear_24 (gi M1 353 69) 0 M3 K)))))
theorem E_W_clear {fz : Bool} {S : gS} {B : rf_M} {M : rf_M} {ls : rf_L} {n0 : Nat} {K : Int → rf_M → Prop} (hS : rl S) (hR : fl 353 406 B M) (a0 : rf_ld ls 0 = some (.ref 353)) (h : e_W_clear M K) : lx (cx0 fz) n0 197 0 ls [] (M, S) (vl_i 353 406 B S K) := by
  unfold e_W_clear at h
  refine l1 (n := 1) rfl rfl rfl (la_of a0) ?_
  refine l1 (n := 1) rfl rfl rfl rfl ?_
  refine l_pi rfl (ko_11 (fz := fz) hS (List.Mem.head _)) rfl (fun _ _ => rfl) (fun M1 e => ?_)
  replace h := h M1 e
  have r1 := hR.wi (Nat.le_of_ble_eq_true rfl) (Nat.le_of_ble_eq_true rfl) e
  refine l1 (n := 1) rfl rfl rfl (la_of a0) ?_
  refine l_gi rfl (ko_11 hS (List.Mem.head _)) rfl (fun _ => rfl) ?_
  refine l_s1 (n := 1) rfl rfl rfl rfl (fun ls y1 ho => ?_)
  have y2 := ho 0 _ (by decide) (fun q => by cases q.2) a0
  refine l1 (n := 1) rfl rfl rfl (la_of y2) ?_
  refine l1 (n := 1) rfl rfl rfl rfl ?_
  refine l_pi rfl (ko_11 (fz := fz) hS (List.Mem.head _)) rfl (fun _ _ => rfl) (fun M2 e => ?_)
  replace h := h M2 e
  have r2 := r1.wi (Nat.le_of_ble_eq_true rfl) (Nat.le_of_ble_eq_true rfl) e
  refine l1 (n := 1) rfl rfl rfl (la_of y2) ?_
  refine l_gr rfl (ko_11 hS (List.Mem.head _)) rfl (fun _ => rfl) (kf_11_40 r2.2 (List.Mem.head _)) ?_
  refine l1 (n := 1) rfl rfl rfl rfl ?_
  refine l1 (n := 1) rfl rfl rfl rfl ?_
  refine b_is rfl (kc_378 (fz := fz) hS).1 (Nat.le_of_ble_eq_true rfl) ⟨by decide, by decide⟩ (fun q M3 e => ?_)
  replace h := h q M3 e
  have r3 := r2.wi (Nat.le_of_ble_eq_true rfl) (Nat.le_of_ble_eq_true rfl) e
  refine l1 (n := 1) rfl rfl rfl rfl ?_
  refine l_s1 (n := 1) rfl rfl rfl rfl (fun ls y3 ho => ?_)
  have y4 := ho 0 _ (by decide) (fun q => by cases q.2) y2
  have y5 := ho 1 _ (by decide) (fun q => by cases q.2) y1
  exact E_W_clear_24 hS r3 (inr_gi _ _ _) ⟨by decide, by decide⟩ y4 y5 y3 h
def em_W_clear (M : rf_M) (K : Int → rf_M → Prop) : Prop := e_W_clear  M K
theorem E_W_clear_m {fz : Bool} {S : gS} {B : rf_M} {M : rf_M} {n0 : Nat} {K : Int → rf_M → Prop} (hS : rl S) (hR : fl 353 406 B M) (h : em_W_clear  M K) : lx (cx0 fz) n0 197 0 (lv_args 0 [.ref 353]) [] (M, S) (vl_i 353 406 B S K) :=
  E_W_clear hS hR rfl h
