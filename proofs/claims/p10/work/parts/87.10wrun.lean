def w_replays_164 (s0 : Int) (M : rf_M) (K : Int → rf_M → Prop) : Prop := w_replays_167 s0 0 M K
theorem W_replays_164 {fz : Bool} {S : gS} {B : rf_M} {M : rf_M} {ls : rf_L} {s0 : Int} {K : Int → rf_M → Prop} (hS : rk fz S B.2.2) (hR : fq B M) (a0 : rf_ld ls 0 = some (.ref 353)) (h : w_replays_164 s0 M K) : gx (cx0 fz) (7, 160) 194 164 ls [zv s0] (M, S) (vq_i B S K) := by
  unfold w_replays_164 at h
  refine n_s1 (n := 1) rfl rfl rfl rfl (fun ls l1 ho => ?_)
  replace a0 := ho 0 _ (by decide) (fun q => by cases q.2) a0
  refine g1 (n := 1) rfl rfl rfl rfl ?_
  refine n_s1 (n := 1) rfl rfl rfl rfl (fun ls l2 ho => ?_)
  replace a0 := ho 0 _ (by decide) (fun q => by cases q.2) a0
  have l3 := ho 1 _ (by decide) (fun q => by cases q.2) l1
  exact W_replays_167 hS hR a0 l3 l2 h
def w_replays_163 (M : rf_M) (K : Int → rf_M → Prop) : Prop := w_replays_164 0 M K
theorem W_replays_163 {fz : Bool} {S : gS} {B : rf_M} {M : rf_M} {ls : rf_L} {K : Int → rf_M → Prop} (hS : rk fz S B.2.2) (hR : fq B M) (a0 : rf_ld ls 0 = some (.ref 353)) (h : w_replays_163 M K) : gx (cx0 fz) (7, 160) 194 163 ls [] (M, S) (vq_i B S K) := by
  unfold w_replays_163 at h
  refine g1 (n := 1) rfl rfl rfl rfl ?_
  exact W_replays_164 hS hR a0 h
def w_replays_140 (v1 : Int) (M : rf_M) (K : Int → rf_M → Prop) : Prop := inr v1 ∧ ((v1 = 0 → (w_replays_163 M K)) ∧ (¬ (v1 = 0) → ((0 ≤ (0 : Int) ∧ (0 : Int) < 2) ∧ ((0 ≤ (1 : Int) ∧ (1 : Int) < 2) ∧ (((gi M 378 0) = (gi M 378 1) → (w_replays_164 1 M K)) ∧ (¬ (gi M 378 0) = (gi M 378 1) → (w_replays_163 M K)))))))
theorem W_replays_140 {fz : Bool} {S : gS} {B : rf_M} {M : rf_M} {ls : rf_L} {v1 : Int} {K : Int → rf_M → Prop} (hS : rk fz S B.2.2) (hR : fq B M) (a0 : rf_ld ls 0 = some (.ref 353)) (a1 : rf_ld ls 1 = some (zv v1)) (h : w_replays_140 v1 M K) : gx (cx0 fz) (7, 160) 194 140 ls [] (M, S) (vq_i B S K) := by
  unfold w_replays_140 at h
  refine g1 (n := 1) rfl rfl rfl (li_of a1) ?_
  obtain ⟨i1, h⟩ := h
  refine n_if rfl i1 (fun c => ?_) (fun c => ?_)
  · replace h := h.1 c
    exact W_replays_163 hS hR a0 h
  · replace h := h.2 c
    refine g1 (n := 1) rfl rfl rfl (la_of a0) ?_
    refine n_gr rfl hS.1 rfl (fun _ => rfl) hR (rk_378 hS).2 ?_
    refine g1 (n := 1) rfl rfl rfl rfl ?_
    obtain ⟨q, h⟩ := h
    refine n_ia rfl (rk_378 hS).1 (Nat.le_of_ble_eq_true rfl) q ?_
    refine g1 (n := 1) rfl rfl rfl (la_of a0) ?_
    refine n_gr rfl hS.1 rfl (fun _ => rfl) hR (rk_378 hS).2 ?_
    refine g1 (n := 1) rfl rfl rfl rfl ?_
    obtain ⟨q, h⟩ := h
    refine n_ia rfl (rk_378 hS).1 (Nat.le_of_ble_eq_true rfl) q ?_
    refine n_ic rfl (inr_gi _ _ _) (inr_gi _ _ _) (fun c => ?_) (fun c => ?_)
    · replace h := h.2 c
      exact W_replays_163 hS hR a0 h
    · replace h := h.1 (Classical.not_not.mp c)
      refine g1 (n := 1) rfl rfl rfl rfl ?_
      refine g3 rfl rfl rfl ?_
      exact W_replays_164 hS hR a0 h
def w_replays_81b (v1 : Int) (v2 : Int) (M : rf_M) (b81 : Int → Int → rf_M → Prop) (K : Int → rf_M → Prop) : Prop := inr v2 ∧ ((16 ≤ v2 → (w_replays_140 v1 M K)) ∧ (¬ (16 ≤ v2) → (inr v1 ∧ ((v1 = 0 → (w_replays_140 v1 M K)) ∧ (¬ (v1 = 0) → ((0 ≤ v2 ∧ v2 < 32) ∧ ((0 ≤ (16 + v2) ∧ (16 + v2) < 32) ∧ (((lg_cmp (gl M 376 (v2).toNat) (gl M 376 (16 + v2).toNat)).toInt = 0 → ((0 ≤ v2 ∧ v2 < 32) ∧ ((0 ≤ (16 + v2) ∧ (16 + v2) < 32) ∧ (((gi M 377 (v2).toNat) = (gi M 377 (16 + v2).toNat) → (w_replays_133 v2 1 M b81 K)) ∧ (¬ (gi M 377 (v2).toNat) = (gi M 377 (16 + v2).toNat) → (w_replays_132 v2 M b81 K)))))) ∧ (¬ (lg_cmp (gl M 376 (v2).toNat) (gl M 376 (16 + v2).toNat)).toInt = 0 → (w_replays_132 v2 M b81 K))))))))))
theorem W_replays_81b {fz : Bool} {S : gS} {B : rf_M} {M : rf_M} {ls : rf_L} {v1 : Int} {v2 : Int} {b81 : Int → Int → rf_M → Prop} {K : Int → rf_M → Prop} (hS : rk fz S B.2.2) (hR : fq B M) (a0 : rf_ld ls 0 = some (.ref 353)) (a1 : rf_ld ls 1 = some (zv v1)) (a2 : rf_ld ls 2 = some (zv v2)) (hb81 : ∀ (v1 : Int) (v2 : Int) (M : rf_M) (ls : rf_L), fq B M → rf_ld ls 0 = some (.ref 353) → rf_ld ls 1 = some (zv v1) → rf_ld ls 2 = some (zv v2) → b81 v1 v2 M → gx (cx0 fz) (7, 160) 194 81 ls [] (M, S) (vq_i B S K)) (h : w_replays_81b v1 v2 M b81 K) : gx (cx0 fz) (7, 160) 194 81 ls [] (M, S) (vq_i B S K) := by
  unfold w_replays_81b at h
  refine g1 (n := 1) rfl rfl rfl (li_of a2) ?_
  refine n_bi rfl (by decide) ?_
  obtain ⟨i1, h⟩ := h
  refine n_ic rfl i1 ⟨by decide, by decide⟩ (fun c => ?_) (fun c => ?_)
  · replace h := h.1 c
    exact W_replays_140 hS hR a0 a1 h
  · replace h := h.2 c
    refine g1 (n := 1) rfl rfl rfl (li_of a1) ?_
    obtain ⟨i2, h⟩ := h
    refine n_if rfl i2 (fun c => ?_) (fun c => ?_)
    · replace h := h.1 c
      exact W_replays_140 hS hR a0 a1 h
    · replace h := h.2 c
      refine g1 (n := 1) rfl rfl rfl (la_of a0) ?_
      refine n_gr rfl hS.1 rfl (fun _ => rfl) hR (rk_376 hS).2 ?_
      refine g1 (n := 1) rfl rfl rfl (li_of a2) ?_
      obtain ⟨q, h⟩ := h
      refine n_la rfl (rk_376 hS).1 (Nat.le_of_ble_eq_true rfl) q ?_
      refine g1 (n := 1) rfl rfl rfl (la_of a0) ?_
      refine n_gr rfl hS.1 rfl (fun _ => rfl) hR (rk_376 hS).2 ?_
      refine n_bi rfl (by decide) ?_
      refine g1 (n := 1) rfl rfl rfl (li_of a2) ?_
      refine n_add rfl ?_
      obtain ⟨q, h⟩ := h
      refine n_la rfl (rk_376 hS).1 (Nat.le_of_ble_eq_true rfl) q ?_
      refine n_op (T := (lg_cmp (gl M 376 (v2).toNat) (gl M 376 (16 + v2).toNat))) rfl rfl rfl ?_
      refine n_if rfl (inr_ti _) (fun c => ?_) (fun c => ?_)
      · replace h := h.2 c
        exact W_replays_132 hS hR a0 a2 hb81 h
      · replace h := h.1 (Classical.not_not.mp c)
        refine g1 (n := 1) rfl rfl rfl (la_of a0) ?_
        refine n_gr rfl hS.1 rfl (fun _ => rfl) hR (rk_377 hS).2 ?_
        refine g1 (n := 1) rfl rfl rfl (li_of a2) ?_
        obtain ⟨q, h⟩ := h
        refine n_ia rfl (rk_377 hS).1 (Nat.le_of_ble_eq_true rfl) q ?_
        refine g1 (n := 1) rfl rfl rfl (la_of a0) ?_
        refine n_gr rfl hS.1 rfl (fun _ => rfl) hR (rk_377 hS).2 ?_
        refine n_bi rfl (by decide) ?_
        refine g1 (n := 1) rfl rfl rfl (li_of a2) ?_
        refine n_add rfl ?_
        obtain ⟨q, h⟩ := h
        refine n_ia rfl (rk_377 hS).1 (Nat.le_of_ble_eq_true rfl) q ?_
        refine n_ic rfl (inr_gi _ _ _) (inr_gi _ _ _) (fun c => ?_) (fun c => ?_)
        · replace h := h.2 c
          exact W_replays_132 hS hR a0 a2 hb81 h
        · replace h := h.1 (Classical.not_not.mp c)
          refine g1 (n := 1) rfl rfl rfl rfl ?_
          refine g3 rfl rfl rfl ?_
          exact W_replays_133 hS hR a0 a2 hb81 h
def w_replays_81 (v1 : Int) (v2 : Int) (M : rf_M) (K : Int → rf_M → Prop) : Prop := ∃ Inv : Nat → Int → Int → rf_M → Prop, (∃ m, Inv m v1 v2 M) ∧ ∀ (m : Nat) (v1 : Int) (v2 : Int) (M : rf_M), Inv m v1 v2 M → w_replays_81b v1 v2 M (fun (v1' : Int) (v2' : Int) (M' : rf_M) => ∃ m', m' < m ∧ Inv m' v1' v2' M') K
theorem W_replays_81 {fz : Bool} {S : gS} {B : rf_M} {M : rf_M} {ls : rf_L} {v1 : Int} {v2 : Int} {K : Int → rf_M → Prop} (hS : rk fz S B.2.2) (hR : fq B M) (a0 : rf_ld ls 0 = some (.ref 353)) (a1 : rf_ld ls 1 = some (zv v1)) (a2 : rf_ld ls 2 = some (zv v2)) (h : w_replays_81 v1 v2 M K) : gx (cx0 fz) (7, 160) 194 81 ls [] (M, S) (vq_i B S K) := by
  obtain ⟨Inv, ⟨m, hm⟩, hb⟩ := h
  induction m using Nat.strongRecOn generalizing ls M v1 v2 with
  | _ m ih =>
    refine W_replays_81b hS hR a0 a1 a2 (fun v1' v2' M' ls' hR' f0 f1 f2 ⟨m', q1, q2⟩ => ih m' q1 hR' f0 f1 f2 q2) (hb m v1 v2 M hm)
def w_replays_79 (v1 : Int) (M : rf_M) (K : Int → rf_M → Prop) : Prop := w_replays_81 v1 0 M K
theorem W_replays_79 {fz : Bool} {S : gS} {B : rf_M} {M : rf_M} {ls : rf_L} {v1 : Int} {K : Int → rf_M → Prop} (hS : rk fz S B.2.2) (hR : fq B M) (a0 : rf_ld ls 0 = some (.ref 353)) (a1 : rf_ld ls 1 = some (zv v1)) (h : w_replays_79 v1 M K) : gx (cx0 fz) (7, 160) 194 79 ls [] (M, S) (vq_i B S K) := by
  unfold w_replays_79 at h
  refine g1 (n := 1) rfl rfl rfl rfl ?_
  refine n_s1 (n := 1) rfl rfl rfl rfl (fun ls l1 ho => ?_)
  replace a0 := ho 0 _ (by decide) (fun q => by cases q.2) a0
  have l2 := ho 1 _ (by decide) (fun q => by cases q.2) a1
  exact W_replays_81 hS hR a0 l2 l1 h
def w_replays_55b (v1 : Int) (v2 : Int) (M : rf_M) (b55 : Int → Int → rf_M → Prop) (K : Int → rf_M → Prop) : Prop := inr v2 ∧ (((gi M 353 69) ≤ v2 → (w_replays_79 v1 M K)) ∧ (¬ ((gi M 353 69) ≤ v2) → (inr v1 ∧ ((v1 = 0 → (w_replays_79 v1 M K)) ∧ (¬ (v1 = 0) → (wm_comesToSame v2 M (fun (z1 : Int) (M1 : rf_M) => b55 z1 (v2 + 1) M1)))))))
theorem W_replays_55b {fz : Bool} {S : gS} {B : rf_M} {M : rf_M} {ls : rf_L} {v1 : Int} {v2 : Int} {b55 : Int → Int → rf_M → Prop} {K : Int → rf_M → Prop} (hS : rk fz S B.2.2) (hR : fq B M) (a0 : rf_ld ls 0 = some (.ref 353)) (a1 : rf_ld ls 1 = some (zv v1)) (a2 : rf_ld ls 2 = some (zv v2)) (hb55 : ∀ (v1 : Int) (v2 : Int) (M : rf_M) (ls : rf_L), fq B M → rf_ld ls 0 = some (.ref 353) → rf_ld ls 1 = some (zv v1) → rf_ld ls 2 = some (zv v2) → b55 v1 v2 M → gx (cx0 fz) (7, 160) 194 55 ls [] (M, S) (vq_i B S K)) (h : w_replays_55b v1 v2 M b55 K) : gx (cx0 fz) (7, 160) 194 55 ls [] (M, S) (vq_i B S K) := by
  unfold w_replays_55b at h
  refine g1 (n := 1) rfl rfl rfl (li_of a2) ?_
  refine g1 (n := 1) rfl rfl rfl (la_of a0) ?_
  refine n_gi rfl hS.1 rfl (fun _ => rfl) ?_
  obtain ⟨i1, h⟩ := h
  refine n_ic rfl i1 (inr_gi _ _ _) (fun c => ?_) (fun c => ?_)
  · replace h := h.1 c
    exact W_replays_79 hS hR a0 a1 h
  · replace h := h.2 c
    refine g1 (n := 1) rfl rfl rfl (li_of a1) ?_
    obtain ⟨i2, h⟩ := h
    refine n_if rfl i2 (fun c => ?_) (fun c => ?_)
    · replace h := h.1 c
      exact W_replays_79 hS hR a0 a1 h
    · replace h := h.2 c
      refine g1 (n := 1) rfl rfl rfl (la_of a0) ?_
      refine g1 (n := 1) rfl rfl rfl (li_of a2) ?_
      refine m_iv (a := 353) (as := [zv v2]) (rest := []) rfl (by decide) hS.1 rfl rfl (Nat.le_of_ble_eq_true rfl) ⟨Nat.le_of_ble_eq_true rfl, Nat.le_of_ble_eq_true rfl, Nat.le_of_ble_eq_true rfl⟩ ?_
      refine gx_room (gx_mono (W_comesToSame_m hS hR h) ?_) (Nat.le_of_ble_eq_true rfl) (Nat.le_of_ble_eq_true rfl)
      rintro _ _ ⟨z1, M1, rfl, rfl, r1, h⟩
      refine n_s1 (n := 1) rfl rfl rfl rfl (fun ls l1 ho => ?_)
      replace a0 := ho 0 _ (by decide) (fun q => by cases q.2) a0
      have l2 := ho 2 _ (by decide) (fun q => by cases q.2) a2
      refine n_ii rfl l2 (Nat.le_of_ble_eq_true rfl) (fun ls l3 ho => ?_)
      replace a0 := ho 0 _ (by decide) (fun q => by cases q.2) a0
      have l4 := ho 1 _ (by decide) (fun q => by cases q.2) l1
      refine g3 rfl rfl rfl ?_
      exact hb55 _ _ _ _ r1 a0 l4 l3 h
def w_replays_55 (v1 : Int) (v2 : Int) (M : rf_M) (K : Int → rf_M → Prop) : Prop := ∃ Inv : Nat → Int → Int → rf_M → Prop, (∃ m, Inv m v1 v2 M) ∧ ∀ (m : Nat) (v1 : Int) (v2 : Int) (M : rf_M), Inv m v1 v2 M → w_replays_55b v1 v2 M (fun (v1' : Int) (v2' : Int) (M' : rf_M) => ∃ m', m' < m ∧ Inv m' v1' v2' M') K
theorem W_replays_55 {fz : Bool} {S : gS} {B : rf_M} {M : rf_M} {ls : rf_L} {v1 : Int} {v2 : Int} {K : Int → rf_M → Prop} (hS : rk fz S B.2.2) (hR : fq B M) (a0 : rf_ld ls 0 = some (.ref 353)) (a1 : rf_ld ls 1 = some (zv v1)) (a2 : rf_ld ls 2 = some (zv v2)) (h : w_replays_55 v1 v2 M K) : gx (cx0 fz) (7, 160) 194 55 ls [] (M, S) (vq_i B S K) := by
  obtain ⟨Inv, ⟨m, hm⟩, hb⟩ := h
  induction m using Nat.strongRecOn generalizing ls M v1 v2 with
  | _ m ih =>
    refine W_replays_55b hS hR a0 a1 a2 (fun v1' v2' M' ls' hR' f0 f1 f2 ⟨m', q1, q2⟩ => ih m' q1 hR' f0 f1 f2 q2) (hb m v1 v2 M hm)
def w_replays_7b (v1 : Int) (M : rf_M) (b7 : Int → rf_M → Prop) (K : Int → rf_M → Prop) : Prop := inr v1 ∧ ((16 ≤ v1 → ((0 ≤ (1 : Int) ∧ (1 : Int) < 2) ∧ (∀ M1 : rf_M, M1 = wi M 378 1 0 → (∀ M2 : rf_M, M2 = wi M1 353 42 1 → (w_replays_55 1 0 M2 K))))) ∧ (¬ (16 ≤ v1) → ((0 ≤ (16 + v1) ∧ (16 + v1) < 32) ∧ (∀ M3 : rf_M, M3 = wl M 376 (16 + v1).toNat (Int64.ofNat 0) → ((0 ≤ (16 + v1) ∧ (16 + v1) < 32) ∧ (∀ M4 : rf_M, M4 = wi M3 377 (16 + v1).toNat 0 → (b7 (v1 + 1) M4)))))))
theorem W_replays_7b {fz : Bool} {S : gS} {B : rf_M} {M : rf_M} {ls : rf_L} {v1 : Int} {b7 : Int → rf_M → Prop} {K : Int → rf_M → Prop} (hS : rk fz S B.2.2) (hR : fq B M) (a0 : rf_ld ls 0 = some (.ref 353)) (a1 : rf_ld ls 1 = some (zv v1)) (hb7 : ∀ (v1 : Int) (M : rf_M) (ls : rf_L), fq B M → rf_ld ls 0 = some (.ref 353) → rf_ld ls 1 = some (zv v1) → b7 v1 M → gx (cx0 fz) (7, 160) 194 7 ls [] (M, S) (vq_i B S K)) (h : w_replays_7b v1 M b7 K) : gx (cx0 fz) (7, 160) 194 7 ls [] (M, S) (vq_i B S K) := by
  unfold w_replays_7b at h
  refine g1 (n := 1) rfl rfl rfl (li_of a1) ?_
  refine n_bi rfl (by decide) ?_
  obtain ⟨i1, h⟩ := h
  refine n_ic rfl i1 ⟨by decide, by decide⟩ (fun c => ?_) (fun c => ?_)
  · replace h := h.1 c
    refine g1 (n := 1) rfl rfl rfl (la_of a0) ?_
    refine n_gr rfl hS.1 rfl (fun _ => rfl) hR (rk_378 hS).2 ?_
    refine g1 (n := 1) rfl rfl rfl rfl ?_
    refine g1 (n := 1) rfl rfl rfl rfl ?_
    obtain ⟨q, h⟩ := h
    refine n_is (Nat.le_of_ble_eq_true rfl) rfl (rk_378 hS).1 (Nat.le_of_ble_eq_true rfl) q (fun M1 e r => ?_)
    replace h := h M1 e
    have r1 := hR.trans r
    refine g1 (n := 1) rfl rfl rfl (la_of a0) ?_
    refine g1 (n := 1) rfl rfl rfl rfl ?_
    refine n_pi (Nat.le_of_ble_eq_true rfl) rfl hS.1 rfl (fun _ _ => rfl) (fun M2 e r => ?_)
    replace h := h M2 e
    have r2 := r1.trans r
    refine g1 (n := 1) rfl rfl rfl rfl ?_
    refine n_s1 (n := 1) rfl rfl rfl rfl (fun ls l1 ho => ?_)
    replace a0 := ho 0 _ (by decide) (fun q => by cases q.2) a0
    refine g1 (n := 1) rfl rfl rfl rfl ?_
    refine n_s1 (n := 1) rfl rfl rfl rfl (fun ls l2 ho => ?_)
    replace a0 := ho 0 _ (by decide) (fun q => by cases q.2) a0
    have l3 := ho 1 _ (by decide) (fun q => by cases q.2) l1
    exact W_replays_55 hS r2 a0 l3 l2 h
  · replace h := h.2 c
    refine g1 (n := 1) rfl rfl rfl (la_of a0) ?_
    refine n_gr rfl hS.1 rfl (fun _ => rfl) hR (rk_376 hS).2 ?_
    refine n_bi rfl (by decide) ?_
    refine g1 (n := 1) rfl rfl rfl (li_of a1) ?_
    refine n_add rfl ?_
    refine g1 (n := 1) rfl rfl rfl rfl ?_
    obtain ⟨q, h⟩ := h
    refine n_ls (Nat.le_of_ble_eq_true rfl) rfl (rk_376 hS).1 (Nat.le_of_ble_eq_true rfl) q (fun M3 e r => ?_)
    replace h := h M3 e
    have r3 := hR.trans r
    refine g1 (n := 1) rfl rfl rfl (la_of a0) ?_
    refine n_gr rfl hS.1 rfl (fun _ => rfl) r3 (rk_377 hS).2 ?_
    refine n_bi rfl (by decide) ?_
    refine g1 (n := 1) rfl rfl rfl (li_of a1) ?_
    refine n_add rfl ?_
    refine g1 (n := 1) rfl rfl rfl rfl ?_
    obtain ⟨q, h⟩ := h
    refine n_is (Nat.le_of_ble_eq_true rfl) rfl (rk_377 hS).1 (Nat.le_of_ble_eq_true rfl) q (fun M4 e r => ?_)
    replace h := h M4 e
    have r4 := r3.trans r
    refine n_ii rfl a1 (Nat.le_of_ble_eq_true rfl) (fun ls l4 ho => ?_)
    replace a0 := ho 0 _ (by decide) (fun q => by cases q.2) a0
    refine g3 rfl rfl rfl ?_
    exact hb7 _ _ _ r4 a0 l4 h
def w_replays_7 (v1 : Int) (M : rf_M) (K : Int → rf_M → Prop) : Prop := ∃ Inv : Nat → Int → rf_M → Prop, (∃ m, Inv m v1 M) ∧ ∀ (m : Nat) (v1 : Int) (M : rf_M), Inv m v1 M → w_replays_7b v1 M (fun (v1' : Int) (M' : rf_M) => ∃ m', m' < m ∧ Inv m' v1' M') K
theorem W_replays_7 {fz : Bool} {S : gS} {B : rf_M} {M : rf_M} {ls : rf_L} {v1 : Int} {K : Int → rf_M → Prop} (hS : rk fz S B.2.2) (hR : fq B M) (a0 : rf_ld ls 0 = some (.ref 353)) (a1 : rf_ld ls 1 = some (zv v1)) (h : w_replays_7 v1 M K) : gx (cx0 fz) (7, 160) 194 7 ls [] (M, S) (vq_i B S K) := by
  obtain ⟨Inv, ⟨m, hm⟩, hb⟩ := h
  induction m using Nat.strongRecOn generalizing ls M v1 with
  | _ m ih =>
    refine W_replays_7b hS hR a0 a1 (fun v1' M' ls' hR' f0 f1 ⟨m', q1, q2⟩ => ih m' q1 hR' f0 f1 q2) (hb m v1 M hm)
def w_replays (M : rf_M) (K : Int → rf_M → Prop) : Prop := ∀ M1 : rf_M, M1 = wi M 353 0 0 → (w_replays_7 0 M1 K)
theorem W_replays {fz : Bool} {S : gS} {B : rf_M} {M : rf_M} {ls : rf_L} {K : Int → rf_M → Prop} (hS : rk fz S B.2.2) (hR : fq B M) (a0 : rf_ld ls 0 = some (.ref 353)) (h : w_replays M K) : gx (cx0 fz) (7, 160) 194 0 ls [] (M, S) (vq_i B S K) := by
  unfold w_replays at h
  refine g1 (n := 1) rfl rfl rfl (la_of a0) ?_
  refine g1 (n := 1) rfl rfl rfl rfl ?_
  refine n_pi (Nat.le_of_ble_eq_true rfl) rfl hS.1 rfl (fun _ _ => rfl) (fun M1 e r => ?_)
  replace h := h M1 e
  have r1 := hR.trans r
  refine g1 (n := 1) rfl rfl rfl rfl ?_
  refine n_s1 (n := 1) rfl rfl rfl rfl (fun ls l1 ho => ?_)
  replace a0 := ho 0 _ (by decide) (fun q => by cases q.2) a0
  exact W_replays_7 hS r1 a0 l1 h
def wm_replays (M : rf_M) (K : Int → rf_M → Prop) : Prop := w_replays  M K
theorem W_replays_m {fz : Bool} {S : gS} {B : rf_M} {M : rf_M} {K : Int → rf_M → Prop} (hS : rk fz S B.2.2) (hR : fq B M) (h : wm_replays  M K) : gx (cx0 fz) (7, 160) 194 0 (lv_args 0 [.ref 353]) [] (M, S) (vq_i B S K) :=
  W_replays hS hR rfl h
def w_clear_52b (v1 : Int) (v2 : Int) (M : rf_M) (b52 : Int → Int → rf_M → Prop) (K : Int → rf_M → Prop) : Prop := inr v2 ∧ ((8 ≤ v2 → (K v1 M)) ∧ (¬ (8 ≤ v2) → ((0 ≤ v2 ∧ v2 < 8) ∧ (∀ M1 : rf_M, M1 = wi M 381 (v2).toNat 0 → ((0 ≤ v2 ∧ v2 < 8) ∧ (∀ M2 : rf_M, M2 = wi M1 382 (v2).toNat 0 → ((0 ≤ v2 ∧ v2 < 8) ∧ (∀ M3 : rf_M, M3 = wi M2 383 (v2).toNat 0 → ((0 ≤ v2 ∧ v2 < 8) ∧ (∀ M4 : rf_M, M4 = wi M3 384 (v2).toNat 0 → ((0 ≤ v2 ∧ v2 < 8) ∧ (∀ M5 : rf_M, M5 = wi M4 385 (v2).toNat (Int32.ofInt 0 &&& 1).toInt → ((0 ≤ v2 ∧ v2 < 8) ∧ (∀ M6 : rf_M, M6 = wi M5 386 (v2).toNat 0 → (b52 v1 (v2 + 1) M6)))))))))))))))
theorem W_clear_52b {fz : Bool} {S : gS} {B : rf_M} {M : rf_M} {ls : rf_L} {v1 : Int} {v2 : Int} {b52 : Int → Int → rf_M → Prop} {K : Int → rf_M → Prop} (hS : rk fz S B.2.2) (hR : fq B M) (a0 : rf_ld ls 0 = some (.ref 353)) (a1 : rf_ld ls 1 = some (zv v1)) (a2 : rf_ld ls 2 = some (zv v2)) (hb52 : ∀ (v1 : Int) (v2 : Int) (M : rf_M) (ls : rf_L), fq B M → rf_ld ls 0 = some (.ref 353) → rf_ld ls 1 = some (zv v1) → rf_ld ls 2 = some (zv v2) → b52 v1 v2 M → gx (cx0 fz) (0, 0) 197 52 ls [] (M, S) (vq_i B S K)) (h : w_clear_52b v1 v2 M b52 K) : gx (cx0 fz) (0, 0) 197 52 ls [] (M, S) (vq_i B S K) := by
  unfold w_clear_52b at h
  refine g1 (n := 1) rfl rfl rfl (li_of a2) ?_
  refine n_bi rfl (by decide) ?_
  obtain ⟨i1, h⟩ := h
  refine n_ic rfl i1 ⟨by decide, by decide⟩ (fun c => ?_) (fun c => ?_)
  · replace h := h.1 c
    refine g1 (n := 1) rfl rfl rfl (li_of a1) ?_
    exact gx_ret rfl rfl ⟨v1, M, rfl, rfl, hR, h⟩
  · replace h := h.2 c
    refine g1 (n := 1) rfl rfl rfl (la_of a0) ?_
    refine n_gr rfl hS.1 rfl (fun _ => rfl) hR (rk_381 hS).2 ?_
    refine g1 (n := 1) rfl rfl rfl (li_of a2) ?_
    refine g1 (n := 1) rfl rfl rfl rfl ?_
    obtain ⟨q, h⟩ := h
    refine n_is (Nat.le_of_ble_eq_true rfl) rfl (rk_381 hS).1 (Nat.le_of_ble_eq_true rfl) q (fun M1 e r => ?_)
    replace h := h M1 e
    have r1 := hR.trans r
    refine g1 (n := 1) rfl rfl rfl (la_of a0) ?_
    refine n_gr rfl hS.1 rfl (fun _ => rfl) r1 (rk_382 hS).2 ?_
    refine g1 (n := 1) rfl rfl rfl (li_of a2) ?_
    refine g1 (n := 1) rfl rfl rfl rfl ?_
    obtain ⟨q, h⟩ := h
    refine n_is (Nat.le_of_ble_eq_true rfl) rfl (rk_382 hS).1 (Nat.le_of_ble_eq_true rfl) q (fun M2 e r => ?_)
    replace h := h M2 e
    have r2 := r1.trans r
    refine g1 (n := 1) rfl rfl rfl (la_of a0) ?_
    refine n_gr rfl hS.1 rfl (fun _ => rfl) r2 (rk_383 hS).2 ?_
    refine g1 (n := 1) rfl rfl rfl (li_of a2) ?_
    refine g1 (n := 1) rfl rfl rfl rfl ?_
    obtain ⟨q, h⟩ := h
    refine n_is (Nat.le_of_ble_eq_true rfl) rfl (rk_383 hS).1 (Nat.le_of_ble_eq_true rfl) q (fun M3 e r => ?_)
    replace h := h M3 e
    have r3 := r2.trans r
    refine g1 (n := 1) rfl rfl rfl (la_of a0) ?_
    refine n_gr rfl hS.1 rfl (fun _ => rfl) r3 (rk_384 hS).2 ?_
    refine g1 (n := 1) rfl rfl rfl (li_of a2) ?_
    refine g1 (n := 1) rfl rfl rfl rfl ?_
    obtain ⟨q, h⟩ := h
    refine n_is (Nat.le_of_ble_eq_true rfl) rfl (rk_384 hS).1 (Nat.le_of_ble_eq_true rfl) q (fun M4 e r => ?_)
    replace h := h M4 e
    have r4 := r3.trans r
    refine g1 (n := 1) rfl rfl rfl (la_of a0) ?_
    refine n_gr rfl hS.1 rfl (fun _ => rfl) r4 (rk_385 hS).2 ?_
    refine g1 (n := 1) rfl rfl rfl (li_of a2) ?_
    refine g1 (n := 1) rfl rfl rfl rfl ?_
    obtain ⟨q, h⟩ := h
    refine n_zs (Nat.le_of_ble_eq_true rfl) rfl (rk_385 hS).1 (Nat.le_of_ble_eq_true rfl) q (fun M5 e r => ?_)
    replace h := h M5 e
    have r5 := r4.trans r
    refine g1 (n := 1) rfl rfl rfl (la_of a0) ?_
    refine n_gr rfl hS.1 rfl (fun _ => rfl) r5 (rk_386 hS).2 ?_
    refine g1 (n := 1) rfl rfl rfl (li_of a2) ?_
    refine g1 (n := 1) rfl rfl rfl rfl ?_
    obtain ⟨q, h⟩ := h
    refine n_is (Nat.le_of_ble_eq_true rfl) rfl (rk_386 hS).1 (Nat.le_of_ble_eq_true rfl) q (fun M6 e r => ?_)
    replace h := h M6 e
    have r6 := r5.trans r
    refine n_ii rfl a2 (Nat.le_of_ble_eq_true rfl) (fun ls l1 ho => ?_)
    replace a0 := ho 0 _ (by decide) (fun q => by cases q.2) a0
    have l2 := ho 1 _ (by decide) (fun q => by cases q.2) a1
    refine g3 rfl rfl rfl ?_
    exact hb52 _ _ _ _ r6 a0 l2 l1 h
def w_clear_52 (v1 : Int) (v2 : Int) (M : rf_M) (K : Int → rf_M → Prop) : Prop := ∃ Inv : Nat → Int → Int → rf_M → Prop, (∃ m, Inv m v1 v2 M) ∧ ∀ (m : Nat) (v1 : Int) (v2 : Int) (M : rf_M), Inv m v1 v2 M → w_clear_52b v1 v2 M (fun (v1' : Int) (v2' : Int) (M' : rf_M) => ∃ m', m' < m ∧ Inv m' v1' v2' M') K
theorem W_clear_52 {fz : Bool} {S : gS} {B : rf_M} {M : rf_M} {ls : rf_L} {v1 : Int} {v2 : Int} {K : Int → rf_M → Prop} (hS : rk fz S B.2.2) (hR : fq B M) (a0 : rf_ld ls 0 = some (.ref 353)) (a1 : rf_ld ls 1 = some (zv v1)) (a2 : rf_ld ls 2 = some (zv v2)) (h : w_clear_52 v1 v2 M K) : gx (cx0 fz) (0, 0) 197 52 ls [] (M, S) (vq_i B S K) := by
  obtain ⟨Inv, ⟨m, hm⟩, hb⟩ := h
  induction m using Nat.strongRecOn generalizing ls M v1 v2 with
  | _ m ih =>
    refine W_clear_52b hS hR a0 a1 a2 (fun v1' v2' M' ls' hR' f0 f1 f2 ⟨m', q1, q2⟩ => ih m' q1 hR' f0 f1 f2 q2) (hb m v1 v2 M hm)
def w_clear_24b (v1 : Int) (v2 : Int) (M : rf_M) (b24 : Int → Int → rf_M → Prop) (K : Int → rf_M → Prop) : Prop := inr v2 ∧ ((16 ≤ v2 → (w_clear_52 v1 0 M K)) ∧ (¬ (16 ≤ v2) → ((0 ≤ v2 ∧ v2 < 32) ∧ (∀ M1 : rf_M, M1 = wl M 376 (v2).toNat (Int64.ofNat 0) → ((0 ≤ v2 ∧ v2 < 32) ∧ (∀ M2 : rf_M, M2 = wi M1 377 (v2).toNat 0 → (b24 v1 (v2 + 1) M2)))))))
theorem W_clear_24b {fz : Bool} {S : gS} {B : rf_M} {M : rf_M} {ls : rf_L} {v1 : Int} {v2 : Int} {b24 : Int → Int → rf_M → Prop} {K : Int → rf_M → Prop} (hS : rk fz S B.2.2) (hR : fq B M) (a0 : rf_ld ls 0 = some (.ref 353)) (a1 : rf_ld ls 1 = some (zv v1)) (a2 : rf_ld ls 2 = some (zv v2)) (hb24 : ∀ (v1 : Int) (v2 : Int) (M : rf_M) (ls : rf_L), fq B M → rf_ld ls 0 = some (.ref 353) → rf_ld ls 1 = some (zv v1) → rf_ld ls 2 = some (zv v2) → b24 v1 v2 M → gx (cx0 fz) (0, 0) 197 24 ls [] (M, S) (vq_i B S K)) (h : w_clear_24b v1 v2 M b24 K) : gx (cx0 fz) (0, 0) 197 24 ls [] (M, S) (vq_i B S K) := by
  unfold w_clear_24b at h
  refine g1 (n := 1) rfl rfl rfl (li_of a2) ?_
  refine n_bi rfl (by decide) ?_
  obtain ⟨i1, h⟩ := h
  refine n_ic rfl i1 ⟨by decide, by decide⟩ (fun c => ?_) (fun c => ?_)
  · replace h := h.1 c
    refine g1 (n := 1) rfl rfl rfl rfl ?_
    refine n_s1 (n := 1) rfl rfl rfl rfl (fun ls l1 ho => ?_)
    replace a0 := ho 0 _ (by decide) (fun q => by cases q.2) a0
    have l2 := ho 1 _ (by decide) (fun q => by cases q.2) a1
    exact W_clear_52 hS hR a0 l2 l1 h
  · replace h := h.2 c
    refine g1 (n := 1) rfl rfl rfl (la_of a0) ?_
    refine n_gr rfl hS.1 rfl (fun _ => rfl) hR (rk_376 hS).2 ?_
    refine g1 (n := 1) rfl rfl rfl (li_of a2) ?_
    refine g1 (n := 1) rfl rfl rfl rfl ?_
    obtain ⟨q, h⟩ := h
    refine n_ls (Nat.le_of_ble_eq_true rfl) rfl (rk_376 hS).1 (Nat.le_of_ble_eq_true rfl) q (fun M1 e r => ?_)
    replace h := h M1 e
    have r1 := hR.trans r
    refine g1 (n := 1) rfl rfl rfl (la_of a0) ?_
    refine n_gr rfl hS.1 rfl (fun _ => rfl) r1 (rk_377 hS).2 ?_
    refine g1 (n := 1) rfl rfl rfl (li_of a2) ?_
    refine g1 (n := 1) rfl rfl rfl rfl ?_
    obtain ⟨q, h⟩ := h
    refine n_is (Nat.le_of_ble_eq_true rfl) rfl (rk_377 hS).1 (Nat.le_of_ble_eq_true rfl) q (fun M2 e r => ?_)
    replace h := h M2 e
    have r2 := r1.trans r
    refine n_ii rfl a2 (Nat.le_of_ble_eq_true rfl) (fun ls l3 ho => ?_)
    replace a0 := ho 0 _ (by decide) (fun q => by cases q.2) a0
    have l4 := ho 1 _ (by decide) (fun q => by cases q.2) a1
    refine g3 rfl rfl rfl ?_
    exact hb24 _ _ _ _ r2 a0 l4 l3 h
def w_clear_24 (v1 : Int) (v2 : Int) (M : rf_M) (K : Int → rf_M → Prop) : Prop := ∃ Inv : Nat → Int → Int → rf_M → Prop, (∃ m, Inv m v1 v2 M) ∧ ∀ (m : Nat) (v1 : Int) (v2 : Int) (M : rf_M), Inv m v1 v2 M → w_clear_24b v1 v2 M (fun (v1' : Int) (v2' : Int) (M' : rf_M) => ∃ m', m' < m ∧ Inv m' v1' v2' M') K
theorem W_clear_24 {fz : Bool} {S : gS} {B : rf_M} {M : rf_M} {ls : rf_L} {v1 : Int} {v2 : Int} {K : Int → rf_M → Prop} (hS : rk fz S B.2.2) (hR : fq B M) (a0 : rf_ld ls 0 = some (.ref 353)) (a1 : rf_ld ls 1 = some (zv v1)) (a2 : rf_ld ls 2 = some (zv v2)) (h : w_clear_24 v1 v2 M K) : gx (cx0 fz) (0, 0) 197 24 ls [] (M, S) (vq_i B S K) := by
  obtain ⟨Inv, ⟨m, hm⟩, hb⟩ := h
  induction m using Nat.strongRecOn generalizing ls M v1 v2 with
  | _ m ih =>
    refine W_clear_24b hS hR a0 a1 a2 (fun v1' v2' M' ls' hR' f0 f1 f2 ⟨m', q1, q2⟩ => ih m' q1 hR' f0 f1 f2 q2) (hb m v1 v2 M hm)
def w_clear (M : rf_M) (K : Int → rf_M → Prop) : Prop := ∀ M1 : rf_M, M1 = wi M 353 0 0 → (∀ M2 : rf_M, M2 = wi M1 353 69 0 → ((0 ≤ (0 : Int) ∧ (0 : Int) < 2) ∧ (∀ M3 : rf_M, M3 = wi M2 378 0 0 → (w_clear_24 (gi M1 353 69) 0 M3 K))))
theorem W_clear {fz : Bool} {S : gS} {B : rf_M} {M : rf_M} {ls : rf_L} {K : Int → rf_M → Prop} (hS : rk fz S B.2.2) (hR : fq B M) (a0 : rf_ld ls 0 = some (.ref 353)) (h : w_clear M K) : gx (cx0 fz) (0, 0) 197 0 ls [] (M, S) (vq_i B S K) := by
  unfold w_clear at h
  refine g1 (n := 1) rfl rfl rfl (la_of a0) ?_
  refine g1 (n := 1) rfl rfl rfl rfl ?_
  refine n_pi (Nat.le_of_ble_eq_true rfl) rfl hS.1 rfl (fun _ _ => rfl) (fun M1 e r => ?_)
  replace h := h M1 e
  have r1 := hR.trans r
  refine g1 (n := 1) rfl rfl rfl (la_of a0) ?_
  refine n_gi rfl hS.1 rfl (fun _ => rfl) ?_
  refine n_s1 (n := 1) rfl rfl rfl rfl (fun ls l1 ho => ?_)
  replace a0 := ho 0 _ (by decide) (fun q => by cases q.2) a0
  refine g1 (n := 1) rfl rfl rfl (la_of a0) ?_
  refine g1 (n := 1) rfl rfl rfl rfl ?_
  refine n_pi (Nat.le_of_ble_eq_true rfl) rfl hS.1 rfl (fun _ _ => rfl) (fun M2 e r => ?_)
  replace h := h M2 e
  have r2 := r1.trans r
  refine g1 (n := 1) rfl rfl rfl (la_of a0) ?_
  refine n_gr rfl hS.1 rfl (fun _ => rfl) r2 (rk_378 hS).2 ?_
  refine g1 (n := 1) rfl rfl rfl rfl ?_
  refine g1 (n := 1) rfl rfl rfl rfl ?_
  obtain ⟨q, h⟩ := h
  refine n_is (Nat.le_of_ble_eq_true rfl) rfl (rk_378 hS).1 (Nat.le_of_ble_eq_true rfl) q (fun M3 e r => ?_)
  replace h := h M3 e
  have r3 := r2.trans r
  refine g1 (n := 1) rfl rfl rfl rfl ?_
  refine n_s1 (n := 1) rfl rfl rfl rfl (fun ls l2 ho => ?_)
  replace a0 := ho 0 _ (by decide) (fun q => by cases q.2) a0
  have l3 := ho 1 _ (by decide) (fun q => by cases q.2) l1
  exact W_clear_24 hS r3 a0 l3 l2 h
def wm_clear (M : rf_M) (K : Int → rf_M → Prop) : Prop := w_clear  M K
theorem W_clear_m {fz : Bool} {S : gS} {B : rf_M} {M : rf_M} {K : Int → rf_M → Prop} (hS : rk fz S B.2.2) (hR : fq B M) (h : wm_clear  M K) : gx (cx0 fz) (0, 0) 197 0 (lv_args 0 [.ref 353]) [] (M, S) (vq_i B S K) :=
  W_clear hS hR rfl h
