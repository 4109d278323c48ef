/-! THE REFERENCE'S RUNS -/
def rlm (M : rf_M) (c w : Nat) : Prop := ∃ rc : Nat, gi M 378 w = (rc : Int) ∧ rc ≤ 32 ∧ ∀ k, k < rc → g16 M c (gi M 379 (32 * w + k))
def qum (M : rf_M) (c : Nat) : Prop := ∀ l, l < 8 → ∃ q : Nat, gi M 381 l = (q : Int) ∧ q ≤ 16 ∧ ∀ k, k < q → ∃ t : Nat, gi M 380 (16 * l + k) = (t : Int) ∧ t < c
def stpm (M : rf_M) : Prop := ∀ l, l < 8 → ∃ s : Nat, gi M 383 l = (s : Int) ∧ s ≤ 300
def rwm (M : rf_M) (c : Nat) : Prop := ∃ r : Nat, gi M 353 69 = (r : Int) ∧ r ≤ 300 ∧ ∀ i, i < r → ∃ x : Nat, gi M 402 i = (x : Int) ∧ ((gi M 400 i = 0 ∧ x < 16) ∨ (¬ gi M 400 i = 0 ∧ x < c))
/-- what holds of the reference between calls -/
def mIn (M : rf_M) (c : Nat) : Prop := bfm M c ∧ gi M 353 11 = (c : Int) ∧ rlm M c 0 ∧ qum M c ∧ stpm M ∧ rwm M c
def mIc (a k : Nat) : Prop := cdc a ∨ (a = 378 ∧ k = 0) ∨ (a = 379 ∧ k < 32) ∨ a = 380 ∨ a = 381 ∨ a = 383 ∨ a = 400 ∨ a = 402 ∨ (a = 353 ∧ (k = 11 ∨ k = 69))
def rnw (a k : Nat) : Prop := (a = 353 ∧ ¬ k = 2 ∧ ¬ k = 11) ∨ 376 ≤ a
section WD
variable {M M' : rf_M} {c t n h x w l : Nat}
theorem rlm.eq (hr : rlm M c w) (q : ∀ a k, cdc a ∨ (a = 378 ∧ k = w) ∨ (a = 379 ∧ 32 * w ≤ k ∧ k < 32 * w + 32) → gi M' a k = gi M a k) : rlm M' c w := by
  obtain ⟨rc, h1, h2, h3⟩ := hr
  refine ⟨rc, (q _ _ (by omega)).trans h1, h2, fun k hk => ?_⟩
  rw [q 379 (32 * w + k) (by omega)]
  exact (h3 k hk).eq (fun a k z => q a k (Or.inl z))
theorem qum.eq (hq : qum M c) (q : ∀ a k, a = 380 ∨ a = 381 → gi M' a k = gi M a k) : qum M' c := fun l hl => by
  obtain ⟨q0, a1, a2, a3⟩ := hq l hl
  exact ⟨q0, (q _ _ (by omega)).trans a1, a2, fun k hk => by rw [q 380 (16 * l + k) (by omega)]; exact a3 k hk⟩
theorem stpm.eq (hs : stpm M) (q : ∀ k, gi M' 383 k = gi M 383 k) : stpm M' := fun l hl => by
  obtain ⟨s, a1, a2⟩ := hs l hl
  exact ⟨s, (q _).trans a1, a2⟩
theorem rwm.eq (hr : rwm M c) (q : ∀ a k, a = 400 ∨ a = 402 ∨ (a = 353 ∧ k = 69) → gi M' a k = gi M a k) : rwm M' c := by
  obtain ⟨r, h6, h7, h8⟩ := hr
  refine ⟨r, (q _ _ (by omega)).trans h6, h7, fun i hi => ?_⟩
  obtain ⟨x, a1, a2⟩ := h8 i hi
  exact ⟨x, (q _ _ (by omega)).trans a1, by rw [q 400 i (by omega)]; exact a2⟩
theorem mIn.eq (hm : mIn M c) (q : ∀ a k, mIc a k → gi M' a k = gi M a k) : mIn M' c := by
  obtain ⟨h1, h2, h3, h4, h5, h6⟩ := hm
  have q' : ∀ a k, cdc a ∨ (a = 378 ∧ k = 0) ∨ (a = 379 ∧ k < 32) ∨ a = 380 ∨ a = 381 ∨ a = 383 ∨ a = 400 ∨ a = 402 ∨ (a = 353 ∧ (k = 11 ∨ k = 69)) → gi M' a k = gi M a k := q
  exact ⟨h1.eq (fun a k z => q' a k (Or.inl z)), (q' _ _ (by omega)).trans h2, h3.eq (fun a k z => q' a k (by rcases z with z | z | z; exact Or.inl z; omega; omega)), h4.eq (fun a k z => q' a k (by omega)), h5.eq (fun k => q' _ _ (by omega)), h6.eq (fun a k z => q' a k (by omega))⟩
theorem mIn.b (hm : mIn M c) : bfm M c := hm.1
theorem s_holds {z : Int} {K : Int → rf_M → Prop} (hc : c ≤ 12) (hg : g16 M c z) (hw : gi M 353 42 = 0 ∨ gi M 353 42 = 1) (kk : ∀ b M', (b = 0 ∨ b = 1) → eqx vww M M' → K b M') : wm_holds z M K := by
  obtain ⟨e, t, cc, rfl, h2, h3, h4, h5⟩ := hg
  intro M1 e1
  have q1 : ∀ a k, ¬ (a = 353 ∧ k = 65) → gi M1 a k = gi M a k := fun a k w => by rw [e1, gi_of (by omega)]
  have x1 : eqx vww M M1 := fun a k w => q1 a k (fun w2 => w (Or.inl ⟨w2.1, Or.inr w2.2⟩))
  refine s_work (t := t) (c := cc) (Or.inr ⟨rfl, rfl⟩) (h5.eq (Nat.le_refl _) (fun k _ => ⟨q1 _ _ (by omega), q1 _ _ (by omega)⟩)) (by omega) (by rw [q1 353 42 (by omega)]; exact hw) (fun z M2 x2 => ?_)
  have x3 := x1.trans x2
  exact ⟨fun _ => ⟨fun _ => ⟨Or.inl rfl, kk 0 M2 (Or.inl rfl) x3⟩, fun _ => ⟨Or.inr rfl, kk 1 M2 (Or.inr rfl) x3⟩⟩, fun _ => ⟨Or.inl rfl, kk 0 M2 (Or.inl rfl) x3⟩⟩
theorem vww_of {P : Nat → Nat → Prop} (hx : eqx vww M M') (hP : ∀ a k, P a k → ¬ ((a = 353 ∧ (k = 52 ∨ k = 65)) ∨ a = 390)) : ∀ a k, P a k → gi M' a k = gi M a k := fun a k z => hx a k (hP a k z)
theorem s_rulesHold {K : Int → rf_M → Prop} (hc : c ≤ 12) (hw : gi M 353 42 = (w : Int)) (hw1 : w ≤ 1) (hr : rlm M c w) (kk : ∀ b M', (b = 0 ∨ b = 1) → eqx vww M M' → K b M') : wm_rulesHold M K := by
  obtain ⟨rc, h1, h2, h3⟩ := hr
  refine ⟨fun m v1 v2 M' => (v1 = 0 ∨ v1 = 1) ∧ eqx vww M M' ∧ ∃ j : Nat, v2 = (j : Int) ∧ j ≤ rc ∧ m = rc - j, ⟨rc, Or.inr rfl, eqx.rfl' M, 0, rfl, Nat.zero_le _, rfl⟩, ?_⟩
  rintro m v1 v2 M1 ⟨hv, x1, j, rfl, j1, j2⟩
  have q : ∀ a k, ¬ ((a = 353 ∧ (k = 52 ∨ k = 65)) ∨ a = 390) → gi M1 a k = gi M a k := fun a k z => x1 a k z
  have w1 : gi M1 353 42 = (w : Int) := (q _ _ (by omega)).trans hw
  have tw : ((w : Nat) : Int).toNat = w := by omega
  show w_rulesHold_4b v1 (j : Int) M1 _ K
  unfold w_rulesHold_4b
  rw [w1, tw, q 378 w (by omega), h1]
  refine ⟨⟨by omega, by omega⟩, inr_z (by omega) (by omega), fun _ => ⟨hv, kk v1 M1 hv x1⟩, fun z => ⟨inr_z (by omega) (by omega), fun _ => ⟨hv, kk v1 M1 hv x1⟩, fun _ => ⟨⟨by omega, by omega⟩, ?_⟩⟩⟩
  rw [show (32 * (w : Int) + (j : Int)).toNat = 32 * w + j by omega, q 379 (32 * w + j) (by omega)]
  refine s_holds hc ((h3 j (by omega)).eq (fun a k z => q a k (by unfold cdc at z; omega))) (by omega) (fun b M2 hb x2 => ⟨rc - (j + 1), by omega, hb, x1.trans x2, j + 1, by omega, by omega, rfl⟩)
theorem s_isWell {a : Nat} {K : Int → rf_M → Prop} (hc : c ≤ 12) (hw : gi M 353 42 = (w : Int)) (hw1 : w ≤ 1) (hr : rlm M c w) (ha : gi M 353 58 = (a : Int)) (ha4 : a ≤ 400) (hg : ∀ j, j < a → g16 M c (gi M 393 j)) (kk : ∀ b M', (b = 0 ∨ (b = 1 ∧ gi M 378 w + (a : Int) ≤ 32)) → eqx vww M M' → K b M') : wm_isWell M K := by
  have hr' := hr
  obtain ⟨rc, h1, h2, h3⟩ := hr'
  refine ⟨fun m v1 M' => si M M' ∧ ∃ j : Nat, v1 = (j : Int) ∧ j ≤ 16 ∧ m = 16 - j, ⟨16, fun _ _ => rfl, 0, rfl, by omega, rfl⟩, ?_⟩
  rintro m v1 M1 ⟨s1, j, rfl, j1, j2⟩
  have w1 : gi M1 353 42 = (w : Int) := (s1 _ _).trans hw
  have nx : ¬ 16 ≤ (j : Int) → ∀ (s2 : Int64), w_isWell_48 (j : Int) (j : Int) s2 M1 (fun v1' M' => ∃ m', m' < m ∧ (si M M' ∧ ∃ j : Nat, v1' = (j : Int) ∧ j ≤ 16 ∧ m' = 16 - j)) K := fun z s2 => ⟨⟨by omega, by omega⟩, fun M2 e2 => ⟨16 - (j + 1), by omega, fun a k => by rw [e2]; exact s1 a k, j + 1, by omega, by omega, rfl⟩⟩
  refine ⟨inr_z (by omega) (by omega), fun _ => ?_, fun z => ⟨fun _ => ⟨⟨by omega, by omega⟩, nx z _⟩, fun _ => ⟨⟨by omega, by omega⟩, nx z _⟩⟩⟩
  have hs1 : eqx vww M M1 := fun a k _ => s1 a k
  refine s_rulesHold hc w1 hw1 (hr.eq (fun a k _ => s1 a k)) (fun b M2 hb x2 => ?_)
  refine ⟨fun m v1 v2 M' => (v1 = 0 ∨ v1 = 1) ∧ eqx vww M M' ∧ ∃ j : Nat, v2 = (j : Int) ∧ j ≤ a ∧ m = a - j, ⟨a, hb, hs1.trans x2, 0, rfl, Nat.zero_le _, rfl⟩, ?_⟩
  rintro m v1 v2 M3 ⟨hv, x3, i, rfl, i1, i2⟩
  have q : ∀ a k, ¬ ((a = 353 ∧ (k = 52 ∨ k = 65)) ∨ a = 390) → gi M3 a k = gi M a k := fun a k z => x3 a k z
  have w3 : gi M3 353 42 = (w : Int) := (q _ _ (by omega)).trans hw
  have a3 : gi M3 353 58 = (a : Int) := (q _ _ (by omega)).trans ha
  have c3 : gi M3 378 w = (rc : Int) := (q _ _ (by omega)).trans h1
  have tw : ((w : Nat) : Int).toNat = w := by omega
  have fin : w_isWell_91 v1 M3 K := by
    unfold w_isWell_91
    rw [w3, tw, c3, a3]
    refine ⟨inr_z (by omega) (by omega), fun _ => ⟨Or.inl rfl, kk 0 M3 (Or.inl rfl) x3⟩, fun _ => ⟨⟨by omega, by omega⟩, inr_z (by omega) (by omega), fun _ => ⟨Or.inl rfl, kk 0 M3 (Or.inl rfl) x3⟩, fun z => ⟨Or.inr rfl, kk 1 M3 (Or.inr ⟨rfl, by omega⟩) x3⟩⟩⟩
  show w_isWell_62b v1 (i : Int) M3 _ K
  unfold w_isWell_62b
  rw [a3, show ((i : Nat) : Int).toNat = i by omega, q 393 i (by omega)]
  refine ⟨inr_z (by omega) (by omega), fun _ => fin, fun z => ⟨inr_z (by omega) (by omega), fun _ => fin, fun _ => ⟨⟨by omega, by omega⟩, ?_⟩⟩⟩
  refine s_holds hc ((hg i (by omega)).eq (fun a k z => q a k (by unfold cdc at z; omega))) (by omega) (fun b M2 hb x2 => ⟨a - (i + 1), by omega, hb, x3.trans x2, i + 1, by omega, by omega, rfl⟩)
def biw (w a k : Nat) : Prop := a = 377 ∨ (a = 378 ∧ k = w) ∨ (a = 379 ∧ 32 * w ≤ k ∧ k < 32 * w + 32)
theorem s_bringIn {a : Nat} {K : rf_M → Prop} (hw : gi M 353 42 = (w : Int)) (hw1 : w ≤ 1) (hr : rlm M c w) (ha : gi M 353 58 = (a : Int)) (ha4 : gi M 378 w + (a : Int) ≤ 32) (hg : ∀ j, j < a → g16 M c (gi M 393 j)) (kk : ∀ M', eqx (biw w) M M' → rlm M' c w → K M') : wm_bringIn M K := by
  obtain ⟨rc, h1, h2, h3⟩ := hr
  have tw : ((w : Nat) : Int).toNat = w := by omega
  refine ⟨fun m v1 M' => eqx (fun a _ => a = 377) M M' ∧ ∃ j : Nat, v1 = (j : Int) ∧ j ≤ 16 ∧ m = 16 - j, ⟨16, eqx.rfl' M, 0, rfl, by omega, rfl⟩, ?_⟩
  rintro m v1 M1 ⟨x1, j, rfl, j1, j2⟩
  have w1 : gi M1 353 42 = (w : Int) := (x1 353 42 (by omega)).trans hw
  refine ⟨inr_z (by omega) (by omega), fun _ => ?_, fun z => ⟨fun _ => ?_, fun _ => ⟨16 - (j + 1), by omega, x1, j + 1, by omega, by omega, rfl⟩⟩⟩
  · refine ⟨fun m v1 M' => eqx (biw w) M M' ∧ ∃ j : Nat, v1 = (j : Int) ∧ j ≤ a ∧ m = a - j ∧ gi M' 378 w = ((rc + j : Nat) : Int) ∧ ∀ k, k < rc + j → g16 M' c (gi M' 379 (32 * w + k)), ⟨a, x1.mono (fun a k z => Or.inl z), 0, rfl, Nat.zero_le _, rfl, (x1 378 w (by omega)).trans h1, fun k hk => ?_⟩, ?_⟩
    · rw [x1 379 (32 * w + k) (by omega)]
      exact (h3 k hk).eq (fun a k z => x1 a k (by unfold cdc at z; omega))
    · rintro m v1 M3 ⟨x3, i, rfl, i1, i2, i3, i4⟩
      have q : ∀ a k, ¬ (a = 377 ∨ (a = 378 ∧ k = w) ∨ (a = 379 ∧ 32 * w ≤ k ∧ k < 32 * w + 32)) → gi M3 a k = gi M a k := fun a k z => x3 a k z
      have w3 : gi M3 353 42 = (w : Int) := (q _ _ (by omega)).trans hw
      have a3 : gi M3 353 58 = (a : Int) := (q _ _ (by omega)).trans ha
      show w_bringIn_66b (i : Int) M3 _ K
      unfold w_bringIn_66b
      rw [w3, a3, tw, i3, show ((i : Nat) : Int).toNat = i by omega, show (32 * (w : Int) + ((rc + i : Nat) : Int)).toNat = 32 * w + (rc + i) by omega, q 393 i (by omega)]
      refine ⟨inr_z (by omega) (by omega), fun z => kk M3 x3 ⟨rc + i, i3, by omega, i4⟩, fun z => ⟨⟨by omega, by omega⟩, ⟨by omega, by omega⟩, ⟨by omega, by omega⟩, fun M4 e4 => ?_⟩⟩
      have w4 : gi M4 353 42 = (w : Int) := by rw [e4, gi_of (by omega)]; exact w3
      have c4 : gi M4 378 w = ((rc + i : Nat) : Int) := by rw [e4, gi_of (by omega)]; exact i3
      rw [w4, tw, c4]
      refine ⟨⟨by omega, by omega⟩, ⟨by omega, by omega⟩, fun M5 e5 => ⟨a - (i + 1), by omega, ?_, i + 1, by omega, by omega, rfl, ?_, fun k hk => ?_⟩⟩
      · rw [e5, e4]
        exact (x3.wi (Or.inr (Or.inr ⟨rfl, by omega, by omega⟩))).wi (Or.inr (Or.inl ⟨rfl, rfl⟩))
      · rw [e5, gi_at (inr_z (by omega) (by omega))]; omega
      · have hz : ∀ a k, cdc a → gi M5 a k = gi M3 a k := fun a k z => by unfold cdc at z; rw [e5, gi_of (by omega), e4, gi_of (by omega)]
        by_cases hk2 : k = rc + i
        · rw [hk2, e5, gi_of (by omega), e4, gi_at (inr_gi _ _ _), ← e4, ← e5]
          refine ((hg i (by omega)).eq (fun a k z => q a k (by unfold cdc at z; omega))).eq hz
        · have : gi M5 379 (32 * w + k) = gi M3 379 (32 * w + k) := by rw [e5, gi_of (by omega), e4, gi_of (by omega)]
          rw [this]
          exact (i4 k (by omega)).eq hz
  · refine ⟨⟨by omega, by omega⟩, ⟨by omega, by omega⟩, fun M2 e2 => ?_⟩
    have w2 : gi M2 353 42 = (w : Int) := by rw [e2]; exact w1
    refine ⟨⟨by omega, by omega⟩, ⟨by omega, by omega⟩, fun M3 e3 => ⟨16 - (j + 1), by omega, ?_, j + 1, by omega, by omega, rfl⟩⟩
    rw [e3, e2]
    exact (x1.wl).wi rfl
theorem s_addRow {v1 v2 v3 v4 v5 : Int} {v6 : Int64} {r y : Nat} {K : rf_M → Prop} (hr : gi M 353 69 = (r : Int)) (hr3 : r < 300) (hv3 : v3 = (y : Int)) (hy : y < 1000) (i1 : inr v1) (kk : ∀ M', eqx (fun a k => (400 ≤ a ∧ a ≤ 404 ∧ k = r) ∨ (a = 353 ∧ k = 69)) M M' → gi M' 353 69 = (r : Int) + 1 → gi M' 400 r = v1 → gi M' 402 r = (y : Int) → K M') : wm_addRow v1 v2 v3 v4 v5 v6 M K := by
  have tr : ((r : Nat) : Int).toNat = r := by omega
  show w_addRow v1 v2 v3 v4 v5 v6 M K
  unfold w_addRow
  rw [hr, tr]
  refine ⟨⟨by omega, by omega⟩, fun M1 e1 => ?_⟩
  have r1 : gi M1 353 69 = (r : Int) := by rw [e1, gi_of (by omega)]; exact hr
  rw [r1, tr]
  refine ⟨⟨by omega, by omega⟩, fun M2 e2 => ?_⟩
  have r2 : gi M2 353 69 = (r : Int) := by rw [e2, gi_of (by omega)]; exact r1
  rw [r2, tr]
  refine ⟨⟨by omega, by omega⟩, fun M3 e3 => ?_⟩
  have r3 : gi M3 353 69 = (r : Int) := by rw [e3, gi_of (by omega)]; exact r2
  rw [r3, tr]
  refine ⟨⟨by omega, by omega⟩, fun M4 e4 => ?_⟩
  have r4 : gi M4 353 69 = (r : Int) := by rw [e4, gi_of (by omega)]; exact r3
  rw [r4, tr]
  refine ⟨⟨by omega, by omega⟩, fun M5 e5 => ?_⟩
  have r5 : gi M5 353 69 = (r : Int) := by rw [e5, gi_of (by omega)]; exact r4
  rw [r5, tr]
  refine ⟨⟨by omega, by omega⟩, fun M6 e6 M7 e7 => ?_⟩
  have r6 : gi M6 353 69 = (r : Int) := by rw [e6]; exact r5
  rw [r6] at e7
  refine kk M7 ?_ ?_ ?_ ?_
  · rw [e7, e6, e5, e4, e3, e2, e1]
    exact ((((((((eqx.rfl' M).wi (Or.inl ⟨by omega, by omega, rfl⟩)).wi (Or.inl ⟨by omega, by omega, rfl⟩)).wi (Or.inl ⟨by omega, by omega, rfl⟩)).wi (Or.inl ⟨by omega, by omega, rfl⟩)).wi (Or.inl ⟨by omega, by omega, rfl⟩)).wl)).wi (Or.inr ⟨rfl, rfl⟩)
  · rw [e7, gi_at (inr_z (by omega) (by omega))]
  · rw [e7, gi_of (by omega), e6, gi_wl, e5, gi_of (by omega), e4, gi_of (by omega), e3, gi_of (by omega), e2, gi_of (by omega), e1, gi_at i1]
  · rw [e7, gi_of (by omega), e6, gi_wl, e5, gi_of (by omega), e4, gi_of (by omega), e3, hv3, gi_at (inr_z (by omega) (by omega))]
theorem rwm_add {r y : Nat} {v1 : Int} (hm : rwm M c) (hr : gi M 353 69 = (r : Int)) (hr3 : r < 300) (hx : eqx (fun a k => (400 ≤ a ∧ a ≤ 404 ∧ k = r) ∨ (a = 353 ∧ k = 69)) M M') (h1 : gi M' 353 69 = (r : Int) + 1) (h2 : gi M' 400 r = v1) (h3 : gi M' 402 r = (y : Int)) (h4 : (v1 = 0 ∧ y < 16) ∨ (¬ v1 = 0 ∧ y < c)) : rwm M' c := by
  obtain ⟨r0, a1, a2, a3⟩ := hm
  have : r0 = r := by omega
  subst this
  refine ⟨r0 + 1, by rw [h1]; omega, by omega, fun i hi => ?_⟩
  by_cases hir : i = r0
  · rw [hir]
    exact ⟨y, h3, by rw [h2]; exact h4⟩
  · obtain ⟨x, b1, b2⟩ := a3 i (by omega)
    refine ⟨x, ?_, ?_⟩
    · rw [hx 402 i (by omega)]; exact b1
    · rw [hx 400 i (by omega)]; exact b2
theorem s_bringRead {K : rf_M → Prop} (hl : l < 8) (kk : ∀ M', eqx vww M M' → K M') : wm_bringRead (l : Int) M K := by
  refine ⟨⟨by omega, by omega⟩, fun M1 e1 => ?_⟩
  refine ⟨fun m v1 v2 M' => v1 = (l : Int) ∧ eqx vww M M' ∧ ∃ j : Nat, v2 = (j : Int) ∧ j ≤ 16 ∧ m = 16 - j, ⟨16, rfl, by rw [e1]; exact (eqx.rfl' M).wi (Or.inl ⟨rfl, Or.inl rfl⟩), 0, rfl, by omega, rfl⟩, ?_⟩
  rintro m v1 v2 M2 ⟨rfl, x2, j, rfl, j1, j2⟩
  exact ⟨inr_z (by omega) (by omega), fun _ => kk M2 x2, fun z => ⟨⟨by omega, by omega⟩, ⟨by omega, by omega⟩, fun M3 e3 => ⟨⟨by omega, by omega⟩, ⟨by omega, by omega⟩, fun M4 e4 => ⟨16 - (j + 1), by omega, rfl, by rw [e4, e3]; exact (x2.wl).wi (Or.inr rfl), j + 1, by omega, by omega, rfl⟩⟩⟩⟩
theorem s_keepRead {K : rf_M → Prop} (hl : l < 8) (kk : ∀ M', eqx (fun a _ => a = 386 ∨ a = 388) M M' → K M') : wm_keepRead (l : Int) M K := by
  refine ⟨⟨by omega, by omega⟩, fun M1 e1 => ?_⟩
  refine ⟨fun m v1 v2 M' => v1 = (l : Int) ∧ eqx (fun a _ => a = 386 ∨ a = 388) M M' ∧ ∃ j : Nat, v2 = (j : Int) ∧ j ≤ 16 ∧ m = 16 - j, ⟨16, rfl, by rw [e1]; exact (eqx.rfl' M).wi (Or.inl rfl), 0, rfl, by omega, rfl⟩, ?_⟩
  rintro m v1 v2 M2 ⟨rfl, x2, j, rfl, j1, j2⟩
  exact ⟨inr_z (by omega) (by omega), fun _ => kk M2 x2, fun z => ⟨⟨by omega, by omega⟩, ⟨by omega, by omega⟩, fun M3 e3 => ⟨⟨by omega, by omega⟩, ⟨by omega, by omega⟩, fun M4 e4 => ⟨16 - (j + 1), by omega, rfl, by rw [e4, e3]; exact (x2.wl).wi (Or.inr rfl), j + 1, by omega, by omega, rfl⟩⟩⟩⟩
theorem s_beginWalk {K : rf_M → Prop} (hb : bfm M c) (ht : t < c) (kk : ∀ M', eqx (fun a k => a = 353 ∧ (k = 55 ∨ k = 58 ∨ k = 60)) M M' → wkk M' c t 0 → K M') : wm_beginWalk (t : Int) M K := by
  have hc := hb.1
  have tt : ((t : Nat) : Int).toNat = t := by omega
  obtain ⟨n, cc, h1, h2, h3, h4, h5, h6⟩ := hb.2 t ht
  intro M1 e1 M2 e2
  have x2 : eqx (fun a k => a = 353 ∧ (k = 55 ∨ k = 58 ∨ k = 60)) M M2 := by
    rw [e2, e1]
    exact ((eqx.rfl' M).wi ⟨rfl, Or.inl rfl⟩).wi ⟨rfl, Or.inr (Or.inl rfl)⟩
  have a2 : gi M2 353 58 = 0 := by rw [e2, gi_at (inr_z (by omega) (by omega))]
  refine ⟨fun m v1 v2 M' => v1 = (t : Int) ∧ si M2 M' ∧ ∃ j : Nat, v2 = (j : Int) ∧ j ≤ 10 ∧ m = 10 - j, ⟨10, rfl, fun _ _ => rfl, 0, rfl, by omega, rfl⟩, ?_⟩
  rintro m v1 v2 M3 ⟨rfl, s3, j, rfl, j1, j2⟩
  refine ⟨inr_z (by omega) (by omega), fun _ => ⟨⟨by omega, by omega⟩, fun M4 e4 => ?_⟩, fun z => ⟨⟨by omega, by omega⟩, fun M4 e4 => ⟨10 - (j + 1), by omega, rfl, fun a k => by rw [e4]; exact s3 a k, j + 1, by omega, by omega, rfl⟩⟩⟩
  rw [tt] at e4
  have x4 : eqx (fun a k => a = 353 ∧ (k = 55 ∨ k = 58 ∨ k = 60)) M M4 := by
    rw [e4]
    exact (x2.trans (fun a k _ => s3 a k)).wi ⟨rfl, Or.inr (Or.inr rfl)⟩
  have f358 : gi M3 358 t = gi M 358 t := (s3 _ _).trans (x2 _ _ (by omega))
  refine kk M4 x4 ⟨n, 0, Nat.le_refl _, ⟨ht, (x4 _ _ (by omega)).trans h1, fun j hj => absurd hj (Nat.not_lt_zero _), 0, ?_, Nat.le_refl _⟩, ?_⟩
  · rw [e4, gi_of (by omega), s3]; exact a2
  · have g60 : gi M4 353 60 = gi M 358 t := by rw [e4, gi_at (inr_gi _ _ _), f358]
    rw [g60]
    rcases h6 with z | ⟨x, x1, x2', x3, x5⟩
    · exact Or.inl z
    · refine Or.inr ⟨x, x1, fun y => y = x, rfl, fun y hy => ?_⟩
      subst hy
      refine ⟨⟨x2', x3⟩, fun p hp => ?_⟩
      rw [x4 362 y (by omega), x5] at hp
      omega
def wlw (a k : Nat) : Prop := stw a k ∨ (a = 353 ∧ k = 42)
theorem s_walkAnew {s : Nat} {K : rf_M → Prop} (hb : bfm M c) (hl : l < 8) (hq : gi M 380 (16 * l) = (t : Int)) (ht : t < c) (hs : gi M 383 l = (s : Int)) (hs3 : s ≤ 300) (kk : ∀ M', eqx wlw M M' → gi M' 353 42 = 0 → wkk M' c t s → K M') : wm_walkAnew (l : Int) M K := by
  intro M1 e1
  have x1 : eqx wlw M M1 := by rw [e1]; exact (eqx.rfl' M).wi (Or.inr ⟨rfl, rfl⟩)
  have w1 : gi M1 353 42 = 0 := by rw [e1, gi_at (inr_z (by omega) (by omega))]
  refine s_bringRead hl (fun M2 y2 => ?_)
  have x2 : eqx wlw M M2 := x1.trans (y2.mono (fun a k z => by
    rcases z with z | z
    · exact Or.inl (Or.inl ⟨z.1, by have := z.2; omega⟩)
    · exact Or.inl (Or.inr (Or.inl z))))
  have w2 : gi M2 353 42 = 0 := (y2 353 42 (by unfold vww; omega)).trans w1
  have nw : ∀ {a k : Nat}, ¬ (a = 353 ∨ a = 390 ∨ a = 393 ∨ a = 394 ∨ a = 397) → ¬ wlw a k := fun z w => by unfold wlw stw at w; omega
  refine ⟨⟨by omega, by omega⟩, ?_⟩
  rw [show (16 * (l : Int)).toNat = 16 * l by omega, x2 380 (16 * l) (nw (by omega)), hq]
  refine s_beginWalk (hb.eq (fun a k z => x2 a k (nw (by unfold cdc at z; omega)))) ht (fun M4 y4 k4 => ?_)
  have x4 : eqx wlw M M4 := x2.trans (y4.mono (fun a k z => Or.inl (Or.inl ⟨z.1, by have := z.2; omega⟩)))
  have w4 : gi M4 353 42 = 0 := (y4 353 42 (by omega)).trans w2
  refine ⟨fun m v1 v2 M' => v1 = (l : Int) ∧ eqx wlw M M' ∧ gi M' 353 42 = 0 ∧ ∃ j : Nat, v2 = (j : Int) ∧ j ≤ s ∧ m = s - j ∧ wkk M' c t j, ⟨s, rfl, x4, w4, 0, rfl, Nat.zero_le _, rfl, k4⟩, ?_⟩
  rintro m v1 v2 M5 ⟨rfl, x5, w5, j, rfl, j1, j2, k5⟩
  show w_walkAnew_21b (l : Int) (j : Int) M5 _ K
  unfold w_walkAnew_21b
  rw [show ((l : Nat) : Int).toNat = l by omega, x5 383 l (nw (by omega)), hs]
  refine ⟨⟨by omega, by omega⟩, inr_z (by omega) (by omega), fun z => kk M5 x5 w5 (by rw [show s = j by omega]; exact k5), fun z => ?_⟩
  refine s_step (hb.eq (fun a k z => x5 a k (nw (by unfold cdc at z; omega)))) (Or.inl w5) k5 (by omega) (fun z M6 _ _ y6 k6 => ⟨s - (j + 1), by omega, rfl, x5.trans (y6.mono (fun a k z => Or.inl z)), (y6 353 42 (by unfold stw; omega)).trans w5, j + 1, by omega, by omega, rfl, k6⟩)
theorem s_isHeld {K : Int → rf_M → Prop} (hl : l < 8) (k0 : K 0 M) (k1 : K 1 M) : wm_isHeld (l : Int) M K := by
  refine ⟨fun m v1 v2 v3 M' => v1 = (l : Int) ∧ (v2 = 0 ∨ v2 = 1) ∧ M' = M ∧ ∃ j : Nat, v3 = (j : Int) ∧ j ≤ 8 ∧ m = 8 - j, ⟨8, rfl, Or.inl rfl, rfl, 0, rfl, by omega, rfl⟩, ?_⟩
  rintro m v1 v2 v3 M1 ⟨rfl, hv, rfl, j, rfl, j1, j2⟩
  have nx : ¬ 8 ≤ (j : Int) → ∀ s0 : Int, (s0 = 0 ∨ s0 = 1) → ∃ m', m' < m ∧ (((l : Int) = (l : Int)) ∧ (s0 = 0 ∨ s0 = 1) ∧ M1 = M1 ∧ ∃ j' : Nat, (j : Int) + 1 = (j' : Int) ∧ j' ≤ 8 ∧ m' = 8 - j') := fun z s0 h0 => ⟨8 - (j + 1), by omega, rfl, h0, rfl, j + 1, by omega, by omega, rfl⟩
  refine ⟨inr_z (by omega) (by omega), fun _ => ⟨inr_z (by omega) (by omega), fun _ => ⟨Or.inl rfl, k0⟩, fun _ => ⟨⟨by omega, by omega⟩, fun _ => ⟨Or.inr rfl, k1⟩, fun _ => ⟨Or.inl rfl, k0⟩⟩⟩, fun z => ⟨inr_z (by omega) (by omega), fun _ => ⟨inr_z (by omega) (by omega), inr_z (by omega) (by omega), fun _ => nx z 0 (Or.inl rfl), fun _ => ⟨⟨by omega, by omega⟩, fun _ => nx z 0 (Or.inl rfl), fun _ => nx z 1 (Or.inr rfl)⟩⟩, fun _ => nx z 1 (Or.inr rfl)⟩⟩
theorem s_cutRun {K : Int → rf_M → Prop} (hl : l < 8) (kk : ∀ M', eqx (fun a k => a = 382 ∨ (a = 383 ∧ k = l) ∨ (384 ≤ a ∧ a ≤ 386)) M M' → gi M' 383 l = 0 → K 3 M') : wm_cutRun (l : Int) M K := by
  have tl : ((l : Nat) : Int).toNat = l := by omega
  have hin : 0 ≤ (l : Int) ∧ (l : Int) < 8 := ⟨by omega, by omega⟩
  show w_cutRun (l : Int) M K
  unfold w_cutRun
  rw [tl]
  refine ⟨hin, fun M1 e1 => ⟨hin, fun M2 e2 => ⟨hin, fun M3 e3 => ⟨hin, hin, fun M4 e4 => ?_⟩⟩⟩⟩
  have fin : ∀ s2 : Int, w_cutRun_60 (l : Int) s2 M4 K := fun s2 => ⟨hin, fun M5 e5 => kk M5 (by
    rw [e5, e4, e3, e2, e1]
    exact (((((eqx.rfl' M).wi (Or.inl rfl)).wi (Or.inr (Or.inl ⟨rfl, rfl⟩))).wi (Or.inr (Or.inr ⟨by omega, by omega⟩))).wi (Or.inr (Or.inr ⟨by omega, by omega⟩))).wi (Or.inr (Or.inr ⟨by omega, by omega⟩))) (by
    rw [e5, gi_of (by omega), e4, gi_of (by omega), e3, gi_of (by omega), e2, gi_at (inr_z (by omega) (by omega))])⟩
  exact ⟨hin, fun _ => ⟨hin, fun _ => fin 0, fun _ => fin 1⟩, fun _ => fin 1⟩
end WD
