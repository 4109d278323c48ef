section WF
variable {M M' M0 : rf_M} {c t l : Nat} {K : Int → rf_M → Prop}
theorem mQ.tr {M1 : rf_M} {P : Nat → Nat → Prop} (h : mQ c M M1) (hx : eqx P M1 M') (hP : ∀ a k, P a k → rnw a k ∧ ¬ mIc a k) : mQ c M M' := ⟨h.1.no hx (fun a k z => (hP a k z).2), h.2.trans (hx.mono (fun a k z => (hP a k z).1))⟩
theorem s_put {x : Int32} {v : Int64} (hm : mIn M c) (kk : ∀ z M', mQ c M M' → K z M') : wm_put x.toInt v M K := by
  intro M1 e1
  have h1 := mQ0 hm
  rw [← e1] at h1
  refine ⟨inr_ti _, fun _ => kk _ M1 h1, fun z => ⟨inr_ti _, fun _ => kk _ M1 h1, fun z2 => ⟨fun _ => kk _ M1 h1, fun z3 M2 e2 => ?_⟩⟩⟩
  obtain ⟨n, hn⟩ : ∃ n : Nat, x.toInt = (n : Int) := ⟨x.toInt.toNat, by omega⟩
  rw [hn] at z2 ⊢
  have h2 : mQ c M M2 := h1.tr (P := wlw) (by rw [e2]; exact (eqx.rfl' M1).wi (Or.inr ⟨rfl, rfl⟩)) (fun a k w => wlw_rn w)
  have w2 : gi M2 353 42 = ((0 : Nat) : Int) := by rw [e2, gi_at (inr_z (by omega) (by omega))]; rfl
  have r2 : ¬ gi M2 353 69 = 300 := by rw [e2, gi_of (by omega)]; exact z3
  clear e1 e2 h1
  refine ⟨fun m v1 v2 v4 M' => v1 = (n : Int) ∧ si M2 M' ∧ ∃ j : Nat, v4 = (j : Int) ∧ j ≤ 16 ∧ m = 16 - j, ⟨16, rfl, fun _ _ => rfl, 0, rfl, by omega, rfl⟩, ?_⟩
  rintro m v1 v2 v4 M3 ⟨rfl, s3, j, rfl, j1, j2⟩
  have nx : ¬ 16 ≤ (j : Int) → ∀ (v2 s2 : Int64), w_put_65 (n : Int) v2 (j : Int) (j : Int) s2 M3 (fun v1' v2' v4' M' => ∃ m', m' < m ∧ (v1' = (n : Int) ∧ si M2 M' ∧ ∃ j : Nat, v4' = (j : Int) ∧ j ≤ 16 ∧ m' = 16 - j)) K := fun z v2 s2 => ⟨⟨by omega, by omega⟩, fun M4 e4 => ⟨16 - (j + 1), by omega, rfl, fun a k => by rw [e4]; exact s3 a k, j + 1, by omega, by omega, rfl⟩⟩
  refine ⟨inr_z (by omega) (by omega), fun _ => ?_, fun z => ⟨inr_z (by omega) (by omega), inr_z (by omega) (by omega), fun _ => nx z v2 v2, fun _ => ⟨⟨by omega, by omega⟩, nx z v2 _⟩⟩⟩
  have h3 : mQ c M M3 := ⟨h2.1.eq (fun a k _ => s3 a k), h2.2.trans (fun a k _ => s3 a k)⟩
  refine s_rulesHold (w := 0) h3.1.c12 ((s3 _ _).trans w2) (by omega) h3.1.2.2.1 (fun b M4 hb x4 => ?_)
  have h4 : mQ c M M4 := h3.tr x4 (fun a k w => vww_rn w)
  have r4 : ¬ gi M4 353 69 = 300 := by rw [x4 353 69 (by unfold vww; omega), s3]; exact r2
  refine ⟨inr_z (by omega) (by omega), fun _ => kk _ M4 h4, fun _ => ⟨⟨by omega, by omega⟩, fun M5 e5 => ⟨⟨by omega, by omega⟩, ⟨by omega, by omega⟩, fun M6 e6 => ?_⟩⟩⟩
  have x6 : eqx (fun a _ => a = 377) M4 M6 := by rw [e6, e5]; exact ((eqx.rfl' M4).wl).wi rfl
  have h6 : mQ c M M6 := h4.tr x6 (fun a k w => by unfold rnw mIc cdc; omega)
  have r6 : ¬ gi M6 353 69 = 300 := by rw [x6 353 69 (by omega)]; exact r4
  obtain ⟨r, a1, a2, -⟩ := h6.1.2.2.2.2.2
  refine s_addRow (r := r) (y := n) a1 (by omega) rfl (by omega) (inr_z (by omega) (by omega)) (fun M7 x7 b1 b2 b3 => ⟨⟨by omega, by omega⟩, kk _ M7 ⟨?_, h6.2.trans (x7.mono (fun a k z => by unfold rnw; omega))⟩⟩)
  have q2 : ∀ a k, ¬ ((400 ≤ a ∧ a ≤ 404 ∧ k = r) ∨ (a = 353 ∧ k = 69)) → gi M7 a k = gi M6 a k := fun a k z => x7 a k z
  obtain ⟨g1, g2, g3, g4, g5, g6⟩ := h6.1
  exact ⟨g1.eq (fun a k z => q2 a k (by unfold cdc at z; omega)), (q2 _ _ (by omega)).trans g2, g3.eq (fun a k z => q2 a k (by unfold cdc at z; omega)), g4.eq (fun a k z => q2 a k (by omega)), g5.eq (fun k => q2 _ _ (by omega)), rwm_add g6 a1 (by omega) x7 b1 b2 b3 (Or.inl ⟨rfl, by omega⟩)⟩
theorem s_cell {x : Int32} {K : Int64 → rf_M → Prop} (hm : mIn M c) (kk : ∀ z M', mQ c M M' → K z M') : wm_cell x.toInt M K := by
  intro M1 e1
  have h1 := mQ0 hm
  rw [← e1] at h1
  exact ⟨inr_ti _, fun _ => kk _ M1 h1, fun z => ⟨inr_ti _, fun z2 => ⟨⟨by omega, by omega⟩, kk _ M1 h1⟩, fun _ => kk _ M1 h1⟩⟩
theorem s_version {x : Int32} (hm : mIn M c) (kk : ∀ z M', mQ c M M' → K z M') : wm_version x.toInt M K := by
  intro M1 e1
  have h1 := mQ0 hm
  rw [← e1] at h1
  exact ⟨inr_ti _, fun _ => kk _ M1 h1, fun z => ⟨inr_ti _, fun z2 => ⟨⟨by omega, by omega⟩, kk _ M1 h1⟩, fun _ => kk _ M1 h1⟩⟩
theorem s_add {x y : Int32} (hm : mIn M c) (kk : ∀ z M', mQ c M M' → K z M') : wm_add x.toInt y.toInt M K := by
  intro M1 e1
  have h1 := mQ0 hm
  rw [← e1] at h1
  refine s_isClient (inr_ti _) (fun hv => ⟨inr_z (by omega) (by omega), fun w => absurd w (by decide), fun _ => ?_⟩) ⟨inr_z (by omega) (by omega), fun _ => kk _ M1 h1, fun w => absurd rfl w⟩
  obtain ⟨l, hl⟩ : ∃ l : Nat, x.toInt = (l : Int) := ⟨x.toInt.toNat, by omega⟩
  rw [hl]
  have tl : ((l : Nat) : Int).toNat = l := by omega
  have hl8 : l < 8 := by omega
  obtain ⟨q, b1, b2, b3⟩ := h1.1.2.2.2.1 l hl8
  have h11 := h1.1.2.1
  have hin : 0 ≤ (l : Int) ∧ (l : Int) < 8 := ⟨by omega, by omega⟩
  rw [tl, b1, h11, show (16 * (l : Int) + (q : Int)).toNat = 16 * l + q by omega]
  refine ⟨inr_ti _, fun _ => kk _ M1 h1, fun z => ⟨inr_ti _, fun _ => kk _ M1 h1, fun z2 => ⟨hin, fun _ => kk _ M1 h1, fun z3 => ⟨hin, ⟨by omega, by omega⟩, fun M3 e3 => ⟨hin, hin, fun M4 e4 => ⟨hin, kk _ M4 ?_⟩⟩⟩⟩⟩⟩
  have c3 : gi M3 381 l = (q : Int) := by rw [e3, gi_of (by omega)]; exact b1
  rw [c3] at e4
  have q4 : ∀ a k, ¬ (a = 380 ∧ k = 16 * l + q) → ¬ (a = 381 ∧ k = l) → gi M4 a k = gi M1 a k := fun a k w1 w2 => by rw [e4, gi_of (by omega), e3, gi_of (by omega)]
  have f380 : gi M4 380 (16 * l + q) = y.toInt := by rw [e4, gi_of (by omega), e3, gi_at (inr_ti _)]
  have f381 : gi M4 381 l = ((q + 1 : Nat) : Int) := by rw [e4, gi_at (inr_z (by omega) (by omega))]; omega
  obtain ⟨g1, g2, g3, g4, g5, g6⟩ := h1.1
  refine ⟨⟨g1.eq (fun a k z => q4 a k (by unfold cdc at z; omega) (by unfold cdc at z; omega)), (q4 _ _ (by omega) (by omega)).trans g2, g3.eq (fun a k z => q4 a k (by unfold cdc at z; omega) (by unfold cdc at z; omega)), fun i hi => ?_, g5.eq (fun k => q4 _ _ (by omega) (by omega)), g6.eq (fun a k z => q4 a k (by omega) (by omega))⟩, h1.2.trans (fun a k z => by unfold rnw at z; exact q4 a k (by omega) (by omega))⟩
  by_cases hil : i = l
  · rw [hil]
    refine ⟨q + 1, f381, by omega, fun k hk => ?_⟩
    by_cases hkq : k = q
    · rw [hkq, f380]
      exact ⟨y.toInt.toNat, by omega, by omega⟩
    · rw [q4 380 (16 * l + k) (by omega) (by omega)]
      exact b3 k (by omega)
  · obtain ⟨q1, a1, a2, a3⟩ := g4 i hi
    refine ⟨q1, (q4 _ _ (by omega) (by omega)).trans a1, a2, fun k hk => ?_⟩
    rw [q4 380 (16 * i + k) (by omega) (by omega)]
    exact a3 k hk
/-- a walk of a client that has something to do -/
theorem s_walkQ {q : Nat} {K : rf_M → Prop} (hm : mIn M c) (hl : l < 8) (hq : gi M 381 l = (q : Int)) (hq1 : 1 ≤ q) (kk : ∀ M', mQ c M M' → K M') : wm_walkAnew (l : Int) M K := by
  obtain ⟨q0, b1, b2, b3⟩ := hm.2.2.2.1 l hl
  obtain ⟨t, t1, t2⟩ := b3 0 (by omega)
  obtain ⟨s, s1, s2⟩ := hm.2.2.2.2.1 l hl
  exact s_walkAnew hm.1 hl t1 t2 s1 s2 (fun M1 x1 _ _ => kk M1 ⟨hm.no x1 (fun a k w => (wlw_rn w).2), x1.mono (fun a k w => (wlw_rn w).1)⟩)
theorem s_client {x y : Int32} (hm : mIn M c) (kk : ∀ z M', mQ c M M' → K z M') : wm_client x.toInt y.toInt M K := by
  intro M1 e1
  have h1 := mQ0 hm
  rw [← e1] at h1
  refine s_isClient (inr_ti _) (fun hv => ⟨inr_z (by omega) (by omega), fun w => absurd w (by decide), fun _ => ?_⟩) ⟨inr_z (by omega) (by omega), fun _ => kk _ M1 h1, fun w => absurd rfl w⟩
  obtain ⟨l, hl⟩ : ∃ l : Nat, x.toInt = (l : Int) := ⟨x.toInt.toNat, by omega⟩
  rw [hl]
  have tl : ((l : Nat) : Int).toNat = l := by omega
  have hl8 : l < 8 := by omega
  have hin : 0 ≤ (l : Int) ∧ (l : Int) < 8 := ⟨by omega, by omega⟩
  obtain ⟨q, b1, b2, b3⟩ := h1.1.2.2.2.1 l hl8
  have iy : inr y.toInt := inr_ti _
  have fin : ∀ (v3 s0 : Int), inr v3 → (s0 = 0 ∨ (s0 = 1 ∧ 1 ≤ q)) → 0 ≤ y.toInt → y.toInt ≤ 8 → w_client_59 (l : Int) y.toInt v3 s0 M1 K := by
    intro v3 s0 i3 hs0 y0 y8
    have walk : inr s0 ∧ ((s0 = 0 → (K 0 M1)) ∧ (¬ s0 = 0 → (wm_walkAnew (l : Int) M1 (fun (M2 : rf_M) => inr y.toInt ∧ ((y.toInt = 6 → (w_client_211 (gi M2 353 55) M2 K)) ∧ (¬ y.toInt = 6 → (w_client_211 (gi M2 353 58) M2 K))))))) := ⟨by rcases hs0 with w | w <;> exact inr_z (by omega) (by omega), fun _ => kk _ M1 h1, fun w => s_walkQ h1.1 hl8 b1 (by omega) (fun M2 h2 => ⟨iy, fun _ => kk _ M2 ⟨h2.1, h1.2.trans h2.2⟩, fun _ => kk _ M2 ⟨h2.1, h1.2.trans h2.2⟩⟩)⟩
    exact ⟨iy, fun _ => ⟨i3, fun _ => ⟨hin, kk _ M1 h1⟩, fun _ => kk _ M1 h1⟩, fun _ => ⟨hin, kk _ M1 h1⟩, fun _ => ⟨i3, fun _ => ⟨⟨by omega, by omega⟩, kk _ M1 h1⟩, fun _ => kk _ M1 h1⟩, fun _ => ⟨hin, kk _ M1 h1⟩, fun _ => ⟨hin, kk _ M1 h1⟩, fun _ => ⟨hin, kk _ M1 h1⟩, fun _ => walk, fun _ => ⟨hin, fun _ => kk _ M1 h1, fun _ => kk _ M1 h1⟩, fun _ => walk⟩
  refine ⟨iy, fun _ => kk _ M1 h1, fun z => ⟨iy, fun z2 => ⟨hin, fun _ => ?_, fun z3 => ?_⟩, fun _ => kk _ M1 h1⟩⟩
  · exact ⟨inr_z (by omega) (by omega), fun w => absurd w (by decide), fun _ => fin 1 0 (inr_z (by omega) (by omega)) (Or.inl rfl) (by omega) z2⟩
  · rw [tl, b1] at z3
    exact ⟨inr_z (by omega) (by omega), fun _ => ⟨hin, fun _ => fin 0 1 (inr_z (by omega) (by omega)) (Or.inr ⟨rfl, by omega⟩) (by omega) z2, fun _ => fin 0 0 (inr_z (by omega) (by omega)) (Or.inl rfl) (by omega) z2⟩, fun w => absurd rfl w⟩
theorem s_sees {x y : Int32} {K : Int64 → rf_M → Prop} (hm : mIn M c) (kk : ∀ z M', mQ c M M' → K z M') : wm_sees x.toInt y.toInt M K := by
  intro M1 e1
  have h1 := mQ0 hm
  rw [← e1] at h1
  refine s_isClient (inr_ti _) (fun hv => ⟨inr_z (by omega) (by omega), fun w => absurd w (by decide), fun _ => ?_⟩) ⟨inr_z (by omega) (by omega), fun _ => kk _ M1 h1, fun w => absurd rfl w⟩
  obtain ⟨l, hl⟩ : ∃ l : Nat, x.toInt = (l : Int) := ⟨x.toInt.toNat, by omega⟩
  rw [hl]
  have tl : ((l : Nat) : Int).toNat = l := by omega
  have hl8 : l < 8 := by omega
  have hin : 0 ≤ (l : Int) ∧ (l : Int) < 8 := ⟨by omega, by omega⟩
  obtain ⟨q, b1, b2, b3⟩ := h1.1.2.2.2.1 l hl8
  have iy : inr y.toInt := inr_ti _
  refine ⟨iy, fun _ => kk _ M1 h1, fun z => ⟨iy, fun z2 => ?_, fun _ => kk _ M1 h1⟩⟩
  have s44 : w_sees_44 y.toInt M1 K := ⟨iy, fun _ => kk _ M1 h1, fun _ => ⟨⟨by omega, by omega⟩, kk _ M1 h1⟩⟩
  rw [tl, b1]
  refine ⟨hin, fun _ => s44, fun z3 => ⟨hin, fun _ => ?_, fun _ => s44⟩⟩
  refine s_walkQ h1.1 hl8 b1 (by omega) (fun M2 h2 => ?_)
  have h3 : mQ c M M2 := ⟨h2.1, h1.2.trans h2.2⟩
  exact ⟨iy, fun _ => ⟨fun _ => ⟨⟨by omega, by omega⟩, kk _ M2 h3⟩, fun _ => ⟨fun _ => ⟨⟨by omega, by omega⟩, kk _ M2 h3⟩, fun _ => ⟨⟨by omega, by omega⟩, kk _ M2 h3⟩⟩⟩, fun _ => ⟨⟨by omega, by omega⟩, kk _ M2 h3⟩⟩
theorem s_rules (hm : mIn M c) (kk : ∀ z M', mQ c M M' → K z M') : wm_rules M K := by
  intro M1 e1
  have h1 := mQ0 hm
  rw [← e1] at h1
  exact ⟨⟨by omega, by omega⟩, kk _ M1 h1⟩
theorem s_rows (hm : mIn M c) (kk : ∀ z M', mQ c M M' → K z M') : wm_rows M K := by
  intro M1 e1
  have h1 := mQ0 hm
  rw [← e1] at h1
  exact kk _ M1 h1
theorem s_row {x y : Int32} (hm : mIn M c) (kk : ∀ z M', mQ c M M' → K z M') : wm_row x.toInt y.toInt M K := by
  intro M1 e1
  have h1 := mQ0 hm
  rw [← e1] at h1
  obtain ⟨r, a1, a2, -⟩ := h1.1.2.2.2.2.2
  have iy : inr y.toInt := inr_ti _
  refine ⟨inr_ti _, fun _ => kk _ M1 h1, fun z => ⟨inr_ti _, fun z2 => ?_, fun _ => kk _ M1 h1⟩⟩
  have hin : 0 ≤ x.toInt ∧ x.toInt < 300 := ⟨by omega, by omega⟩
  exact ⟨iy, fun _ => ⟨hin, kk _ M1 h1⟩, fun _ => ⟨iy, fun _ => ⟨hin, kk _ M1 h1⟩, fun _ => ⟨iy, fun _ => ⟨hin, kk _ M1 h1⟩, fun _ => ⟨iy, fun _ => ⟨hin, kk _ M1 h1⟩, fun _ => ⟨iy, fun _ => ⟨hin, kk _ M1 h1⟩, fun _ => kk _ M1 h1⟩⟩⟩⟩⟩
theorem s_value {x : Int32} {K : Int64 → rf_M → Prop} (hm : mIn M c) (kk : ∀ z M', mQ c M M' → K z M') : wm_value x.toInt M K := by
  intro M1 e1
  have h1 := mQ0 hm
  rw [← e1] at h1
  obtain ⟨r, a1, a2, -⟩ := h1.1.2.2.2.2.2
  exact ⟨inr_ti _, fun _ => kk _ M1 h1, fun z => ⟨inr_ti _, fun z2 => ⟨⟨by omega, by omega⟩, kk _ M1 h1⟩, fun _ => kk _ M1 h1⟩⟩
theorem s_place (hm : mIn M c) (kk : ∀ z M', mQ c M M' → K z M') : wm_place M K := by
  intro M1 e1
  have h1 := mQ0 hm
  rw [← e1] at h1
  exact kk _ M1 h1
theorem s_told {x y : Int32} (hm : mIn M c) (kk : ∀ M', mQ c M M' → K (if 0 ≤ x.toInt ∧ x.toInt < (c : Int) then (if y.toInt = 0 then gi M 355 x.toInt.toNat else if y.toInt = 1 then gi M 356 x.toInt.toNat else if y.toInt = 2 then gi M 357 x.toInt.toNat else -1) else -1) M') : wm_told x.toInt y.toInt M K := by
  intro M1 e1
  have h1 := mQ0 hm
  rw [← e1] at h1
  have hc := hm.c12
  have h11 := h1.1.2.1
  have iy : inr y.toInt := inr_ti _
  replace kk := kk M1 h1
  have g : ∀ a k, a = 355 ∨ a = 356 ∨ a = 357 → gi M1 a k = gi M a k := fun a k w => by rw [e1, gi_of (by omega)]
  refine ⟨inr_ti _, fun z => ?_, fun z => ⟨inr_ti _, fun z2 => ?_, fun z2 => ?_⟩⟩
  · rw [if_neg (by omega)] at kk; exact kk
  · rw [if_pos (by omega)] at kk
    have hin : 0 ≤ x.toInt ∧ x.toInt < 12 := ⟨by omega, by omega⟩
    refine ⟨iy, fun w => ⟨hin, ?_⟩, fun w => ⟨iy, fun w1 => ⟨hin, ?_⟩, fun w1 => ⟨iy, fun w2 => ⟨hin, ?_⟩, fun w2 => ?_⟩⟩⟩
    · rw [if_pos w] at kk; rw [g 355 _ (by omega)]; exact kk
    · rw [if_neg w, if_pos w1] at kk; rw [g 356 _ (by omega)]; exact kk
    · rw [if_neg w, if_neg w1, if_pos w2] at kk; rw [g 357 _ (by omega)]; exact kk
    · rw [if_neg w, if_neg w1, if_neg w2] at kk; exact kk
  · rw [if_neg (by omega)] at kk; exact kk
theorem s_clear (hm : mIn M c) (kk : ∀ z M', mQ c M M' → K z M') : wm_clear M K := by
  intro M1 e1 M2 e2
  refine ⟨⟨by omega, by omega⟩, fun M3 e3 => ?_⟩
  have q3 : ∀ a k, ¬ (a = 353 ∧ (k = 0 ∨ k = 69)) → ¬ (a = 378 ∧ k = 0) → gi M3 a k = gi M a k := fun a k w1 w2 => by rw [e3, gi_of (by omega), e2, gi_of (by omega), e1, gi_of (by omega)]
  have f69 : gi M3 353 69 = ((0 : Nat) : Int) := by rw [e3, gi_of (by omega), e2, gi_at (inr_z (by omega) (by omega))]; rfl
  have f378 : gi M3 378 0 = ((0 : Nat) : Int) := by rw [e3, gi_at (inr_z (by omega) (by omega))]; rfl
  obtain ⟨g1, g2, g3, g4, g5, g6⟩ := hm
  have h3 : mQ c M M3 := ⟨⟨g1.eq (fun a k z => q3 a k (by unfold cdc at z; omega) (by unfold cdc at z; omega)), (q3 _ _ (by omega) (by omega)).trans g2, ⟨0, f378, by omega, fun k hk => absurd hk (Nat.not_lt_zero _)⟩, g4.eq (fun a k z => q3 a k (by omega) (by omega)), g5.eq (fun k => q3 _ _ (by omega) (by omega)), ⟨0, f69, by omega, fun k hk => absurd hk (Nat.not_lt_zero _)⟩⟩, fun a k z => by unfold rnw at z; exact q3 a k (by omega) (by omega)⟩
  clear e1 e2 e3 q3 f69 f378 g1 g2 g3 g4 g5 g6
  generalize gi M1 353 69 = vv
  refine ⟨fun m v1 v2 M' => mQ c M M' ∧ ∃ j : Nat, v2 = (j : Int) ∧ j ≤ 16 ∧ m = 16 - j, ⟨16, h3, 0, rfl, by omega, rfl⟩, ?_⟩
  rintro m v1 v2 M4 ⟨h4, j, rfl, j1, j2⟩
  refine ⟨inr_z (by omega) (by omega), fun _ => ?_, fun z => ⟨⟨by omega, by omega⟩, fun M5 e5 => ⟨⟨by omega, by omega⟩, fun M6 e6 => ⟨16 - (j + 1), by omega, h4.tr (P := fun a _ => a = 377) (by rw [e6, e5]; exact ((eqx.rfl' M4).wl).wi rfl) (fun a k w => by unfold rnw mIc cdc; omega), j + 1, by omega, by omega, rfl⟩⟩⟩⟩
  refine ⟨fun m v1 v2 M' => mQ c M M' ∧ ∃ j : Nat, v2 = (j : Int) ∧ j ≤ 8 ∧ m = 8 - j, ⟨8, h4, 0, rfl, by omega, rfl⟩, ?_⟩
  rintro m v1 v2 M7 ⟨h7, i, rfl, i1, i2⟩
  refine ⟨inr_z (by omega) (by omega), fun _ => kk _ M7 h7, fun z => ?_⟩
  have hin : 0 ≤ (i : Int) ∧ (i : Int) < 8 := ⟨by omega, by omega⟩
  rw [show ((i : Nat) : Int).toNat = i by omega]
  refine ⟨hin, fun A1 f1 => ⟨hin, fun A2 f2 => ⟨hin, fun A3 f3 => ⟨hin, fun A4 f4 => ⟨hin, fun A5 f5 => ⟨hin, fun A6 f6 => ⟨8 - (i + 1), by omega, ?_, i + 1, by omega, by omega, rfl⟩⟩⟩⟩⟩⟩⟩
  have q6 : ∀ a k, ¬ (a = 381 ∧ k = i) → ¬ (a = 382 ∨ (a = 383 ∧ k = i) ∨ (384 ≤ a ∧ a ≤ 386)) → gi A6 a k = gi M7 a k := fun a k w1 w2 => by rw [f6, gi_of (by omega), f5, gi_of (by omega), f4, gi_of (by omega), f3, gi_of (by omega), f2, gi_of (by omega), f1, gi_of (by omega)]
  have a381 : gi A6 381 i = ((0 : Nat) : Int) := by rw [f6, gi_of (by omega), f5, gi_of (by omega), f4, gi_of (by omega), f3, gi_of (by omega), f2, gi_of (by omega), f1, gi_at (inr_z (by omega) (by omega))]; rfl
  have a383 : gi A6 383 i = ((0 : Nat) : Int) := by rw [f6, gi_of (by omega), f5, gi_of (by omega), f4, gi_of (by omega), f3, gi_at (inr_z (by omega) (by omega))]; rfl
  obtain ⟨g1, g2, g3, g4, g5, g6⟩ := h7.1
  refine ⟨⟨g1.eq (fun a k z => q6 a k (by unfold cdc at z; omega) (by unfold cdc at z; omega)), (q6 _ _ (by omega) (by omega)).trans g2, g3.eq (fun a k z => q6 a k (by unfold cdc at z; omega) (by unfold cdc at z; omega)), fun l hl => ?_, fun l hl => ?_, g6.eq (fun a k z => q6 a k (by omega) (by omega))⟩, h7.2.trans (fun a k z => by unfold rnw at z; exact q6 a k (by omega) (by omega))⟩
  · by_cases hli : l = i
    · rw [hli]; exact ⟨0, a381, by omega, fun k hk => absurd hk (Nat.not_lt_zero _)⟩
    · obtain ⟨q, b1, b2, b3⟩ := g4 l hl
      exact ⟨q, (q6 _ _ (by omega) (by omega)).trans b1, b2, fun k hk => by rw [q6 380 _ (by omega) (by omega)]; exact b3 k hk⟩
  · by_cases hli : l = i
    · rw [hli]; exact ⟨0, a383, by omega⟩
    · obtain ⟨s, b1, b2⟩ := g5 l hl
      exact ⟨s, (q6 _ _ (by omega) (by omega)).trans b1, b2⟩
/-- what a replay may write -/
def rpw (a k : Nat) : Prop := (a = 353 ∧ (k = 42 ∨ k = 52 ∨ k = 55 ∨ k = 58 ∨ k = 60 ∨ k = 65)) ∨ a = 377 ∨ (a = 378 ∧ k = 1) ∨ (a = 379 ∧ 32 ≤ k) ∨ a = 390 ∨ a = 393 ∨ a = 394 ∨ a = 397
theorem rpw_rn {a k : Nat} (z : rpw a k) : rnw a k ∧ ¬ mIc a k := by
  unfold rpw at z
  unfold rnw mIc cdc
  omega
/-- within replays() -/
def rpq (c : Nat) (M M' : rf_M) : Prop := mQ c M M' ∧ gi M' 353 42 = 1 ∧ rlm M' c 1
theorem rpq.tr {M1 : rf_M} {P : Nat → Nat → Prop} (h : rpq c M M1) (hx : eqx P M1 M') (hP : ∀ a k, P a k → rpw a k ∧ ¬ (a = 353 ∧ k = 42) ∧ ¬ a = 378 ∧ ¬ a = 379) : rpq c M M' := ⟨h.1.tr hx (fun a k z => rpw_rn (hP a k z).1), (hx 353 42 (fun w => (hP _ _ w).2.1 ⟨rfl, rfl⟩)).trans h.2.1, h.2.2.eq (fun a k z => hx a k (fun w => by have := hP a k w; unfold rpw cdc at *; omega))⟩
theorem stw_rp {a k : Nat} (z : stw a k) : rpw a k ∧ ¬ (a = 353 ∧ k = 42) ∧ ¬ a = 378 ∧ ¬ a = 379 := by unfold stw at z; unfold rpw; omega
theorem vww_rp {a k : Nat} (z : vww a k) : rpw a k ∧ ¬ (a = 353 ∧ k = 42) ∧ ¬ a = 378 ∧ ¬ a = 379 := by unfold vww at z; unfold rpw; omega
theorem s_same165 {i : Nat} {v2 v4 : Int} {v5 : Int64} (hi : i < 300) (h2 : inr v2) (h4 : inr v4) (k0 : K 0 M) (k1 : K 1 M) : w_comesToSame_165 (i : Int) v2 v4 v5 M K := by
  have hin : 0 ≤ (i : Int) ∧ (i : Int) < 300 := ⟨by omega, by omega⟩
  have y1 : w_comesToSame_215 M K := ⟨Or.inr rfl, k1⟩
  have y0 : w_comesToSame_219 M K := ⟨Or.inl rfl, k0⟩
  exact ⟨hin, h2, fun _ => ⟨h4, fun _ => ⟨hin, fun _ => y1, fun _ => y0⟩, fun _ => ⟨hin, fun _ => ⟨hin, fun _ => y1, fun _ => y0⟩, fun _ => y0⟩⟩, fun _ => y0⟩
theorem s_comesToSame {i : Nat} (h : rpq c M0 M) (hi : (i : Int) < gi M 353 69) (kk : ∀ b M', (b = 0 ∨ b = 1) → rpq c M0 M' → K b M') : wm_comesToSame (i : Int) M K := by
  have hc := h.1.1.c12
  obtain ⟨r, a1, a2, a3⟩ := h.1.1.2.2.2.2.2
  have hi3 : i < 300 := by omega
  have hin : 0 ≤ (i : Int) ∧ (i : Int) < 300 := ⟨by omega, by omega⟩
  obtain ⟨x, x1, x2⟩ := a3 i (by omega)
  have ti : ((i : Nat) : Int).toNat = i := by omega
  show w_comesToSame (i : Int) M K
  unfold w_comesToSame
  rw [ti, x1]
  refine ⟨hin, fun z => ?_, fun z => ⟨hin, ?_⟩⟩
  · have hx : x < 16 := by rcases x2 with w | w <;> omega
    refine ⟨hin, hin, ⟨by omega, by omega⟩, fun M2 e2 => ?_⟩
    have y2 : gi M2 402 i = (x : Int) := by rw [e2]; exact x1
    rw [y2]
    exact ⟨hin, ⟨by omega, by omega⟩, ⟨by omega, by omega⟩, fun M3 e3 => kk 1 M3 (Or.inr rfl) (h.tr (P := fun a _ => a = 377) (by rw [e3, e2]; exact ((eqx.rfl' M).wl).wi rfl) (fun a k w => by unfold rpw; omega))⟩
  · have hx : x < c := by rcases x2 with w | w <;> omega
    intro M1 e1
    have h1 : rpq c M0 M1 := h.tr (P := stw) (by rw [e1]; exact (eqx.rfl' M).wi (Or.inl ⟨rfl, by omega⟩)) (fun a k w => stw_rp w)
    refine s_beginWalk h1.1.1.1 hx (fun M2 y2 k2 => ?_)
    have h2 : rpq c M0 M2 := h1.tr (y2.mono (fun a k w => (Or.inl ⟨w.1, by have := w.2; omega⟩ : stw a k))) (fun a k w => stw_rp w)
    refine ⟨fun m v1 v2 v3 M' => v1 = (i : Int) ∧ rpq c M0 M' ∧ 0 ≤ v3 ∧ v3 ≤ 4 ∧ ∃ j : Nat, v2 = (j : Int) ∧ j ≤ 300 ∧ m = 300 - j ∧ wkk M' c x j, ⟨300, rfl, h2, by omega, by omega, 0, rfl, by omega, rfl, k2⟩, ?_⟩
    rintro m v1 v2 v3 M3 ⟨rfl, h3, z1, z2, j, rfl, j1, j2, k3⟩
    have i3 : inr v3 := inr_z (by omega) (by omega)
    have ij : inr (j : Int) := inr_z (by omega) (by omega)
    -- behind the walk
    have out : w_comesToSame_85 (i : Int) (j : Int) v3 M3 K := by
      have f156 : ∀ (v2 : Int) (v5 : Int64) (MA : rf_M), inr v2 → rpq c M0 MA → w_comesToSame_156 (i : Int) v2 1 v5 MA K := fun v2 v5 MA iv hA => ⟨inr_z (by omega) (by omega), fun w => absurd w (by decide), fun _ => s_same165 hi3 iv (inr_z (by omega) (by omega)) (kk 0 MA (Or.inl rfl) hA) (kk 1 MA (Or.inr rfl) hA)⟩
      have f95 : ∀ s0 : Int, (v3 = 2 → s0 = 1) → (¬ v3 = 2 → s0 = 0) → w_comesToSame_95 (i : Int) (j : Int) v3 s0 M3 K := by
        intro s0 hs1 hs0
        refine ⟨i3, fun _ => f156 _ _ M3 (inr_z (by omega) (by omega)) h3, fun w0 => ⟨i3, fun w4 => ?_, fun w4 => ⟨i3, fun _ => kk 0 M3 (Or.inl rfl) h3, fun w3 => ⟨i3, fun _ => kk 0 M3 (Or.inl rfl) h3, fun w1 => ?_⟩⟩⟩⟩
        · obtain ⟨n, hh, hh1, hW, -⟩ := k3
          obtain ⟨a, a1', a2'⟩ := hW.2.2.2
          have hw3 : gi M3 353 42 = ((1 : Nat) : Int) := h3.2.1
          refine s_isWell (w := 1) (a := a) hc hw3 (by omega) h3.2.2 a1' (by omega) (fun j hj => hW.2.2.1 j (by omega)) (fun b M4 hb x4 => ?_)
          have h4 : rpq c M0 M4 := h3.tr x4 (fun a k w => vww_rp w)
          have q4 : ∀ a k, ¬ ((a = 353 ∧ (k = 52 ∨ k = 65)) ∨ a = 390) → gi M4 a k = gi M3 a k := fun a k w => x4 a k w
          refine ⟨by rcases hb with w | w <;> exact inr_z (by omega) (by omega), fun _ => f156 _ _ M4 ij h4, fun wb => ⟨i3, fun w => absurd w (by omega), fun _ => ⟨i3, fun w => absurd w (by omega), fun _ => ?_⟩⟩⟩
          have hs : s0 = 0 := hs0 (by omega)
          subst hs
          refine ⟨inr_z (by omega) (by omega), fun _ => ?_, fun w => absurd rfl w⟩
          have hb1 : gi M3 378 1 + (a : Int) ≤ 32 := by rcases hb with w | w <;> omega
          refine s_bringIn (w := 1) (a := a) (c := c) h4.2.1 (by omega) h4.2.2 ((q4 _ _ (by omega)).trans a1') (by rw [q4 378 1 (by omega)]; exact hb1) (fun j hj => by rw [q4 393 j (by omega)]; exact (hW.2.2.1 j (by omega)).eq (fun a k z => q4 a k (by unfold cdc at z; omega))) (fun M5 x5 r5 => ?_)
          have h5 : rpq c M0 M5 := ⟨h4.1.tr x5 (fun a k w => rpw_rn (by unfold biw at w; unfold rpw; omega)), (x5 353 42 (by unfold biw; omega)).trans h4.2.1, r5⟩
          exact s_same165 hi3 ij (inr_z (by omega) (by omega)) (kk 0 M5 (Or.inl rfl) h5) (kk 1 M5 (Or.inr rfl) h5)
        · have hs : s0 = 1 := hs1 (by omega)
          subst hs
          exact f156 _ _ M3 ij h3
      exact ⟨i3, fun w => f95 1 (fun _ => rfl) (fun w2 => absurd w w2), fun w => f95 0 (fun w2 => absurd w2 w) (fun _ => rfl)⟩
    refine ⟨i3, fun w => ⟨ij, fun _ => out, fun w2 => ?_⟩, fun _ => out⟩
    refine s_step h3.1.1.1 (Or.inr h3.2.1) k3 (by omega) (fun z M4 y1 y2 x4 k4 => ⟨300 - (j + 1), by omega, rfl, h3.tr x4 (fun a k w => stw_rp w), y1, y2, j + 1, by omega, by omega, rfl, k4⟩)
theorem s_replays (hm : mIn M c) (kk : ∀ z M', mQ c M M' → K z M') : wm_replays M K := by
  intro M1 e1
  have h1 := mQ0 hm
  rw [← e1] at h1
  clear e1
  refine ⟨fun m v1 M' => mQ c M M' ∧ ∃ j : Nat, v1 = (j : Int) ∧ j ≤ 16 ∧ m = 16 - j, ⟨16, h1, 0, rfl, by omega, rfl⟩, ?_⟩
  rintro m v1 M4 ⟨h4, j, rfl, j1, j2⟩
  refine ⟨inr_z (by omega) (by omega), fun _ => ⟨⟨by omega, by omega⟩, fun M5 e5 M6 e6 => ?_⟩, fun z => ⟨⟨by omega, by omega⟩, fun M5 e5 => ⟨⟨by omega, by omega⟩, fun M6 e6 => ⟨16 - (j + 1), by omega, h4.tr (P := fun a _ => a = 377) (by rw [e6, e5]; exact ((eqx.rfl' M4).wl).wi rfl) (fun a k w => by unfold rnw mIc cdc; omega), j + 1, by omega, by omega, rfl⟩⟩⟩⟩
  have h6 : rpq c M M6 := by
    refine ⟨h4.tr (P := rpw) (by rw [e6, e5]; exact ((eqx.rfl' M4).wi (by unfold rpw; omega)).wi (by unfold rpw; omega)) (fun a k w => rpw_rn w), ?_, 0, ?_, by omega, fun k hk => absurd hk (Nat.not_lt_zero _)⟩
    · rw [e6, gi_at (inr_z (by omega) (by omega))]
    · rw [e6, gi_of (by omega), e5, gi_at (inr_z (by omega) (by omega))]; rfl
  clear e5 e6 h4
  -- the end
  have e211 : ∀ (v : Int) (MA : rf_M), (v = 0 ∨ v = 1) → mQ c M MA → w_replays_211 v MA K := by
    intro v MA hv hA MB eB
    have hB : mQ c M MB := hA.tr (P := wlw) (by rw [eB]; exact (eqx.rfl' MA).wi (Or.inr ⟨rfl, rfl⟩)) (fun a k w => wlw_rn w)
    exact ⟨inr_z (by omega) (by omega), fun _ => kk _ MB hB, fun _ => kk _ MB hB⟩
  have e167 : ∀ (v : Int) (MA : rf_M), (v = 0 ∨ v = 1) → mQ c M MA → w_replays_167 v 0 MA K := by
    intro v MA hv hA
    obtain ⟨rc, r1, r2, -⟩ := hA.1.2.2.1
    refine ⟨fun m v1 v2 M' => (v1 = 0 ∨ v1 = 1) ∧ M' = MA ∧ ∃ j : Nat, v2 = (j : Int) ∧ j ≤ rc ∧ m = rc - j, ⟨rc, hv, rfl, 0, rfl, Nat.zero_le _, rfl⟩, ?_⟩
    rintro m v1 v2 MB ⟨hv1, rfl, j, rfl, j1, j2⟩
    have nx : ¬ gi MB 378 0 ≤ (j : Int) → ∀ s0 : Int, (s0 = 0 ∨ s0 = 1) → ∃ m', m' < m ∧ ((s0 = 0 ∨ s0 = 1) ∧ MB = MB ∧ ∃ j' : Nat, (j : Int) + 1 = (j' : Int) ∧ j' ≤ rc ∧ m' = rc - j') := fun z s0 h0 => ⟨rc - (j + 1), by omega, h0, rfl, j + 1, by omega, by omega, rfl⟩
    exact ⟨⟨by omega, by omega⟩, inr_z (by omega) (by omega), fun _ => e211 v1 MB hv1 hA, fun z => ⟨inr_z (by omega) (by omega), fun _ => e211 v1 MB hv1 hA, fun _ => ⟨⟨by omega, by omega⟩, ⟨by omega, by omega⟩, fun _ => nx z 1 (Or.inr rfl), fun _ => nx z 0 (Or.inl rfl)⟩⟩⟩
  have e140 : ∀ (v : Int) (MA : rf_M), (v = 0 ∨ v = 1) → mQ c M MA → w_replays_140 v MA K := fun v MA hv hA => ⟨inr_z (by omega) (by omega), fun _ => e167 0 MA (Or.inl rfl) hA, fun _ => ⟨⟨by omega, by omega⟩, ⟨by omega, by omega⟩, fun _ => e167 1 MA (Or.inr rfl) hA, fun _ => e167 0 MA (Or.inl rfl) hA⟩⟩
  have e81 : ∀ (v : Int) (MA : rf_M), (v = 0 ∨ v = 1) → mQ c M MA → w_replays_79 v MA K := by
    intro v MA hv hA
    refine ⟨fun m v1 v2 M' => (v1 = 0 ∨ v1 = 1) ∧ M' = MA ∧ ∃ j : Nat, v2 = (j : Int) ∧ j ≤ 16 ∧ m = 16 - j, ⟨16, hv, rfl, 0, rfl, Nat.zero_le _, rfl⟩, ?_⟩
    rintro m v1 v2 MB ⟨hv1, rfl, j, rfl, j1, j2⟩
    have nx : ¬ 16 ≤ (j : Int) → ∀ s0 : Int, (s0 = 0 ∨ s0 = 1) → ∃ m', m' < m ∧ ((s0 = 0 ∨ s0 = 1) ∧ MB = MB ∧ ∃ j' : Nat, (j : Int) + 1 = (j' : Int) ∧ j' ≤ 16 ∧ m' = 16 - j') := fun z s0 h0 => ⟨16 - (j + 1), by omega, h0, rfl, j + 1, by omega, by omega, rfl⟩
    exact ⟨inr_z (by omega) (by omega), fun _ => e140 v1 MB hv1 hA, fun z => ⟨inr_z (by omega) (by omega), fun _ => e140 v1 MB hv1 hA, fun _ => ⟨⟨by omega, by omega⟩, ⟨by omega, by omega⟩, fun _ => ⟨⟨by omega, by omega⟩, ⟨by omega, by omega⟩, fun _ => nx z 1 (Or.inr rfl), fun _ => nx z 0 (Or.inl rfl)⟩, fun _ => nx z 0 (Or.inl rfl)⟩⟩⟩
  refine ⟨fun m v1 v2 M' => (v1 = 0 ∨ v1 = 1) ∧ rpq c M M' ∧ ∃ j : Nat, v2 = (j : Int) ∧ j ≤ 300 ∧ m = 300 - j, ⟨300, Or.inr rfl, h6, 0, rfl, Nat.zero_le _, rfl⟩, ?_⟩
  rintro m v1 v2 M7 ⟨hv1, h7, i, rfl, i1, i2⟩
  obtain ⟨r, a1, a2, -⟩ := h7.1.1.2.2.2.2.2
  refine ⟨inr_z (by omega) (by omega), fun _ => e81 v1 M7 hv1 h7.1, fun z => ⟨inr_z (by omega) (by omega), fun _ => e81 v1 M7 hv1 h7.1, fun _ => ?_⟩⟩
  exact s_comesToSame h7 (by omega) (fun b M8 hb h8 => ⟨300 - (i + 1), by omega, hb, h8, i + 1, by omega, by omega, rfl⟩)
end WF
/-! THE REFERENCE'S feed -/
