def okO (M : rf_M) (r d : Nat) : Prop := ∀ k, k ≤ d → (gi M 373 k < 0 ∨ 40 * (r : Int) ≤ gi M 373 k) ∧ (gi M 375 k < 0 ∨ 40 * (r : Int) ≤ gi M 375 k)
def sF (T : tK) (r : Nat) (M0 M : rf_M) (s : Nat) : Prop := ∃ i c u d : Nat, sA T r M0 M i s c u ∧ u ≤ 60 ∧ gi M 353 37 = (d : Int) ∧ d ≤ 8 ∧ okO M r d
section WFR
variable {M M' M0 : rf_M} {T : tK} {r i s c u : Nat} {P : Nat → Nat → Prop} {K : rf_M → Prop}
theorem sF.fr (h : sF T r M0 M s) (e : eqy P M M') (q1 : ∀ a k, P a k → teW r a k) (q2 : ∀ a k, (a = 353 ∧ (k = 2 ∨ (3 ≤ k ∧ k ≤ 9) ∨ k = 28 ∨ k = 37)) ∨ a = 354 ∨ ((a = 355 ∨ a = 356 ∨ a = 359) ∧ k = r) ∨ a = 373 ∨ a = 375 → ¬ P a k) : sF T r M0 M' s := by
  obtain ⟨i, c, u, d, hA, hu, h37, hd, ho⟩ := h
  exact ⟨i, c, u, d, hA.eq e q1 (fun a k z => q2 a k (by omega)), hu, (e.i (q2 _ _ (by omega))).trans h37, hd, fun k hk => by rw [e.i (q2 373 k (by omega)), e.i (q2 375 k (by omega))]; exact ho k hk⟩
theorem F_next (h : sF T r M0 M s) (kk : ∀ M', sF T r M0 M' s → K M') : em_W_next M K := by
  obtain ⟨i, c, u, d, hA, hu, h37, hd, ho⟩ := h
  exact y_next0 hA.1.1.1.1 (fun M' y m => kk M' ⟨_, c, u, d, hA.nx y m, hu, (y.i (by unfold nxw; omega)).trans h37, hd, fun k hk => by rw [y.i (a := 373) (by unfold nxw; omega), y.i (a := 375) (by unfold nxw; omega)]; exact ho k hk⟩)
theorem F_mis (h : sF T r M0 M s) (kb : ∀ M', sfl r M0 M' → K M') : em_W_misplaced M K := by
  obtain ⟨i, c, u, d, hA, -⟩ := h
  exact y_mis (fun M' y q => kb M' (hA.fl y q))
theorem F_take {ch : Int} (h : sF T r M0 M s) (hc : 20 ≤ ch) (kb : ∀ M', sfl r M0 M' → K M') (kk : ∀ M', sF T r M0 M' s → K M') : em_W_take ch M K := by
  have h' := h
  obtain ⟨i, c, u, d, hA, -⟩ := h'
  show e_W_take ch M K
  unfold e_W_take
  exact y_isSign hA.1.1.1 hc (fun _ => ⟨fun w => absurd w (by decide), fun _ => ⟨fun _ => F_next h kk, fun w => absurd hA.1.2.2.2 w⟩⟩) (fun _ => ⟨fun _ => F_mis h (fun M' q => ⟨fun w => absurd w q.2, fun _ => kb M' q⟩), fun w => absurd rfl w⟩)
theorem F_takeWord {w : Int} (h : sF T r M0 M s) (hw : 0 ≤ w ∧ w ≤ 9) (kb : ∀ M', sfl r M0 M' → K M') (kk : ∀ M', sF T r M0 M' s → K M') : em_W_takeWord w M K := by
  have h' := h
  obtain ⟨i, c, u, d, hA, -⟩ := h'
  show e_W_takeWord w M K
  unfold e_W_takeWord
  exact ⟨inr_z (by omega) (by omega), fun _ => ⟨fun _ => F_next h kk, fun q => absurd hA.1.2.2.2 q⟩, fun _ => F_mis h (fun M' q => ⟨fun w => absurd w q.2, fun _ => kb M' q⟩)⟩
theorem F_open {v q : Int} (h : sF T r M0 M s) (hv : 40 * (r : Int) ≤ v) (iv : inr v) (hq : q = 0 ∨ q = 1) (kb : ∀ M', sfl r M0 M' → K M') (kk : ∀ M', sF T r M0 M' s → K M') : em_W_openBody v q M K := by
  have h' := h
  obtain ⟨i, c, u, d, hA, hu, h37, hd, ho⟩ := h'
  obtain ⟨⟨a1, ⟨a2, a2'⟩, a3, a4⟩, -⟩ := id hA
  have bad : e_W_openBody_18 M K := F_mis h kb
  show e_W_openBody v q M K
  unfold e_W_openBody
  refine y_isSign a1.1 (by omega) (fun _ => ⟨fun w => absurd w (by decide), fun _ => ⟨fun _ => bad, fun n8 M2 e2 _ => ?_⟩⟩) (fun _ => ⟨fun _ => bad, fun w => absurd rfl w⟩)
  have d8 : d < 8 := by omega
  have y2 : eqy (opW r d) M M2 := by rw [e2]; exact (eqy.rfl' M).wi (Or.inl ⟨rfl, rfl⟩)
  have g28 : (gi M2 353 28).toNat = r := by rw [y2.i (by unfold opW; omega), a2]; omega
  have g37 : gi M2 353 37 = (d : Int) + 1 := by rw [e2, gi_at (inr_z (by omega) (by omega)), h37]
  have h73 : ∀ z, e_W_openBody_73 v q (gi M2 353 28) z M2 K := by
    intro z _ M3 e3
    rw [g28] at e3
    have k3 : (gi M3 353 37).toNat = d + 1 := by rw [e3, gi_of (Or.inl (by omega)), g37]; omega
    rw [k3]
    intro _ M4 e4
    have k4 : (gi M4 353 37).toNat = d + 1 := by rw [e4, gi_of (Or.inl (by omega))]; exact k3
    rw [k4]
    intro _ M5 e5
    have k5 : (gi M5 353 37).toNat = d + 1 := by rw [e5, gi_of (Or.inl (by omega))]; exact k4
    rw [k5]
    intro _ M6 e6
    have y6 : eqy (opW r d) M M6 := by
      rw [e6, e5, e4, e3]
      exact (((y2.wi (Or.inr (Or.inl ⟨rfl, rfl⟩))).wi (Or.inr (Or.inr ⟨by omega, rfl⟩))).wi (Or.inr (Or.inr ⟨by omega, rfl⟩))).wi (Or.inr (Or.inr ⟨by omega, rfl⟩))
    refine F_next (s := s) ⟨i, c, u, d + 1, hA.eq y6 (fun a k z => by unfold opW at z; unfold teW; omega) (fun a k z => by unfold opW; omega), hu, ?_, d8, fun k hk => ?_⟩ kk
    · rw [e6, gi_of (Or.inl (by omega)), e5, gi_of (Or.inl (by omega)), e4, gi_of (Or.inl (by omega)), e3, gi_of (Or.inl (by omega)), g37]; omega
    · by_cases ek : k = d + 1
      · have j1 : gi M6 373 k = v := by rw [ek, e6, gi_of (Or.inl (by omega)), e5, gi_of (Or.inl (by omega)), e4, gi_at iv]
        have j2 : gi M6 375 k = -1 := by rw [ek, e6, gi_at (inr_z (by omega) (by omega))]
        rw [j1, j2]
        exact ⟨Or.inr hv, Or.inl (by omega)⟩
      · rw [y6.i (a := 373) (by unfold opW; omega), y6.i (a := 375) (by unfold opW; omega)]
        exact ho k (by omega)
  exact ⟨fun _ _ => h73 _, fun _ => h73 _⟩
theorem F_new {K : Int → rf_M → Prop} (hs : s < 40) (h : sF T r M0 M s) (kk : ∀ M', sF T r M0 M' (s + 1) → K (40 * (r : Int) + (s : Int)) M') : em_W_newStatement M K := by
  obtain ⟨i, c, u, d, hA, hu, h37, hd, ho⟩ := h
  obtain ⟨⟨a1, ⟨a2, a2'⟩, a3, a4⟩, b1, b2, b3, b4⟩ := id hA
  have e0 : (gi M 353 28).toNat = r := by rw [a2]; omega
  have en' : (40 * (r : Int) + (s : Int)).toNat = 40 * r + s := by omega
  have iS : inr (40 * (r : Int) + (s : Int)) := inr_z (by omega) (by omega)
  show e_W_newStatement M K
  unfold e_W_newStatement
  rw [e0, a2, b1, en']
  intro _ _ _ M1 e1
  refine ⟨iS, fun hb M2 e2 _ _ M3 e3 _ _ M4 e4 _ M5 e5 _ M6 e6 _ M7 e7 _ M8 e8 _ _ => ?_⟩
  have y1 : eqy (nw8 r s) M M1 := by rw [e1]; exact (eqy.rfl' M).wi (Or.inl ⟨rfl, rfl⟩)
  have y2 : eqy (nw8 r s) M M2 := by rw [e2]; exact y1.wi (Or.inr ⟨by omega, rfl⟩)
  have y3 : eqy (nw8 r s) M M3 := by rw [e3]; exact y2.wi (Or.inr ⟨by omega, rfl⟩)
  have y4 : eqy (nw8 r s) M M4 := by rw [e4]; exact y3.wi (Or.inr ⟨by omega, rfl⟩)
  have y5 : eqy (nw8 r s) M M5 := by rw [e5]; exact y4.wi (Or.inr ⟨by omega, rfl⟩)
  have y6 : eqy (nw8 r s) M M6 := by rw [e6]; exact y5.wi (Or.inr ⟨by omega, rfl⟩)
  have y7 : eqy (nw8 r s) M M7 := by rw [e7]; exact y6.wi (Or.inr ⟨by omega, rfl⟩)
  have y8 : eqy (nw8 r s) M M8 := by rw [e8]; exact y7.wi (Or.inr ⟨by omega, rfl⟩)
  have f0 : gi M8 355 r = (s : Int) + 1 := by rw [e8, gi_of (Or.inl (by omega)), e7, gi_of (Or.inl (by omega)), e6, gi_of (Or.inl (by omega)), e5, gi_of (Or.inl (by omega)), e4, gi_of (Or.inl (by omega)), e3, gi_of (Or.inl (by omega)), e2, gi_of (Or.inl (by omega)), e1, gi_at (inr_z (by omega) (by omega))]
  have g37 : (gi M8 353 37).toNat = d := by rw [y8.i (by unfold nw8; omega), h37]; omega
  have e28 : (gi M8 353 28).toNat = r := by rw [y8.i (by unfold nw8; omega)]; exact e0
  have o8 : ∀ k, k ≤ d → (gi M8 373 k < 0 ∨ 40 * (r : Int) ≤ gi M8 373 k) ∧ (gi M8 375 k < 0 ∨ 40 * (r : Int) ≤ gi M8 375 k) := fun k hk => by
    rw [y8.i (a := 373) (by unfold nw8; omega), y8.i (a := 375) (by unfold nw8; omega)]
    exact ho k hk
  have o8d := o8 d (Nat.le_refl _)
  have fin : ∀ M9, eqy (fun a k => (a = 358 ∧ k = r) ∨ ((a = 361 ∨ a = 365 ∨ a = 366) ∧ 40 * r ≤ k)) M8 M9 → e_W_newStatement_176 (40 * (r : Int) + (s : Int)) M9 K := by
    intro M9 y9 _ M' e'
    have q37 : (gi M9 353 37).toNat = d := by rw [y9.i (by omega)]; exact g37
    rw [q37] at e'
    have y' : eqy (fun a k => a = 375 ∧ k = d) M9 M' := by rw [e']; exact (eqy.rfl' _).wi ⟨rfl, rfl⟩
    have yy : eqy (nwW r d) M M' := ((y8.mono (fun a k z => by unfold nw8 at z; unfold nwW; omega)).trans (y9.mono (fun a k z => by unfold nwW; omega))).trans (y'.mono (fun a k z => by unfold nwW; omega))
    refine kk M' ⟨i, c, u, d, ⟨⟨a1.eq yy (fun a k z => by unfold nwW; omega), ⟨(yy.i (by unfold nwW; omega)).trans a2, a2'⟩, a3.trans (yy.mono (fun a k z => by unfold nwW at z; unfold teW; omega)), (yy.i (by unfold nwW; omega)).trans a4⟩, ?_, (yy.i (by unfold nwW; omega)).trans b2, (yy.i (by unfold nwW; omega)).trans b3, b4⟩, hu, (yy.i (by unfold nwW; omega)).trans h37, hd, fun k hk => ?_⟩
    · rw [y'.i (by omega), y9.i (by omega), f0]; omega
    · by_cases ek : k = d
      · have j1 : gi M' 375 k = 40 * (r : Int) + (s : Int) := by rw [ek, e', gi_at iS]
        rw [j1, y'.i (a := 373) (by omega), y9.i (a := 373) (by omega)]
        exact ⟨(o8 k hk).1, Or.inr (by omega)⟩
      · rw [y'.i (a := 373) (by omega), y9.i (a := 373) (by omega), y'.i (a := 375) (by omega), y9.i (a := 375) (by omega)]
        exact o8 k hk
  rw [g37, e28]
  refine ⟨fun _ => ⟨fun w0 _ => ⟨fun _ _ M10 e10 => fin M10 ?_, fun _ _ M10 e10 => fin M10 ?_⟩, fun _ _ M10 e10 => fin M10 ?_⟩, fun w0 _ M10 e10 => fin M10 ?_⟩
  · rw [e10]; exact (eqy.rfl' _).wi (Or.inr ⟨by omega, by omega⟩)
  · rw [e10]; exact (eqy.rfl' _).wi (Or.inr ⟨by omega, by omega⟩)
  · rw [e10]; exact (eqy.rfl' _).wi (Or.inl ⟨rfl, rfl⟩)
  · rw [e10]; exact (eqy.rfl' _).wi (Or.inr ⟨by omega, by omega⟩)
theorem F_exp {v z : Int} (hv : v = 0 ∨ v = 1) (h : sF T r M0 M s) (hz : 40 * (r : Int) ≤ z) (kb : ∀ M', sfl r M0 M' → K M') (kk : ∀ M', sF T r M0 M' s → K M') : em_W_exp v M (fun (z1 : Int) (M1 : rf_M) => (0 ≤ z ∧ z < 480 → (∀ M2 : rf_M, M2 = wi M1 364 (z).toNat z1 → K M2))) := by
  obtain ⟨i, c, u, d, hA, hu, h37, hd, ho⟩ := h
  obtain ⟨⟨a1, ⟨a2, a2'⟩, a3, a4⟩, b1, b2, b3, b4⟩ := id hA
  obtain ⟨ir, hir⟩ : ∃ ir : Bool, v = 0 ↔ ir = false := by
    rcases hv with rfl | rfl
    · exact ⟨false, by simp⟩
    · exact ⟨true, by simp⟩
  refine y_exp (r := r) (c0 := c) (u0 := u) hir a1 a2 a2' a4 b2 hu b3 b4 (fun M1 hx1 _ M2 e2 => ?_)
  have y2 : eqy (fun a k => a = 364 ∧ k = z.toNat) M1 M2 := by rw [e2]; exact (eqy.rfl' _).wi ⟨rfl, rfl⟩
  rcases hx1 with f | ⟨f1, f2, f3, i', u', π, cs, o, cd, -, -, m, q56, qu, ⟨q59, qc⟩, -⟩
  · refine kb M2 ⟨(a3.trans (f.1.mono (fun a k z => by unfold exW at z; unfold teW; omega))).trans (y2.mono (fun a k z => by unfold teW; omega)), ?_⟩
    rw [y2.i (by omega)]
    exact f.2.2.1
  · have g : ∀ b k, ¬ exW r c b k → ¬ (b = 364 ∧ k = z.toNat) → gi M2 b k = gi M b k := fun b k z1 z2 => (y2.i z2).trans (f1.i z1)
    refine kk M2 ⟨i', c + cd.length + 1, u', d, ⟨⟨m.eq y2 (fun a k z => by omega), ⟨(y2.i (by omega)).trans f2.1, a2'⟩, (a3.trans (f1.mono (fun a k z => by unfold exW at z; unfold teW; omega))).trans (y2.mono (fun a k z => by unfold teW; omega)), (y2.i (by omega)).trans f3⟩, (g _ _ (by unfold exW; omega) (by omega)).trans b1, (y2.i (by omega)).trans q56, (y2.i (by omega)).trans q59, qc⟩, qu, (g _ _ (by unfold exW; omega) (by omega)).trans h37, hd, fun k hk => ?_⟩
    rw [g 373 k (by unfold exW; omega) (by omega), g 375 k (by unfold exW; omega) (by omega)]
    exact ho k hk
theorem F_rs (hs : s ≤ 40) (h : sF T r M0 M s) (kb : ∀ M', sfl r M0 M' → K M') (kk : ∀ M' s', s' ≤ 40 → sF T r M0 M' s' → K M') : em_W_readStatement M K := by
  have h' := h
  obtain ⟨i, c, u, d, hA, -⟩ := h'
  obtain ⟨⟨a1, ⟨a2, a2'⟩, a3, a4⟩, b1, b2, b3, b4⟩ := id hA
  have bad : e_W_readStatement_76 M K := F_mis h kb
  have e0 : (gi M 353 28).toNat = r := by rw [a2]; omega
  have h57 : ∀ v1, inr v1 → e_W_readStatement_57 v1 1 M K := by
    intro v1 iv1
    refine ⟨fun w => absurd w (by decide), fun _ _ => ?_⟩
    rw [e0, b1]
    refine ⟨fun _ => bad, fun n40 => F_new (by omega) h (fun M1 h1 => ?_)⟩
    have iz : inr (40 * (r : Int) + (s : Int)) := inr_z (by omega) (by omega)
    have k256 : ∀ N, sF T r M0 N (s + 1) → e_W_readStatement_256 (40 * (r : Int) + (s : Int)) N K := by
      intro N hN
      obtain ⟨_, _, _, _, hAN, -⟩ := id hN
      have o304 : e_W_readStatement_304 (40 * (r : Int) + (s : Int)) N K := F_open hN (by omega) iz (Or.inl rfl) kb (fun M' q => kk M' (s + 1) (by omega) q)
      exact ⟨fun _ _ => ⟨fun _ => o304, fun _ _ => ⟨fun _ => o304, fun _ _ => ⟨fun _ => o304, fun _ _ => ⟨fun _ => o304, fun _ => F_take hN (by omega) kb (fun M' q => kk M' (s + 1) (by omega) q)⟩⟩⟩⟩, fun w => absurd hAN.1.2.2.2 w⟩
    have k256f : ∀ N, sfl r M0 N → e_W_readStatement_256 (40 * (r : Int) + (s : Int)) N K := fun N hN => ⟨fun w => absurd w hN.2, fun _ => kb N hN⟩
    have k231 : ∀ N, sF T r M0 N (s + 1) → e_W_readStatement_231 (40 * (r : Int) + (s : Int)) N K := by
      intro N hN
      have k250 : e_W_readStatement_250 (40 * (r : Int) + (s : Int)) N K := F_take hN (by omega) k256f k256
      exact fun _ => ⟨fun _ => k250, fun _ _ => ⟨fun _ => k250, fun _ => k256 N hN⟩⟩
    have k231f : ∀ N, sfl r M0 N → e_W_readStatement_231 (40 * (r : Int) + (s : Int)) N K := fun N hN => f231 hN.2 (kb N hN)
    have k167 : ∀ N, sF T r M0 N (s + 1) → e_W_readStatement_167 (40 * (r : Int) + (s : Int)) N K := by
      intro N hN
      obtain ⟨_, _, _, _, hAN, -⟩ := id hN
      refine ⟨fun _ _ => ⟨fun _ => k231 N hN, fun _ _ => ⟨fun _ => k231 N hN, fun _ _ => ⟨fun _ => k231 N hN, fun _ _ => ⟨fun _ => ?_, fun _ => ?_⟩⟩⟩⟩, fun w => absurd hAN.1.2.2.2 w⟩
      · exact F_exp (K := fun N => e_W_readStatement_231 (40 * (r : Int) + (s : Int)) N K) (Or.inr rfl) hN (by omega) k231f k231
      · exact F_exp (K := fun N => e_W_readStatement_231 (40 * (r : Int) + (s : Int)) N K) (Or.inl rfl) hN (by omega) k231f k231
    have k167f : ∀ N, sfl r M0 N → e_W_readStatement_167 (40 * (r : Int) + (s : Int)) N K := fun N hN => ⟨fun w => absurd w hN.2, fun _ => k231f N hN⟩
    have k127 : ∀ N zl, sF T r M0 N (s + 1) → e_W_readStatement_127 v1 (40 * (r : Int) + (s : Int)) (40 * (r : Int) + (s : Int)) zl N K := by
      intro N zl hN _ N2 e2
      have hN2 := hN.fr (P := fun a k => a = 367 ∧ k = (40 * (r : Int) + (s : Int)).toNat) (M' := N2) (by rw [e2]; exact (eqy.rfl' _).wi ⟨rfl, rfl⟩) (fun a k z => by unfold teW; omega) (fun a k z => by omega)
      refine F_next hN2 (fun N3 h3 _ => ⟨fun _ => F_take h3 (by omega) k167f k167, fun _ => ⟨fun _ => F_take h3 (by omega) k167f k167, fun _ => ⟨fun _ => F_take h3 (by omega) k167f k167, fun _ => k167 N3 h3⟩⟩⟩)
    have k105 : ∀ zz, e_W_readStatement_105 v1 (40 * (r : Int) + (s : Int)) (40 * (r : Int) + (s : Int)) zz M1 K := by
      intro zz _ N2 e2
      have hN2 := h1.fr (P := fun a k => a = 360 ∧ k = (40 * (r : Int) + (s : Int)).toNat) (M' := N2) (by rw [e2]; exact (eqy.rfl' _).wi ⟨rfl, rfl⟩) (fun a k z => by unfold teW; omega) (fun a k z => by omega)
      exact ⟨fun _ => k127 N2 _ hN2, fun _ => k127 N2 _ hN2⟩
    exact ⟨fun _ => k105 _, fun _ => k105 _⟩
  have tk := a1.1.2.2
  have hk := tkm_iff tk.2.2.2
  have h4 : 0 ≤ gi M 353 4 ∧ gi M 353 4 ≤ 125 := by
    rw [tk.1]
    have := hk.2.2.2.2.2
    unfold tkm
    split
    · omega
    split
    · omega
    split
    · omega
    split
    · omega
    split
    · omega
    · omega
  have hi : inr (gi M 353 4 - 10) := inr_z (by omega) (by omega)
  have g := h57 _ hi
  exact ⟨fun _ => ⟨hi, g⟩, fun q1 => ⟨hi, ⟨fun _ => g, fun q2 => ⟨fun _ => g, fun q3 => ⟨fun _ => g, fun q4 => ⟨fun _ => g, fun q5 => ⟨fun _ => g, fun q6 => ⟨fun _ => g, fun q7 => ⟨fun _ => g, fun q8 => ⟨fun _ => bad, fun w => absurd rfl w⟩⟩⟩⟩⟩⟩⟩⟩⟩⟩
theorem F_close (h : sF T r M0 M s) (hp : 1 ≤ gi M 353 37) (kb : ∀ M', sfl r M0 M' → K M') (kk : ∀ M', sF T r M0 M' s → K M') : em_W_closeBody M K := by
  obtain ⟨i, c, u, d, hA, hu, h37, hd, ho⟩ := h
  obtain ⟨⟨a1, ⟨a2, a2'⟩, a3, a4⟩, b1, b2, b3, b4⟩ := id hA
  have e37 : (gi M 353 37).toNat = d := by rw [h37]; omega
  have od := (ho d (Nat.le_refl _)).1
  show e_W_closeBody M K
  unfold e_W_closeBody
  rw [e37]
  intro _ _ M1 e1
  have y1 : eqy (fun a k => a = 353 ∧ k = 37) M M1 := by rw [e1]; exact (eqy.rfl' _).wi ⟨rfl, rfl⟩
  have h1 : sF T r M0 M1 s := ⟨i, c, u, d - 1, hA.eq y1 (fun a k z => by unfold teW; omega) (fun a k z => by omega), hu, by rw [e1, gi_at (inr_z (by omega) (by omega)), h37]; omega, by omega, fun k hk => by rw [y1.i (a := 373) (by omega), y1.i (a := 375) (by omega)]; exact ho k (by omega)⟩
  refine F_next h1 (fun M2 h2 => ⟨fun _ => kk M2 h2, fun _ hb => ?_⟩)
  have hv : 40 * (r : Int) ≤ gi M 373 d := by omega
  have iv : inr (gi M 373 d) := inr_gi _ _ _
  have k154 : ∀ N, sF T r M0 N s → e_W_closeBody_154 (gi M 373 d) N K := by
    intro N hN
    obtain ⟨_, _, _, _, hAN, -⟩ := id hN
    exact ⟨fun _ => F_open hN hv iv (Or.inr rfl) kb kk, fun w => absurd hAN.1.2.2.2 w⟩
  have k154f : ∀ N, sfl r M0 N → e_W_closeBody_154 (gi M 373 d) N K := fun N hN => ⟨fun w => absurd w hN.2, fun _ => kb N hN⟩
  have k97 : ∀ w, 0 ≤ w ∧ w ≤ 9 → e_W_closeBody_97 (gi M 373 d) w M2 K := by
    intro w hw
    refine F_takeWord h2 hw (fun N hN _ => ⟨fun _ => ⟨fun z => absurd z hN.2, fun _ => k154f N hN⟩, fun _ => k154f N hN⟩) (fun N hN _ => ⟨fun _ => ?_, fun _ => k154 N hN⟩)
    obtain ⟨_, _, _, _, hAN, -⟩ := id hN
    have bad : e_W_closeBody_135 N K := F_mis hN kb
    refine ⟨fun _ => ⟨fun _ => ⟨fun _ _ N2 e2 => ?_, fun _ => bad⟩, fun _ => bad⟩, fun z => absurd hAN.1.2.2.2 z⟩
    have hN2 := hN.fr (P := fun a k => a = 367 ∧ k = (gi M 373 d).toNat) (M' := N2) (by rw [e2]; exact (eqy.rfl' _).wi ⟨rfl, rfl⟩) (fun a k z => by unfold teW; omega) (fun a k z => by omega)
    exact F_next hN2 (fun N3 h3 => k154 N3 h3)
  exact ⟨fun _ => kk M2 h2, fun _ _ => ⟨fun _ => ⟨fun _ => F_next h2 (fun M3 h3 => F_open h3 hv iv (Or.inr rfl) kb kk), fun _ => kk M2 h2⟩, fun _ _ => ⟨fun _ => k97 6 (by omega), fun _ => k97 8 (by omega)⟩⟩⟩
theorem F_loop (h : sfl r M0 M ∨ ∃ s, s ≤ 40 ∧ sF T r M0 M s) (kk : ∀ M', eqy (teW r) M0 M' → K M') : e_W_readText_40 M K := by
  refine ⟨fun M => sfl r M0 M ∨ ∃ s, s ≤ 40 ∧ sF T r M0 M s, h, ?_⟩
  rintro M (h | ⟨s, hs, h⟩)
  · exact ⟨fun w => absurd w h.2, fun _ => kk M h.1⟩
  · obtain ⟨i, c, u, d, hA, hu, h37, hd, ho⟩ := id h
    have h84 : e_W_readText_84 M (fun M => sfl r M0 M ∨ ∃ s, s ≤ 40 ∧ sF T r M0 M s) K := F_mis h (fun M' q => Or.inl q)
    have h91 : (κT T i = 125 → ¬ gi M 353 37 = 0) → e_W_readText_91 M (fun M => sfl r M0 M ∨ ∃ s, s ≤ 40 ∧ sF T r M0 M s) K := by
      intro hn
      unfold e_W_readText_91
      refine y_isSign hA.1.1.1 (by omega) (fun w => ⟨fun z => absurd z (by decide), fun _ => ?_⟩) (fun w => ⟨fun _ => ?_, fun z => absurd rfl z⟩)
      · have := hn w
        exact F_close h (by omega) (fun M' q => Or.inl q) (fun M' q => Or.inr ⟨s, hs, q⟩)
      · exact F_rs hs h (fun M' q => Or.inl q) (fun M' s' hs' q => Or.inr ⟨s', hs', q⟩)
    have h61 : e_W_readText_61 M (fun M => sfl r M0 M ∨ ∃ s, s ≤ 40 ∧ sF T r M0 M s) K := by
      refine ⟨fun _ => h84, fun _ => ?_⟩
      exact y_isSign hA.1.1.1 (by omega) (fun w => ⟨fun z => absurd z (by decide), fun _ => ⟨fun _ => h84, fun z => h91 (fun _ => z)⟩⟩) (fun w => ⟨fun _ => h91 (fun z => absurd z w), fun z => absurd rfl z⟩)
    exact ⟨fun _ => ⟨fun w4 => ⟨fun w37 => kk M hA.1.2.2.1, fun _ => h61⟩, fun _ => h61⟩, fun w => absurd hA.1.2.2.2 w⟩
end WFR
/-! THE REFERENCE'S text() -/
