/-! THE REFERENCE'S text() -/
def txW (r a k : Nat) : Prop := teW r a k ∨ (a = 353 ∧ (k = 0 ∨ k = 2 ∨ k = 11 ∨ k = 28))
section WTX
variable {M M' N : rf_M} {T : tK} {r n : Nat} {X : txT} {en : Int} {S C : Nat} {b : Nat → Int32}
theorem y_rt0 {K : rf_M → Prop} (h28 : gi N 353 28 = (r : Int)) (hnx : nxk N T 0) (kk : ∀ M6, eqy (fun a k => (a = 353 ∧ k = 37) ∨ ((373 ≤ a ∧ a ≤ 375) ∧ k = 0) ∨ (a = 358 ∧ k = r) ∨ nxw a k) N M6 → mtv M6 T 0 → gi M6 353 37 = 0 → gi M6 373 0 = -1 → gi M6 374 0 = 0 → gi M6 375 0 = -1 → gi M6 358 r = -1 → e_W_readText_40 M6 K) : em_W_readText N K := by
  show e_W_readText N K
  intro M1 e1 _ M2 e2 _ M3 e3 _ M4 e4 _ M5 e5
  have g4 : (gi M4 353 28).toNat = r := by rw [e4, gi_of (Or.inl (by omega)), e3, gi_of (Or.inl (by omega)), e2, gi_of (Or.inl (by omega)), e1, gi_of (Or.inr (by omega)), h28]; omega
  rw [g4] at e5
  have i1 : inr (-1) := inr_z (by omega) (by omega)
  have i0 : inr 0 := inr_z (by omega) (by omega)
  have y5 : eqy (fun a k => (a = 353 ∧ k = 37) ∨ ((373 ≤ a ∧ a ≤ 375) ∧ k = 0) ∨ (a = 358 ∧ k = r) ∨ nxw a k) N M5 := by
    rw [e5, e4, e3, e2, e1]
    exact (((((eqy.rfl' N).wi (Or.inl ⟨rfl, rfl⟩)).wi (Or.inr (Or.inl ⟨by omega, rfl⟩))).wi (Or.inr (Or.inl ⟨by omega, rfl⟩))).wi (Or.inr (Or.inl ⟨by omega, rfl⟩))).wi (Or.inr (Or.inr (Or.inl ⟨rfl, rfl⟩)))
  have q : ∀ a k, (a = 353 ∧ (k = 2 ∨ (3 ≤ k ∧ k ≤ 8))) ∨ a = 354 → gi M5 a k = gi N a k := fun a k z => by
    rw [e5, gi_of (by omega), e4, gi_of (by omega), e3, gi_of (by omega), e2, gi_of (by omega), e1, gi_of (by omega)]
  refine y_next0 (hnx.eq q) (fun M6 y6 m6 => kk M6 (y5.trans (y6.mono (fun a k z => Or.inr (Or.inr (Or.inr z))))) m6 ?_ ?_ ?_ ?_ ?_)
  · rw [y6.i (by unfold nxw; omega), e5, gi_of (by omega), e4, gi_of (by omega), e3, gi_of (by omega), e2, gi_of (by omega), e1, gi_at i0]
  · rw [y6.i (by unfold nxw; omega), e5, gi_of (by omega), e4, gi_of (by omega), e3, gi_of (by omega), e2, gi_at i1]
  · rw [y6.i (by unfold nxw; omega), e5, gi_of (by omega), e4, gi_of (by omega), e3, gi_at i0]
  · rw [y6.i (by unfold nxw; omega), e5, gi_of (by omega), e4, gi_at i1]
  · rw [y6.i (by unfold nxw; omega), e5, gi_at i1]
theorem y_readText {K : rf_M → Prop} (h28 : gi N 353 28 = (r : Int)) (hr : r < 12) (h9 : gi N 353 9 = 0) (h55 : gi N 355 r = 0) (h56 : gi N 356 r = 0) (h59 : gi N 359 r = 0) (hnx : nxk N T 0) (hS : S ≤ 40) (hz : zr (κT T) (νT T) X en S C [] (-1) 0 0 0 0) (kk : ∀ N', eqy (teW r) N N' → (gi N' 353 9 = 0 → rtx N' r X S C en) → K N') : em_W_readText N K := by
  refine y_rt0 h28 hnx (fun M6 y6 m6 q37 q73 q74 q75 q58 => ?_)
  refine y_loop (M0 := N) hS (Or.inr ⟨[], -1, 0, 0, 0, 0, ⟨⟨m6, ⟨(y6.i (by unfold nxw; omega)).trans h28, hr⟩, y6.mono (fun a k z => by unfold nxw at z; unfold teW; omega), (y6.i (by unfold nxw; omega)).trans h9⟩, (y6.i (by unfold nxw; omega)).trans h55, (y6.i (by unfold nxw; omega)).trans h56, (y6.i (by unfold nxw; omega)).trans h59, by omega⟩, ⟨q37, Nat.zero_le _, q73, q74, q75.trans (lf_neg (by omega)).symm⟩, ⟨by show (-1 : Int) ≤ -1; omega, by omega, by show (-1 : Int) < ((0 : Nat) : Int); omega⟩, ⟨⟨fun _ => q58, fun w => absurd ⟨rfl, rfl⟩ w⟩, fun x hx => absurd hx (by omega), fun k hk => absurd hk (by omega)⟩, hz⟩) (fun M' h => kk M' h.1 (fun w => absurd w h.2)) (fun M' a b d => kk M' a (fun _ => d))
theorem F_readText {K : rf_M → Prop} (h28 : gi N 353 28 = (r : Int)) (hr : r < 12) (h9 : gi N 353 9 = 0) (h55 : gi N 355 r = 0) (h56 : gi N 356 r = 0) (h59 : gi N 359 r = 0) (hnx : nxk N T 0) (kk : ∀ N', eqy (teW r) N N' → K N') : em_W_readText N K := by
  refine y_rt0 h28 hnx (fun M6 y6 m6 q37 q73 q74 q75 q58 => ?_)
  refine F_loop (M0 := N) (T := T) (Or.inr ⟨0, by omega, 0, 0, 0, 0, ⟨⟨m6, ⟨(y6.i (by unfold nxw; omega)).trans h28, hr⟩, y6.mono (fun a k z => by unfold nxw at z; unfold teW; omega), (y6.i (by unfold nxw; omega)).trans h9⟩, (y6.i (by unfold nxw; omega)).trans h55, (y6.i (by unfold nxw; omega)).trans h56, (y6.i (by unfold nxw; omega)).trans h59, by omega⟩, by omega, q37, by omega, fun k hk => ?_⟩) kk
  obtain rfl : k = 0 := by omega
  rw [q73, q75]
  exact ⟨Or.inl (by omega), Or.inl (by omega)⟩
theorem y_text0 {K : Int → rf_M → Prop} {Q : rf_M → Prop} (h11 : gi M 353 11 = (r : Int)) (hr : r ≤ 12) (htp : tp M n b) (hQ : ∀ N N', Q N → eqy (fun a k => a = 353 ∧ (k = 2 ∨ k = 11)) N N' → Q N')
    (hRT : r < 12 → ∀ (N : rf_M) (K' : rf_M → Prop), gi N 353 28 = (r : Int) → gi N 353 9 = 0 → gi N 355 r = 0 → gi N 356 r = 0 → gi N 359 r = 0 → nxk N (p_T b n) 0 → (∀ N', eqy (teW r) N N' → (gi N' 353 9 = 0 → Q N') → K' N') → em_W_readText N K')
    (kk : ∀ z M', eqy (txW r) M M' → ((z = -1 ∨ z = -2) ∧ gi M' 353 11 = (r : Int)) ∨ (z = (r : Int) ∧ r < 12 ∧ gi M' 353 11 = (r : Int) + 1 ∧ Q M') → K z M') : em_W_text M K := by
  show e_W_text M K
  intro M1 e1
  have i1 : inr (-1) := inr_z (by omega) (by omega)
  have i0 : inr 0 := inr_z (by omega) (by omega)
  have y1 : eqy (txW r) M M1 := by rw [e1]; exact (eqy.rfl' M).wi (Or.inr ⟨rfl, Or.inl rfl⟩)
  have k11 : gi M1 353 11 = (r : Int) := by rw [e1, gi_of (Or.inr (by omega)), h11]
  refine ⟨fun _ => kk (-1) M1 y1 (Or.inl ⟨Or.inl rfl, k11⟩), fun n12 M2 e2 M3 e3 => ?_⟩
  have hr12 : r < 12 := by omega
  have k28 : gi M3 353 28 = (r : Int) := by rw [e3, gi_at (inr_gi _ _ _), e2, gi_of (Or.inr (by omega)), k11]
  have k3 : (gi M3 353 28).toNat = r := by rw [k28]; omega
  rw [k3]
  intro _ M4 e4
  have k4 : (gi M4 353 28).toNat = r := by rw [e4, gi_of (Or.inl (by omega))]; exact k3
  rw [k4]
  intro _ M5 e5
  have k5 : (gi M5 353 28).toNat = r := by rw [e5, gi_of (Or.inl (by omega))]; exact k4
  rw [k5]
  intro _ M6 e6
  have k6 : (gi M6 353 28).toNat = r := by rw [e6, gi_of (Or.inl (by omega))]; exact k5
  rw [k6]
  intro _ M7 e7 M8 e8 M9 e9
  have y9 : eqy (txW r) M M9 := by
    rw [e9, e8, e7, e6, e5, e4, e3, e2]
    exact (((((((y1.wi (by unfold txW teW; omega)).wi (by unfold txW teW; omega)).wi (by unfold txW teW; omega)).wi (by unfold txW teW; omega)).wi (by unfold txW teW; omega)).wi (by unfold txW teW; omega)).wi (by unfold txW teW; omega)).wi (by unfold txW teW; omega)
  have c11 : gi M9 353 11 = (r : Int) := by rw [e9, gi_of (by omega), e8, gi_of (by omega), e7, gi_of (by omega), e6, gi_of (by omega), e5, gi_of (by omega), e4, gi_of (by omega), e3, gi_of (by omega), e2, gi_of (by omega), k11]
  have c28 : gi M9 353 28 = (r : Int) := by rw [e9, gi_of (by omega), e8, gi_of (by omega), e7, gi_of (by omega), e6, gi_of (by omega), e5, gi_of (by omega), e4, gi_of (by omega), k28]
  have c2 : gi M9 353 2 = gi M 353 2 := by rw [e9, gi_of (by omega), e8, gi_of (by omega), e7, gi_of (by omega), e6, gi_of (by omega), e5, gi_of (by omega), e4, gi_of (by omega), e3, gi_of (by omega), e2, gi_of (by omega), e1, gi_of (by omega)]
  have c54 : ∀ k, gi M9 354 k = gi M 354 k := fun k => by rw [e9, gi_of (by omega), e8, gi_of (by omega), e7, gi_of (by omega), e6, gi_of (by omega), e5, gi_of (by omega), e4, gi_of (by omega), e3, gi_of (by omega), e2, gi_of (by omega), e1, gi_of (by omega)]
  have c3 : gi M9 353 3 = ((0 : Nat) : Int) := by rw [e9, gi_of (by omega), e8, gi_at i0]; rfl
  have htp9 : tp M9 n b := ⟨c2.trans htp.1, htp.2.1, fun k hk => by rw [c54 k]; exact htp.2.2 k hk⟩
  refine hRT hr12 M9 _ c28 (by rw [e9, gi_at i0]) ?_ ?_ ?_ ⟨n, b, 0, 800, htp9, c3, Nat.zero_le _, by have := htp.2.1; omega, by rw [List.drop_zero]; rfl, Nat.zero_le _⟩ (fun M10 y10 q10 M11 e11 => ?_)
  · rw [e9, gi_of (by omega), e8, gi_of (by omega), e7, gi_of (by omega), e6, gi_of (by omega), e5, gi_of (by omega), e4, gi_at i0]
  · rw [e9, gi_of (by omega), e8, gi_of (by omega), e7, gi_of (by omega), e6, gi_of (by omega), e5, gi_at i0]
  · rw [e9, gi_of (by omega), e8, gi_of (by omega), e7, gi_at i0]
  have y11 : eqy (txW r) M M11 := by
    rw [e11]
    exact ((y9.trans (y10.mono (fun a k z => Or.inl z))).wi (Or.inr ⟨rfl, Or.inr (Or.inl rfl)⟩))
  have d11 : gi M11 353 11 = (r : Int) := by rw [e11, gi_of (by omega), y10.i (by unfold teW; omega), c11]
  have d9 : gi M11 353 9 = gi M10 353 9 := by rw [e11, gi_of (by omega)]
  refine ⟨fun q9 M12 e12 => ?_, fun _ => kk (-2) M11 y11 (Or.inl ⟨Or.inr rfl, d11⟩)⟩
  have f11 : gi M12 353 11 = (r : Int) + 1 := by rw [e12, gi_at (by rw [d11]; exact inr_z (by omega) (by omega)), d11]
  rw [f11]
  have ez : (r : Int) + 1 - 1 = (r : Int) := by omega
  rw [ez]
  refine ⟨inr_z (by omega) (by omega), kk (r : Int) M12 ?_ (Or.inr ⟨rfl, hr12, f11, hQ M10 M12 (q10 (d9.symm.trans q9)) ?_⟩)⟩
  · rw [e12]; exact y11.wi (Or.inr ⟨rfl, by omega⟩)
  · rw [e12, e11]; exact ((eqy.rfl' _).wi ⟨rfl, Or.inl rfl⟩).wi ⟨rfl, Or.inr rfl⟩
theorem y_text {K : Int → rf_M → Prop} (h11 : gi M 353 11 = (r : Int)) (hr : r ≤ 12) (htp : tp M n b) (hS : S ≤ 40) (hz : zr (κT (p_T b n)) (νT (p_T b n)) X en S C [] (-1) 0 0 0 0)
    (kk : ∀ z M', eqy (txW r) M M' → ((z = -1 ∨ z = -2) ∧ gi M' 353 11 = (r : Int)) ∨ (z = (r : Int) ∧ r < 12 ∧ gi M' 353 11 = (r : Int) + 1 ∧ rtx M' r X S C en) → K z M') : em_W_text M K :=
  y_text0 (Q := fun N => rtx N r X S C en) h11 hr htp (fun N N' h e => h.eq e (fun b k z1 z2 => by omega)) (fun hr12 N K' a1 a2 a3 a4 a5 a6 k' => y_readText a1 hr12 a2 a3 a4 a5 a6 hS hz k') kk
theorem F_text {K : Int → rf_M → Prop} (h11 : gi M 353 11 = (r : Int)) (hr : r ≤ 12) (htp : tp M n b)
    (kk : ∀ z M', eqy (txW r) M M' → ((z = -1 ∨ z = -2) ∧ gi M' 353 11 = (r : Int)) ∨ (z = (r : Int) ∧ r < 12 ∧ gi M' 353 11 = (r : Int) + 1) → K z M') : em_W_text M K :=
  y_text0 (Q := fun _ => True) h11 hr htp (fun _ _ h _ => h) (fun hr12 N K' a1 a2 a3 a4 a5 a6 k' => F_readText a1 hr12 a2 a3 a4 a5 a6 (fun N' y => k' N' y (fun _ => trivial))) (fun z M' y q => kk z M' y (q.imp id (fun w => ⟨w.1, w.2.1, w.2.2.1⟩)))
end WTX
