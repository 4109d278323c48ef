def txW (r a k : Nat) : Prop := teW r a k ∨ (a = 353 ∧ (k = 0 ∨ k = 2 ∨ k = 11 ∨ k = 28))
section WTX
variable {M M' N : rf_M} {T : tK} {r n : Nat} {X : txT} {en : Int} {S C : Nat} {b : Nat → Int32}
theorem y_rt0 {K : rf_M → Prop} (h28 : gi N 353 28 = (r : Int)) (hnx : nxk N T 0) (kk : ∀ M6, eqy (fun a k => (a = 353 ∧ k = 37) ∨ ((373 ≤ a ∧ a ≤ 375) ∧ k = 0) ∨ (a = 358 ∧ k = r) ∨ nxw a k) N M6 → mtv M6 T 0 → gi M6 353 37 = 0 → gi M6 373 0 = -1 → gi M6 374 0 = 0 → gi M6 375 0 = -1 → gi M6 358 r = -1 → e_W_readText_40 M6 K) : em_W_readText N K := by
  show e_W_readText N K
  intro M1 e1 _ M2 e2 _ M3 e3 _ M4 e4 _ M5 e5
  have g4 : (gi M4 353 28).toNat = r := by rw [e4, gi_of (Or.inl (by omega)), e3, gi_of (Or.inl (by omega)), e2, gi_of (Or.inl (by omega)), e1, gi_of (Or.inr (by omega)), h28]; omega
  rw [g4] at e5
  have i1 : inr (-1) := inr_z (by omega) (by omega)
  have i0 : inr 0 := inr_z (by omega) (by omega)
  have y5 : eqy (fun a k => (a = 353 ∧ k = 37) ∨ ((373 ≤ a ∧ a ≤ 375) ∧ k = 0) ∨ (a = 358 ∧ k = r) ∨ nxw a k) N M5 := by
    rw [e5, e4, e3, e2, e1]
    exact (((((eqy.rfl' N).wi (Or.inl ⟨rfl, rfl⟩)).wi (Or.inr (Or.inl ⟨by omega, rfl⟩))).wi (Or.inr (Or.inl ⟨by omega, rfl⟩))).wi (Or.inr (Or.inl ⟨by omega, rfl⟩))).wi (Or.inr (Or.inr (Or.inl ⟨rfl, rfl⟩)))
  have q : ∀ a k, (a = 353 ∧ (k = 2 ∨ (3 ≤ k ∧ k ≤ 8))) ∨ a = 354 → gi M5 a k = gi N a k := fun a k z => by
    rw [e5, gi_of (by omega), e4, gi_of (by omega), e3, gi_of (by omega), e2, gi_of (by omega), e1, gi_of (by omega)]
  refine y_next0 (hnx.eq q) (fun M6 y6 m6 => kk M6 (y5.trans (y6.mono (fun a k z => Or.inr (Or.inr (Or.inr z))))) m6 ?_ ?_ ?_ ?_ ?_)
  · rw [y6.i (by unfold nxw; omega), e5, gi_of (by omega), e4, gi_of (by omega), e3, gi_of (by omega), e2, gi_of (by omega), e1, gi_at i0]
  · rw [y6.i (by unfold nxw; omega), e5, gi_of (by omega), e4, gi_of (by omega), e3, gi_of (by omega), e2, gi_at i1]
  · rw [y6.i (by unfold nxw; omega), e5, gi_of (by omega), e4, gi_of (by omega), e3, gi_at i0]
  · rw [y6.i (by unfold nxw; omega), e5, gi_of (by omega), e4, gi_at i1]
  · rw [y6.i (by unfold nxw; omega), e5, gi_at i1]
theorem y_readText {K : rf_M → Prop} (h28 : gi N 353 28 = (r : Int)) (hr : r < 12) (h9 : gi N 353 9 = 0) (h55 : gi N 355 r = 0) (h56 : gi N 356 r = 0) (h59 : gi N 359 r = 0) (hnx : nxk N T 0) (hS : S ≤ 40) (hz : zr (κT T) (νT T) X en S C [] (-1) 0 0 0 0) (kk : ∀ N', eqy (teW r) N N' → (gi N' 353 9 = 0 → rtx N' r X S C en) → K N') : em_W_readText N K := by
  refine y_rt0 h28 hnx (fun M6 y6 m6 q37 q73 q74 q75 q58 => ?_)
  refine y_loop (M0 := N) hS (Or.inr ⟨[], -1, 0, 0, 0, 0, ⟨⟨m6, ⟨(y6.i (by unfold nxw; omega)).trans h28, hr⟩, y6.mono (fun a k z => by unfold nxw at z; unfold teW; omega), (y6.i (by unfold nxw; omega)).trans h9⟩, (y6.i (by unfold nxw; omega)).trans h55, (y6.i (by unfold nxw; omega)).trans h56, (y6.i (by unfold nxw; omega)).trans h59, by omega⟩, ⟨q37, Nat.zero_le _, q73, q74, q75.trans (lf_neg (by omega)).symm⟩, ⟨by show (-1 : Int) ≤ -1; omega, by omega, by show (-1 : Int) < ((0 : Nat) : Int); omega⟩, ⟨⟨fun _ => q58, fun w => absurd ⟨rfl, rfl⟩ w⟩, fun x hx => absurd hx (by omega), fun k hk => absurd hk (by omega)⟩, hz⟩) (fun M' h => kk M' h.1 (fun w => absurd w h.2)) (fun M' a b d => kk M' a (fun _ => d))
theorem F_readText {K : rf_M → Prop} (h28 : gi N 353 28 = (r : Int)) (hr : r < 12) (h9 : gi N 353 9 = 0) (h55 : gi N 355 r = 0) (h56 : gi N 356 r = 0) (h59 : gi N 359 r = 0) (hnx : nxk N T 0) (kk : ∀ N', eqy (teW r) N N' → K N') : em_W_readText N K := by
  refine y_rt0 h28 hnx (fun M6 y6 m6 q37 q73 q74 q75 q58 => ?_)
  refine F_loop (M0 := N) (T := T) (Or.inr ⟨0, by omega, 0, 0, 0, 0, ⟨⟨m6, ⟨(y6.i (by unfold nxw; omega)).trans h28, hr⟩, y6.mono (fun a k z => by unfold nxw at z; unfold teW; omega), (y6.i (by unfold nxw; omega)).trans h9⟩, (y6.i (by unfold nxw; omega)).trans h55, (y6.i (by unfold nxw; omega)).trans h56, (y6.i (by unfold nxw; omega)).trans h59, by omega⟩, by omega, q37, by omega, fun k hk => ?_⟩) kk
  obtain rfl : k = 0 := by omega
  rw [q73, q75]
  exact ⟨Or.inl (by omega), Or.inl (by omega)⟩
theorem y_text0 {K : Int → rf_M → Prop} {Q : rf_M → Prop} (h11 : gi M 353 11 = (r : Int)) (hr : r ≤ 12) (htp : tp M n b) (hQ : ∀ N N', Q N → eqy (fun a k => a = 353 ∧ (k = 2 ∨ k = 11)) N N' → Q N')
    (hRT : r < 12 → ∀ (N : rf_M) (K' : rf_M → Prop), gi N 353 28 = (r : Int) → gi N 353 9 = 0 → gi N 355 r = 0 → gi N 356 r = 0 → gi N 359 r = 0 → nxk N (p_T b n) 0 → (∀ N', eqy (teW r) N N' → (gi N' 353 9 = 0 → Q N') → K' N') → em_W_readText N K')
    (kk : ∀ z M', eqy (txW r) M M' → ((z = -1 ∨ z = -2) ∧ gi M' 353 11 = (r : Int)) ∨ (z = (r : Int) ∧ r < 12 ∧ gi M' 353 11 = (r : Int) + 1 ∧ Q M') → K z M') : em_W_text M K := by
  show e_W_text M K
  intro M1 e1
  have i1 : inr (-1) := inr_z (by omega) (by omega)
  have i0 : inr 0 := inr_z (by omega) (by omega)
  have y1 : eqy (txW r) M M1 := by rw [e1]; exact (eqy.rfl' M).wi (Or.inr ⟨rfl, Or.inl rfl⟩)
  have k11 : gi M1 353 11 = (r : Int) := by rw [e1, gi_of (Or.inr (by omega)), h11]
  refine ⟨fun _ => kk (-1) M1 y1 (Or.inl ⟨Or.inl rfl, k11⟩), fun n12 M2 e2 M3 e3 => ?_⟩
  have hr12 : r < 12 := by omega
  have k28 : gi M3 353 28 = (r : Int) := by rw [e3, gi_at (inr_gi _ _ _), e2, gi_of (Or.inr (by omega)), k11]
  have k3 : (gi M3 353 28).toNat = r := by rw [k28]; omega
  rw [k3]
  intro _ M4 e4
  have k4 : (gi M4 353 28).toNat = r := by rw [e4, gi_of (Or.inl (by omega))]; exact k3
  rw [k4]
  intro _ M5 e5
  have k5 : (gi M5 353 28).toNat = r := by rw [e5, gi_of (Or.inl (by omega))]; exact k4
  rw [k5]
  intro _ M6 e6
  have k6 : (gi M6 353 28).toNat = r := by rw [e6, gi_of (Or.inl (by omega))]; exact k5
  rw [k6]
  intro _ M7 e7 M8 e8 M9 e9
  have y9 : eqy (txW r) M M9 := by
    rw [e9, e8, e7, e6, e5, e4, e3, e2]
    exact (((((((y1.wi (by unfold txW teW; omega)).wi (by unfold txW teW; omega)).wi (by unfold txW teW; omega)).wi (by unfold txW teW; omega)).wi (by unfold txW teW; omega)).wi (by unfold txW teW; omega)).wi (by unfold txW teW; omega)).wi (by unfold txW teW; omega)
  have c11 : gi M9 353 11 = (r : Int) := by rw [e9, gi_of (by omega), e8, gi_of (by omega), e7, gi_of (by omega), e6, gi_of (by omega), e5, gi_of (by omega), e4, gi_of (by omega), e3, gi_of (by omega), e2, gi_of (by omega), k11]
  have c28 : gi M9 353 28 = (r : Int) := by rw [e9, gi_of (by omega), e8, gi_of (by omega), e7, gi_of (by omega), e6, gi_of (by omega), e5, gi_of (by omega), e4, gi_of (by omega), k28]
  have c2 : gi M9 353 2 = gi M 353 2 := by rw [e9, gi_of (by omega), e8, gi_of (by omega), e7, gi_of (by omega), e6, gi_of (by omega), e5, gi_of (by omega), e4, gi_of (by omega), e3, gi_of (by omega), e2, gi_of (by omega), e1, gi_of (by omega)]
  have c54 : ∀ k, gi M9 354 k = gi M 354 k := fun k => by rw [e9, gi_of (by omega), e8, gi_of (by omega), e7, gi_of (by omega), e6, gi_of (by omega), e5, gi_of (by omega), e4, gi_of (by omega), e3, gi_of (by omega), e2, gi_of (by omega), e1, gi_of (by omega)]
  have c3 : gi M9 353 3 = ((0 : Nat) : Int) := by rw [e9, gi_of (by omega), e8, gi_at i0]; rfl
  have htp9 : tp M9 n b := ⟨c2.trans htp.1, htp.2.1, fun k hk => by rw [c54 k]; exact htp.2.2 k hk⟩
  refine hRT hr12 M9 _ c28 (by rw [e9, gi_at i0]) ?_ ?_ ?_ ⟨n, b, 0, 800, htp9, c3, Nat.zero_le _, by have := htp.2.1; omega, by rw [List.drop_zero]; rfl, Nat.zero_le _⟩ (fun M10 y10 q10 M11 e11 => ?_)
  · rw [e9, gi_of (by omega), e8, gi_of (by omega), e7, gi_of (by omega), e6, gi_of (by omega), e5, gi_of (by omega), e4, gi_at i0]
  · rw [e9, gi_of (by omega), e8, gi_of (by omega), e7, gi_of (by omega), e6, gi_of (by omega), e5, gi_at i0]
  · rw [e9, gi_of (by omega), e8, gi_of (by omega), e7, gi_at i0]
  have y11 : eqy (txW r) M M11 := by
    rw [e11]
    exact ((y9.trans (y10.mono (fun a k z => Or.inl z))).wi (Or.inr ⟨rfl, Or.inr (Or.inl rfl)⟩))
  have d11 : gi M11 353 11 = (r : Int) := by rw [e11, gi_of (by omega), y10.i (by unfold teW; omega), c11]
  have d9 : gi M11 353 9 = gi M10 353 9 := by rw [e11, gi_of (by omega)]
  refine ⟨fun q9 M12 e12 => ?_, fun _ => kk (-2) M11 y11 (Or.inl ⟨Or.inr rfl, d11⟩)⟩
  have f11 : gi M12 353 11 = (r : Int) + 1 := by rw [e12, gi_at (by rw [d11]; exact inr_z (by omega) (by omega)), d11]
  rw [f11]
  have ez : (r : Int) + 1 - 1 = (r : Int) := by omega
  rw [ez]
  refine ⟨inr_z (by omega) (by omega), kk (r : Int) M12 ?_ (Or.inr ⟨rfl, hr12, f11, hQ M10 M12 (q10 (d9.symm.trans q9)) ?_⟩)⟩
  · rw [e12]; exact y11.wi (Or.inr ⟨rfl, by omega⟩)
  · rw [e12, e11]; exact ((eqy.rfl' _).wi ⟨rfl, Or.inl rfl⟩).wi ⟨rfl, Or.inr rfl⟩
theorem y_text {K : Int → rf_M → Prop} (h11 : gi M 353 11 = (r : Int)) (hr : r ≤ 12) (htp : tp M n b) (hS : S ≤ 40) (hz : zr (κT (p_T b n)) (νT (p_T b n)) X en S C [] (-1) 0 0 0 0)
    (kk : ∀ z M', eqy (txW r) M M' → ((z = -1 ∨ z = -2) ∧ gi M' 353 11 = (r : Int)) ∨ (z = (r : Int) ∧ r < 12 ∧ gi M' 353 11 = (r : Int) + 1 ∧ rtx M' r X S C en) → K z M') : em_W_text M K :=
  y_text0 (Q := fun N => rtx N r X S C en) h11 hr htp (fun N N' h e => h.eq e (fun b k z1 z2 => by omega)) (fun hr12 N K' a1 a2 a3 a4 a5 a6 k' => y_readText a1 hr12 a2 a3 a4 a5 a6 hS hz k') kk
theorem F_text {K : Int → rf_M → Prop} (h11 : gi M 353 11 = (r : Int)) (hr : r ≤ 12) (htp : tp M n b)
    (kk : ∀ z M', eqy (txW r) M M' → ((z = -1 ∨ z = -2) ∧ gi M' 353 11 = (r : Int)) ∨ (z = (r : Int) ∧ r < 12 ∧ gi M' 353 11 = (r : Int) + 1) → K z M') : em_W_text M K :=
  y_text0 (Q := fun _ => True) h11 hr htp (fun _ _ h _ => h) (fun hr12 N K' a1 a2 a3 a4 a5 a6 k' => F_readText a1 hr12 a2 a3 a4 a5 a6 (fun N' y => k' N' y (fun _ => trivial))) (fun z M' y q => kk z M' y (q.imp id (fun w => ⟨w.1, w.2.1, w.2.2.1⟩)))
end WTX
/-! WHAT THE GRAMMAR SAYS IS WELL MADE -/
def cgd (X : txT) (c c' : Nat) : Prop := ∀ k, c ≤ k → k < c' → opk (X.2.1 k) ∧ (X.2.1 k = 2 → 0 ≤ X.2.2 k ∧ X.2.2 k < 26)
def gdX (X : txT) (S C s s' c c' u : Nat) : Prop := cgd X c c' ∧ psh X.2.1 c' ≤ psh X.2.1 c + u ∧ ∀ x, s ≤ x → x < s' → wst X S C x
def fsX (X : txT) (par part : Int) (s s' : Nat) (first : Int) : Prop := first = -1 ∨ ∃ x : Nat, first = (x : Int) ∧ s ≤ x ∧ x < s' ∧ X.1 3 x = par ∧ X.1 4 x = part
section WFX
variable {κ ν : Nat → Int} {X : txT} {S C : Nat} {B : bxT} {par part dep : Int}
theorem psh_cat : ∀ (c : cdT) (cc : Nat), cat_ X cc c → psh X.2.1 (cc + c.length) = psh X.2.1 cc + lfs c
  | [], cc, _ => rfl
  | q :: c, cc, h => by
    have h0 := h 0 (by simp)
    have e0 : X.2.1 cc = q.1 := h0.1
    have ih := psh_cat c (cc + 1) (fun k hk => by
      have := h (k + 1) (by simpa using hk)
      rw [show cc + (k + 1) = cc + 1 + k by omega] at this
      simpa using this)
    rw [List.length_cons, show cc + (c.length + 1) = cc + 1 + c.length by omega, ih]
    show psh X.2.1 cc + (if X.2.1 cc = 1 ∨ X.2.1 cc = 2 then 1 else 0) + lfs c = psh X.2.1 cc + ((if q.1 = 1 ∨ q.1 = 2 then 1 else 0) + lfs c)
    rw [e0]; omega
theorem dEx_gd {ir : Bool} {i cc j cc' u : Nat} (hl : ∀ i, κ i = 1 → 0 ≤ ν i ∧ ν i < 26) (h : dEx κ ν ir X i cc j cc' u) (hu : u ≤ 60) (hC : cc' ≤ C) : cgd X cc cc' ∧ psh X.2.1 cc' ≤ psh X.2.1 cc + u ∧ cdo X C (cc : Int) := by
  obtain ⟨c, h1, h2, h3⟩ := h
  obtain ⟨g1, g2, g3⟩ := dE_gd (dU_gd 8) _ _ _ _ h1
  obtain ⟨k1, q, c', rfl, k2⟩ := dE_hd (dU_hd 8) _ _ _ _ h1
  refine ⟨fun k ka kb => ?_, ?_, ?_⟩
  · obtain ⟨m, rfl⟩ : ∃ m, k = cc + m := ⟨k - cc, by omega⟩
    obtain ⟨b1, b2⟩ := h2 m (by rw [List.length_append, List.length_singleton]; omega)
    by_cases em : m < (q :: c').length
    · rw [getD_l em] at b1 b2
      obtain ⟨o1, o2⟩ := g3 _ (getD_m em)
      rw [b1, b2]
      refine ⟨o1, fun w => ?_⟩
      obtain ⟨i', i1, i2⟩ := o2 w
      rw [i2]
      exact hl i' i1
    · obtain rfl : m = (q :: c').length := by omega
      rw [getD_r] at b1 b2
      rw [b1]
      exact ⟨Or.inl rfl, fun w => absurd w (by show ¬ ((0 : Int) = 2); decide)⟩
  · have := psh_cat _ _ h2
    rw [List.length_append, List.length_singleton, ← Nat.add_assoc, ← h3, lfs_app] at this
    have z : lfs [((0 : Int), (0 : Int))] = 0 := rfl
    omega
  · refine ⟨by omega, ?_, (q :: c').length, by omega, ?_, ?_⟩
    · have b1 := (h2 0 (by simp)).1
      have e : ((q :: c') ++ [((0 : Int), (0 : Int))]).getD 0 (0, 0) = q := rfl
      rw [e] at b1
      rw [tn_]
      have b1 : X.2.1 cc = q.1 := b1
      rw [b1]; exact k2
    · have b1 := (h2 (q :: c').length (by rw [List.length_append, List.length_singleton]; omega)).1
      rw [getD_r] at b1
      rw [tn_]; exact b1
    · rw [tn_]; omega
theorem fsX.lnk {s s' : Nat} {first : Int} (h : fsX X par part s s' first) (hs : s' ≤ S) : lnk S first (fun x => X.1 3 x = par ∧ X.1 4 x = part) := by
  rcases h with h | ⟨x, h1, h2, h3, h4, h5⟩
  · exact Or.inl h
  · exact Or.inr ⟨x, h1, by omega, h4, h5⟩
theorem cgd.app {c1 c2 c3 : Nat} (h : cgd X c1 c2) (h' : cgd X c2 c3) : cgd X c1 c3 := fun k ka kb => by
  by_cases e : k < c2
  · exact h k ka e
  · exact h' k (by omega) kb
theorem gdX.app {s1 s2 s3 c1 c2 c3 u1 u2 : Nat} (h : gdX X S C s1 s2 c1 c2 u1) (h' : gdX X S C s2 s3 c2 c3 u2) : gdX X S C s1 s3 c1 c3 (u1 + u2) := by
  refine ⟨h.1.app h'.1, by have := h.2.1; have := h'.2.1; omega, fun x xa xb => ?_⟩
  by_cases e : x < s2
  · exact h.2.2 x xa e
  · exact h'.2.2 x (by omega) xb
theorem cgd_nil (c : Nat) : cgd X c c := fun k ka kb => absurd kb (by omega)
theorem dT_wf {f : Nat} {i s cc j s' cc' u : Nat} (hl : ∀ i, κ i = 1 → 0 ≤ ν i ∧ ν i < 26) (hd : 0 ≤ dep ∧ dep ≤ 8) (hB : ∀ o pt i s0 c0 j s1 c1 first u, B o pt i s0 c0 j s1 c1 first u → dep ≤ 7 ∧ (s0 ≤ s1 ∧ c0 ≤ c1) ∧ fsX X (o : Int) pt s0 s1 first ∧ (o < S → X.1 5 o = dep → pt = 0 ∨ pt = 1 → s1 ≤ S → c1 ≤ C → u ≤ 60 → gdX X S C s0 s1 c0 c1 u)) (hp : (par = -1 ∧ dep = 0) ∨ ∃ p : Nat, par = (p : Int) ∧ p < S ∧ dep = X.1 5 p + 1) (hpt : part = 0 ∨ part = 1) (h : dT κ ν X B par part dep i s cc j s' cc' u) (hss : s < s') (hs : s' ≤ S) (hc : cc' ≤ C) (hu : u ≤ 60) (h6 : lnk S (X.1 6 s) (fun x => X.1 3 x = par ∧ X.1 4 x = part)) : gdX X S C s s' cc cc' u := by
  have hkd := dT_kd h
  obtain ⟨⟨x0, x2, x3, x4, x5⟩, h⟩ := h
  have W : lnk S (X.1 7 s) (fun x => X.1 3 x = (s : Int) ∧ X.1 4 x = 0) → lnk S (X.1 8 s) (fun x => X.1 3 x = (s : Int) ∧ X.1 4 x = 1) → (κ i = 15 ∨ κ i = 17 → dep ≤ 7) → (κ i = 17 → 16 ≤ X.1 1 s ∧ X.1 1 s < 26) → (κ i = 1 → 0 ≤ X.1 1 s ∧ X.1 1 s < 26) → (kxp (κ i) → cdo X C (cc : Int)) → wst X S C s := by
    intro w7 w8 wd w17 w1 wx
    unfold wst
    rw [x0, x2, x3, x4, x5]
    exact ⟨hp, hpt, hd, h6, w7, w8, hkd, wd, w17, w1, wx⟩
  have one : ∀ {c1 u1 : Nat}, wst X S C s → cgd X cc c1 → psh X.2.1 c1 ≤ psh X.2.1 cc + u1 → gdX X S C s (s + 1) cc c1 u1 := fun w g p => ⟨g, p, fun x xa xb => by obtain rfl : x = s := (by omega); exact w⟩
  have sS : s < S := by omega
  have ln : ∀ z : Int, z = -1 → ∀ P, lnk S z P := fun z w P => Or.inl w
  rcases h with ⟨k, k1, ⟨b1, b2, b3⟩, rfl, j1, d, e1, e2⟩ | ⟨k, ⟨b2, b3⟩, rfl, j1, d, e1, e2⟩ | ⟨k, ⟨b2, b3⟩, rfl, j1, d, e1, e2⟩ | ⟨k, ⟨b2, b3⟩, e1, e2, rfl, e3, e4⟩ | ⟨k, k1, b3, j1, c1, u1, u2, d, e1, e2, e3⟩ | ⟨k, k1, j1, c1, u1, j2, s2, c2, u2, d, e1, e2, e3⟩ | ⟨k, j2, s2, c2, u2, u3, e1, e2, e3, e4⟩ | ⟨k, j2, s2, c2, u2, u3, e1, e2, ⟨l1, l2, l3⟩, e3, e4⟩
  · obtain ⟨g1, g2, g3⟩ := dEx_gd hl d hu hc
    exact one (W (ln _ b2 _) (ln _ b3 _) (fun w => absurd w (by omega)) (fun w => absurd w (by omega)) (fun w => by rw [b1]; exact hl i w) (fun _ => g3)) g1 g2
  · obtain ⟨g1, g2, g3⟩ := dEx_gd hl d hu hc
    exact one (W (ln _ b2 _) (ln _ b3 _) (fun w => absurd w (by omega)) (fun w => absurd w (by omega)) (fun w => absurd w (by omega)) (fun _ => g3)) g1 g2
  · obtain ⟨g1, g2, g3⟩ := dEx_gd hl d hu hc
    exact one (W (ln _ b2 _) (ln _ b3 _) (fun w => absurd w (by omega)) (fun w => absurd w (by omega)) (fun w => absurd w (by omega)) (fun _ => g3)) g1 g2
  · subst e3
    exact one (W (ln _ b2 _) (ln _ b3 _) (fun w => absurd w (by omega)) (fun w => absurd w (by omega)) (fun w => absurd w (by omega)) (fun w => absurd w (by unfold kxp; omega))) (cgd_nil _) (by omega)
  · obtain ⟨d7, ⟨m1, m2⟩, f1, g⟩ := hB _ _ _ _ _ _ _ _ _ _ e2
    obtain ⟨g1, g2, g3⟩ := dEx_gd (C := C) hl d (by omega) (by omega)
    rw [e3]
    exact (one (W (f1.lnk hs) (ln _ b3 _) (fun w => absurd w (by omega)) (fun w => absurd w (by omega)) (fun w => absurd w (by omega)) (fun _ => g3)) g1 g2).app (g sS x5 (Or.inl rfl) hs hc (by omega))
  · obtain ⟨d7, ⟨m1, m2⟩, f1, g⟩ := hB _ _ _ _ _ _ _ _ _ _ e2
    rcases e3 with ⟨n11, b3, q1, q2, q3, q4⟩ | ⟨y11, u3, e4, q4⟩
    · subst q2; subst q3
      obtain ⟨g1, g2, g3⟩ := dEx_gd (C := C) hl d (by omega) (by omega)
      rw [q4]
      exact (one (W (f1.lnk hs) (ln _ b3 _) (fun w => absurd w (by omega)) (fun w => absurd w (by omega)) (fun w => absurd w (by omega)) (fun _ => g3)) g1 g2).app (g sS x5 (Or.inl rfl) hs hc (by omega))
    · obtain ⟨-, ⟨m3, m4⟩, f2, g'⟩ := hB _ _ _ _ _ _ _ _ _ _ e4
      obtain ⟨g1, g2, g3⟩ := dEx_gd (C := C) hl d (by omega) (by omega)
      rw [q4]
      exact ((one (W (f1.lnk (by omega)) (f2.lnk hs) (fun w => absurd w (by omega)) (fun w => absurd w (by omega)) (fun w => absurd w (by omega)) (fun _ => g3)) g1 g2).app (g sS x5 (Or.inl rfl) (by omega) (by omega) (by omega))).app (g' sS x5 (Or.inr rfl) hs hc (by omega))
  · obtain ⟨d7, ⟨m1, m2⟩, f1, g⟩ := hB _ _ _ _ _ _ _ _ _ _ e1
    obtain ⟨-, ⟨m3, m4⟩, f2, g'⟩ := hB _ _ _ _ _ _ _ _ _ _ e3
    have hh := ((one (u1 := 0) (W (f1.lnk (by omega)) (f2.lnk hs) (fun _ => d7) (fun w => absurd w (by omega)) (fun w => absurd w (by omega)) (fun w => absurd w (by unfold kxp; omega))) (cgd_nil cc) (by omega)).app (g sS x5 (Or.inl rfl) (by omega) (by omega) (by omega))).app (g' sS x5 (Or.inr rfl) hs hc (by omega))
    rw [Nat.zero_add] at hh
    rw [e4]
    exact hh
  · obtain ⟨d7, ⟨m1, m2⟩, f1, g⟩ := hB _ _ _ _ _ _ _ _ _ _ e1
    obtain ⟨-, ⟨m3, m4⟩, f2, g'⟩ := hB _ _ _ _ _ _ _ _ _ _ e3
    have hh := ((one (u1 := 0) (W (f1.lnk (by omega)) (f2.lnk hs) (fun _ => d7) (fun _ => by rw [l3]; exact ⟨l2, (hl _ l1).2⟩) (fun w => absurd w (by omega)) (fun w => absurd w (by unfold kxp; omega))) (cgd_nil cc) (by omega)).app (g sS x5 (Or.inl rfl) (by omega) (by omega) (by omega))).app (g' sS x5 (Or.inr rfl) hs hc (by omega))
    rw [Nat.zero_add] at hh
    rw [e4]
    exact hh
theorem dSs_fs {n i s cc j s' cc' u : Nat} {first : Int} (hb : bok X X B B) (h : dSs κ ν X B par part dep n i s cc j s' cc' first u) : fsX X par part s s' first := by
  cases n with
  | zero => exact Or.inl h.2.2.2.1
  | succ n =>
    obtain ⟨h1, j1, s1, c1, u1, f2, u2, d1, d2, d3, d4⟩ := h
    have a := (dT.congr (X' := X) hb d1).1.1
    have b := (dSs.congr (X' := X) hb _ _ _ _ _ _ _ _ _ d2).1.1
    exact Or.inr ⟨s, h1, Nat.le_refl _, by omega, d1.1.2.2.1, d1.1.2.2.2.1⟩
theorem dSs_wf (hl : ∀ i, κ i = 1 → 0 ≤ ν i ∧ ν i < 26) (hd : 0 ≤ dep ∧ dep ≤ 8) (hb : bok X X B B) (hB : ∀ o pt i s0 c0 j s1 c1 first u, B o pt i s0 c0 j s1 c1 first u → dep ≤ 7 ∧ (s0 ≤ s1 ∧ c0 ≤ c1) ∧ fsX X (o : Int) pt s0 s1 first ∧ (o < S → X.1 5 o = dep → pt = 0 ∨ pt = 1 → s1 ≤ S → c1 ≤ C → u ≤ 60 → gdX X S C s0 s1 c0 c1 u)) (hp : (par = -1 ∧ dep = 0) ∨ ∃ p : Nat, par = (p : Int) ∧ p < S ∧ dep = X.1 5 p + 1) (hpt : part = 0 ∨ part = 1) : ∀ (n i s cc j s' cc' : Nat) (first : Int) (u : Nat), dSs κ ν X B par part dep n i s cc j s' cc' first u → s' ≤ S → cc' ≤ C → u ≤ 60 → gdX X S C s s' cc cc' u
  | 0, i, s, cc, j, s', cc', first, u, h, hs, hc, hu => by
    obtain ⟨-, rfl, rfl, -, rfl⟩ := h
    exact ⟨cgd_nil _, by omega, fun x xa xb => absurd xb (by omega)⟩
  | n + 1, i, s, cc, j, s', cc', first, u, h, hs, hc, hu => by
    obtain ⟨h1, j1, s1, c1, u1, f2, u2, d1, d2, d3, d4⟩ := h
    have a := (dT.congr (X' := X) hb d1).1
    have b := (dSs.congr (X' := X) hb _ _ _ _ _ _ _ _ _ d2).1
    have ff := (dSs_fs hb d2).lnk hs
    rw [← d3] at ff
    rw [d4]
    exact (dT_wf (f := 0) hl hd hB hp hpt d1 a.1 (by omega) (by omega) (by omega) ff).app (dSs_wf hl hd hb hB hp hpt n _ _ _ _ _ _ _ _ d2 hs hc (by omega))
theorem dB_wf (hl : ∀ i, κ i = 1 → 0 ≤ ν i ∧ ν i < 26) : ∀ f, f ≤ 8 → ∀ o pt i s0 c0 j s1 c1 first u, dB κ ν X f o pt i s0 c0 j s1 c1 first u → (8 - (f : Int)) ≤ 7 ∧ (s0 ≤ s1 ∧ c0 ≤ c1) ∧ fsX X (o : Int) pt s0 s1 first ∧ (o < S → X.1 5 o = 8 - (f : Int) → pt = 0 ∨ pt = 1 → s1 ≤ S → c1 ≤ C → u ≤ 60 → gdX X S C s0 s1 c0 c1 u)
  | 0, _, o, pt, i, s0, c0, j, s1, c1, first, u, h => h.elim
  | f + 1, hf, o, pt, i, s0, c0, j, s1, c1, first, u, h => by
    obtain ⟨h1, n, j1, h2, h3, h4⟩ := h
    have m := (dSs.congr (X' := X) (dB.congr f) _ _ _ _ _ _ _ _ _ h2).1
    refine ⟨by omega, m, dSs_fs (dB.congr f) h2, fun oS o5 hpt hs hc hu => ?_⟩
    exact dSs_wf (dep := 8 - (f : Int)) hl (by omega) (dB.congr f) (dB_wf hl f (by omega)) (Or.inr ⟨o, rfl, oS, by rw [o5]; omega⟩) hpt _ _ _ _ _ _ _ _ _ h2 hs hc hu
/-- a text that the grammar takes is well made -/
theorem wfx_of {n j u : Nat} {first : Int} (hl : ∀ i, κ i = 1 → 0 ≤ ν i ∧ ν i < 26) (h : dSs κ ν X (dB κ ν X 8) (-1) 0 0 n 0 0 0 j S C first u) (hS : S ≤ 40) (hC : C ≤ 2 * u) (hu : u ≤ 60) : wfx X S C first := by
  obtain ⟨g1, g2, g3⟩ := dSs_wf (S := S) (C := C) hl (by omega) (dB.congr 8) (dB_wf hl 8 (by omega)) (Or.inl ⟨rfl, rfl⟩) (Or.inl rfl) _ _ _ _ _ _ _ _ _ h (Nat.le_refl _) (Nat.le_refl _) hu
  refine ⟨hS, by omega, ?_, fun i hi => g1 i (by omega) hi, ?_, fun s hs => g3 s (by omega) hs⟩
  · have : psh X.2.1 0 = 0 := rfl
    omega
  · rcases dSs_fs (dB.congr 8) h with w | ⟨x, h1, h2, h3, h4, h5⟩
    · exact Or.inl w
    · exact Or.inr ⟨x, h1, h3, h4⟩
end WFX
