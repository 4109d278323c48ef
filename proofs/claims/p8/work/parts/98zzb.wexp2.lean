/-! the reference's exp() -/
section WX2
variable {M M' M0 : rf_M} {T : tK} {r c0 i u : Nat} {π : List Int} {cs : List Bool} {o : cdT} {K : rf_M → Prop} {ir : Bool}
theorem xfl.mv {P : Nat → Nat → Prop} (h : xfl r c0 M0 M) (y : eqy P M M') (q : ∀ a k, P a k → exW r c0 a k ∧ ¬ (a = 353 ∧ k = 9) ∧ ¬ (a = 359 ∧ k = r)) : xfl r c0 M0 M' := by
  obtain ⟨a1, ⟨a2, a2'⟩, a3, c, a4, a5, a6⟩ := h
  have n28 : ¬ P 353 28 := fun z => by have := (q _ _ z).1; unfold exW at this; omega
  have n9 : ¬ P 353 9 := fun z => (q _ _ z).2.1 ⟨rfl, rfl⟩
  have nr : ¬ P 359 r := fun z => (q _ _ z).2.2 ⟨rfl, rfl⟩
  exact ⟨a1.trans (y.mono (fun a k z => (q a k z).1)), ⟨(y.i n28).trans a2, a2'⟩, by rw [y.i n9]; exact a3, c, a4, a5, (y.i nr).trans a6⟩
theorem xfl.act {c : Nat} (h : xfl r c0 M0 M) (hc : c0 ≤ c) (y : eqy (acW r c) M M') (hlt : c < 2400) (q : gi M' 359 r = ((c + 1 : Nat) : Int)) : xfl r c0 M0 M' := by
  obtain ⟨a1, ⟨a2, a2'⟩, a3, _⟩ := h
  exact ⟨a1.trans (y.mono (fun a k z => by unfold acW at z; unfold exW; omega)), ⟨(y.i (by unfold acW; omega)).trans a2, a2'⟩, by rw [y.i (by unfold acW; omega)]; exact a3, c + 1, by omega, by omega, q⟩
theorem y_act_f {v1 v2 : Int} {v3 : Int64} (h : xfl r c0 M0 M) (i1 : inr v1) (i2 : inr v2) (kk : ∀ M', xfl r c0 M0 M' → K M') : em_W_act v1 v2 v3 M K := by
  obtain ⟨a1, ⟨a2, a2'⟩, a3, c, a4, a5, a6⟩ := id h
  exact y_act a2 a2' a6 a5 i1 i2 (fun M' y hlt q _ _ _ => kk M' (h.act a4 y hlt q))
theorem y_reduce_f {l : Int} (h : xfl r c0 M0 M) (kk : ∀ M', xfl r c0 M0 M' → K M') : em_W_reduce l M K := by
  refine ⟨fun _ M' => xfl r c0 M0 M', h, ?_⟩
  rintro v1 M' - h1
  have i3 := inr_gi M' 353 30
  refine ⟨fun _ => kk M' h1, fun q => ?_⟩
  have i30 : inr (gi M' 353 30 - 1) := ⟨by omega, by have := i3.2; omega⟩
  refine ⟨i30, fun _ => ⟨fun _ => kk M' h1, fun _ => ⟨i30, fun _ => ⟨fun _ => kk M' h1, fun _ => ⟨i30, fun _ => y_strength ⟨fun _ => kk M' h1, fun _ M2 e2 _ => ?_⟩⟩⟩⟩⟩⟩
  exact y_act_f (h1.mv (P := fun a k => a = 353 ∧ k = 30) (by rw [e2]; exact (eqy.rfl' _).wi ⟨rfl, rfl⟩) (fun a k z => ⟨by unfold exW; omega, by omega, by omega⟩)) (inr_gi _ _ _) ir_1 (fun M3 h3 => h3)
/-- what exp() comes to -/
def xpq (T : tK) (r c0 : Nat) (M0 : rf_M) (ir : Bool) (i0 u0 : Nat) (M' : rf_M) : Prop := xfl r c0 M0 M' ∨ (eqy (exW r c0) M0 M' ∧ (gi M' 353 28 = (r : Int) ∧ r < 12) ∧ gi M' 353 9 = 0 ∧ ∃ (i u : Nat) (π : List Int) (cs : List Bool) (o : cdT) (cd : cdT), xre (κT T) (νT T) ir (i0, u0, true, [], [false], []) (i, u, false, π, cs, o) ∧ xst (κT T) (νT T) ir i u false π cs o = .inr (i, u, true, cd) ∧ mtv M' T i ∧ gi M' 356 r = (u : Int) ∧ u ≤ 60 ∧ (gi M' 359 r = ((c0 + cd.length + 1 : Nat) : Int) ∧ c0 + cd.length + 1 ≤ 2400) ∧ rcq M' (200 * r + c0) (cd ++ [(4, 0)]))
/-- a sign that binds -/
theorem xm_sign {x : Int} {M1 : rf_M} (h : xm T r c0 M0 M i u π cs o) (hb : isb x = true) (hh : π.head? ≠ some 1000) (y : eqy (fun a k => (a = 353 ∧ k = 30) ∨ (a = 371 ∧ k = π.length)) M M1) (p1 : gi M1 353 30 = (π.length : Int) + 1) (p4 : gi M1 371 π.length = x) : xm T r c0 M0 M1 i u (x :: π) cs o := by
  obtain ⟨⟨a1, ⟨a2, a2'⟩, a3, a4⟩, ⟨b1, b2, ⟨b3, b3'⟩, b4⟩, ⟨c1, c2, c3, ⟨c4, c4'⟩, c5, c6, c7⟩⟩ := h
  have hf := fil_b (r := π) hb
  exact ⟨⟨a1.eq y (fun a k z => by omega), ⟨(y.i (by omega)).trans a2, a2'⟩, a3.trans (y.mono (fun a k z => by unfold exW; omega)), (y.i (by omega)).trans a4⟩, ⟨(y.i (by omega)).trans b1, b2, ⟨(y.i (by omega)).trans b3, b3'⟩, b4.eq y (fun b k z _ _ => by omega)⟩, ⟨by rw [p1]; simp, ⟨p4, c2.eq (fun k hk => y.i (by omega))⟩, ⟨Or.inr (Or.inr hb), fun _ => hh, c3⟩, ⟨by rw [hf.1, y.i (by omega)]; exact c4, by rw [hf.1]; exact c4'⟩, by rw [hf.2.1, y.i (by omega)]; exact c5, c6.eq (fun k _ => y.i (by omega)), by rw [hf.2.1]; exact c7⟩⟩
/-- the innermost flag is set -/
theorem xm_flag {x b : Bool} {M1 : rf_M} {cs' : List Bool} (h : xm T r c0 M0 M i u π (x :: cs') o) (y : eqy (fun a k => a = 372 ∧ k = lv π) M M1) (p : gi M1 372 (lv π) = (if b then 1 else 0)) : xm T r c0 M0 M1 i u π (b :: cs') o := by
  obtain ⟨⟨a1, ⟨a2, a2'⟩, a3, a4⟩, ⟨b1, b2, ⟨b3, b3'⟩, b4⟩, ⟨c1, c2, c3, ⟨c4, c4'⟩, c5, c6, c7⟩⟩ := h
  have hl : cs'.length = lv π := by simpa using c7
  exact ⟨⟨a1.eq y (fun a k z => by omega), ⟨(y.i (by omega)).trans a2, a2'⟩, a3.trans (y.mono (fun a k z => by unfold exW; omega)), (y.i (by omega)).trans a4⟩, ⟨(y.i (by omega)).trans b1, b2, ⟨(y.i (by omega)).trans b3, b3'⟩, b4.eq y (fun b k z _ _ => by omega)⟩, ⟨(y.i (by omega)).trans c1, c2.eq (fun k _ => y.i (by omega)), c3, ⟨(y.i (by omega)).trans c4, c4'⟩, (y.i (by omega)).trans c5, ⟨by rw [hl]; exact p, c6.2.eq (fun k hk => y.i (by omega))⟩, by simpa using c7⟩⟩
/-- the end of an exp -/
theorem y_end_f {v2 : Int} {K : Int → rf_M → Prop} (h : xfl r c0 M0 M) (kk : ∀ M', xfl r c0 M0 M' → K v2 M') : e_W_exp_278 v2 M K := by
  have e289 : ∀ N, xfl r c0 M0 N → e_W_exp_289 v2 N K := fun N hN => y_reduce_f hN (fun M1 h1 => y_act_f h1 (inr_z (by omega) (by omega)) ir_1 (fun M2 h2 => kk M2 h2))
  exact ⟨fun _ => e289 M h, fun _ => y_mis (fun M' y q => e289 M' ⟨h.1.trans (y.mono (fun a k z => by unfold exW; omega)), ⟨(y.i (by omega)).trans h.2.1.1, h.2.1.2⟩, q, by
    obtain ⟨c, z1, z2, z3⟩ := h.2.2.2
    exact ⟨c, z1, z2, (y.i (by omega)).trans z3⟩⟩)⟩
theorem y_end {v2 : Int} {i0 u0 : Nat} {K : Int → rf_M → Prop} (h : xm T r c0 M0 M i u π cs o) (hr : xre (κT T) (νT T) ir (i0, u0, true, [], [false], []) (i, u, false, π, cs, o)) (hs : xst (κT T) (νT T) ir i u false π cs o = .inr (i, u, decide (lv π = 0), o ++ pops 1 π)) (kk : ∀ M', xpq T r c0 M0 ir i0 u0 M' → K v2 M') : e_W_exp_278 v2 M K := by
  have c5 := h.2.2.2.2.2.2.1
  refine ⟨fun q => ?_, fun q => y_mis (fun M' y q => ?_)⟩
  · have hl : lv π = 0 := by omega
    refine y_reduce (by omega) h (fun M1 h1 => ?_)
    obtain ⟨⟨a1, ⟨a2, a2'⟩, a3, a4⟩, ⟨b1, b2, ⟨b3, b3'⟩, b4⟩, _⟩ := id h1
    refine y_act a2 a2' b3 b3' (inr_z (by omega) (by omega)) ir_1 (fun M2 x2 hc z1 z2 z3 z4 => kk M2 (Or.inr ⟨a3.trans (x2.mono (fun a k z => by unfold acW at z; unfold exW; omega)), ⟨(x2.i (by unfold acW; omega)).trans a2, a2'⟩, (x2.i (by unfold acW; omega)).trans a4, i, u, π, cs, o, o ++ pops 1 π, hr, by rw [hs, hl]; rfl, a1.eq x2 (fun a k z => by unfold acW; omega), (x2.i (by unfold acW; omega)).trans b1, b2, ⟨z1, by omega⟩, ?_⟩))
    refine rcq.snoc (b4.eq x2 (fun b k z w1 w2 => by unfold acW; omega)) ?_
    rw [Nat.add_assoc]
    exact ⟨z2, fun e => absurd e (by decide), fun e => absurd e (by decide)⟩
  · have hx := h.bad y q
    exact y_reduce_f hx (fun M1 h1 => y_act_f h1 (inr_z (by omega) (by omega)) ir_1 (fun M2 h2 => kk M2 (Or.inl h2)))
end WX2
