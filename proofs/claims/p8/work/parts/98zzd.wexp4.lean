/-! the reference's exp() writes what the grammar says -/
theorem xpq_d {T : tK} {r c0 i0 u0 j du : Nat} {M0 M' : rf_M} {ir : Bool} {cd : cdT} (h : xpq T r c0 M0 ir i0 u0 M') (hd : dE (κT T) (dU (κT T) (νT T) ir 8) i0 j cd du) (hu : u0 + du ≤ 60) (hj : κT T j = 59 ∨ κT T j = 41) : xfl r c0 M0 M' ∨ (eqy (exW r c0) M0 M' ∧ (gi M' 353 28 = (r : Int) ∧ r < 12) ∧ gi M' 353 9 = 0 ∧ mtv M' T j ∧ gi M' 356 r = ((u0 + du : Nat) : Int) ∧ (gi M' 359 r = ((c0 + cd.length + 1 : Nat) : Int) ∧ c0 + cd.length + 1 ≤ 2400) ∧ rcq M' (200 * r + c0) (cd ++ [(4, 0)])) := by
  rcases h with h | ⟨a1, a2, a3, i, u, π, cs, o, cd', ⟨k1, b1⟩, b2, b3, b4, b5, b6, b7⟩
  · exact Or.inl h
  obtain ⟨σ, ⟨k2, d1⟩, d2⟩ := x_whole (u0 := u0) hd hu hj
  obtain ⟨k, e1⟩ := xru_det b1 d1 d2
  cases k with
  | zero =>
    have e2 : σ = (i, u, false, π, cs, o) := e1
    subst e2
    have e3 : (Sum.inr (i, u, true, cd') : xS ⊕ (Nat × Nat × Bool × cdT)) = .inr (j, u0 + du, true, cd) := b2.symm.trans d2
    injection e3 with e4
    injection e4 with e5 e6
    injection e6 with e7 e8
    injection e8 with e9 e10
    subst e5; subst e7; subst e10
    exact Or.inr ⟨a1, a2, a3, b3, b4, b6, b7⟩
  | succ k =>
    obtain ⟨τ, e2, _⟩ := e1
    have e3 := b2.symm.trans e2
    cases e3
