def xk_cell (M : rf_M) (a : Nat) : Bool := match xk_G[xk_rg a]? with
  | some (.inl (_, fs)) => (List.range fs.length).all (fun k => match fs[k]? with
    | some f => xk_slot M a k f
    | none => true)
  | some (.inr (_, len, e)) => xk_arr M a len e
  | none => true
theorem K2_cells (fz : Bool) : (List.range 384).all (fun k => xk_cell (K2 fz).1 (k + 22)) = true := by cases fz <;> decide +kernel
theorem xk_sloto {fz : Bool} {L : Nat} {xs : Nat → Int32} {M : rf_M} {a k : Nat} {f : sxF} (h : xk_slot M a k f = true) : sx_f (xk_W fz L xs) M a k f := by
  rcases f with b | (_ | r)
  · unfold xk_slot at h
    simp only [Bool.and_eq_true, decide_eq_true_eq] at h
    exact h
  · trivial
  · unfold xk_slot at h
    unfold sx_f
    dsimp only at h ⊢
    cases hR : M.2.2 a k with
    | none => rw [hR] at h; exact h
    | some b =>
      rw [hR] at h
      simp only [Bool.and_eq_true, decide_eq_true_eq] at h
      exact ⟨h.1.1, by show b < (HK fz L xs).2.2.1; rw [HK_n]; exact h.1.2, h.2⟩
