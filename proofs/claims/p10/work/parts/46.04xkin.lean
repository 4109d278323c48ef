theorem pt_M2 (row : Nat → Int32) (M : rf_M) : (pt_M row M).2 = M.2 := rfl
theorem sx_same_refl (M : rf_M) (a k : Nat) : sx_same M M a k := ⟨rfl, rfl, rfl⟩
/-- at the beginning all is as the regions say -/
theorem xk_in (fz : Bool) (L : Nat) (xs : Nat → Int32) : sx_in (xk_W fz L xs) (HK fz L xs).1 := by
  refine ⟨?_, fun a k _ => sx_same_refl (HK fz L xs).1 a k⟩
  intro a k f h1 h2 h3
  have h1 : 22 ≤ a := h1
  have h2 : a < (HK fz L xs).2.2.1 := h2
  have h2' := h2
  rw [HK_n] at h2
  have eM2 : (HK fz L xs).1.2 = (K2 fz).1.2 := pt_M2 xs (K2 fz).1
  have eM : ∀ k, sx_same (K2 fz).1 (HK fz L xs).1 a k := fun k => ⟨by
    show va_up (K2 fz).1.1 1 xs a k = _
    unfold va_up
    rw [if_neg (by omega)], by rw [eM2], by rw [eM2]⟩
  refine sx_f_same (eM k) ?_
  have h := List.all_eq_true.mp (K2_cells fz) (a - 22) (List.mem_range.mpr (by omega))
  rw [show a - 22 + 22 = a by omega] at h
  have h3 : sx_fa xk_G (xk_rg a) k = some f := h3
  unfold xk_cell at h
  unfold sx_fa at h3
  split at h
  · rename_i ci fs e
    rw [e] at h3
    dsimp only at h3
    have hk : k < fs.length := (List.getElem?_eq_some_iff.mp h3).1
    have hq := List.all_eq_true.mp h k (List.mem_range.mpr hk)
    rw [h3] at hq
    exact xk_sloto hq
  · rename_i ty len e e0
    rw [e0] at h3
    dsimp only at h3
    split at h3
    · rename_i hk
      have e1 : e = f := Option.some.inj h3
      subst e1
      clear h3
      rcases e with b | (_ | r)
      · have hsh : (K2 fz).2.1 a = .inr (ty, len) := by
          have hs := (xk_W fz L xs).2.2 a h1 h2'
          have hs : sx_sh xk_G (xk_rg a) ((HK fz L xs).2.1 a) := hs
          unfold sx_sh at hs
          rw [e0, HK_shp fz L xs h1] at hs
          exact hs
        obtain ⟨z1, -⟩ := zk_2 fz a (by rw [K2_n]; exact h2) (ty, len) (by omega) h1 hsh k
        unfold xk_arr at h
        simp only [Bool.and_eq_true, decide_eq_true_eq] at h
        show b.1 ≤ ((K2 fz).1.1 a k).toInt ∧ ((K2 fz).1.1 a k).toInt ≤ b.2
        rw [z1, Int32.toInt_zero]
        exact h
      · trivial
      · generalize (K2 fz).1 = m at h ⊢
        have hq : xk_slot m a k (.inr (some r)) = true := List.all_eq_true.mp h k (List.mem_range.mpr hk)
        exact xk_sloto hq
    · cases h3
  · rename_i e
    rw [e] at h3
    cases h3
