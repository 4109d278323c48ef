/-! the contracts hold, by the kernel (printed) -/
def xk_U (fz : Bool) : sxU := ⟨(cx0 fz, xk_G, fun _ => 0, (fun _ => .inl 0, 0, 0), (fun _ _ => 0, fun _ _ => 0, fun _ _ => none)), (show 0 < 22 from Nat.le_of_ble_eq_true rfl), fun a h1 h2 => absurd h2 (Nat.not_lt_zero _)⟩
theorem xk_T30 : ∀ q ∈ xk_T.1, q.1 ≠ 30 := by decide +kernel
theorem xk_c2 (fz : Bool) (k : sxC) (hk : k.1 ≠ 30) : sx_ckc xk_T (xk_U fz) 400 k = sx_ckc xk_T (xk_U true) 400 k := by
  unfold xk_U
  exact sx_ckc_c3 (T := xk_T) (C := cx0 fz) (C' := cx0 true) (G := xk_G) (rg := fun _ => 0) (S := (fun _ => .inl 0, 0, 0)) (m := (fun _ _ => 0, fun _ _ => 0, fun _ _ => none)) (xk_U fz).2.1 (xk_U fz).2.2 (xk_U true).2.1 (xk_U true).2.2 (cx0_c3 fz) xk_T30 (cx0_c4 fz) 400 k hk
