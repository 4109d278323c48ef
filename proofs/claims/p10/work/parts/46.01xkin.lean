theorem xk_shbo {G : List sxR} {g : Nat} {s : rf_S} (h : xk_shb G g s = true) : sx_sh G g s := by
  unfold xk_shb at h
  unfold sx_sh
  split at h
  · rename_i e; rw [e]; simpa using h
  · rename_i e; rw [e]; simpa using h
  · rename_i e; rw [e]; trivial
theorem xk_shk : (List.range 384).all (fun k => xk_shb xk_G (xk_rg (k + 22)) (shK.getD k shD)) = true := by decide +kernel
/-- the world of a claim -/
def xk_W (fz : Bool) (L : Nat) (xs : Nat → Int32) : sxU := ⟨(cx0 fz, xk_G, xk_rg, (HK fz L xs).2, (HK fz L xs).1), (show 0 < 22 from Nat.le_of_ble_eq_true rfl), fun a h1 h2 => by
  have h1 : 22 ≤ a := h1
  have h2 : a < (HK fz L xs).2.2.1 := h2
  rw [HK_n] at h2
  show sx_sh xk_G (xk_rg a) ((HK fz L xs).2.1 a)
  rw [HK_shp fz L xs h1, K2_shp fz h1 h2]
  have h := List.all_eq_true.mp xk_shk (a - 22) (List.mem_range.mpr (by omega))
  rw [show a - 22 + 22 = a by omega] at h
  exact xk_shbo h⟩
