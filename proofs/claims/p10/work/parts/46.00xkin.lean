/-! THE WORLD behind the constructors, and what holds in it at the beginning -/
theorem K2_n (fz : Bool) : (K2 fz).2.2.1 = 406 := by
  have h := K2_ok fz
  rw [K2_eq fz] at h
  simp only [Option.map_some, Option.some.injEq, Prod.mk.injEq] at h
  exact h.2.1
theorem HK_n (fz : Bool) (L : Nat) (xs : Nat → Int32) : (HK fz L xs).2.2.1 = 406 := (pt_n xs (.inr (.int, L)) (K2 fz)).trans (K2_n fz)
theorem K2_shp (fz : Bool) {a : Nat} (h1 : 22 ≤ a) (h2 : a < 406) : (K2 fz).2.1 a = shK.getD (a - 22) shD := by
  have h := List.all_eq_true.mp (K2_sh fz) (a - 22) (List.mem_range.mpr (by omega))
  simp only [decide_eq_true_eq] at h
  rw [show a - 22 + 22 = a by omega] at h
  exact h
theorem HK_shp (fz : Bool) (L : Nat) (xs : Nat → Int32) {a : Nat} (h1 : 22 ≤ a) : (HK fz L xs).2.1 a = (K2 fz).2.1 a := by
  show va_up (K2 fz).2.1 1 _ a = _
  unfold va_up
  rw [if_neg (by omega)]
def xk_shb (G : List sxR) (g : Nat) (s : rf_S) : Bool := match G[g]? with
  | some (.inl (ci, _)) => decide (s = .inl ci)
  | some (.inr (ty, len, _)) => decide (s = .inr (ty, len))
  | none => true
